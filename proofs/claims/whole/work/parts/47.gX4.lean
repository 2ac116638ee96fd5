noncomputable def g_X4_kindOf_J40 (σ : st_S) : Option (Int × st_S) :=
  some ((5 : Int), σ)
set_option maxRecDepth 20000 in
theorem s_X4_kindOf_J40 : ∀ (σ : st_S) (q : Int × st_S), g_X4_kindOf_J40 σ = some q → f_X4_kindOf_J40 (mk_ σ) = some ((q.1, mk_ q.2)) := by
  intro σ q hk
  unfold g_X4_kindOf_J40 at hk
  unfold f_X4_kindOf_J40
  obtain rfl := Option.some.inj hk
  rfl
noncomputable def g_X4_kindOf (a0 : Int) (σ : st_S) : Option (Int × st_S) :=
  if a0 = (32 : Int) then
    some ((6 : Int), σ)
  else
  if a0 = (10 : Int) then
    some ((6 : Int), σ)
  else
  (g_X8_isLetter a0 σ).bind fun q1 =>
  if q1.1 = (0 : Int) then
    if a0 < (48 : Int) then
      g_X4_kindOf_J40 q1.2
    else
    if (57 : Int) < a0 then
      g_X4_kindOf_J40 q1.2
    else
    some ((4 : Int), q1.2)
  else
  some ((2 : Int), q1.2)
set_option maxRecDepth 20000 in
theorem s_X4_kindOf {a0 : Int} {σ : st_S} {q : Int × st_S} (hk : g_X4_kindOf a0 σ = some q) : f_X4_kindOf a0 (mk_ σ) = some ((q.1, mk_ q.2)) := by
  unfold g_X4_kindOf at hk
  unfold f_X4_kindOf
  by_cases hc : a0 = (32 : Int)
  · have hk := ab_ifp hk hc
    refine mb_ifp hc ?_
    obtain rfl := Option.some.inj hk
    rfl
  · have hk := ab_ifn hk hc
    refine mb_ifn hc ?_
    by_cases hc : a0 = (10 : Int)
    · have hk := ab_ifp hk hc
      refine mb_ifp hc ?_
      obtain rfl := Option.some.inj hk
      rfl
    · have hk := ab_ifn hk hc
      refine mb_ifn hc ?_
      obtain ⟨q1, hq1, hk⟩ := ab_bnd hk
      refine mb_eq (s_X8_isLetter hq1) ?_
      by_cases hc : q1.1 = (0 : Int)
      · have hk := ab_ifp hk hc
        refine mb_ifp hc ?_
        by_cases hc : a0 < (48 : Int)
        · have hk := ab_ifp hk hc
          refine mb_ifp hc ?_
          exact s_X4_kindOf_J40  _ _ hk
        · have hk := ab_ifn hk hc
          refine mb_ifn hc ?_
          by_cases hc : (57 : Int) < a0
          · have hk := ab_ifp hk hc
            refine mb_ifp hc ?_
            exact s_X4_kindOf_J40  _ _ hk
          · have hk := ab_ifn hk hc
            refine mb_ifn hc ?_
            obtain rfl := Option.some.inj hk
            rfl
      · have hk := ab_ifn hk hc
        refine mb_ifn hc ?_
        obtain rfl := Option.some.inj hk
        rfl
noncomputable def g_X4_open (a1 : Int) (a2 : Int) (σ : st_S) : Option st_S :=
  if σ 8 4 ≤ (1200 : Int) then
    (sa_st σ 10 1201 (σ 8 4) a1).bind fun σ1 =>
    (sa_st σ1 11 1201 (σ1 8 4) a2).bind fun σ2 =>
    (sa_st σ2 12 1201 (σ2 8 4) (0 : Int)).bind fun σ3 =>
    (some (up2 σ3 8 4 (ab_w32 ((σ3 8 4) + (1 : Int))))).bind fun σ4 =>
    some σ4
  else
  some σ
set_option maxRecDepth 20000 in
theorem s_X4_open {a1 : Int} {a2 : Int} {σ : st_S} {q : st_S} (hk : g_X4_open a1 a2 σ = some q) : f_X4_open ((8 : Nat) : Int) a1 a2 (mk_ σ) = some (mk_ q) := by
  unfold g_X4_open at hk
  unfold f_X4_open
  refine mb_get rfl rfl ?_
  by_cases hc : σ 8 4 ≤ (1200 : Int)
  · have hk := ab_ifp hk hc
    refine mb_ifp hc ?_
    refine mb_getR 10 rfl rfl (by decide) ?_
    refine mb_get rfl rfl ?_
    obtain ⟨σ1, hσ1, hk⟩ := ab_bnd hk
    refine mb_ast ⟨rfl, rfl, fun _ => rfl⟩ hσ1 ?_
    refine mb_getR 11 rfl rfl (by decide) ?_
    refine mb_get rfl rfl ?_
    obtain ⟨σ2, hσ2, hk⟩ := ab_bnd hk
    refine mb_ast ⟨rfl, rfl, fun _ => rfl⟩ hσ2 ?_
    refine mb_getR 12 rfl rfl (by decide) ?_
    refine mb_get rfl rfl ?_
    obtain ⟨σ3, hσ3, hk⟩ := ab_bnd hk
    refine mb_ast ⟨rfl, rfl, fun _ => rfl⟩ hσ3 ?_
    refine mb_get rfl rfl ?_
    obtain ⟨σ4, hσ4, hk⟩ := ab_bnd hk
    refine mb_put rfl rfl hσ4 ?_
    obtain rfl := Option.some.inj hk
    rfl
  · have hk := ab_ifn hk hc
    refine mb_ifn hc ?_
    obtain rfl := Option.some.inj hk
    rfl
noncomputable def g_X4_extend (a1 : Int) (a2 : Int) (a3 : Int) (σ : st_S) : Option st_S :=
  if (0 : Int) ≤ a3 then
    if a1 = (5 : Int) then
      (sa_st σ 12 1201 a3 a2).bind fun σ4 =>
      some σ4
    else
    if a1 = (4 : Int) then
      (sa_ld σ 12 1201 a3).bind fun t4 =>
      (sa_st σ 12 1201 a3 (ab_mn (ab_w64 ((ab_w64 ((ab_w64 (t4 * (10 : Int))) + a2)) - (48 : Int))) (1000 : Int))).bind fun σ3 =>
      some σ3
    else
    (sa_ld σ 12 1201 a3).bind fun t1 =>
    if ab_cmp t1 (1073741824 : Int) < (0 : Int) then
      (sa_ld σ 12 1201 a3).bind fun t2 =>
      (g_X8_grown t2 a2 σ).bind fun q3 =>
      (sa_st q3.2 12 1201 a3 q3.1).bind fun σ1 =>
      some σ1
    else
    (sa_st σ 10 1201 a3 (3 : Int)).bind fun σ2 =>
    some σ2
  else
  some σ
set_option maxRecDepth 20000 in
theorem s_X4_extend {a1 : Int} {a2 : Int} {a3 : Int} {σ : st_S} {q : st_S} (hk : g_X4_extend a1 a2 a3 σ = some q) : f_X4_extend ((8 : Nat) : Int) a1 a2 a3 (mk_ σ) = some (mk_ q) := by
  unfold g_X4_extend at hk
  unfold f_X4_extend
  by_cases hc : (0 : Int) ≤ a3
  · have hk := ab_ifp hk hc
    refine mb_ifp hc ?_
    by_cases hc : a1 = (5 : Int)
    · have hk := ab_ifp hk hc
      refine mb_ifp hc ?_
      refine mb_getR 12 rfl rfl (by decide) ?_
      obtain ⟨σ4, hσ4, hk⟩ := ab_bnd hk
      refine mb_ast ⟨rfl, rfl, fun _ => rfl⟩ hσ4 ?_
      obtain rfl := Option.some.inj hk
      rfl
    · have hk := ab_ifn hk hc
      refine mb_ifn hc ?_
      by_cases hc : a1 = (4 : Int)
      · have hk := ab_ifp hk hc
        refine mb_ifp hc ?_
        refine mb_getR 12 rfl rfl (by decide) ?_
        refine mb_getR 12 rfl rfl (by decide) ?_
        obtain ⟨t4, ht4, hk⟩ := ab_bnd hk
        refine mb_ald ⟨rfl, rfl, fun _ => rfl⟩ ht4 ?_
        obtain ⟨σ3, hσ3, hk⟩ := ab_bnd hk
        refine mb_ast ⟨rfl, rfl, fun _ => rfl⟩ hσ3 ?_
        obtain rfl := Option.some.inj hk
        rfl
      · have hk := ab_ifn hk hc
        refine mb_ifn hc ?_
        refine mb_getR 12 rfl rfl (by decide) ?_
        obtain ⟨t1, ht1, hk⟩ := ab_bnd hk
        refine mb_ald ⟨rfl, rfl, fun _ => rfl⟩ ht1 ?_
        by_cases hc : ab_cmp t1 (1073741824 : Int) < (0 : Int)
        · have hk := ab_ifp hk hc
          refine mb_ifp hc ?_
          refine mb_getR 12 rfl rfl (by decide) ?_
          refine mb_getR 12 rfl rfl (by decide) ?_
          obtain ⟨t2, ht2, hk⟩ := ab_bnd hk
          refine mb_ald ⟨rfl, rfl, fun _ => rfl⟩ ht2 ?_
          obtain ⟨q3, hq3, hk⟩ := ab_bnd hk
          refine mb_eq (s_X8_grown hq3) ?_
          obtain ⟨σ1, hσ1, hk⟩ := ab_bnd hk
          refine mb_ast ⟨rfl, rfl, fun _ => rfl⟩ hσ1 ?_
          obtain rfl := Option.some.inj hk
          rfl
        · have hk := ab_ifn hk hc
          refine mb_ifn hc ?_
          refine mb_getR 10 rfl rfl (by decide) ?_
          obtain ⟨σ2, hσ2, hk⟩ := ab_bnd hk
          refine mb_ast ⟨rfl, rfl, fun _ => rfl⟩ hσ2 ?_
          obtain rfl := Option.some.inj hk
          rfl
  · have hk := ab_ifn hk hc
    refine mb_ifn hc ?_
    obtain rfl := Option.some.inj hk
    rfl
noncomputable def g_X4_scan_J92 (rec : Nat → Int → Int → st_S → Option st_S) (k101 : Nat → st_S → Option st_S) (v1 : Nat) (v3 : Int) (v5 : Int) (σ : st_S) : Option st_S :=
  rec v1 v5 (ab_w32 (v3 + (1 : Int))) σ
set_option maxRecDepth 20000 in
theorem s_X4_scan_J92 {rec : Nat → Int → Int → st_S → Option st_S} {recf : Int → Int → Int → Int → ab_H → Option ab_H} {k101 : Nat → st_S → Option st_S} {kf101 : Int → Int → ab_H → Option ab_H} (hrec : ∀ (v1 : Nat) (v2 : Int) (v3 : Int) (pv1 : isBy v1 = true) (σ : st_S) (q : st_S), rec v1 v2 v3 σ = some q → recf ((8 : Nat) : Int) ((v1 : Nat) : Int) v2 v3 (mk_ σ) = some (mk_ q)) (hk101 : ∀ (v1 : Nat) (pv1 : isBy v1 = true) (σ : st_S) (q : st_S), k101 v1 σ = some q → kf101 ((8 : Nat) : Int) ((v1 : Nat) : Int) (mk_ σ) = some (mk_ q)) : ∀ (v1 : Nat) (v3 : Int) (v5 : Int) (pv1 : isBy v1 = true) (σ : st_S) (q : st_S), g_X4_scan_J92 rec k101 v1 v3 v5 σ = some q → f_X4_scan_J92 recf kf101 ((8 : Nat) : Int) ((v1 : Nat) : Int) v3 v5 (mk_ σ) = some (mk_ q) := by
  intro v1 v3 v5 pv1 σ q hk
  unfold g_X4_scan_J92 at hk
  unfold f_X4_scan_J92
  exact hrec _ _ _ pv1 _ _ hk
noncomputable def g_X4_scan_J71 (rec : Nat → Int → Int → st_S → Option st_S) (k101 : Nat → st_S → Option st_S) (v1 : Nat) (v3 : Int) (v4 : Int) (v5 : Int) (σ : st_S) : Option st_S :=
  if v5 = (6 : Int) then
    g_X4_scan_J92 rec k101 v1 v3 v5 σ
  else
  (g_X4_extend v5 v4 (ab_w32 ((σ 8 4) - (1 : Int))) σ).bind fun q1 =>
  g_X4_scan_J92 rec k101 v1 v3 v5 q1
set_option maxRecDepth 20000 in
theorem s_X4_scan_J71 {rec : Nat → Int → Int → st_S → Option st_S} {recf : Int → Int → Int → Int → ab_H → Option ab_H} {k101 : Nat → st_S → Option st_S} {kf101 : Int → Int → ab_H → Option ab_H} (hrec : ∀ (v1 : Nat) (v2 : Int) (v3 : Int) (pv1 : isBy v1 = true) (σ : st_S) (q : st_S), rec v1 v2 v3 σ = some q → recf ((8 : Nat) : Int) ((v1 : Nat) : Int) v2 v3 (mk_ σ) = some (mk_ q)) (hk101 : ∀ (v1 : Nat) (pv1 : isBy v1 = true) (σ : st_S) (q : st_S), k101 v1 σ = some q → kf101 ((8 : Nat) : Int) ((v1 : Nat) : Int) (mk_ σ) = some (mk_ q)) : ∀ (v1 : Nat) (v3 : Int) (v4 : Int) (v5 : Int) (pv1 : isBy v1 = true) (σ : st_S) (q : st_S), g_X4_scan_J71 rec k101 v1 v3 v4 v5 σ = some q → f_X4_scan_J71 recf kf101 ((8 : Nat) : Int) ((v1 : Nat) : Int) v3 v4 v5 (mk_ σ) = some (mk_ q) := by
  intro v1 v3 v4 v5 pv1 σ q hk
  unfold g_X4_scan_J71 at hk
  unfold f_X4_scan_J71
  by_cases hc : v5 = (6 : Int)
  · have hk := ab_ifp hk hc
    refine mb_ifp hc ?_
    exact s_X4_scan_J92 hrec hk101 _ _ _ pv1 _ _ hk
  · have hk := ab_ifn hk hc
    refine mb_ifn hc ?_
    refine mb_get rfl rfl ?_
    obtain ⟨q1, hq1, hk⟩ := ab_bnd hk
    refine mb_on rfl (s_X4_extend hq1) ?_
    exact s_X4_scan_J92 hrec hk101 _ _ _ pv1 _ _ hk
noncomputable def g_X4_scan_J50 (rec : Nat → Int → Int → st_S → Option st_S) (k101 : Nat → st_S → Option st_S) (v1 : Nat) (v3 : Int) (v4 : Int) (v5 : Int) (s0 : Int) (σ : st_S) : Option st_S :=
  if v5 = (6 : Int) then
    g_X4_scan_J71 rec k101 v1 v3 v4 v5 σ
  else
  if s0 = (0 : Int) then
    (g_X4_open v5 v3 σ).bind fun q1 =>
    g_X4_scan_J71 rec k101 v1 v3 v4 v5 q1
  else
  g_X4_scan_J71 rec k101 v1 v3 v4 v5 σ
set_option maxRecDepth 20000 in
theorem s_X4_scan_J50 {rec : Nat → Int → Int → st_S → Option st_S} {recf : Int → Int → Int → Int → ab_H → Option ab_H} {k101 : Nat → st_S → Option st_S} {kf101 : Int → Int → ab_H → Option ab_H} (hrec : ∀ (v1 : Nat) (v2 : Int) (v3 : Int) (pv1 : isBy v1 = true) (σ : st_S) (q : st_S), rec v1 v2 v3 σ = some q → recf ((8 : Nat) : Int) ((v1 : Nat) : Int) v2 v3 (mk_ σ) = some (mk_ q)) (hk101 : ∀ (v1 : Nat) (pv1 : isBy v1 = true) (σ : st_S) (q : st_S), k101 v1 σ = some q → kf101 ((8 : Nat) : Int) ((v1 : Nat) : Int) (mk_ σ) = some (mk_ q)) : ∀ (v1 : Nat) (v3 : Int) (v4 : Int) (v5 : Int) (s0 : Int) (pv1 : isBy v1 = true) (σ : st_S) (q : st_S), g_X4_scan_J50 rec k101 v1 v3 v4 v5 s0 σ = some q → f_X4_scan_J50 recf kf101 ((8 : Nat) : Int) ((v1 : Nat) : Int) v3 v4 v5 s0 (mk_ σ) = some (mk_ q) := by
  intro v1 v3 v4 v5 s0 pv1 σ q hk
  unfold g_X4_scan_J50 at hk
  unfold f_X4_scan_J50
  by_cases hc : v5 = (6 : Int)
  · have hk := ab_ifp hk hc
    refine mb_ifp hc ?_
    exact s_X4_scan_J71 hrec hk101 _ _ _ _ pv1 _ _ hk
  · have hk := ab_ifn hk hc
    refine mb_ifn hc ?_
    by_cases hc : s0 = (0 : Int)
    · have hk := ab_ifp hk hc
      refine mb_ifp hc ?_
      obtain ⟨q1, hq1, hk⟩ := ab_bnd hk
      refine mb_on rfl (s_X4_open hq1) ?_
      exact s_X4_scan_J71 hrec hk101 _ _ _ _ pv1 _ _ hk
    · have hk := ab_ifn hk hc
      refine mb_ifn hc ?_
      exact s_X4_scan_J71 hrec hk101 _ _ _ _ pv1 _ _ hk
noncomputable def g_X4_scan_J49 (rec : Nat → Int → Int → st_S → Option st_S) (k101 : Nat → st_S → Option st_S) (v1 : Nat) (v3 : Int) (v4 : Int) (v5 : Int) (σ : st_S) : Option st_S :=
  g_X4_scan_J50 rec k101 v1 v3 v4 v5 (0 : Int) σ
set_option maxRecDepth 20000 in
theorem s_X4_scan_J49 {rec : Nat → Int → Int → st_S → Option st_S} {recf : Int → Int → Int → Int → ab_H → Option ab_H} {k101 : Nat → st_S → Option st_S} {kf101 : Int → Int → ab_H → Option ab_H} (hrec : ∀ (v1 : Nat) (v2 : Int) (v3 : Int) (pv1 : isBy v1 = true) (σ : st_S) (q : st_S), rec v1 v2 v3 σ = some q → recf ((8 : Nat) : Int) ((v1 : Nat) : Int) v2 v3 (mk_ σ) = some (mk_ q)) (hk101 : ∀ (v1 : Nat) (pv1 : isBy v1 = true) (σ : st_S) (q : st_S), k101 v1 σ = some q → kf101 ((8 : Nat) : Int) ((v1 : Nat) : Int) (mk_ σ) = some (mk_ q)) : ∀ (v1 : Nat) (v3 : Int) (v4 : Int) (v5 : Int) (pv1 : isBy v1 = true) (σ : st_S) (q : st_S), g_X4_scan_J49 rec k101 v1 v3 v4 v5 σ = some q → f_X4_scan_J49 recf kf101 ((8 : Nat) : Int) ((v1 : Nat) : Int) v3 v4 v5 (mk_ σ) = some (mk_ q) := by
  intro v1 v3 v4 v5 pv1 σ q hk
  unfold g_X4_scan_J49 at hk
  unfold f_X4_scan_J49
  exact s_X4_scan_J50 hrec hk101 _ _ _ _ _ pv1 _ _ hk
noncomputable def g_X4_scan_L10 (k101 : Nat → st_S → Option st_S) : Nat → Nat → Int → Int → st_S → Option st_S
  | 0, _, _, _, _ => none
  | n + 1, v1, v2, v3, σ =>
    if σ v1 1 ≤ v3 then
      k101 v1 σ
    else
    (sa_ld σ (v1 + 1) (by_n v1) v3).bind fun t1 =>
    (g_X4_kindOf t1 σ).bind fun q2 =>
    if q2.1 = v2 then
      if q2.1 = (5 : Int) then
        g_X4_scan_J49 (g_X4_scan_L10 k101 n) k101 v1 v3 t1 q2.1 q2.2
      else
      g_X4_scan_J50 (g_X4_scan_L10 k101 n) k101 v1 v3 t1 q2.1 (1 : Int) q2.2
    else
    g_X4_scan_J49 (g_X4_scan_L10 k101 n) k101 v1 v3 t1 q2.1 q2.2
set_option maxRecDepth 20000 in
theorem s_X4_scan_L10 {k101 : Nat → st_S → Option st_S} {kf101 : Int → Int → ab_H → Option ab_H} (hk101 : ∀ (v1 : Nat) (pv1 : isBy v1 = true) (σ : st_S) (q : st_S), k101 v1 σ = some q → kf101 ((8 : Nat) : Int) ((v1 : Nat) : Int) (mk_ σ) = some (mk_ q)) : ∀ (n : Nat) (v1 : Nat) (v2 : Int) (v3 : Int) (pv1 : isBy v1 = true) (σ : st_S) (q : st_S), g_X4_scan_L10 k101 n v1 v2 v3 σ = some q → f_X4_scan_L10 kf101 n ((8 : Nat) : Int) ((v1 : Nat) : Int) v2 v3 (mk_ σ) = some (mk_ q) := by
  intro n
  induction n with
  | zero => intro v1 v2 v3 pv1 σ q hk; cases hk
  | succ n ih =>
    intro v1 v2 v3 pv1 σ q hk
    unfold g_X4_scan_L10 at hk
    unfold f_X4_scan_L10
    refine mb_get (by_ly pv1).1 ((by_ly pv1).2.1 _) ?_
    by_cases hc : σ v1 1 ≤ v3
    · have hk := ab_ifp hk hc
      refine mb_ifp hc ?_
      exact hk101 _ pv1 _ _ hk
    · have hk := ab_ifn hk hc
      refine mb_ifn hc ?_
      refine mb_getR (v1 + 1) (by_ly pv1).1 ((by_ly pv1).2.1 _) (by omega) ?_
      obtain ⟨t1, ht1, hk⟩ := ab_bnd hk
      refine mb_ald (by_ly pv1).2.2 ht1 ?_
      obtain ⟨q2, hq2, hk⟩ := ab_bnd hk
      refine mb_eq (s_X4_kindOf hq2) ?_
      by_cases hc : q2.1 = v2
      · have hk := ab_ifp hk hc
        refine mb_ifp hc ?_
        by_cases hc : q2.1 = (5 : Int)
        · have hk := ab_ifp hk hc
          refine mb_ifp hc ?_
          exact s_X4_scan_J49 ih hk101 _ _ _ _ pv1 _ _ hk
        · have hk := ab_ifn hk hc
          refine mb_ifn hc ?_
          exact s_X4_scan_J50 ih hk101 _ _ _ _ _ pv1 _ _ hk
      · have hk := ab_ifn hk hc
        refine mb_ifn hc ?_
        exact s_X4_scan_J49 ih hk101 _ _ _ _ pv1 _ _ hk
noncomputable def g_X4_scan (a1 : Nat) (σ : st_S) : Option st_S :=
  (some (up2 σ 8 4 (0 : Int))).bind fun σ1 =>
  g_X4_scan_L10 (fun w101_1 σx101 =>
    (g_X4_open (0 : Int) (σx101 w101_1 1) σx101).bind fun q1 =>
    some q1) ab_FU a1 (6 : Int) (0 : Int) σ1
set_option maxRecDepth 20000 in
theorem s_X4_scan {a1 : Nat} (pa1 : isBy a1 = true) {σ : st_S} {q : st_S} (hk : g_X4_scan a1 σ = some q) : f_X4_scan ((8 : Nat) : Int) ((a1 : Nat) : Int) (mk_ σ) = some (mk_ q) := by
  unfold g_X4_scan at hk
  unfold f_X4_scan
  obtain ⟨σ1, hσ1, hk⟩ := ab_bnd hk
  refine mb_put rfl rfl hσ1 ?_
  refine s_X4_scan_L10 (fun w101_1 pw101_1 σx101 q hk => ?_) _ _ _ _ pa1 _ _ hk
  · skip
    refine mb_get (by_ly pw101_1).1 ((by_ly pw101_1).2.1 _) ?_
    obtain ⟨q1, hq1, hk⟩ := ab_bnd hk
    refine mb_on rfl (s_X4_open hq1) ?_
    obtain rfl := Option.some.inj hk
    rfl
noncomputable def g_X4_settle_L17 (k42 : Int → Int → st_S → Option st_S) : Nat → Int → Int → st_S → Option st_S
  | 0, _, _, _ => none
  | n + 1, v1, v2, σ =>
    if (15 : Int) ≤ v2 then
      some σ
    else
    (sa_ld σ 9 15 v2).bind fun t1 =>
    (sa_ld σ 12 1201 v1).bind fun t2 =>
    if ab_cmp t1 t2 = (0 : Int) then
      k42 v1 v2 σ
    else
    g_X4_settle_L17 k42 n v1 (ab_w32 (v2 + (1 : Int))) σ
set_option maxRecDepth 20000 in
theorem s_X4_settle_L17 {k42 : Int → Int → st_S → Option st_S} {kf42 : Int → Int → Int → ab_H → Option ab_H} (hk42 : ∀ (v1 : Int) (v2 : Int) (σ : st_S) (q : st_S), k42 v1 v2 σ = some q → kf42 ((8 : Nat) : Int) v1 v2 (mk_ σ) = some (mk_ q)) : ∀ (n : Nat) (v1 : Int) (v2 : Int) (σ : st_S) (q : st_S), g_X4_settle_L17 k42 n v1 v2 σ = some q → f_X4_settle_L17 kf42 n ((8 : Nat) : Int) v1 v2 (mk_ σ) = some (mk_ q) := by
  intro n
  induction n with
  | zero => intro v1 v2 σ q hk; cases hk
  | succ n ih =>
    intro v1 v2 σ q hk
    unfold g_X4_settle_L17 at hk
    unfold f_X4_settle_L17
    by_cases hc : (15 : Int) ≤ v2
    · have hk := ab_ifp hk hc
      refine mb_ifp hc ?_
      obtain rfl := Option.some.inj hk
      rfl
    · have hk := ab_ifn hk hc
      refine mb_ifn hc ?_
      refine mb_getR 9 rfl rfl (by decide) ?_
      obtain ⟨t1, ht1, hk⟩ := ab_bnd hk
      refine mb_ald ⟨rfl, rfl, fun _ => rfl⟩ ht1 ?_
      refine mb_getR 12 rfl rfl (by decide) ?_
      obtain ⟨t2, ht2, hk⟩ := ab_bnd hk
      refine mb_ald ⟨rfl, rfl, fun _ => rfl⟩ ht2 ?_
      by_cases hc : ab_cmp t1 t2 = (0 : Int)
      · have hk := ab_ifp hk hc
        refine mb_ifp hc ?_
        exact hk42 _ _  _ _ hk
      · have hk := ab_ifn hk hc
        refine mb_ifn hc ?_
        exact ih _ _  _ _ hk
noncomputable def g_X4_settle (a1 : Int) (σ : st_S) : Option st_S :=
  (sa_ld σ 12 1201 a1).bind fun t1 =>
  (g_X8_aligned t1 σ).bind fun q2 =>
  (sa_st q2.2 12 1201 a1 q2.1).bind fun σ1 =>
  g_X4_settle_L17 (fun w42_1 w42_2 σx42 =>
    (sa_st σx42 10 1201 w42_1 (1 : Int)).bind fun σ2 =>
    (sa_st σ2 12 1201 w42_1 w42_2).bind fun σ3 =>
    some σ3) ab_FU a1 (0 : Int) σ1
set_option maxRecDepth 20000 in
theorem s_X4_settle {a1 : Int} {σ : st_S} {q : st_S} (hk : g_X4_settle a1 σ = some q) : f_X4_settle ((8 : Nat) : Int) a1 (mk_ σ) = some (mk_ q) := by
  unfold g_X4_settle at hk
  unfold f_X4_settle
  refine mb_getR 12 rfl rfl (by decide) ?_
  refine mb_getR 12 rfl rfl (by decide) ?_
  obtain ⟨t1, ht1, hk⟩ := ab_bnd hk
  refine mb_ald ⟨rfl, rfl, fun _ => rfl⟩ ht1 ?_
  obtain ⟨q2, hq2, hk⟩ := ab_bnd hk
  refine mb_eq (s_X8_aligned hq2) ?_
  obtain ⟨σ1, hσ1, hk⟩ := ab_bnd hk
  refine mb_ast ⟨rfl, rfl, fun _ => rfl⟩ hσ1 ?_
  refine s_X4_settle_L17 (fun w42_1 w42_2 σx42 q hk => ?_) _ _ _  _ _ hk
  · skip
    refine mb_getR 10 rfl rfl (by decide) ?_
    obtain ⟨σ2, hσ2, hk⟩ := ab_bnd hk
    refine mb_ast ⟨rfl, rfl, fun _ => rfl⟩ hσ2 ?_
    refine mb_getR 12 rfl rfl (by decide) ?_
    obtain ⟨σ3, hσ3, hk⟩ := ab_bnd hk
    refine mb_ast ⟨rfl, rfl, fun _ => rfl⟩ hσ3 ?_
    obtain rfl := Option.some.inj hk
    rfl
noncomputable def g_X4_begin_J50 (rec : Int → st_S → Option st_S) (v2 : Int) (σ : st_S) : Option st_S :=
  rec (ab_w32 (v2 + (1 : Int))) σ
set_option maxRecDepth 20000 in
theorem s_X4_begin_J50 {rec : Int → st_S → Option st_S} {recf : Int → Int → ab_H → Option ab_H} (hrec : ∀ (v2 : Int) (σ : st_S) (q : st_S), rec v2 σ = some q → recf ((8 : Nat) : Int) v2 (mk_ σ) = some (mk_ q)) : ∀ (v2 : Int) (σ : st_S) (q : st_S), g_X4_begin_J50 rec v2 σ = some q → f_X4_begin_J50 recf ((8 : Nat) : Int) v2 (mk_ σ) = some (mk_ q) := by
  intro v2 σ q hk
  unfold g_X4_begin_J50 at hk
  unfold f_X4_begin_J50
  exact hrec _  _ _ hk
noncomputable def g_X4_begin_L27 : Nat → Int → st_S → Option st_S
  | 0, _, _ => none
  | n + 1, v2, σ =>
    if σ 8 4 ≤ v2 then
      some σ
    else
    (sa_ld σ 10 1201 v2).bind fun t1 =>
    if t1 = (2 : Int) then
      (g_X4_settle v2 σ).bind fun q2 =>
      g_X4_begin_J50 (g_X4_begin_L27 n) v2 q2
    else
    g_X4_begin_J50 (g_X4_begin_L27 n) v2 σ
set_option maxRecDepth 20000 in
theorem s_X4_begin_L27 : ∀ (n : Nat) (v2 : Int) (σ : st_S) (q : st_S), g_X4_begin_L27 n v2 σ = some q → f_X4_begin_L27 n ((8 : Nat) : Int) v2 (mk_ σ) = some (mk_ q) := by
  intro n
  induction n with
  | zero => intro v2 σ q hk; cases hk
  | succ n ih =>
    intro v2 σ q hk
    unfold g_X4_begin_L27 at hk
    unfold f_X4_begin_L27
    refine mb_get rfl rfl ?_
    by_cases hc : σ 8 4 ≤ v2
    · have hk := ab_ifp hk hc
      refine mb_ifp hc ?_
      obtain rfl := Option.some.inj hk
      rfl
    · have hk := ab_ifn hk hc
      refine mb_ifn hc ?_
      refine mb_getR 10 rfl rfl (by decide) ?_
      obtain ⟨t1, ht1, hk⟩ := ab_bnd hk
      refine mb_ald ⟨rfl, rfl, fun _ => rfl⟩ ht1 ?_
      by_cases hc : t1 = (2 : Int)
      · have hk := ab_ifp hk hc
        refine mb_ifp hc ?_
        obtain ⟨q2, hq2, hk⟩ := ab_bnd hk
        refine mb_on rfl (s_X4_settle hq2) ?_
        exact s_X4_begin_J50 ih _  _ _ hk
      · have hk := ab_ifn hk hc
        refine mb_ifn hc ?_
        exact s_X4_begin_J50 ih _  _ _ hk
noncomputable def g_X4_begin (a1 : Nat) (σ : st_S) : Option st_S :=
  (some (up2 σ 8 9 (0 : Int))).bind fun σ1 =>
  (some (up2 σ1 8 10 (-1 : Int))).bind fun σ2 =>
  (some (up2 σ2 8 6 (0 : Int))).bind fun σ3 =>
  (some (up2 σ3 8 5 (0 : Int))).bind fun σ4 =>
  (g_X4_scan a1 σ4).bind fun q1 =>
  g_X4_begin_L27 ab_FU (0 : Int) q1
set_option maxRecDepth 20000 in
theorem s_X4_begin {a1 : Nat} (pa1 : isBy a1 = true) {σ : st_S} {q : st_S} (hk : g_X4_begin a1 σ = some q) : f_X4_begin ((8 : Nat) : Int) ((a1 : Nat) : Int) (mk_ σ) = some (mk_ q) := by
  unfold g_X4_begin at hk
  unfold f_X4_begin
  obtain ⟨σ1, hσ1, hk⟩ := ab_bnd hk
  refine mb_put rfl rfl hσ1 ?_
  obtain ⟨σ2, hσ2, hk⟩ := ab_bnd hk
  refine mb_put rfl rfl hσ2 ?_
  obtain ⟨σ3, hσ3, hk⟩ := ab_bnd hk
  refine mb_put rfl rfl hσ3 ?_
  obtain ⟨σ4, hσ4, hk⟩ := ab_bnd hk
  refine mb_put rfl rfl hσ4 ?_
  obtain ⟨q1, hq1, hk⟩ := ab_bnd hk
  refine mb_on rfl (s_X4_scan pa1 hq1) ?_
  refine s_X4_begin_L27 _ _  _ _ hk
noncomputable def g_X4_isKey_J32 (σ : st_S) : Option (Int × st_S) :=
  some ((0 : Int), σ)
set_option maxRecDepth 20000 in
theorem s_X4_isKey_J32 : ∀ (σ : st_S) (q : Int × st_S), g_X4_isKey_J32 σ = some q → f_X4_isKey_J32 (mk_ σ) = some ((q.1, mk_ q.2)) := by
  intro σ q hk
  unfold g_X4_isKey_J32 at hk
  unfold f_X4_isKey_J32
  obtain rfl := Option.some.inj hk
  rfl
noncomputable def g_X4_isKey (a1 : Int) (σ : st_S) : Option (Int × st_S) :=
  (sa_ld σ 10 1201 (σ 8 5)).bind fun t1 =>
  if t1 = (1 : Int) then
    (sa_ld σ 12 1201 (σ 8 5)).bind fun t2 =>
    if ab_cmp t2 a1 = (0 : Int) then
      some ((1 : Int), σ)
    else
    g_X4_isKey_J32 σ
  else
  g_X4_isKey_J32 σ
set_option maxRecDepth 20000 in
theorem s_X4_isKey {a1 : Int} {σ : st_S} {q : Int × st_S} (hk : g_X4_isKey a1 σ = some q) : f_X4_isKey ((8 : Nat) : Int) a1 (mk_ σ) = some ((q.1, mk_ q.2)) := by
  unfold g_X4_isKey at hk
  unfold f_X4_isKey
  refine mb_getR 10 rfl rfl (by decide) ?_
  refine mb_get rfl rfl ?_
  obtain ⟨t1, ht1, hk⟩ := ab_bnd hk
  refine mb_ald ⟨rfl, rfl, fun _ => rfl⟩ ht1 ?_
  by_cases hc : t1 = (1 : Int)
  · have hk := ab_ifp hk hc
    refine mb_ifp hc ?_
    refine mb_getR 12 rfl rfl (by decide) ?_
    refine mb_get rfl rfl ?_
    obtain ⟨t2, ht2, hk⟩ := ab_bnd hk
    refine mb_ald ⟨rfl, rfl, fun _ => rfl⟩ ht2 ?_
    by_cases hc : ab_cmp t2 a1 = (0 : Int)
    · have hk := ab_ifp hk hc
      refine mb_ifp hc ?_
      obtain rfl := Option.some.inj hk
      rfl
    · have hk := ab_ifn hk hc
      refine mb_ifn hc ?_
      exact s_X4_isKey_J32  _ _ hk
  · have hk := ab_ifn hk hc
    refine mb_ifn hc ?_
    exact s_X4_isKey_J32  _ _ hk
noncomputable def g_X4_step (σ : st_S) : Option st_S :=
  if σ 8 4 ≤ ab_w32 ((σ 8 5) + (1 : Int)) then
    some σ
  else
  (some (up2 σ 8 5 (ab_w32 ((σ 8 5) + (1 : Int))))).bind fun σ1 =>
  some σ1
set_option maxRecDepth 20000 in
theorem s_X4_step {σ : st_S} {q : st_S} (hk : g_X4_step σ = some q) : f_X4_step ((8 : Nat) : Int) (mk_ σ) = some (mk_ q) := by
  unfold g_X4_step at hk
  unfold f_X4_step
  refine mb_get rfl rfl ?_
  refine mb_get rfl rfl ?_
  by_cases hc : σ 8 4 ≤ ab_w32 ((σ 8 5) + (1 : Int))
  · have hk := ab_ifp hk hc
    refine mb_ifp hc ?_
    obtain rfl := Option.some.inj hk
    rfl
  · have hk := ab_ifn hk hc
    refine mb_ifn hc ?_
    refine mb_get rfl rfl ?_
    obtain ⟨σ1, hσ1, hk⟩ := ab_bnd hk
    refine mb_put rfl rfl hσ1 ?_
    obtain rfl := Option.some.inj hk
    rfl
noncomputable def g_X4_choice_J41 (σ : st_S) : Option (Int × st_S) :=
  some ((-1 : Int), σ)
set_option maxRecDepth 20000 in
theorem s_X4_choice_J41 : ∀ (σ : st_S) (q : Int × st_S), g_X4_choice_J41 σ = some q → f_X4_choice_J41 (mk_ σ) = some ((q.1, mk_ q.2)) := by
  intro σ q hk
  unfold g_X4_choice_J41 at hk
  unfold f_X4_choice_J41
  obtain rfl := Option.some.inj hk
  rfl
noncomputable def g_X4_choice (a1 : Int) (a2 : Int) (σ : st_S) : Option (Int × st_S) :=
  (sa_ld σ 10 1201 (σ 8 5)).bind fun t1 =>
  if t1 = (1 : Int) then
    (sa_ld σ 12 1201 (σ 8 5)).bind fun t2 =>
    if ab_w32 ((ab_w32 t2) - a1) < (0 : Int) then
      g_X4_choice_J41 σ
    else
    if a2 ≤ ab_w32 ((ab_w32 t2) - a1) then
      g_X4_choice_J41 σ
    else
    some (ab_w32 ((ab_w32 t2) - a1), σ)
  else
  some ((-1 : Int), σ)
set_option maxRecDepth 20000 in
theorem s_X4_choice {a1 : Int} {a2 : Int} {σ : st_S} {q : Int × st_S} (hk : g_X4_choice a1 a2 σ = some q) : f_X4_choice ((8 : Nat) : Int) a1 a2 (mk_ σ) = some ((q.1, mk_ q.2)) := by
  unfold g_X4_choice at hk
  unfold f_X4_choice
  refine mb_getR 10 rfl rfl (by decide) ?_
  refine mb_get rfl rfl ?_
  obtain ⟨t1, ht1, hk⟩ := ab_bnd hk
  refine mb_ald ⟨rfl, rfl, fun _ => rfl⟩ ht1 ?_
  by_cases hc : t1 = (1 : Int)
  · have hk := ab_ifp hk hc
    refine mb_ifp hc ?_
    refine mb_getR 12 rfl rfl (by decide) ?_
    refine mb_get rfl rfl ?_
    obtain ⟨t2, ht2, hk⟩ := ab_bnd hk
    refine mb_ald ⟨rfl, rfl, fun _ => rfl⟩ ht2 ?_
    by_cases hc : ab_w32 ((ab_w32 t2) - a1) < (0 : Int)
    · have hk := ab_ifp hk hc
      refine mb_ifp hc ?_
      exact s_X4_choice_J41  _ _ hk
    · have hk := ab_ifn hk hc
      refine mb_ifn hc ?_
      by_cases hc : a2 ≤ ab_w32 ((ab_w32 t2) - a1)
      · have hk := ab_ifp hk hc
        refine mb_ifp hc ?_
        exact s_X4_choice_J41  _ _ hk
      · have hk := ab_ifn hk hc
        refine mb_ifn hc ?_
        obtain rfl := Option.some.inj hk
        rfl
  · have hk := ab_ifn hk hc
    refine mb_ifn hc ?_
    obtain rfl := Option.some.inj hk
    rfl
noncomputable def g_X4_fail (a1 : Int) (σ : st_S) : Option (Int × st_S) :=
  (some (up2 σ 8 9 a1)).bind fun σ1 =>
  (sa_ld σ1 11 1201 (σ1 8 5)).bind fun t1 =>
  (some (up2 σ1 8 10 t1)).bind fun σ2 =>
  some ((0 : Int), σ2)
set_option maxRecDepth 20000 in
theorem s_X4_fail {a1 : Int} {σ : st_S} {q : Int × st_S} (hk : g_X4_fail a1 σ = some q) : f_X4_fail ((8 : Nat) : Int) a1 (mk_ σ) = some ((q.1, mk_ q.2)) := by
  unfold g_X4_fail at hk
  unfold f_X4_fail
  obtain ⟨σ1, hσ1, hk⟩ := ab_bnd hk
  refine mb_put rfl rfl hσ1 ?_
  refine mb_getR 11 rfl rfl (by decide) ?_
  refine mb_get rfl rfl ?_
  obtain ⟨t1, ht1, hk⟩ := ab_bnd hk
  refine mb_ald ⟨rfl, rfl, fun _ => rfl⟩ ht1 ?_
  obtain ⟨σ2, hσ2, hk⟩ := ab_bnd hk
  refine mb_put rfl rfl hσ2 ?_
  obtain rfl := Option.some.inj hk
  rfl
noncomputable def g_X4_readLaw (a1 : Nat) (σ : st_S) : Option (Int × st_S) :=
  (g_X4_step σ).bind fun q1 =>
  (g_X4_choice (3 : Int) (6 : Int) q1).bind fun q2 =>
  if q2.1 = (-1 : Int) then
    (g_X4_fail (1 : Int) q2.2).bind fun q9 =>
    ab_if (decide (q9.1 = 0 ∨ q9.1 = 1)) <|
    some (q9.1, q9.2)
  else
  (g_X8_hasBit (q2.2 8 6) q2.1 q2.2).bind fun q3 =>
  if q3.1 = (0 : Int) then
    (some (up2 q3.2 8 6 (ab_or (q3.2 8 6) (ab_shl (1 : Int) q2.1)))).bind fun σ1 =>
    (g_X4_step σ1).bind fun q4 =>
    (g_X4_choice (9 : Int) (3 : Int) q4).bind fun q5 =>
    if q5.1 = (-1 : Int) then
      (g_X4_fail (1 : Int) q5.2).bind fun q7 =>
      ab_if (decide (q7.1 = 0 ∨ q7.1 = 1)) <|
      some (q7.1, q7.2)
    else
    (sa_st q5.2 (a1 + 8) 6 q2.1 q5.1).bind fun σ2 =>
    (g_X4_step σ2).bind fun q6 =>
    some ((1 : Int), q6)
  else
  (g_X4_fail (3 : Int) q3.2).bind fun q8 =>
  ab_if (decide (q8.1 = 0 ∨ q8.1 = 1)) <|
  some (q8.1, q8.2)
set_option maxRecDepth 20000 in
theorem s_X4_readLaw {a1 : Nat} (pa1 : isBk a1 = true) {σ : st_S} {q : Int × st_S} (hk : g_X4_readLaw a1 σ = some q) : f_X4_readLaw ((8 : Nat) : Int) ((a1 : Nat) : Int) (mk_ σ) = some ((q.1, mk_ q.2)) := by
  unfold g_X4_readLaw at hk
  unfold f_X4_readLaw
  obtain ⟨q1, hq1, hk⟩ := ab_bnd hk
  refine mb_on rfl (s_X4_step hq1) ?_
  obtain ⟨q2, hq2, hk⟩ := ab_bnd hk
  refine mb_on rfl (s_X4_choice hq2) ?_
  by_cases hc : q2.1 = (-1 : Int)
  · have hk := ab_ifp hk hc
    refine mb_ifp hc ?_
    obtain ⟨q9, hq9, hk⟩ := ab_bnd hk
    refine mb_on rfl (s_X4_fail hq9) ?_
    obtain ⟨hg, hk⟩ := ab_if_some hk
    refine mb_if hg ?_
    obtain rfl := Option.some.inj hk
    rfl
  · have hk := ab_ifn hk hc
    refine mb_ifn hc ?_
    refine mb_get rfl rfl ?_
    obtain ⟨q3, hq3, hk⟩ := ab_bnd hk
    refine mb_eq (s_X8_hasBit hq3) ?_
    by_cases hc : q3.1 = (0 : Int)
    · have hk := ab_ifp hk hc
      refine mb_ifp hc ?_
      refine mb_get rfl rfl ?_
      obtain ⟨σ1, hσ1, hk⟩ := ab_bnd hk
      refine mb_put rfl rfl hσ1 ?_
      obtain ⟨q4, hq4, hk⟩ := ab_bnd hk
      refine mb_on rfl (s_X4_step hq4) ?_
      obtain ⟨q5, hq5, hk⟩ := ab_bnd hk
      refine mb_on rfl (s_X4_choice hq5) ?_
      by_cases hc : q5.1 = (-1 : Int)
      · have hk := ab_ifp hk hc
        refine mb_ifp hc ?_
        obtain ⟨q7, hq7, hk⟩ := ab_bnd hk
        refine mb_on rfl (s_X4_fail hq7) ?_
        obtain ⟨hg, hk⟩ := ab_if_some hk
        refine mb_if hg ?_
        obtain rfl := Option.some.inj hk
        rfl
      · have hk := ab_ifn hk hc
        refine mb_ifn hc ?_
        refine mb_getR (a1 + 8) (bk_ly pa1).1 ((bk_ly pa1).2.1 _) (by omega) ?_
        obtain ⟨σ2, hσ2, hk⟩ := ab_bnd hk
        refine mb_ast (bk_ly pa1).2.2.2.2.2.2.2.2.2.1 hσ2 ?_
        obtain ⟨q6, hq6, hk⟩ := ab_bnd hk
        refine mb_on rfl (s_X4_step hq6) ?_
        obtain rfl := Option.some.inj hk
        rfl
    · have hk := ab_ifn hk hc
      refine mb_ifn hc ?_
      obtain ⟨q8, hq8, hk⟩ := ab_bnd hk
      refine mb_on rfl (s_X4_fail hq8) ?_
      obtain ⟨hg, hk⟩ := ab_if_some hk
      refine mb_if hg ?_
      obtain rfl := Option.some.inj hk
      rfl
noncomputable def g_X4_readSee (a1 : Nat) (σ : st_S) : Option (Int × st_S) :=
  if σ a1 9 < (12 : Int) then
    (g_X4_step σ).bind fun q1 =>
    (sa_ld q1 10 1201 (q1 8 5)).bind fun t2 =>
    if t2 = (2 : Int) then
      (sa_ld q1 12 1201 (q1 8 5)).bind fun t3 =>
      (g_X0_seeOf a1 t3 q1).bind fun q4 =>
      if q4.1 = (-1 : Int) then
        (g_X4_step q4.2).bind fun q5 =>
        (sa_ld q5 10 1201 (q5 8 5)).bind fun t6 =>
        if t6 = (2 : Int) then
          (sa_ld q5 12 1201 (q5 8 5)).bind fun t7 =>
          (g_X0_used a1 t7 q5).bind fun q8 =>
          if ab_cmp q8.1 t3 = (0 : Int) then
            (g_X4_fail (3 : Int) q8.2).bind fun q11 =>
            ab_if (decide (q11.1 = 0 ∨ q11.1 = 1)) <|
            some (q11.1, q11.2)
          else
          (g_X0_addSee a1 t3 t7 q8.2).bind fun q9 =>
          (g_X4_step q9).bind fun q10 =>
          some ((1 : Int), q10)
        else
        (g_X4_fail (1 : Int) q5).bind fun q12 =>
        ab_if (decide (q12.1 = 0 ∨ q12.1 = 1)) <|
        some (q12.1, q12.2)
      else
      (g_X4_fail (3 : Int) q4.2).bind fun q13 =>
      ab_if (decide (q13.1 = 0 ∨ q13.1 = 1)) <|
      some (q13.1, q13.2)
    else
    (g_X4_fail (1 : Int) q1).bind fun q14 =>
    ab_if (decide (q14.1 = 0 ∨ q14.1 = 1)) <|
    some (q14.1, q14.2)
  else
  (g_X4_fail (4 : Int) σ).bind fun q15 =>
  ab_if (decide (q15.1 = 0 ∨ q15.1 = 1)) <|
  some (q15.1, q15.2)
set_option maxRecDepth 20000 in
theorem s_X4_readSee {a1 : Nat} (pa1 : isBk a1 = true) {σ : st_S} {q : Int × st_S} (hk : g_X4_readSee a1 σ = some q) : f_X4_readSee ((8 : Nat) : Int) ((a1 : Nat) : Int) (mk_ σ) = some ((q.1, mk_ q.2)) := by
  unfold g_X4_readSee at hk
  unfold f_X4_readSee
  refine mb_get (bk_ly pa1).1 ((bk_ly pa1).2.1 _) ?_
  by_cases hc : σ a1 9 < (12 : Int)
  · have hk := ab_ifp hk hc
    refine mb_ifp hc ?_
    obtain ⟨q1, hq1, hk⟩ := ab_bnd hk
    refine mb_on rfl (s_X4_step hq1) ?_
    refine mb_getR 10 rfl rfl (by decide) ?_
    refine mb_get rfl rfl ?_
    obtain ⟨t2, ht2, hk⟩ := ab_bnd hk
    refine mb_ald ⟨rfl, rfl, fun _ => rfl⟩ ht2 ?_
    by_cases hc : t2 = (2 : Int)
    · have hk := ab_ifp hk hc
      refine mb_ifp hc ?_
      refine mb_getR 12 rfl rfl (by decide) ?_
      refine mb_get rfl rfl ?_
      obtain ⟨t3, ht3, hk⟩ := ab_bnd hk
      refine mb_ald ⟨rfl, rfl, fun _ => rfl⟩ ht3 ?_
      obtain ⟨q4, hq4, hk⟩ := ab_bnd hk
      refine mb_on (bk_ly pa1).1 (s_X0_seeOf pa1 hq4) ?_
      by_cases hc : q4.1 = (-1 : Int)
      · have hk := ab_ifp hk hc
        refine mb_ifp hc ?_
        obtain ⟨q5, hq5, hk⟩ := ab_bnd hk
        refine mb_on rfl (s_X4_step hq5) ?_
        refine mb_getR 10 rfl rfl (by decide) ?_
        refine mb_get rfl rfl ?_
        obtain ⟨t6, ht6, hk⟩ := ab_bnd hk
        refine mb_ald ⟨rfl, rfl, fun _ => rfl⟩ ht6 ?_
        by_cases hc : t6 = (2 : Int)
        · have hk := ab_ifp hk hc
          refine mb_ifp hc ?_
          refine mb_getR 12 rfl rfl (by decide) ?_
          refine mb_get rfl rfl ?_
          obtain ⟨t7, ht7, hk⟩ := ab_bnd hk
          refine mb_ald ⟨rfl, rfl, fun _ => rfl⟩ ht7 ?_
          obtain ⟨q8, hq8, hk⟩ := ab_bnd hk
          refine mb_on (bk_ly pa1).1 (s_X0_used pa1 hq8) ?_
          by_cases hc : ab_cmp q8.1 t3 = (0 : Int)
          · have hk := ab_ifp hk hc
            refine mb_ifp hc ?_
            obtain ⟨q11, hq11, hk⟩ := ab_bnd hk
            refine mb_on rfl (s_X4_fail hq11) ?_
            obtain ⟨hg, hk⟩ := ab_if_some hk
            refine mb_if hg ?_
            obtain rfl := Option.some.inj hk
            rfl
          · have hk := ab_ifn hk hc
            refine mb_ifn hc ?_
            obtain ⟨q9, hq9, hk⟩ := ab_bnd hk
            refine mb_on (bk_ly pa1).1 (s_X0_addSee pa1 hq9) ?_
            obtain ⟨q10, hq10, hk⟩ := ab_bnd hk
            refine mb_on rfl (s_X4_step hq10) ?_
            obtain rfl := Option.some.inj hk
            rfl
        · have hk := ab_ifn hk hc
          refine mb_ifn hc ?_
          obtain ⟨q12, hq12, hk⟩ := ab_bnd hk
          refine mb_on rfl (s_X4_fail hq12) ?_
          obtain ⟨hg, hk⟩ := ab_if_some hk
          refine mb_if hg ?_
          obtain rfl := Option.some.inj hk
          rfl
      · have hk := ab_ifn hk hc
        refine mb_ifn hc ?_
        obtain ⟨q13, hq13, hk⟩ := ab_bnd hk
        refine mb_on rfl (s_X4_fail hq13) ?_
        obtain ⟨hg, hk⟩ := ab_if_some hk
        refine mb_if hg ?_
        obtain rfl := Option.some.inj hk
        rfl
    · have hk := ab_ifn hk hc
      refine mb_ifn hc ?_
      obtain ⟨q14, hq14, hk⟩ := ab_bnd hk
      refine mb_on rfl (s_X4_fail hq14) ?_
      obtain ⟨hg, hk⟩ := ab_if_some hk
      refine mb_if hg ?_
      obtain rfl := Option.some.inj hk
      rfl
  · have hk := ab_ifn hk hc
    refine mb_ifn hc ?_
    obtain ⟨q15, hq15, hk⟩ := ab_bnd hk
    refine mb_on rfl (s_X4_fail hq15) ?_
    obtain ⟨hg, hk⟩ := ab_if_some hk
    refine mb_if hg ?_
    obtain rfl := Option.some.inj hk
    rfl
noncomputable def g_X4_isSign_J32 (σ : st_S) : Option (Int × st_S) :=
  some ((0 : Int), σ)
set_option maxRecDepth 20000 in
theorem s_X4_isSign_J32 : ∀ (σ : st_S) (q : Int × st_S), g_X4_isSign_J32 σ = some q → f_X4_isSign_J32 (mk_ σ) = some ((q.1, mk_ q.2)) := by
  intro σ q hk
  unfold g_X4_isSign_J32 at hk
  unfold f_X4_isSign_J32
  obtain rfl := Option.some.inj hk
  rfl
noncomputable def g_X4_isSign (a1 : Int) (σ : st_S) : Option (Int × st_S) :=
  (sa_ld σ 10 1201 (σ 8 5)).bind fun t1 =>
  if t1 = (5 : Int) then
    (sa_ld σ 12 1201 (σ 8 5)).bind fun t2 =>
    if ab_cmp t2 a1 = (0 : Int) then
      some ((1 : Int), σ)
    else
    g_X4_isSign_J32 σ
  else
  g_X4_isSign_J32 σ
set_option maxRecDepth 20000 in
theorem s_X4_isSign {a1 : Int} {σ : st_S} {q : Int × st_S} (hk : g_X4_isSign a1 σ = some q) : f_X4_isSign ((8 : Nat) : Int) a1 (mk_ σ) = some ((q.1, mk_ q.2)) := by
  unfold g_X4_isSign at hk
  unfold f_X4_isSign
  refine mb_getR 10 rfl rfl (by decide) ?_
  refine mb_get rfl rfl ?_
  obtain ⟨t1, ht1, hk⟩ := ab_bnd hk
  refine mb_ald ⟨rfl, rfl, fun _ => rfl⟩ ht1 ?_
  by_cases hc : t1 = (5 : Int)
  · have hk := ab_ifp hk hc
    refine mb_ifp hc ?_
    refine mb_getR 12 rfl rfl (by decide) ?_
    refine mb_get rfl rfl ?_
    obtain ⟨t2, ht2, hk⟩ := ab_bnd hk
    refine mb_ald ⟨rfl, rfl, fun _ => rfl⟩ ht2 ?_
    by_cases hc : ab_cmp t2 a1 = (0 : Int)
    · have hk := ab_ifp hk hc
      refine mb_ifp hc ?_
      obtain rfl := Option.some.inj hk
      rfl
    · have hk := ab_ifn hk hc
      refine mb_ifn hc ?_
      exact s_X4_isSign_J32  _ _ hk
  · have hk := ab_ifn hk hc
    refine mb_ifn hc ?_
    exact s_X4_isSign_J32  _ _ hk
noncomputable def g_X4_takeSign (a1 : Int) (σ : st_S) : Option (Int × st_S) :=
  (g_X4_isSign a1 σ).bind fun q1 =>
  if q1.1 = (0 : Int) then
    (g_X4_fail (1 : Int) q1.2).bind fun q3 =>
    ab_if (decide (q3.1 = 0 ∨ q3.1 = 1)) <|
    some (q3.1, q3.2)
  else
  (g_X4_step q1.2).bind fun q2 =>
  some ((1 : Int), q2)
set_option maxRecDepth 20000 in
theorem s_X4_takeSign {a1 : Int} {σ : st_S} {q : Int × st_S} (hk : g_X4_takeSign a1 σ = some q) : f_X4_takeSign ((8 : Nat) : Int) a1 (mk_ σ) = some ((q.1, mk_ q.2)) := by
  unfold g_X4_takeSign at hk
  unfold f_X4_takeSign
  obtain ⟨q1, hq1, hk⟩ := ab_bnd hk
  refine mb_on rfl (s_X4_isSign hq1) ?_
  by_cases hc : q1.1 = (0 : Int)
  · have hk := ab_ifp hk hc
    refine mb_ifp hc ?_
    obtain ⟨q3, hq3, hk⟩ := ab_bnd hk
    refine mb_on rfl (s_X4_fail hq3) ?_
    obtain ⟨hg, hk⟩ := ab_if_some hk
    refine mb_if hg ?_
    obtain rfl := Option.some.inj hk
    rfl
  · have hk := ab_ifn hk hc
    refine mb_ifn hc ?_
    obtain ⟨q2, hq2, hk⟩ := ab_bnd hk
    refine mb_on rfl (s_X4_step hq2) ?_
    obtain rfl := Option.some.inj hk
    rfl
noncomputable def g_X4_readJoin (a1 : Int) (σ : st_S) : Option (Int × st_S) :=
  (some (up2 σ 8 7 (0 : Int))).bind fun σ1 =>
  (g_X4_isKey a1 σ1).bind fun q1 =>
  if q1.1 = (0 : Int) then
    some ((1 : Int), q1.2)
  else
  (g_X4_step q1.2).bind fun q2 =>
  (sa_ld q2 10 1201 (q2 8 5)).bind fun t3 =>
  if t3 = (2 : Int) then
    (sa_ld q2 12 1201 (q2 8 5)).bind fun t4 =>
    (some (up2 q2 8 7 t4)).bind fun σ2 =>
    (g_X4_step σ2).bind fun q5 =>
    some ((1 : Int), q5)
  else
  (g_X4_fail (1 : Int) q2).bind fun q6 =>
  ab_if (decide (q6.1 = 0 ∨ q6.1 = 1)) <|
  some (q6.1, q6.2)
set_option maxRecDepth 20000 in
theorem s_X4_readJoin {a1 : Int} {σ : st_S} {q : Int × st_S} (hk : g_X4_readJoin a1 σ = some q) : f_X4_readJoin ((8 : Nat) : Int) a1 (mk_ σ) = some ((q.1, mk_ q.2)) := by
  unfold g_X4_readJoin at hk
  unfold f_X4_readJoin
  obtain ⟨σ1, hσ1, hk⟩ := ab_bnd hk
  refine mb_put rfl rfl hσ1 ?_
  obtain ⟨q1, hq1, hk⟩ := ab_bnd hk
  refine mb_on rfl (s_X4_isKey hq1) ?_
  by_cases hc : q1.1 = (0 : Int)
  · have hk := ab_ifp hk hc
    refine mb_ifp hc ?_
    obtain rfl := Option.some.inj hk
    rfl
  · have hk := ab_ifn hk hc
    refine mb_ifn hc ?_
    obtain ⟨q2, hq2, hk⟩ := ab_bnd hk
    refine mb_on rfl (s_X4_step hq2) ?_
    refine mb_getR 10 rfl rfl (by decide) ?_
    refine mb_get rfl rfl ?_
    obtain ⟨t3, ht3, hk⟩ := ab_bnd hk
    refine mb_ald ⟨rfl, rfl, fun _ => rfl⟩ ht3 ?_
    by_cases hc : t3 = (2 : Int)
    · have hk := ab_ifp hk hc
      refine mb_ifp hc ?_
      refine mb_getR 12 rfl rfl (by decide) ?_
      refine mb_get rfl rfl ?_
      obtain ⟨t4, ht4, hk⟩ := ab_bnd hk
      refine mb_ald ⟨rfl, rfl, fun _ => rfl⟩ ht4 ?_
      obtain ⟨σ2, hσ2, hk⟩ := ab_bnd hk
      refine mb_put rfl rfl hσ2 ?_
      obtain ⟨q5, hq5, hk⟩ := ab_bnd hk
      refine mb_on rfl (s_X4_step hq5) ?_
      obtain rfl := Option.some.inj hk
      rfl
    · have hk := ab_ifn hk hc
      refine mb_ifn hc ?_
      obtain ⟨q6, hq6, hk⟩ := ab_bnd hk
      refine mb_on rfl (s_X4_fail hq6) ?_
      obtain ⟨hg, hk⟩ := ab_if_some hk
      refine mb_if hg ?_
      obtain rfl := Option.some.inj hk
      rfl
noncomputable def g_X4_readTerm_J160 (v1 : Nat) (v6 : Int) (s2 : Int) (s1 : Int) (s0 : Nat) (σ : st_S) : Option (Int × st_S) :=
  (sa_st σ s0 72 s1 s2).bind fun σ1 =>
  (sa_ld σ1 12 1201 (σ1 8 5)).bind fun t1 =>
  (sa_st σ1 (v1 + 5) 72 v6 t1).bind fun σ2 =>
  (g_X4_step σ2).bind fun q2 =>
  (g_X4_readJoin (13 : Int) q2).bind fun q3 =>
  if q3.1 = (0 : Int) then
    some ((0 : Int), q3.2)
  else
  (sa_st q3.2 (v1 + 6) 72 v6 (q3.2 8 7)).bind fun σ3 =>
  (g_X4_readJoin (14 : Int) σ3).bind fun q4 =>
  if q4.1 = (0 : Int) then
    some ((0 : Int), q4.2)
  else
  (sa_st q4.2 (v1 + 7) 72 v6 (q4.2 8 7)).bind fun σ4 =>
  some ((1 : Int), σ4)
set_option maxRecDepth 20000 in
theorem s_X4_readTerm_J160 : ∀ (v1 : Nat) (v6 : Int) (s2 : Int) (s1 : Int) (s0 : Nat) (pv1 : isBk v1 = true) (ps0 : IsA 11 72 s0) (σ : st_S) (q : Int × st_S), g_X4_readTerm_J160 v1 v6 s2 s1 s0 σ = some q → f_X4_readTerm_J160 ((8 : Nat) : Int) ((v1 : Nat) : Int) v6 s2 s1 ((s0 : Nat) : Int) (mk_ σ) = some ((q.1, mk_ q.2)) := by
  intro v1 v6 s2 s1 s0 pv1 ps0 σ q hk
  unfold g_X4_readTerm_J160 at hk
  unfold f_X4_readTerm_J160
  obtain ⟨σ1, hσ1, hk⟩ := ab_bnd hk
  refine mb_ast ps0 hσ1 ?_
  refine mb_getR (v1 + 5) (bk_ly pv1).1 ((bk_ly pv1).2.1 _) (by omega) ?_
  refine mb_getR 12 rfl rfl (by decide) ?_
  refine mb_get rfl rfl ?_
  obtain ⟨t1, ht1, hk⟩ := ab_bnd hk
  refine mb_ald ⟨rfl, rfl, fun _ => rfl⟩ ht1 ?_
  obtain ⟨σ2, hσ2, hk⟩ := ab_bnd hk
  refine mb_ast (bk_ly pv1).2.2.2.2.2.2.1 hσ2 ?_
  obtain ⟨q2, hq2, hk⟩ := ab_bnd hk
  refine mb_on rfl (s_X4_step hq2) ?_
  obtain ⟨q3, hq3, hk⟩ := ab_bnd hk
  refine mb_on rfl (s_X4_readJoin hq3) ?_
  by_cases hc : q3.1 = (0 : Int)
  · have hk := ab_ifp hk hc
    refine mb_ifp hc ?_
    obtain rfl := Option.some.inj hk
    rfl
  · have hk := ab_ifn hk hc
    refine mb_ifn hc ?_
    refine mb_getR (v1 + 6) (bk_ly pv1).1 ((bk_ly pv1).2.1 _) (by omega) ?_
    refine mb_get rfl rfl ?_
    obtain ⟨σ3, hσ3, hk⟩ := ab_bnd hk
    refine mb_ast (bk_ly pv1).2.2.2.2.2.2.2.1 hσ3 ?_
    obtain ⟨q4, hq4, hk⟩ := ab_bnd hk
    refine mb_on rfl (s_X4_readJoin hq4) ?_
    by_cases hc : q4.1 = (0 : Int)
    · have hk := ab_ifp hk hc
      refine mb_ifp hc ?_
      obtain rfl := Option.some.inj hk
      rfl
    · have hk := ab_ifn hk hc
      refine mb_ifn hc ?_
      refine mb_getR (v1 + 7) (bk_ly pv1).1 ((bk_ly pv1).2.1 _) (by omega) ?_
      refine mb_get rfl rfl ?_
      obtain ⟨σ4, hσ4, hk⟩ := ab_bnd hk
      refine mb_ast (bk_ly pv1).2.2.2.2.2.2.2.2.1 hσ4 ?_
      obtain rfl := Option.some.inj hk
      rfl
noncomputable def g_X4_readTerm_J112 (v1 : Nat) (v4 : Int) (v5 : Int) (v6 : Int) (σ : st_S) : Option (Int × st_S) :=
  (g_X4_step σ).bind fun q1 =>
  (sa_ld q1 10 1201 (q1 8 5)).bind fun t2 =>
  if t2 = (2 : Int) then
    (sa_st q1 (v1 + 3) 72 v6 v5).bind fun σ1 =>
    if v4 = (0 : Int) then
      g_X4_readTerm_J160 v1 v6 (0 : Int) v6 (v1 + 4) σ1
    else
    g_X4_readTerm_J160 v1 v6 (1 : Int) v6 (v1 + 4) σ1
  else
  (g_X4_fail (1 : Int) q1).bind fun q3 =>
  ab_if (decide (q3.1 = 0 ∨ q3.1 = 1)) <|
  some (q3.1, q3.2)
set_option maxRecDepth 20000 in
theorem s_X4_readTerm_J112 : ∀ (v1 : Nat) (v4 : Int) (v5 : Int) (v6 : Int) (pv1 : isBk v1 = true) (σ : st_S) (q : Int × st_S), g_X4_readTerm_J112 v1 v4 v5 v6 σ = some q → f_X4_readTerm_J112 ((8 : Nat) : Int) ((v1 : Nat) : Int) v4 v5 v6 (mk_ σ) = some ((q.1, mk_ q.2)) := by
  intro v1 v4 v5 v6 pv1 σ q hk
  unfold g_X4_readTerm_J112 at hk
  unfold f_X4_readTerm_J112
  obtain ⟨q1, hq1, hk⟩ := ab_bnd hk
  refine mb_on rfl (s_X4_step hq1) ?_
  refine mb_getR 10 rfl rfl (by decide) ?_
  refine mb_get rfl rfl ?_
  obtain ⟨t2, ht2, hk⟩ := ab_bnd hk
  refine mb_ald ⟨rfl, rfl, fun _ => rfl⟩ ht2 ?_
  by_cases hc : t2 = (2 : Int)
  · have hk := ab_ifp hk hc
    refine mb_ifp hc ?_
    refine mb_getR (v1 + 3) (bk_ly pv1).1 ((bk_ly pv1).2.1 _) (by omega) ?_
    obtain ⟨σ1, hσ1, hk⟩ := ab_bnd hk
    refine mb_ast (bk_ly pv1).2.2.2.2.1 hσ1 ?_
    refine mb_getR (v1 + 4) (bk_ly pv1).1 ((bk_ly pv1).2.1 _) (by omega) ?_
    by_cases hc : v4 = (0 : Int)
    · have hk := ab_ifp hk hc
      refine mb_ifp hc ?_
      exact s_X4_readTerm_J160 _ _ _ _ _ pv1 (bk_ly pv1).2.2.2.2.2.1 _ _ hk
    · have hk := ab_ifn hk hc
      refine mb_ifn hc ?_
      exact s_X4_readTerm_J160 _ _ _ _ _ pv1 (bk_ly pv1).2.2.2.2.2.1 _ _ hk
  · have hk := ab_ifn hk hc
    refine mb_ifn hc ?_
    obtain ⟨q3, hq3, hk⟩ := ab_bnd hk
    refine mb_on rfl (s_X4_fail hq3) ?_
    obtain ⟨hg, hk⟩ := ab_if_some hk
    refine mb_if hg ?_
    obtain rfl := Option.some.inj hk
    rfl
noncomputable def g_X4_readTerm_J59 (v1 : Nat) (v2 : Int) (v3 : Int) (v4 : Int) (σ : st_S) : Option (Int × st_S) :=
  (g_X4_choice (3 : Int) (6 : Int) σ).bind fun q1 =>
  if q1.1 = (-1 : Int) then
    (g_X4_fail (1 : Int) q1.2).bind fun q4 =>
    ab_if (decide (q4.1 = 0 ∨ q4.1 = 1)) <|
    some (q4.1, q4.2)
  else
  if v3 ≤ (0 : Int) then
    g_X4_readTerm_J112 v1 v4 q1.1 (ab_w32 ((ab_w32 (v2 * (6 : Int))) + v3)) q1.2
  else
  (sa_ld q1.2 (v1 + 3) 72 (ab_w32 ((ab_w32 ((ab_w32 (v2 * (6 : Int))) + v3)) - (1 : Int)))).bind fun t2 =>
  if t2 ≤ q1.1 then
    g_X4_readTerm_J112 v1 v4 q1.1 (ab_w32 ((ab_w32 (v2 * (6 : Int))) + v3)) q1.2
  else
  (g_X4_fail (5 : Int) q1.2).bind fun q3 =>
  ab_if (decide (q3.1 = 0 ∨ q3.1 = 1)) <|
  some (q3.1, q3.2)
set_option maxRecDepth 20000 in
theorem s_X4_readTerm_J59 : ∀ (v1 : Nat) (v2 : Int) (v3 : Int) (v4 : Int) (pv1 : isBk v1 = true) (σ : st_S) (q : Int × st_S), g_X4_readTerm_J59 v1 v2 v3 v4 σ = some q → f_X4_readTerm_J59 ((8 : Nat) : Int) ((v1 : Nat) : Int) v2 v3 v4 (mk_ σ) = some ((q.1, mk_ q.2)) := by
  intro v1 v2 v3 v4 pv1 σ q hk
  unfold g_X4_readTerm_J59 at hk
  unfold f_X4_readTerm_J59
  obtain ⟨q1, hq1, hk⟩ := ab_bnd hk
  refine mb_on rfl (s_X4_choice hq1) ?_
  by_cases hc : q1.1 = (-1 : Int)
  · have hk := ab_ifp hk hc
    refine mb_ifp hc ?_
    obtain ⟨q4, hq4, hk⟩ := ab_bnd hk
    refine mb_on rfl (s_X4_fail hq4) ?_
    obtain ⟨hg, hk⟩ := ab_if_some hk
    refine mb_if hg ?_
    obtain rfl := Option.some.inj hk
    rfl
  · have hk := ab_ifn hk hc
    refine mb_ifn hc ?_
    by_cases hc : v3 ≤ (0 : Int)
    · have hk := ab_ifp hk hc
      refine mb_ifp hc ?_
      exact s_X4_readTerm_J112 _ _ _ _ pv1 _ _ hk
    · have hk := ab_ifn hk hc
      refine mb_ifn hc ?_
      refine mb_getR (v1 + 3) (bk_ly pv1).1 ((bk_ly pv1).2.1 _) (by omega) ?_
      obtain ⟨t2, ht2, hk⟩ := ab_bnd hk
      refine mb_ald (bk_ly pv1).2.2.2.2.1 ht2 ?_
      by_cases hc : t2 ≤ q1.1
      · have hk := ab_ifp hk hc
        refine mb_ifp hc ?_
        exact s_X4_readTerm_J112 _ _ _ _ pv1 _ _ hk
      · have hk := ab_ifn hk hc
        refine mb_ifn hc ?_
        obtain ⟨q3, hq3, hk⟩ := ab_bnd hk
        refine mb_on rfl (s_X4_fail hq3) ?_
        obtain ⟨hg, hk⟩ := ab_if_some hk
        refine mb_if hg ?_
        obtain rfl := Option.some.inj hk
        rfl
noncomputable def g_X4_readTerm_J38 (v1 : Nat) (v2 : Int) (v3 : Int) (v4 : Int) (σ : st_S) : Option (Int × st_S) :=
  if v3 < (6 : Int) then
    if v4 = (0 : Int) then
      (g_X4_step σ).bind fun q1 =>
      g_X4_readTerm_J59 v1 v2 v3 v4 q1
    else
    g_X4_readTerm_J59 v1 v2 v3 v4 σ
  else
  (g_X4_fail (4 : Int) σ).bind fun q2 =>
  ab_if (decide (q2.1 = 0 ∨ q2.1 = 1)) <|
  some (q2.1, q2.2)
set_option maxRecDepth 20000 in
theorem s_X4_readTerm_J38 : ∀ (v1 : Nat) (v2 : Int) (v3 : Int) (v4 : Int) (pv1 : isBk v1 = true) (σ : st_S) (q : Int × st_S), g_X4_readTerm_J38 v1 v2 v3 v4 σ = some q → f_X4_readTerm_J38 ((8 : Nat) : Int) ((v1 : Nat) : Int) v2 v3 v4 (mk_ σ) = some ((q.1, mk_ q.2)) := by
  intro v1 v2 v3 v4 pv1 σ q hk
  unfold g_X4_readTerm_J38 at hk
  unfold f_X4_readTerm_J38
  by_cases hc : v3 < (6 : Int)
  · have hk := ab_ifp hk hc
    refine mb_ifp hc ?_
    by_cases hc : v4 = (0 : Int)
    · have hk := ab_ifp hk hc
      refine mb_ifp hc ?_
      obtain ⟨q1, hq1, hk⟩ := ab_bnd hk
      refine mb_on rfl (s_X4_step hq1) ?_
      exact s_X4_readTerm_J59 _ _ _ _ pv1 _ _ hk
    · have hk := ab_ifn hk hc
      refine mb_ifn hc ?_
      exact s_X4_readTerm_J59 _ _ _ _ pv1 _ _ hk
  · have hk := ab_ifn hk hc
    refine mb_ifn hc ?_
    obtain ⟨q2, hq2, hk⟩ := ab_bnd hk
    refine mb_on rfl (s_X4_fail hq2) ?_
    obtain ⟨hg, hk⟩ := ab_if_some hk
    refine mb_if hg ?_
    obtain rfl := Option.some.inj hk
    rfl
noncomputable def g_X4_readTerm_J14 (v1 : Nat) (v2 : Int) (v3 : Int) (s0 : Int) (σ : st_S) : Option (Int × st_S) :=
  if s0 = (0 : Int) then
    g_X4_readTerm_J38 v1 v2 v3 s0 σ
  else
  (g_X4_choice (3 : Int) (6 : Int) σ).bind fun q1 =>
  if q1.1 = (-1 : Int) then
    (g_X4_fail (1 : Int) q1.2).bind fun q2 =>
    ab_if (decide (q2.1 = 0 ∨ q2.1 = 1)) <|
    some (q2.1, q2.2)
  else
  g_X4_readTerm_J38 v1 v2 v3 s0 q1.2
set_option maxRecDepth 20000 in
theorem s_X4_readTerm_J14 : ∀ (v1 : Nat) (v2 : Int) (v3 : Int) (s0 : Int) (pv1 : isBk v1 = true) (σ : st_S) (q : Int × st_S), g_X4_readTerm_J14 v1 v2 v3 s0 σ = some q → f_X4_readTerm_J14 ((8 : Nat) : Int) ((v1 : Nat) : Int) v2 v3 s0 (mk_ σ) = some ((q.1, mk_ q.2)) := by
  intro v1 v2 v3 s0 pv1 σ q hk
  unfold g_X4_readTerm_J14 at hk
  unfold f_X4_readTerm_J14
  by_cases hc : s0 = (0 : Int)
  · have hk := ab_ifp hk hc
    refine mb_ifp hc ?_
    exact s_X4_readTerm_J38 _ _ _ _ pv1 _ _ hk
  · have hk := ab_ifn hk hc
    refine mb_ifn hc ?_
    obtain ⟨q1, hq1, hk⟩ := ab_bnd hk
    refine mb_on rfl (s_X4_choice hq1) ?_
    by_cases hc : q1.1 = (-1 : Int)
    · have hk := ab_ifp hk hc
      refine mb_ifp hc ?_
      obtain ⟨q2, hq2, hk⟩ := ab_bnd hk
      refine mb_on rfl (s_X4_fail hq2) ?_
      obtain ⟨hg, hk⟩ := ab_if_some hk
      refine mb_if hg ?_
      obtain rfl := Option.some.inj hk
      rfl
    · have hk := ab_ifn hk hc
      refine mb_ifn hc ?_
      exact s_X4_readTerm_J38 _ _ _ _ pv1 _ _ hk
noncomputable def g_X4_readTerm (a1 : Nat) (a2 : Int) (a3 : Int) (σ : st_S) : Option (Int × st_S) :=
  (g_X4_isKey (12 : Int) σ).bind fun q1 =>
  if q1.1 = (0 : Int) then
    g_X4_readTerm_J14 a1 a2 a3 (1 : Int) q1.2
  else
  g_X4_readTerm_J14 a1 a2 a3 (0 : Int) q1.2
set_option maxRecDepth 20000 in
theorem s_X4_readTerm {a1 : Nat} {a2 : Int} {a3 : Int} (pa1 : isBk a1 = true) {σ : st_S} {q : Int × st_S} (hk : g_X4_readTerm a1 a2 a3 σ = some q) : f_X4_readTerm ((8 : Nat) : Int) ((a1 : Nat) : Int) a2 a3 (mk_ σ) = some ((q.1, mk_ q.2)) := by
  unfold g_X4_readTerm at hk
  unfold f_X4_readTerm
  obtain ⟨q1, hq1, hk⟩ := ab_bnd hk
  refine mb_on rfl (s_X4_isKey hq1) ?_
  by_cases hc : q1.1 = (0 : Int)
  · have hk := ab_ifp hk hc
    refine mb_ifp hc ?_
    exact s_X4_readTerm_J14 _ _ _ _ pa1 _ _ hk
  · have hk := ab_ifn hk hc
    refine mb_ifn hc ?_
    exact s_X4_readTerm_J14 _ _ _ _ pa1 _ _ hk
noncomputable def g_X4_readHeading_L93 (k122 : Nat → Int → Int → Int → st_S → Option (Int × st_S)) : Nat → Nat → Int → Int → Int → st_S → Option (Int × st_S)
  | 0, _, _, _, _, _ => none
  | n + 1, v1, v2, v3, v4, σ =>
    if (6 : Int) < v4 then
      some ((0 : Int), σ)
    else
    (g_X4_readTerm v1 v2 v4 σ).bind fun q1 =>
    if q1.1 = (0 : Int) then
      some ((0 : Int), q1.2)
    else
    (g_X4_isSign (44 : Int) q1.2).bind fun q2 =>
    if q2.1 = (0 : Int) then
      k122 v1 v2 v3 v4 q2.2
    else
    (g_X4_step q2.2).bind fun q3 =>
    g_X4_readHeading_L93 k122 n v1 v2 v3 (ab_w32 (v4 + (1 : Int))) q3
set_option maxRecDepth 20000 in
theorem s_X4_readHeading_L93 {k122 : Nat → Int → Int → Int → st_S → Option (Int × st_S)} {kf122 : Int → Int → Int → Int → ab_H → Option (Int × ab_H)} (hk122 : ∀ (v1 : Nat) (v2 : Int) (v3 : Int) (v4 : Int) (pv1 : isBk v1 = true) (σ : st_S) (q : Int × st_S), k122 v1 v2 v3 v4 σ = some q → kf122 ((v1 : Nat) : Int) v2 v3 v4 (mk_ σ) = some ((q.1, mk_ q.2))) : ∀ (n : Nat) (v1 : Nat) (v2 : Int) (v3 : Int) (v4 : Int) (pv1 : isBk v1 = true) (σ : st_S) (q : Int × st_S), g_X4_readHeading_L93 k122 n v1 v2 v3 v4 σ = some q → f_X4_readHeading_L93 kf122 n ((8 : Nat) : Int) ((v1 : Nat) : Int) v2 v3 v4 (mk_ σ) = some ((q.1, mk_ q.2)) := by
  intro n
  induction n with
  | zero => intro v1 v2 v3 v4 pv1 σ q hk; cases hk
  | succ n ih =>
    intro v1 v2 v3 v4 pv1 σ q hk
    unfold g_X4_readHeading_L93 at hk
    unfold f_X4_readHeading_L93
    by_cases hc : (6 : Int) < v4
    · have hk := ab_ifp hk hc
      refine mb_ifp hc ?_
      obtain rfl := Option.some.inj hk
      rfl
    · have hk := ab_ifn hk hc
      refine mb_ifn hc ?_
      obtain ⟨q1, hq1, hk⟩ := ab_bnd hk
      refine mb_on rfl (s_X4_readTerm pv1 hq1) ?_
      by_cases hc : q1.1 = (0 : Int)
      · have hk := ab_ifp hk hc
        refine mb_ifp hc ?_
        obtain rfl := Option.some.inj hk
        rfl
      · have hk := ab_ifn hk hc
        refine mb_ifn hc ?_
        obtain ⟨q2, hq2, hk⟩ := ab_bnd hk
        refine mb_on rfl (s_X4_isSign hq2) ?_
        by_cases hc : q2.1 = (0 : Int)
        · have hk := ab_ifp hk hc
          refine mb_ifp hc ?_
          exact hk122 _ _ _ _ pv1 _ _ hk
        · have hk := ab_ifn hk hc
          refine mb_ifn hc ?_
          obtain ⟨q3, hq3, hk⟩ := ab_bnd hk
          refine mb_on rfl (s_X4_step hq3) ?_
          exact ih _ _ _ _ pv1 _ _ hk
noncomputable def g_X4_readHeading (a1 : Nat) (σ : st_S) : Option (Int × st_S) :=
  if σ a1 0 < (12 : Int) then
    (sa_ld σ 10 1201 (σ 8 5)).bind fun t1 =>
    if t1 = (4 : Int) then
      (sa_ld σ 12 1201 (σ 8 5)).bind fun t2 =>
      (g_X8_isAddress (ab_w32 t2) σ).bind fun q3 =>
      if q3.1 = (0 : Int) then
        (g_X4_fail (2 : Int) q3.2).bind fun q8 =>
        ab_if (decide (q8.1 = 0 ∨ q8.1 = 1)) <|
        some (q8.1, q8.2)
      else
      (g_X0_stringAt a1 (ab_w32 t2) q3.2).bind fun q4 =>
      if q4.1 = (-1 : Int) then
        (g_X4_step q4.2).bind fun q5 =>
        (g_X4_takeSign (58 : Int) q5).bind fun q6 =>
        if q6.1 = (0 : Int) then
          some ((0 : Int), q6.2)
        else
        g_X4_readHeading_L93 (fun w122_1 w122_2 w122_3 w122_4 σx122 =>
          (sa_st σx122 (w122_1 + 1) 12 w122_2 w122_3).bind fun σ1 =>
          (sa_st σ1 (w122_1 + 2) 12 w122_2 (ab_w32 (w122_4 + (1 : Int)))).bind fun σ2 =>
          (some (up2 σ2 w122_1 0 (ab_w32 ((σ2 w122_1 0) + (1 : Int))))).bind fun σ3 =>
          some ((1 : Int), σ3)) ab_FU a1 (σ a1 0) (ab_w32 t2) (0 : Int) q6.2
      else
      (g_X4_fail (3 : Int) q4.2).bind fun q7 =>
      ab_if (decide (q7.1 = 0 ∨ q7.1 = 1)) <|
      some (q7.1, q7.2)
    else
    (g_X4_fail (1 : Int) σ).bind fun q9 =>
    ab_if (decide (q9.1 = 0 ∨ q9.1 = 1)) <|
    some (q9.1, q9.2)
  else
  (g_X4_fail (4 : Int) σ).bind fun q10 =>
  ab_if (decide (q10.1 = 0 ∨ q10.1 = 1)) <|
  some (q10.1, q10.2)
set_option maxRecDepth 20000 in
theorem s_X4_readHeading {a1 : Nat} (pa1 : isBk a1 = true) {σ : st_S} {q : Int × st_S} (hk : g_X4_readHeading a1 σ = some q) : f_X4_readHeading ((8 : Nat) : Int) ((a1 : Nat) : Int) (mk_ σ) = some ((q.1, mk_ q.2)) := by
  unfold g_X4_readHeading at hk
  unfold f_X4_readHeading
  refine mb_get (bk_ly pa1).1 ((bk_ly pa1).2.1 _) ?_
  by_cases hc : σ a1 0 < (12 : Int)
  · have hk := ab_ifp hk hc
    refine mb_ifp hc ?_
    refine mb_getR 10 rfl rfl (by decide) ?_
    refine mb_get rfl rfl ?_
    obtain ⟨t1, ht1, hk⟩ := ab_bnd hk
    refine mb_ald ⟨rfl, rfl, fun _ => rfl⟩ ht1 ?_
    by_cases hc : t1 = (4 : Int)
    · have hk := ab_ifp hk hc
      refine mb_ifp hc ?_
      refine mb_getR 12 rfl rfl (by decide) ?_
      refine mb_get rfl rfl ?_
      obtain ⟨t2, ht2, hk⟩ := ab_bnd hk
      refine mb_ald ⟨rfl, rfl, fun _ => rfl⟩ ht2 ?_
      obtain ⟨q3, hq3, hk⟩ := ab_bnd hk
      refine mb_eq (s_X8_isAddress hq3) ?_
      by_cases hc : q3.1 = (0 : Int)
      · have hk := ab_ifp hk hc
        refine mb_ifp hc ?_
        obtain ⟨q8, hq8, hk⟩ := ab_bnd hk
        refine mb_on rfl (s_X4_fail hq8) ?_
        obtain ⟨hg, hk⟩ := ab_if_some hk
        refine mb_if hg ?_
        obtain rfl := Option.some.inj hk
        rfl
      · have hk := ab_ifn hk hc
        refine mb_ifn hc ?_
        obtain ⟨q4, hq4, hk⟩ := ab_bnd hk
        refine mb_on (bk_ly pa1).1 (s_X0_stringAt pa1 hq4) ?_
        by_cases hc : q4.1 = (-1 : Int)
        · have hk := ab_ifp hk hc
          refine mb_ifp hc ?_
          obtain ⟨q5, hq5, hk⟩ := ab_bnd hk
          refine mb_on rfl (s_X4_step hq5) ?_
          obtain ⟨q6, hq6, hk⟩ := ab_bnd hk
          refine mb_on rfl (s_X4_takeSign hq6) ?_
          by_cases hc : q6.1 = (0 : Int)
          · have hk := ab_ifp hk hc
            refine mb_ifp hc ?_
            obtain rfl := Option.some.inj hk
            rfl
          · have hk := ab_ifn hk hc
            refine mb_ifn hc ?_
            refine s_X4_readHeading_L93 (fun w122_1 w122_2 w122_3 w122_4 pw122_1 σx122 q hk => ?_) _ _ _ _ _ pa1 _ _ hk
            · skip
              refine mb_getR (w122_1 + 1) (bk_ly pw122_1).1 ((bk_ly pw122_1).2.1 _) (by omega) ?_
              obtain ⟨σ1, hσ1, hk⟩ := ab_bnd hk
              refine mb_ast (bk_ly pw122_1).2.2.1 hσ1 ?_
              refine mb_getR (w122_1 + 2) (bk_ly pw122_1).1 ((bk_ly pw122_1).2.1 _) (by omega) ?_
              obtain ⟨σ2, hσ2, hk⟩ := ab_bnd hk
              refine mb_ast (bk_ly pw122_1).2.2.2.1 hσ2 ?_
              refine mb_get (bk_ly pw122_1).1 ((bk_ly pw122_1).2.1 _) ?_
              obtain ⟨σ3, hσ3, hk⟩ := ab_bnd hk
              refine mb_put (bk_ly pw122_1).1 ((bk_ly pw122_1).2.1 _) hσ3 ?_
              obtain rfl := Option.some.inj hk
              rfl
        · have hk := ab_ifn hk hc
          refine mb_ifn hc ?_
          obtain ⟨q7, hq7, hk⟩ := ab_bnd hk
          refine mb_on rfl (s_X4_fail hq7) ?_
          obtain ⟨hg, hk⟩ := ab_if_some hk
          refine mb_if hg ?_
          obtain rfl := Option.some.inj hk
          rfl
    · have hk := ab_ifn hk hc
      refine mb_ifn hc ?_
      obtain ⟨q9, hq9, hk⟩ := ab_bnd hk
      refine mb_on rfl (s_X4_fail hq9) ?_
      obtain ⟨hg, hk⟩ := ab_if_some hk
      refine mb_if hg ?_
      obtain rfl := Option.some.inj hk
      rfl
  · have hk := ab_ifn hk hc
    refine mb_ifn hc ?_
    obtain ⟨q10, hq10, hk⟩ := ab_bnd hk
    refine mb_on rfl (s_X4_fail hq10) ?_
    obtain ⟨hg, hk⟩ := ab_if_some hk
    refine mb_if hg ?_
    obtain rfl := Option.some.inj hk
    rfl
noncomputable def g_X4_readLine_J96 (σ : st_S) : Option (Int × st_S) :=
  some ((0 : Int), σ)
set_option maxRecDepth 20000 in
theorem s_X4_readLine_J96 : ∀ (σ : st_S) (q : Int × st_S), g_X4_readLine_J96 σ = some q → f_X4_readLine_J96 (mk_ σ) = some ((q.1, mk_ q.2)) := by
  intro σ q hk
  unfold g_X4_readLine_J96 at hk
  unfold f_X4_readLine_J96
  obtain rfl := Option.some.inj hk
  rfl
noncomputable def g_X4_readLine_J79 (v2 : Int) (σ : st_S) : Option (Int × st_S) :=
  if v2 = (0 : Int) then
    g_X4_readLine_J96 σ
  else
  (g_X4_takeSign (59 : Int) σ).bind fun q1 =>
  if q1.1 = (0 : Int) then
    g_X4_readLine_J96 q1.2
  else
  some ((1 : Int), q1.2)
set_option maxRecDepth 20000 in
theorem s_X4_readLine_J79 : ∀ (v2 : Int) (σ : st_S) (q : Int × st_S), g_X4_readLine_J79 v2 σ = some q → f_X4_readLine_J79 ((8 : Nat) : Int) v2 (mk_ σ) = some ((q.1, mk_ q.2)) := by
  intro v2 σ q hk
  unfold g_X4_readLine_J79 at hk
  unfold f_X4_readLine_J79
  by_cases hc : v2 = (0 : Int)
  · have hk := ab_ifp hk hc
    refine mb_ifp hc ?_
    exact s_X4_readLine_J96  _ _ hk
  · have hk := ab_ifn hk hc
    refine mb_ifn hc ?_
    obtain ⟨q1, hq1, hk⟩ := ab_bnd hk
    refine mb_on rfl (s_X4_takeSign hq1) ?_
    by_cases hc : q1.1 = (0 : Int)
    · have hk := ab_ifp hk hc
      refine mb_ifp hc ?_
      exact s_X4_readLine_J96  _ _ hk
    · have hk := ab_ifn hk hc
      refine mb_ifn hc ?_
      obtain rfl := Option.some.inj hk
      rfl
noncomputable def g_X4_readLine (a1 : Nat) (σ : st_S) : Option (Int × st_S) :=
  (g_X4_isKey (0 : Int) σ).bind fun q1 =>
  if q1.1 = (0 : Int) then
    (g_X4_isKey (1 : Int) q1.2).bind fun q2 =>
    if q2.1 = (0 : Int) then
      (g_X4_isKey (2 : Int) q2.2).bind fun q3 =>
      if q3.1 = (0 : Int) then
        (g_X4_fail (1 : Int) q3.2).bind fun q7 =>
        g_X4_readLine_J79 q7.1 q7.2
      else
      if q3.2 a1 0 < (12 : Int) then
        (g_X4_step q3.2).bind fun q4 =>
        (g_X4_readHeading a1 q4).bind fun q5 =>
        g_X4_readLine_J79 q5.1 q5.2
      else
      (g_X4_fail (4 : Int) q3.2).bind fun q6 =>
      g_X4_readLine_J79 q6.1 q6.2
    else
    (g_X4_readSee a1 q2.2).bind fun q8 =>
    g_X4_readLine_J79 q8.1 q8.2
  else
  (g_X4_readLaw a1 q1.2).bind fun q9 =>
  g_X4_readLine_J79 q9.1 q9.2
set_option maxRecDepth 20000 in
theorem s_X4_readLine {a1 : Nat} (pa1 : isBk a1 = true) {σ : st_S} {q : Int × st_S} (hk : g_X4_readLine a1 σ = some q) : f_X4_readLine ((8 : Nat) : Int) ((a1 : Nat) : Int) (mk_ σ) = some ((q.1, mk_ q.2)) := by
  unfold g_X4_readLine at hk
  unfold f_X4_readLine
  obtain ⟨q1, hq1, hk⟩ := ab_bnd hk
  refine mb_on rfl (s_X4_isKey hq1) ?_
  by_cases hc : q1.1 = (0 : Int)
  · have hk := ab_ifp hk hc
    refine mb_ifp hc ?_
    obtain ⟨q2, hq2, hk⟩ := ab_bnd hk
    refine mb_on rfl (s_X4_isKey hq2) ?_
    by_cases hc : q2.1 = (0 : Int)
    · have hk := ab_ifp hk hc
      refine mb_ifp hc ?_
      obtain ⟨q3, hq3, hk⟩ := ab_bnd hk
      refine mb_on rfl (s_X4_isKey hq3) ?_
      by_cases hc : q3.1 = (0 : Int)
      · have hk := ab_ifp hk hc
        refine mb_ifp hc ?_
        obtain ⟨q7, hq7, hk⟩ := ab_bnd hk
        refine mb_on rfl (s_X4_fail hq7) ?_
        exact s_X4_readLine_J79 _  _ _ hk
      · have hk := ab_ifn hk hc
        refine mb_ifn hc ?_
        refine mb_get (bk_ly pa1).1 ((bk_ly pa1).2.1 _) ?_
        by_cases hc : q3.2 a1 0 < (12 : Int)
        · have hk := ab_ifp hk hc
          refine mb_ifp hc ?_
          obtain ⟨q4, hq4, hk⟩ := ab_bnd hk
          refine mb_on rfl (s_X4_step hq4) ?_
          obtain ⟨q5, hq5, hk⟩ := ab_bnd hk
          refine mb_on rfl (s_X4_readHeading pa1 hq5) ?_
          exact s_X4_readLine_J79 _  _ _ hk
        · have hk := ab_ifn hk hc
          refine mb_ifn hc ?_
          obtain ⟨q6, hq6, hk⟩ := ab_bnd hk
          refine mb_on rfl (s_X4_fail hq6) ?_
          exact s_X4_readLine_J79 _  _ _ hk
    · have hk := ab_ifn hk hc
      refine mb_ifn hc ?_
      obtain ⟨q8, hq8, hk⟩ := ab_bnd hk
      refine mb_on rfl (s_X4_readSee pa1 hq8) ?_
      exact s_X4_readLine_J79 _  _ _ hk
  · have hk := ab_ifn hk hc
    refine mb_ifn hc ?_
    obtain ⟨q9, hq9, hk⟩ := ab_bnd hk
    refine mb_on rfl (s_X4_readLaw pa1 hq9) ?_
    exact s_X4_readLine_J79 _  _ _ hk
noncomputable def g_X4_readText_L14 : Nat → Nat → st_S → Option (Int × st_S)
  | 0, _, _ => none
  | n + 1, v2, σ =>
    if σ 8 4 ≤ σ 8 8 then
      some ((1 : Int), σ)
    else
    (sa_ld σ 10 1201 (σ 8 5)).bind fun t1 =>
    if t1 = (0 : Int) then
      some ((1 : Int), σ)
    else
    (g_X4_readLine v2 σ).bind fun q2 =>
    if q2.1 = (0 : Int) then
      some ((0 : Int), q2.2)
    else
    (some (up2 q2.2 8 8 (ab_w32 ((q2.2 8 8) + (1 : Int))))).bind fun σ1 =>
    g_X4_readText_L14 n v2 σ1
set_option maxRecDepth 20000 in
theorem s_X4_readText_L14 : ∀ (n : Nat) (v2 : Nat) (pv2 : isBk v2 = true) (σ : st_S) (q : Int × st_S), g_X4_readText_L14 n v2 σ = some q → f_X4_readText_L14 n ((8 : Nat) : Int) ((v2 : Nat) : Int) (mk_ σ) = some ((q.1, mk_ q.2)) := by
  intro n
  induction n with
  | zero => intro v2 pv2 σ q hk; cases hk
  | succ n ih =>
    intro v2 pv2 σ q hk
    unfold g_X4_readText_L14 at hk
    unfold f_X4_readText_L14
    refine mb_get rfl rfl ?_
    refine mb_get rfl rfl ?_
    by_cases hc : σ 8 4 ≤ σ 8 8
    · have hk := ab_ifp hk hc
      refine mb_ifp hc ?_
      obtain rfl := Option.some.inj hk
      rfl
    · have hk := ab_ifn hk hc
      refine mb_ifn hc ?_
      refine mb_getR 10 rfl rfl (by decide) ?_
      refine mb_get rfl rfl ?_
      obtain ⟨t1, ht1, hk⟩ := ab_bnd hk
      refine mb_ald ⟨rfl, rfl, fun _ => rfl⟩ ht1 ?_
      by_cases hc : t1 = (0 : Int)
      · have hk := ab_ifp hk hc
        refine mb_ifp hc ?_
        obtain rfl := Option.some.inj hk
        rfl
      · have hk := ab_ifn hk hc
        refine mb_ifn hc ?_
        obtain ⟨q2, hq2, hk⟩ := ab_bnd hk
        refine mb_on rfl (s_X4_readLine pv2 hq2) ?_
        by_cases hc : q2.1 = (0 : Int)
        · have hk := ab_ifp hk hc
          refine mb_ifp hc ?_
          obtain rfl := Option.some.inj hk
          rfl
        · have hk := ab_ifn hk hc
          refine mb_ifn hc ?_
          refine mb_get rfl rfl ?_
          obtain ⟨σ1, hσ1, hk⟩ := ab_bnd hk
          refine mb_put rfl rfl hσ1 ?_
          exact ih _ pv2 _ _ hk
noncomputable def g_X4_readText (a1 : Nat) (a2 : Nat) (σ : st_S) : Option (Int × st_S) :=
  (g_X4_begin a1 σ).bind fun q1 =>
  (g_X0_clear a2 q1).bind fun q2 =>
  (some (up2 q2 8 8 (0 : Int))).bind fun σ1 =>
  g_X4_readText_L14 ab_FU a2 σ1
set_option maxRecDepth 20000 in
theorem s_X4_readText {a1 : Nat} {a2 : Nat} (pa1 : isBy a1 = true) (pa2 : isBk a2 = true) {σ : st_S} {q : Int × st_S} (hk : g_X4_readText a1 a2 σ = some q) : f_X4_readText ((8 : Nat) : Int) ((a1 : Nat) : Int) ((a2 : Nat) : Int) (mk_ σ) = some ((q.1, mk_ q.2)) := by
  unfold g_X4_readText at hk
  unfold f_X4_readText
  obtain ⟨q1, hq1, hk⟩ := ab_bnd hk
  refine mb_on rfl (s_X4_begin pa1 hq1) ?_
  obtain ⟨q2, hq2, hk⟩ := ab_bnd hk
  refine mb_on (bk_ly pa2).1 (s_X0_clear pa2 hq2) ?_
  obtain ⟨σ1, hσ1, hk⟩ := ab_bnd hk
  refine mb_put rfl rfl hσ1 ?_
  refine s_X4_readText_L14 _ _ pa2 _ _ hk
noncomputable def g_X4_readAdded_J44 (σ : st_S) : Option (Int × st_S) :=
  some ((1 : Int), σ)
set_option maxRecDepth 20000 in
theorem s_X4_readAdded_J44 : ∀ (σ : st_S) (q : Int × st_S), g_X4_readAdded_J44 σ = some q → f_X4_readAdded_J44 (mk_ σ) = some ((q.1, mk_ q.2)) := by
  intro σ q hk
  unfold g_X4_readAdded_J44 at hk
  unfold f_X4_readAdded_J44
  obtain rfl := Option.some.inj hk
  rfl
noncomputable def g_X4_readAdded (a1 : Nat) (a2 : Nat) (σ : st_S) : Option (Int × st_S) :=
  (g_X4_begin a1 σ).bind fun q1 =>
  (g_X4_readHeading a2 q1).bind fun q2 =>
  if q2.1 = (0 : Int) then
    some ((0 : Int), q2.2)
  else
  (g_X4_takeSign (59 : Int) q2.2).bind fun q3 =>
  if q3.1 = (0 : Int) then
    some ((0 : Int), q3.2)
  else
  (sa_ld q3.2 10 1201 (q3.2 8 5)).bind fun t4 =>
  if t4 = (0 : Int) then
    g_X4_readAdded_J44 q3.2
  else
  (g_X4_fail (1 : Int) q3.2).bind fun q5 =>
  if q5.1 = (0 : Int) then
    some ((0 : Int), q5.2)
  else
  g_X4_readAdded_J44 q5.2
set_option maxRecDepth 20000 in
theorem s_X4_readAdded {a1 : Nat} {a2 : Nat} (pa1 : isBy a1 = true) (pa2 : isBk a2 = true) {σ : st_S} {q : Int × st_S} (hk : g_X4_readAdded a1 a2 σ = some q) : f_X4_readAdded ((8 : Nat) : Int) ((a1 : Nat) : Int) ((a2 : Nat) : Int) (mk_ σ) = some ((q.1, mk_ q.2)) := by
  unfold g_X4_readAdded at hk
  unfold f_X4_readAdded
  obtain ⟨q1, hq1, hk⟩ := ab_bnd hk
  refine mb_on rfl (s_X4_begin pa1 hq1) ?_
  obtain ⟨q2, hq2, hk⟩ := ab_bnd hk
  refine mb_on rfl (s_X4_readHeading pa2 hq2) ?_
  by_cases hc : q2.1 = (0 : Int)
  · have hk := ab_ifp hk hc
    refine mb_ifp hc ?_
    obtain rfl := Option.some.inj hk
    rfl
  · have hk := ab_ifn hk hc
    refine mb_ifn hc ?_
    obtain ⟨q3, hq3, hk⟩ := ab_bnd hk
    refine mb_on rfl (s_X4_takeSign hq3) ?_
    by_cases hc : q3.1 = (0 : Int)
    · have hk := ab_ifp hk hc
      refine mb_ifp hc ?_
      obtain rfl := Option.some.inj hk
      rfl
    · have hk := ab_ifn hk hc
      refine mb_ifn hc ?_
      refine mb_getR 10 rfl rfl (by decide) ?_
      refine mb_get rfl rfl ?_
      obtain ⟨t4, ht4, hk⟩ := ab_bnd hk
      refine mb_ald ⟨rfl, rfl, fun _ => rfl⟩ ht4 ?_
      by_cases hc : t4 = (0 : Int)
      · have hk := ab_ifp hk hc
        refine mb_ifp hc ?_
        exact s_X4_readAdded_J44  _ _ hk
      · have hk := ab_ifn hk hc
        refine mb_ifn hc ?_
        obtain ⟨q5, hq5, hk⟩ := ab_bnd hk
        refine mb_on rfl (s_X4_fail hq5) ?_
        by_cases hc : q5.1 = (0 : Int)
        · have hk := ab_ifp hk hc
          refine mb_ifp hc ?_
          obtain rfl := Option.some.inj hk
          rfl
        · have hk := ab_ifn hk hc
          refine mb_ifn hc ?_
          exact s_X4_readAdded_J44  _ _ hk
