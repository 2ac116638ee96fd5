noncomputable def g_X9_isLineNow (a1 : Int) (σ : st_S) : Option (Int × st_S) :=
  (g_X9_lays σ).bind fun q1 =>
  (g_X9_in a1 (0 : Int) (ab_w32 ((q1 596 17) - (1 : Int))) q1).bind fun q2 =>
  ab_if (decide (q2.1 = 0 ∨ q2.1 = 1)) <|
  some (q2.1, q2.2)
set_option maxRecDepth 20000 in
theorem s_X9_isLineNow {a1 : Int} {σ : st_S} {q : Int × st_S} (hk : g_X9_isLineNow a1 σ = some q) : f_X9_isLineNow ((596 : Nat) : Int) a1 (mk_ σ) = some ((q.1, mk_ q.2)) := by
  unfold g_X9_isLineNow at hk
  unfold f_X9_isLineNow
  obtain ⟨q1, hq1, hk⟩ := ab_bnd hk
  refine mb_on rfl (s_X9_lays hq1) ?_
  refine mb_get rfl rfl ?_
  obtain ⟨q2, hq2, hk⟩ := ab_bnd hk
  refine mb_eq (s_X9_in hq2) ?_
  obtain ⟨hg, hk⟩ := ab_if_some hk
  refine mb_if hg ?_
  obtain rfl := Option.some.inj hk
  rfl
noncomputable def g_X9_firstOf_L2 : Nat → Int → Int → st_S → Option (Int × st_S)
  | 0, _, _, _ => none
  | n + 1, v1, v2, σ =>
    (sa_ld σ 605 72 v2).bind fun t1 =>
    if t1 = v1 then
      some (v2, σ)
    else
    g_X9_firstOf_L2 n v1 (ab_w32 (v2 + (1 : Int))) σ
set_option maxRecDepth 20000 in
theorem s_X9_firstOf_L2 : ∀ (n : Nat) (v1 : Int) (v2 : Int) (σ : st_S) (q : Int × st_S), g_X9_firstOf_L2 n v1 v2 σ = some q → f_X9_firstOf_L2 n ((596 : Nat) : Int) v1 v2 (mk_ σ) = some ((q.1, mk_ q.2)) := by
  intro n
  induction n with
  | zero => intro v1 v2 σ q hk; cases hk
  | succ n ih =>
    intro v1 v2 σ q hk
    unfold g_X9_firstOf_L2 at hk
    unfold f_X9_firstOf_L2
    refine mb_getR 605 rfl rfl (by decide) ?_
    obtain ⟨t1, ht1, hk⟩ := ab_bnd hk
    refine mb_ald ⟨rfl, rfl, fun _ => rfl⟩ ht1 ?_
    by_cases hc : t1 = v1
    · have hk := ab_ifp hk hc
      refine mb_ifp hc ?_
      obtain rfl := Option.some.inj hk
      rfl
    · have hk := ab_ifn hk hc
      refine mb_ifn hc ?_
      exact ih _ _  _ _ hk
noncomputable def g_X9_firstOf (a1 : Int) (σ : st_S) : Option (Int × st_S) :=
  g_X9_firstOf_L2 ab_FU a1 (0 : Int) σ
set_option maxRecDepth 20000 in
theorem s_X9_firstOf {a1 : Int} {σ : st_S} {q : Int × st_S} (hk : g_X9_firstOf a1 σ = some q) : f_X9_firstOf ((596 : Nat) : Int) a1 (mk_ σ) = some ((q.1, mk_ q.2)) := by
  unfold g_X9_firstOf at hk
  unfold f_X9_firstOf
  refine s_X9_firstOf_L2 _ _ _  _ _ hk
noncomputable def g_X9_manyOf_J28 (rec : Int → Int → Int → st_S → Option (Int × st_S)) (v1 : Int) (v3 : Int) (s1 : Int) (s0 : Int) (σ : st_S) : Option (Int × st_S) :=
  rec v1 (ab_w32 (s0 + s1)) (ab_w32 (v3 + (1 : Int))) σ
set_option maxRecDepth 20000 in
theorem s_X9_manyOf_J28 {rec : Int → Int → Int → st_S → Option (Int × st_S)} {recf : Int → Int → Int → Int → ab_H → Option (Int × ab_H)} (hrec : ∀ (v1 : Int) (v2 : Int) (v3 : Int) (σ : st_S) (q : Int × st_S), rec v1 v2 v3 σ = some q → recf ((596 : Nat) : Int) v1 v2 v3 (mk_ σ) = some ((q.1, mk_ q.2))) : ∀ (v1 : Int) (v3 : Int) (s1 : Int) (s0 : Int) (σ : st_S) (q : Int × st_S), g_X9_manyOf_J28 rec v1 v3 s1 s0 σ = some q → f_X9_manyOf_J28 recf ((596 : Nat) : Int) v1 v3 s1 s0 (mk_ σ) = some ((q.1, mk_ q.2)) := by
  intro v1 v3 s1 s0 σ q hk
  unfold g_X9_manyOf_J28 at hk
  unfold f_X9_manyOf_J28
  exact hrec _ _ _  _ _ hk
noncomputable def g_X9_manyOf_L4 : Nat → Int → Int → Int → st_S → Option (Int × st_S)
  | 0, _, _, _, _ => none
  | n + 1, v1, v2, v3, σ =>
    if σ 596 16 ≤ v3 then
      some (v2, σ)
    else
    (sa_ld σ 605 72 v3).bind fun t1 =>
    if t1 = v1 then
      g_X9_manyOf_J28 (g_X9_manyOf_L4 n) v1 v3 (1 : Int) v2 σ
    else
    g_X9_manyOf_J28 (g_X9_manyOf_L4 n) v1 v3 (0 : Int) v2 σ
set_option maxRecDepth 20000 in
theorem s_X9_manyOf_L4 : ∀ (n : Nat) (v1 : Int) (v2 : Int) (v3 : Int) (σ : st_S) (q : Int × st_S), g_X9_manyOf_L4 n v1 v2 v3 σ = some q → f_X9_manyOf_L4 n ((596 : Nat) : Int) v1 v2 v3 (mk_ σ) = some ((q.1, mk_ q.2)) := by
  intro n
  induction n with
  | zero => intro v1 v2 v3 σ q hk; cases hk
  | succ n ih =>
    intro v1 v2 v3 σ q hk
    unfold g_X9_manyOf_L4 at hk
    unfold f_X9_manyOf_L4
    refine mb_get rfl rfl ?_
    by_cases hc : σ 596 16 ≤ v3
    · have hk := ab_ifp hk hc
      refine mb_ifp hc ?_
      obtain rfl := Option.some.inj hk
      rfl
    · have hk := ab_ifn hk hc
      refine mb_ifn hc ?_
      refine mb_getR 605 rfl rfl (by decide) ?_
      obtain ⟨t1, ht1, hk⟩ := ab_bnd hk
      refine mb_ald ⟨rfl, rfl, fun _ => rfl⟩ ht1 ?_
      by_cases hc : t1 = v1
      · have hk := ab_ifp hk hc
        refine mb_ifp hc ?_
        exact s_X9_manyOf_J28 ih _ _ _ _  _ _ hk
      · have hk := ab_ifn hk hc
        refine mb_ifn hc ?_
        exact s_X9_manyOf_J28 ih _ _ _ _  _ _ hk
noncomputable def g_X9_manyOf (a1 : Int) (σ : st_S) : Option (Int × st_S) :=
  g_X9_manyOf_L4 ab_FU a1 (0 : Int) (0 : Int) σ
set_option maxRecDepth 20000 in
theorem s_X9_manyOf {a1 : Int} {σ : st_S} {q : Int × st_S} (hk : g_X9_manyOf a1 σ = some q) : f_X9_manyOf ((596 : Nat) : Int) a1 (mk_ σ) = some ((q.1, mk_ q.2)) := by
  unfold g_X9_manyOf at hk
  unfold f_X9_manyOf
  refine s_X9_manyOf_L4 _ _ _ _  _ _ hk
noncomputable def g_X9_addressAbove_J63 (rec : Int → Int → Int → Int → st_S → Option (Int × st_S)) (v1 : Int) (v2 : Int) (v3 : Int) (v4 : Int) (σ : st_S) : Option (Int × st_S) :=
  rec v1 v2 v3 (ab_w32 (v4 + (1 : Int))) σ
set_option maxRecDepth 20000 in
theorem s_X9_addressAbove_J63 {rec : Int → Int → Int → Int → st_S → Option (Int × st_S)} {recf : Int → Int → Int → Int → Int → ab_H → Option (Int × ab_H)} (hrec : ∀ (v1 : Int) (v2 : Int) (v3 : Int) (v4 : Int) (σ : st_S) (q : Int × st_S), rec v1 v2 v3 v4 σ = some q → recf ((596 : Nat) : Int) v1 v2 v3 v4 (mk_ σ) = some ((q.1, mk_ q.2))) : ∀ (v1 : Int) (v2 : Int) (v3 : Int) (v4 : Int) (σ : st_S) (q : Int × st_S), g_X9_addressAbove_J63 rec v1 v2 v3 v4 σ = some q → f_X9_addressAbove_J63 recf ((596 : Nat) : Int) v1 v2 v3 v4 (mk_ σ) = some ((q.1, mk_ q.2)) := by
  intro v1 v2 v3 v4 σ q hk
  unfold g_X9_addressAbove_J63 at hk
  unfold f_X9_addressAbove_J63
  exact hrec _ _ _ _  _ _ hk
noncomputable def g_X9_addressAbove_J60 (rec : Int → Int → Int → Int → st_S → Option (Int × st_S)) (v1 : Int) (v2 : Int) (v4 : Int) (v5 : Int) (σ : st_S) : Option (Int × st_S) :=
  g_X9_addressAbove_J63 rec v1 v2 v5 v4 σ
set_option maxRecDepth 20000 in
theorem s_X9_addressAbove_J60 {rec : Int → Int → Int → Int → st_S → Option (Int × st_S)} {recf : Int → Int → Int → Int → Int → ab_H → Option (Int × ab_H)} (hrec : ∀ (v1 : Int) (v2 : Int) (v3 : Int) (v4 : Int) (σ : st_S) (q : Int × st_S), rec v1 v2 v3 v4 σ = some q → recf ((596 : Nat) : Int) v1 v2 v3 v4 (mk_ σ) = some ((q.1, mk_ q.2))) : ∀ (v1 : Int) (v2 : Int) (v4 : Int) (v5 : Int) (σ : st_S) (q : Int × st_S), g_X9_addressAbove_J60 rec v1 v2 v4 v5 σ = some q → f_X9_addressAbove_J60 recf ((596 : Nat) : Int) v1 v2 v4 v5 (mk_ σ) = some ((q.1, mk_ q.2)) := by
  intro v1 v2 v4 v5 σ q hk
  unfold g_X9_addressAbove_J60 at hk
  unfold f_X9_addressAbove_J60
  exact s_X9_addressAbove_J63 hrec _ _ _ _  _ _ hk
noncomputable def g_X9_addressAbove_L5 : Nat → Int → Int → Int → Int → st_S → Option (Int × st_S)
  | 0, _, _, _, _, _ => none
  | n + 1, v1, v2, v3, v4, σ =>
    if σ 596 16 ≤ v4 then
      some (v3, σ)
    else
    (sa_ld σ 608 72 v4).bind fun t1 =>
    (sa_ld σ 602 72 t1).bind fun t2 =>
    (g_X9_addressOf t2 σ).bind fun q3 =>
    (sa_ld q3.2 605 72 v4).bind fun t4 =>
    if t4 = v1 then
      if q3.1 ≤ v2 then
        g_X9_addressAbove_J63 (g_X9_addressAbove_L5 n) v1 v2 v3 v4 q3.2
      else
      if v3 = (-1 : Int) then
        g_X9_addressAbove_J60 (g_X9_addressAbove_L5 n) v1 v2 v4 q3.1 q3.2
      else
      if v3 ≤ q3.1 then
        g_X9_addressAbove_J63 (g_X9_addressAbove_L5 n) v1 v2 v3 v4 q3.2
      else
      g_X9_addressAbove_J60 (g_X9_addressAbove_L5 n) v1 v2 v4 q3.1 q3.2
    else
    g_X9_addressAbove_J63 (g_X9_addressAbove_L5 n) v1 v2 v3 v4 q3.2
set_option maxRecDepth 20000 in
theorem s_X9_addressAbove_L5 : ∀ (n : Nat) (v1 : Int) (v2 : Int) (v3 : Int) (v4 : Int) (σ : st_S) (q : Int × st_S), g_X9_addressAbove_L5 n v1 v2 v3 v4 σ = some q → f_X9_addressAbove_L5 n ((596 : Nat) : Int) v1 v2 v3 v4 (mk_ σ) = some ((q.1, mk_ q.2)) := by
  intro n
  induction n with
  | zero => intro v1 v2 v3 v4 σ q hk; cases hk
  | succ n ih =>
    intro v1 v2 v3 v4 σ q hk
    unfold g_X9_addressAbove_L5 at hk
    unfold f_X9_addressAbove_L5
    refine mb_get rfl rfl ?_
    by_cases hc : σ 596 16 ≤ v4
    · have hk := ab_ifp hk hc
      refine mb_ifp hc ?_
      obtain rfl := Option.some.inj hk
      rfl
    · have hk := ab_ifn hk hc
      refine mb_ifn hc ?_
      refine mb_getR 602 rfl rfl (by decide) ?_
      refine mb_getR 608 rfl rfl (by decide) ?_
      obtain ⟨t1, ht1, hk⟩ := ab_bnd hk
      refine mb_ald ⟨rfl, rfl, fun _ => rfl⟩ ht1 ?_
      obtain ⟨t2, ht2, hk⟩ := ab_bnd hk
      refine mb_ald ⟨rfl, rfl, fun _ => rfl⟩ ht2 ?_
      obtain ⟨q3, hq3, hk⟩ := ab_bnd hk
      refine mb_on rfl (s_X9_addressOf hq3) ?_
      refine mb_getR 605 rfl rfl (by decide) ?_
      obtain ⟨t4, ht4, hk⟩ := ab_bnd hk
      refine mb_ald ⟨rfl, rfl, fun _ => rfl⟩ ht4 ?_
      by_cases hc : t4 = v1
      · have hk := ab_ifp hk hc
        refine mb_ifp hc ?_
        by_cases hc : q3.1 ≤ v2
        · have hk := ab_ifp hk hc
          refine mb_ifp hc ?_
          exact s_X9_addressAbove_J63 ih _ _ _ _  _ _ hk
        · have hk := ab_ifn hk hc
          refine mb_ifn hc ?_
          by_cases hc : v3 = (-1 : Int)
          · have hk := ab_ifp hk hc
            refine mb_ifp hc ?_
            exact s_X9_addressAbove_J60 ih _ _ _ _  _ _ hk
          · have hk := ab_ifn hk hc
            refine mb_ifn hc ?_
            by_cases hc : v3 ≤ q3.1
            · have hk := ab_ifp hk hc
              refine mb_ifp hc ?_
              exact s_X9_addressAbove_J63 ih _ _ _ _  _ _ hk
            · have hk := ab_ifn hk hc
              refine mb_ifn hc ?_
              exact s_X9_addressAbove_J60 ih _ _ _ _  _ _ hk
      · have hk := ab_ifn hk hc
        refine mb_ifn hc ?_
        exact s_X9_addressAbove_J63 ih _ _ _ _  _ _ hk
noncomputable def g_X9_addressAbove (a1 : Int) (a2 : Int) (σ : st_S) : Option (Int × st_S) :=
  g_X9_addressAbove_L5 ab_FU a1 a2 (-1 : Int) (0 : Int) σ
set_option maxRecDepth 20000 in
theorem s_X9_addressAbove {a1 : Int} {a2 : Int} {σ : st_S} {q : Int × st_S} (hk : g_X9_addressAbove a1 a2 σ = some q) : f_X9_addressAbove ((596 : Nat) : Int) a1 a2 (mk_ σ) = some ((q.1, mk_ q.2)) := by
  unfold g_X9_addressAbove at hk
  unfold f_X9_addressAbove
  refine s_X9_addressAbove_L5 _ _ _ _ _  _ _ hk
noncomputable def g_X9_addressesOf_L9 : Nat → Int → Int → Int → st_S → Option (Int × st_S)
  | 0, _, _, _, _ => none
  | n + 1, v1, v2, v3, σ =>
    if v3 = (-1 : Int) then
      some (v2, σ)
    else
    (g_X9_addressAbove v1 v3 σ).bind fun q1 =>
    g_X9_addressesOf_L9 n v1 (ab_w32 (v2 + (1 : Int))) q1.1 q1.2
set_option maxRecDepth 20000 in
theorem s_X9_addressesOf_L9 : ∀ (n : Nat) (v1 : Int) (v2 : Int) (v3 : Int) (σ : st_S) (q : Int × st_S), g_X9_addressesOf_L9 n v1 v2 v3 σ = some q → f_X9_addressesOf_L9 n ((596 : Nat) : Int) v1 v2 v3 (mk_ σ) = some ((q.1, mk_ q.2)) := by
  intro n
  induction n with
  | zero => intro v1 v2 v3 σ q hk; cases hk
  | succ n ih =>
    intro v1 v2 v3 σ q hk
    unfold g_X9_addressesOf_L9 at hk
    unfold f_X9_addressesOf_L9
    by_cases hc : v3 = (-1 : Int)
    · have hk := ab_ifp hk hc
      refine mb_ifp hc ?_
      obtain rfl := Option.some.inj hk
      rfl
    · have hk := ab_ifn hk hc
      refine mb_ifn hc ?_
      obtain ⟨q1, hq1, hk⟩ := ab_bnd hk
      refine mb_on rfl (s_X9_addressAbove hq1) ?_
      exact ih _ _ _  _ _ hk
noncomputable def g_X9_addressesOf (a1 : Int) (σ : st_S) : Option (Int × st_S) :=
  (g_X9_addressAbove a1 (-1 : Int) σ).bind fun q1 =>
  g_X9_addressesOf_L9 ab_FU a1 (0 : Int) q1.1 q1.2
set_option maxRecDepth 20000 in
theorem s_X9_addressesOf {a1 : Int} {σ : st_S} {q : Int × st_S} (hk : g_X9_addressesOf a1 σ = some q) : f_X9_addressesOf ((596 : Nat) : Int) a1 (mk_ σ) = some ((q.1, mk_ q.2)) := by
  unfold g_X9_addressesOf at hk
  unfold f_X9_addressesOf
  obtain ⟨q1, hq1, hk⟩ := ab_bnd hk
  refine mb_on rfl (s_X9_addressAbove hq1) ?_
  refine s_X9_addressesOf_L9 _ _ _ _  _ _ hk
noncomputable def g_X9_line (a1 : Int) (a2 : Int) (σ : st_S) : Option (Int × st_S) :=
  (g_X9_isLineNow a1 σ).bind fun q1 =>
  if q1.1 = (0 : Int) then
    some ((-2 : Int), q1.2)
  else
  (g_X9_in a2 (0 : Int) (3 : Int) q1.2).bind fun q2 =>
  if q2.1 = (0 : Int) then
    some ((-2 : Int), q2.2)
  else
  if a2 = (0 : Int) then
    (g_X9_firstOf a1 q2.2).bind fun q7 =>
    some (q7.1, q7.2)
  else
  if a2 = (1 : Int) then
    (g_X9_manyOf a1 q2.2).bind fun q6 =>
    some (q6.1, q6.2)
  else
  if a2 = (2 : Int) then
    (g_X9_addressesOf a1 q2.2).bind fun q5 =>
    some (q5.1, q5.2)
  else
  (g_X9_firstOf a1 q2.2).bind fun q3 =>
  (sa_ld q3.2 606 72 q3.1).bind fun t4 =>
  some (t4, q3.2)
set_option maxRecDepth 20000 in
theorem s_X9_line {a1 : Int} {a2 : Int} {σ : st_S} {q : Int × st_S} (hk : g_X9_line a1 a2 σ = some q) : f_X9_line ((596 : Nat) : Int) a1 a2 (mk_ σ) = some ((q.1, mk_ q.2)) := by
  unfold g_X9_line at hk
  unfold f_X9_line
  obtain ⟨q1, hq1, hk⟩ := ab_bnd hk
  refine mb_on rfl (s_X9_isLineNow hq1) ?_
  by_cases hc : q1.1 = (0 : Int)
  · have hk := ab_ifp hk hc
    refine mb_ifp hc ?_
    obtain rfl := Option.some.inj hk
    rfl
  · have hk := ab_ifn hk hc
    refine mb_ifn hc ?_
    obtain ⟨q2, hq2, hk⟩ := ab_bnd hk
    refine mb_eq (s_X9_in hq2) ?_
    by_cases hc : q2.1 = (0 : Int)
    · have hk := ab_ifp hk hc
      refine mb_ifp hc ?_
      obtain rfl := Option.some.inj hk
      rfl
    · have hk := ab_ifn hk hc
      refine mb_ifn hc ?_
      by_cases hc : a2 = (0 : Int)
      · have hk := ab_ifp hk hc
        refine mb_ifp hc ?_
        obtain ⟨q7, hq7, hk⟩ := ab_bnd hk
        refine mb_on rfl (s_X9_firstOf hq7) ?_
        obtain rfl := Option.some.inj hk
        rfl
      · have hk := ab_ifn hk hc
        refine mb_ifn hc ?_
        by_cases hc : a2 = (1 : Int)
        · have hk := ab_ifp hk hc
          refine mb_ifp hc ?_
          obtain ⟨q6, hq6, hk⟩ := ab_bnd hk
          refine mb_on rfl (s_X9_manyOf hq6) ?_
          obtain rfl := Option.some.inj hk
          rfl
        · have hk := ab_ifn hk hc
          refine mb_ifn hc ?_
          by_cases hc : a2 = (2 : Int)
          · have hk := ab_ifp hk hc
            refine mb_ifp hc ?_
            obtain ⟨q5, hq5, hk⟩ := ab_bnd hk
            refine mb_on rfl (s_X9_addressesOf hq5) ?_
            obtain rfl := Option.some.inj hk
            rfl
          · have hk := ab_ifn hk hc
            refine mb_ifn hc ?_
            refine mb_getR 606 rfl rfl (by decide) ?_
            obtain ⟨q3, hq3, hk⟩ := ab_bnd hk
            refine mb_on rfl (s_X9_firstOf hq3) ?_
            obtain ⟨t4, ht4, hk⟩ := ab_bnd hk
            refine mb_ald ⟨rfl, rfl, fun _ => rfl⟩ ht4 ?_
            obtain rfl := Option.some.inj hk
            rfl
noncomputable def g_X9_address_L25 : Nat → Int → Int → Int → Int → st_S → Option (Int × st_S)
  | 0, _, _, _, _, _ => none
  | n + 1, v1, v2, v3, v4, σ =>
    if v2 ≤ v4 then
      some (v3, σ)
    else
    if v3 = (-1 : Int) then
      some (v3, σ)
    else
    (g_X9_addressAbove v1 v3 σ).bind fun q1 =>
    g_X9_address_L25 n v1 v2 q1.1 (ab_w32 (v4 + (1 : Int))) q1.2
set_option maxRecDepth 20000 in
theorem s_X9_address_L25 : ∀ (n : Nat) (v1 : Int) (v2 : Int) (v3 : Int) (v4 : Int) (σ : st_S) (q : Int × st_S), g_X9_address_L25 n v1 v2 v3 v4 σ = some q → f_X9_address_L25 n ((596 : Nat) : Int) v1 v2 v3 v4 (mk_ σ) = some ((q.1, mk_ q.2)) := by
  intro n
  induction n with
  | zero => intro v1 v2 v3 v4 σ q hk; cases hk
  | succ n ih =>
    intro v1 v2 v3 v4 σ q hk
    unfold g_X9_address_L25 at hk
    unfold f_X9_address_L25
    by_cases hc : v2 ≤ v4
    · have hk := ab_ifp hk hc
      refine mb_ifp hc ?_
      obtain rfl := Option.some.inj hk
      rfl
    · have hk := ab_ifn hk hc
      refine mb_ifn hc ?_
      by_cases hc : v3 = (-1 : Int)
      · have hk := ab_ifp hk hc
        refine mb_ifp hc ?_
        obtain rfl := Option.some.inj hk
        rfl
      · have hk := ab_ifn hk hc
        refine mb_ifn hc ?_
        obtain ⟨q1, hq1, hk⟩ := ab_bnd hk
        refine mb_on rfl (s_X9_addressAbove hq1) ?_
        exact ih _ _ _ _  _ _ hk
noncomputable def g_X9_address (a1 : Int) (a2 : Int) (σ : st_S) : Option (Int × st_S) :=
  (g_X9_isLineNow a1 σ).bind fun q1 =>
  if q1.1 = (0 : Int) then
    some ((-2 : Int), q1.2)
  else
  if (0 : Int) ≤ a2 then
    (g_X9_addressAbove a1 (-1 : Int) q1.2).bind fun q2 =>
    g_X9_address_L25 ab_FU a1 a2 q2.1 (0 : Int) q2.2
  else
  some ((-2 : Int), q1.2)
set_option maxRecDepth 20000 in
theorem s_X9_address {a1 : Int} {a2 : Int} {σ : st_S} {q : Int × st_S} (hk : g_X9_address a1 a2 σ = some q) : f_X9_address ((596 : Nat) : Int) a1 a2 (mk_ σ) = some ((q.1, mk_ q.2)) := by
  unfold g_X9_address at hk
  unfold f_X9_address
  obtain ⟨q1, hq1, hk⟩ := ab_bnd hk
  refine mb_on rfl (s_X9_isLineNow hq1) ?_
  by_cases hc : q1.1 = (0 : Int)
  · have hk := ab_ifp hk hc
    refine mb_ifp hc ?_
    obtain rfl := Option.some.inj hk
    rfl
  · have hk := ab_ifn hk hc
    refine mb_ifn hc ?_
    by_cases hc : (0 : Int) ≤ a2
    · have hk := ab_ifp hk hc
      refine mb_ifp hc ?_
      obtain ⟨q2, hq2, hk⟩ := ab_bnd hk
      refine mb_on rfl (s_X9_addressAbove hq2) ?_
      refine s_X9_address_L25 _ _ _ _ _  _ _ hk
    · have hk := ab_ifn hk hc
      refine mb_ifn hc ?_
      obtain rfl := Option.some.inj hk
      rfl
noncomputable def g_X9_stringsUnder_J40 (rec : Int → Int → Int → st_S → Option (Int × st_S)) (v1 : Int) (v3 : Int) (s1 : Int) (s0 : Int) (σ : st_S) : Option (Int × st_S) :=
  rec v1 (ab_or s0 s1) (ab_w32 (v3 + (1 : Int))) σ
set_option maxRecDepth 20000 in
theorem s_X9_stringsUnder_J40 {rec : Int → Int → Int → st_S → Option (Int × st_S)} {recf : Int → Int → Int → Int → ab_H → Option (Int × ab_H)} (hrec : ∀ (v1 : Int) (v2 : Int) (v3 : Int) (σ : st_S) (q : Int × st_S), rec v1 v2 v3 σ = some q → recf ((596 : Nat) : Int) v1 v2 v3 (mk_ σ) = some ((q.1, mk_ q.2))) : ∀ (v1 : Int) (v3 : Int) (s1 : Int) (s0 : Int) (σ : st_S) (q : Int × st_S), g_X9_stringsUnder_J40 rec v1 v3 s1 s0 σ = some q → f_X9_stringsUnder_J40 recf ((596 : Nat) : Int) v1 v3 s1 s0 (mk_ σ) = some ((q.1, mk_ q.2)) := by
  intro v1 v3 s1 s0 σ q hk
  unfold g_X9_stringsUnder_J40 at hk
  unfold f_X9_stringsUnder_J40
  exact hrec _ _ _  _ _ hk
noncomputable def g_X9_stringsUnder_L4 : Nat → Int → Int → Int → st_S → Option (Int × st_S)
  | 0, _, _, _, _ => none
  | n + 1, v1, v2, v3, σ =>
    if σ 596 16 ≤ v3 then
      some (v2, σ)
    else
    (sa_ld σ 606 72 v3).bind fun t1 =>
    if t1 = v1 then
      (sa_ld σ 608 72 v3).bind fun t2 =>
      (sa_ld σ 602 72 t2).bind fun t3 =>
      g_X9_stringsUnder_J40 (g_X9_stringsUnder_L4 n) v1 v3 (ab_shl (1 : Int) t3) v2 σ
    else
    g_X9_stringsUnder_J40 (g_X9_stringsUnder_L4 n) v1 v3 (0 : Int) v2 σ
set_option maxRecDepth 20000 in
theorem s_X9_stringsUnder_L4 : ∀ (n : Nat) (v1 : Int) (v2 : Int) (v3 : Int) (σ : st_S) (q : Int × st_S), g_X9_stringsUnder_L4 n v1 v2 v3 σ = some q → f_X9_stringsUnder_L4 n ((596 : Nat) : Int) v1 v2 v3 (mk_ σ) = some ((q.1, mk_ q.2)) := by
  intro n
  induction n with
  | zero => intro v1 v2 v3 σ q hk; cases hk
  | succ n ih =>
    intro v1 v2 v3 σ q hk
    unfold g_X9_stringsUnder_L4 at hk
    unfold f_X9_stringsUnder_L4
    refine mb_get rfl rfl ?_
    by_cases hc : σ 596 16 ≤ v3
    · have hk := ab_ifp hk hc
      refine mb_ifp hc ?_
      obtain rfl := Option.some.inj hk
      rfl
    · have hk := ab_ifn hk hc
      refine mb_ifn hc ?_
      refine mb_getR 606 rfl rfl (by decide) ?_
      obtain ⟨t1, ht1, hk⟩ := ab_bnd hk
      refine mb_ald ⟨rfl, rfl, fun _ => rfl⟩ ht1 ?_
      by_cases hc : t1 = v1
      · have hk := ab_ifp hk hc
        refine mb_ifp hc ?_
        refine mb_getR 602 rfl rfl (by decide) ?_
        refine mb_getR 608 rfl rfl (by decide) ?_
        obtain ⟨t2, ht2, hk⟩ := ab_bnd hk
        refine mb_ald ⟨rfl, rfl, fun _ => rfl⟩ ht2 ?_
        obtain ⟨t3, ht3, hk⟩ := ab_bnd hk
        refine mb_ald ⟨rfl, rfl, fun _ => rfl⟩ ht3 ?_
        exact s_X9_stringsUnder_J40 ih _ _ _ _  _ _ hk
      · have hk := ab_ifn hk hc
        refine mb_ifn hc ?_
        exact s_X9_stringsUnder_J40 ih _ _ _ _  _ _ hk
noncomputable def g_X9_stringsUnder (a1 : Int) (σ : st_S) : Option (Int × st_S) :=
  g_X9_stringsUnder_L4 ab_FU a1 (0 : Int) (0 : Int) σ
set_option maxRecDepth 20000 in
theorem s_X9_stringsUnder {a1 : Int} {σ : st_S} {q : Int × st_S} (hk : g_X9_stringsUnder a1 σ = some q) : f_X9_stringsUnder ((596 : Nat) : Int) a1 (mk_ σ) = some ((q.1, mk_ q.2)) := by
  unfold g_X9_stringsUnder at hk
  unfold f_X9_stringsUnder
  refine s_X9_stringsUnder_L4 _ _ _ _  _ _ hk
noncomputable def g_X9_bits_L4 : Nat → Int → Int → st_S → Option (Int × st_S)
  | 0, _, _, _ => none
  | n + 1, v1, v2, σ =>
    if v2 = (0 : Int) then
      some (v1, σ)
    else
    g_X9_bits_L4 n (ab_w32 (v1 + (1 : Int))) (ab_and v2 (ab_w32 (v2 - (1 : Int)))) σ
set_option maxRecDepth 20000 in
theorem s_X9_bits_L4 : ∀ (n : Nat) (v1 : Int) (v2 : Int) (σ : st_S) (q : Int × st_S), g_X9_bits_L4 n v1 v2 σ = some q → f_X9_bits_L4 n v1 v2 (mk_ σ) = some ((q.1, mk_ q.2)) := by
  intro n
  induction n with
  | zero => intro v1 v2 σ q hk; cases hk
  | succ n ih =>
    intro v1 v2 σ q hk
    unfold g_X9_bits_L4 at hk
    unfold f_X9_bits_L4
    by_cases hc : v2 = (0 : Int)
    · have hk := ab_ifp hk hc
      refine mb_ifp hc ?_
      obtain rfl := Option.some.inj hk
      rfl
    · have hk := ab_ifn hk hc
      refine mb_ifn hc ?_
      exact ih _ _  _ _ hk
noncomputable def g_X9_bits (a0 : Int) (σ : st_S) : Option (Int × st_S) :=
  g_X9_bits_L4 ab_FU (0 : Int) a0 σ
set_option maxRecDepth 20000 in
theorem s_X9_bits {a0 : Int} {σ : st_S} {q : Int × st_S} (hk : g_X9_bits a0 σ = some q) : f_X9_bits a0 (mk_ σ) = some ((q.1, mk_ q.2)) := by
  unfold g_X9_bits at hk
  unfold f_X9_bits
  refine s_X9_bits_L4 _ _ _  _ _ hk
noncomputable def g_X9_headWord_L2 (k18 : Int → st_S → Option (Int × st_S)) : Nat → Int → Int → st_S → Option (Int × st_S)
  | 0, _, _, _ => none
  | n + 1, v1, v2, σ =>
    (sa_ld σ 606 72 v2).bind fun t1 =>
    if t1 = v1 then
      k18 v2 σ
    else
    g_X9_headWord_L2 k18 n v1 (ab_w32 (v2 + (1 : Int))) σ
set_option maxRecDepth 20000 in
theorem s_X9_headWord_L2 {k18 : Int → st_S → Option (Int × st_S)} {kf18 : Int → Int → ab_H → Option (Int × ab_H)} (hk18 : ∀ (v2 : Int) (σ : st_S) (q : Int × st_S), k18 v2 σ = some q → kf18 ((596 : Nat) : Int) v2 (mk_ σ) = some ((q.1, mk_ q.2))) : ∀ (n : Nat) (v1 : Int) (v2 : Int) (σ : st_S) (q : Int × st_S), g_X9_headWord_L2 k18 n v1 v2 σ = some q → f_X9_headWord_L2 kf18 n ((596 : Nat) : Int) v1 v2 (mk_ σ) = some ((q.1, mk_ q.2)) := by
  intro n
  induction n with
  | zero => intro v1 v2 σ q hk; cases hk
  | succ n ih =>
    intro v1 v2 σ q hk
    unfold g_X9_headWord_L2 at hk
    unfold f_X9_headWord_L2
    refine mb_getR 606 rfl rfl (by decide) ?_
    obtain ⟨t1, ht1, hk⟩ := ab_bnd hk
    refine mb_ald ⟨rfl, rfl, fun _ => rfl⟩ ht1 ?_
    by_cases hc : t1 = v1
    · have hk := ab_ifp hk hc
      refine mb_ifp hc ?_
      exact hk18 _  _ _ hk
    · have hk := ab_ifn hk hc
      refine mb_ifn hc ?_
      exact ih _ _  _ _ hk
noncomputable def g_X9_headWord (a1 : Int) (σ : st_S) : Option (Int × st_S) :=
  g_X9_headWord_L2 (fun w18_2 σx18 =>
    (sa_ld σx18 608 72 w18_2).bind fun t1 =>
    (g_X9_leadWord t1 σx18).bind fun q2 =>
    some (q2.1, q2.2)) ab_FU a1 (0 : Int) σ
set_option maxRecDepth 20000 in
theorem s_X9_headWord {a1 : Int} {σ : st_S} {q : Int × st_S} (hk : g_X9_headWord a1 σ = some q) : f_X9_headWord ((596 : Nat) : Int) a1 (mk_ σ) = some ((q.1, mk_ q.2)) := by
  unfold g_X9_headWord at hk
  unfold f_X9_headWord
  refine s_X9_headWord_L2 (fun w18_2 σx18 q hk => ?_) _ _ _  _ _ hk
  · skip
    refine mb_getR 608 rfl rfl (by decide) ?_
    obtain ⟨t1, ht1, hk⟩ := ab_bnd hk
    refine mb_ald ⟨rfl, rfl, fun _ => rfl⟩ ht1 ?_
    obtain ⟨q2, hq2, hk⟩ := ab_bnd hk
    refine mb_on rfl (s_X9_leadWord hq2) ?_
    obtain rfl := Option.some.inj hk
    rfl
noncomputable def g_X9_head_J103 (rec : Int → Int → Int → Int → Int → st_S → Option (Int × st_S)) (k109 : Int → Int → Int → Int → st_S → Option (Int × st_S)) (v1 : Int) (v2 : Int) (v3 : Int) (v4 : Int) (v5 : Int) (σ : st_S) : Option (Int × st_S) :=
  rec v1 v2 v3 v4 (ab_w32 (v5 + (1 : Int))) σ
set_option maxRecDepth 20000 in
theorem s_X9_head_J103 {rec : Int → Int → Int → Int → Int → st_S → Option (Int × st_S)} {recf : Int → Int → Int → Int → Int → Int → ab_H → Option (Int × ab_H)} {k109 : Int → Int → Int → Int → st_S → Option (Int × st_S)} {kf109 : Int → Int → Int → Int → Int → ab_H → Option (Int × ab_H)} (hrec : ∀ (v1 : Int) (v2 : Int) (v3 : Int) (v4 : Int) (v5 : Int) (σ : st_S) (q : Int × st_S), rec v1 v2 v3 v4 v5 σ = some q → recf ((596 : Nat) : Int) v1 v2 v3 v4 v5 (mk_ σ) = some ((q.1, mk_ q.2))) (hk109 : ∀ (v1 : Int) (v2 : Int) (v3 : Int) (v4 : Int) (σ : st_S) (q : Int × st_S), k109 v1 v2 v3 v4 σ = some q → kf109 ((596 : Nat) : Int) v1 v2 v3 v4 (mk_ σ) = some ((q.1, mk_ q.2))) : ∀ (v1 : Int) (v2 : Int) (v3 : Int) (v4 : Int) (v5 : Int) (σ : st_S) (q : Int × st_S), g_X9_head_J103 rec k109 v1 v2 v3 v4 v5 σ = some q → f_X9_head_J103 recf kf109 ((596 : Nat) : Int) v1 v2 v3 v4 v5 (mk_ σ) = some ((q.1, mk_ q.2)) := by
  intro v1 v2 v3 v4 v5 σ q hk
  unfold g_X9_head_J103 at hk
  unfold f_X9_head_J103
  exact hrec _ _ _ _ _  _ _ hk
noncomputable def g_X9_head_J100 (rec : Int → Int → Int → Int → Int → st_S → Option (Int × st_S)) (k109 : Int → Int → Int → Int → st_S → Option (Int × st_S)) (v1 : Int) (v2 : Int) (v3 : Int) (v5 : Int) (s1 : Int) (s0 : Int) (σ : st_S) : Option (Int × st_S) :=
  g_X9_head_J103 rec k109 v1 v2 v3 (ab_w32 (s0 + s1)) v5 σ
set_option maxRecDepth 20000 in
theorem s_X9_head_J100 {rec : Int → Int → Int → Int → Int → st_S → Option (Int × st_S)} {recf : Int → Int → Int → Int → Int → Int → ab_H → Option (Int × ab_H)} {k109 : Int → Int → Int → Int → st_S → Option (Int × st_S)} {kf109 : Int → Int → Int → Int → Int → ab_H → Option (Int × ab_H)} (hrec : ∀ (v1 : Int) (v2 : Int) (v3 : Int) (v4 : Int) (v5 : Int) (σ : st_S) (q : Int × st_S), rec v1 v2 v3 v4 v5 σ = some q → recf ((596 : Nat) : Int) v1 v2 v3 v4 v5 (mk_ σ) = some ((q.1, mk_ q.2))) (hk109 : ∀ (v1 : Int) (v2 : Int) (v3 : Int) (v4 : Int) (σ : st_S) (q : Int × st_S), k109 v1 v2 v3 v4 σ = some q → kf109 ((596 : Nat) : Int) v1 v2 v3 v4 (mk_ σ) = some ((q.1, mk_ q.2))) : ∀ (v1 : Int) (v2 : Int) (v3 : Int) (v5 : Int) (s1 : Int) (s0 : Int) (σ : st_S) (q : Int × st_S), g_X9_head_J100 rec k109 v1 v2 v3 v5 s1 s0 σ = some q → f_X9_head_J100 recf kf109 ((596 : Nat) : Int) v1 v2 v3 v5 s1 s0 (mk_ σ) = some ((q.1, mk_ q.2)) := by
  intro v1 v2 v3 v5 s1 s0 σ q hk
  unfold g_X9_head_J100 at hk
  unfold f_X9_head_J100
  exact s_X9_head_J103 hrec hk109 _ _ _ _ _  _ _ hk
noncomputable def g_X9_head_J95 (rec : Int → Int → Int → Int → Int → st_S → Option (Int × st_S)) (k109 : Int → Int → Int → Int → st_S → Option (Int × st_S)) (v1 : Int) (v2 : Int) (v3 : Int) (v5 : Int) (s0 : Int) (σ : st_S) : Option (Int × st_S) :=
  g_X9_head_J100 rec k109 v1 v2 v3 v5 (1 : Int) s0 σ
set_option maxRecDepth 20000 in
theorem s_X9_head_J95 {rec : Int → Int → Int → Int → Int → st_S → Option (Int × st_S)} {recf : Int → Int → Int → Int → Int → Int → ab_H → Option (Int × ab_H)} {k109 : Int → Int → Int → Int → st_S → Option (Int × st_S)} {kf109 : Int → Int → Int → Int → Int → ab_H → Option (Int × ab_H)} (hrec : ∀ (v1 : Int) (v2 : Int) (v3 : Int) (v4 : Int) (v5 : Int) (σ : st_S) (q : Int × st_S), rec v1 v2 v3 v4 v5 σ = some q → recf ((596 : Nat) : Int) v1 v2 v3 v4 v5 (mk_ σ) = some ((q.1, mk_ q.2))) (hk109 : ∀ (v1 : Int) (v2 : Int) (v3 : Int) (v4 : Int) (σ : st_S) (q : Int × st_S), k109 v1 v2 v3 v4 σ = some q → kf109 ((596 : Nat) : Int) v1 v2 v3 v4 (mk_ σ) = some ((q.1, mk_ q.2))) : ∀ (v1 : Int) (v2 : Int) (v3 : Int) (v5 : Int) (s0 : Int) (σ : st_S) (q : Int × st_S), g_X9_head_J95 rec k109 v1 v2 v3 v5 s0 σ = some q → f_X9_head_J95 recf kf109 ((596 : Nat) : Int) v1 v2 v3 v5 s0 (mk_ σ) = some ((q.1, mk_ q.2)) := by
  intro v1 v2 v3 v5 s0 σ q hk
  unfold g_X9_head_J95 at hk
  unfold f_X9_head_J95
  exact s_X9_head_J100 hrec hk109 _ _ _ _ _ _  _ _ hk
noncomputable def g_X9_head_L43 (k109 : Int → Int → Int → Int → st_S → Option (Int × st_S)) : Nat → Int → Int → Int → Int → Int → st_S → Option (Int × st_S)
  | 0, _, _, _, _, _, _ => none
  | n + 1, v1, v2, v3, v4, v5, σ =>
    if σ 596 16 ≤ v5 then
      k109 v1 v2 v3 v4 σ
    else
    (sa_ld σ 606 72 v5).bind fun t1 =>
    if t1 = v1 then
      if v5 = (0 : Int) then
        g_X9_head_J95 (g_X9_head_L43 k109 n) k109 v1 v2 (ab_w32 (v3 + (1 : Int))) v5 v4 σ
      else
      (sa_ld σ 605 72 (ab_w32 (v5 - (1 : Int)))).bind fun t2 =>
      (sa_ld σ 605 72 v5).bind fun t3 =>
      if t2 = t3 then
        g_X9_head_J100 (g_X9_head_L43 k109 n) k109 v1 v2 (ab_w32 (v3 + (1 : Int))) v5 (0 : Int) v4 σ
      else
      g_X9_head_J95 (g_X9_head_L43 k109 n) k109 v1 v2 (ab_w32 (v3 + (1 : Int))) v5 v4 σ
    else
    g_X9_head_J103 (g_X9_head_L43 k109 n) k109 v1 v2 v3 v4 v5 σ
set_option maxRecDepth 20000 in
theorem s_X9_head_L43 {k109 : Int → Int → Int → Int → st_S → Option (Int × st_S)} {kf109 : Int → Int → Int → Int → Int → ab_H → Option (Int × ab_H)} (hk109 : ∀ (v1 : Int) (v2 : Int) (v3 : Int) (v4 : Int) (σ : st_S) (q : Int × st_S), k109 v1 v2 v3 v4 σ = some q → kf109 ((596 : Nat) : Int) v1 v2 v3 v4 (mk_ σ) = some ((q.1, mk_ q.2))) : ∀ (n : Nat) (v1 : Int) (v2 : Int) (v3 : Int) (v4 : Int) (v5 : Int) (σ : st_S) (q : Int × st_S), g_X9_head_L43 k109 n v1 v2 v3 v4 v5 σ = some q → f_X9_head_L43 kf109 n ((596 : Nat) : Int) v1 v2 v3 v4 v5 (mk_ σ) = some ((q.1, mk_ q.2)) := by
  intro n
  induction n with
  | zero => intro v1 v2 v3 v4 v5 σ q hk; cases hk
  | succ n ih =>
    intro v1 v2 v3 v4 v5 σ q hk
    unfold g_X9_head_L43 at hk
    unfold f_X9_head_L43
    refine mb_get rfl rfl ?_
    by_cases hc : σ 596 16 ≤ v5
    · have hk := ab_ifp hk hc
      refine mb_ifp hc ?_
      exact hk109 _ _ _ _  _ _ hk
    · have hk := ab_ifn hk hc
      refine mb_ifn hc ?_
      refine mb_getR 606 rfl rfl (by decide) ?_
      obtain ⟨t1, ht1, hk⟩ := ab_bnd hk
      refine mb_ald ⟨rfl, rfl, fun _ => rfl⟩ ht1 ?_
      by_cases hc : t1 = v1
      · have hk := ab_ifp hk hc
        refine mb_ifp hc ?_
        by_cases hc : v5 = (0 : Int)
        · have hk := ab_ifp hk hc
          refine mb_ifp hc ?_
          exact s_X9_head_J95 ih hk109 _ _ _ _ _  _ _ hk
        · have hk := ab_ifn hk hc
          refine mb_ifn hc ?_
          refine mb_getR 605 rfl rfl (by decide) ?_
          obtain ⟨t2, ht2, hk⟩ := ab_bnd hk
          refine mb_ald ⟨rfl, rfl, fun _ => rfl⟩ ht2 ?_
          refine mb_getR 605 rfl rfl (by decide) ?_
          obtain ⟨t3, ht3, hk⟩ := ab_bnd hk
          refine mb_ald ⟨rfl, rfl, fun _ => rfl⟩ ht3 ?_
          by_cases hc : t2 = t3
          · have hk := ab_ifp hk hc
            refine mb_ifp hc ?_
            exact s_X9_head_J100 ih hk109 _ _ _ _ _ _  _ _ hk
          · have hk := ab_ifn hk hc
            refine mb_ifn hc ?_
            exact s_X9_head_J95 ih hk109 _ _ _ _ _  _ _ hk
      · have hk := ab_ifn hk hc
        refine mb_ifn hc ?_
        exact s_X9_head_J103 ih hk109 _ _ _ _ _  _ _ hk
noncomputable def g_X9_head (a1 : Int) (a2 : Int) (σ : st_S) : Option (Int × st_S) :=
  (g_X9_lays σ).bind fun q1 =>
  (g_X9_in a1 (0 : Int) (ab_w32 ((q1 596 18) - (1 : Int))) q1).bind fun q2 =>
  if q2.1 = (0 : Int) then
    some ((-2 : Int), q2.2)
  else
  (g_X9_in a2 (0 : Int) (3 : Int) q2.2).bind fun q3 =>
  if q3.1 = (0 : Int) then
    some ((-2 : Int), q3.2)
  else
  g_X9_head_L43 (fun w109_1 w109_2 w109_3 w109_4 σx109 =>
    if w109_2 = (0 : Int) then
      (g_X9_headWord w109_1 σx109).bind fun q6 =>
      some (q6.1, q6.2)
    else
    if w109_2 = (1 : Int) then
      some (w109_4, σx109)
    else
    if w109_2 = (2 : Int) then
      some (w109_3, σx109)
    else
    (g_X9_stringsUnder w109_1 σx109).bind fun q4 =>
    (g_X9_bits q4.1 q4.2).bind fun q5 =>
    some (q5.1, q5.2)) ab_FU a1 a2 (0 : Int) (0 : Int) (0 : Int) q3.2
set_option maxRecDepth 20000 in
theorem s_X9_head {a1 : Int} {a2 : Int} {σ : st_S} {q : Int × st_S} (hk : g_X9_head a1 a2 σ = some q) : f_X9_head ((596 : Nat) : Int) a1 a2 (mk_ σ) = some ((q.1, mk_ q.2)) := by
  unfold g_X9_head at hk
  unfold f_X9_head
  obtain ⟨q1, hq1, hk⟩ := ab_bnd hk
  refine mb_on rfl (s_X9_lays hq1) ?_
  refine mb_get rfl rfl ?_
  obtain ⟨q2, hq2, hk⟩ := ab_bnd hk
  refine mb_eq (s_X9_in hq2) ?_
  by_cases hc : q2.1 = (0 : Int)
  · have hk := ab_ifp hk hc
    refine mb_ifp hc ?_
    obtain rfl := Option.some.inj hk
    rfl
  · have hk := ab_ifn hk hc
    refine mb_ifn hc ?_
    obtain ⟨q3, hq3, hk⟩ := ab_bnd hk
    refine mb_eq (s_X9_in hq3) ?_
    by_cases hc : q3.1 = (0 : Int)
    · have hk := ab_ifp hk hc
      refine mb_ifp hc ?_
      obtain rfl := Option.some.inj hk
      rfl
    · have hk := ab_ifn hk hc
      refine mb_ifn hc ?_
      refine s_X9_head_L43 (fun w109_1 w109_2 w109_3 w109_4 σx109 q hk => ?_) _ _ _ _ _ _  _ _ hk
      · skip
        by_cases hc : w109_2 = (0 : Int)
        · have hk := ab_ifp hk hc
          refine mb_ifp hc ?_
          obtain ⟨q6, hq6, hk⟩ := ab_bnd hk
          refine mb_on rfl (s_X9_headWord hq6) ?_
          obtain rfl := Option.some.inj hk
          rfl
        · have hk := ab_ifn hk hc
          refine mb_ifn hc ?_
          by_cases hc : w109_2 = (1 : Int)
          · have hk := ab_ifp hk hc
            refine mb_ifp hc ?_
            obtain rfl := Option.some.inj hk
            rfl
          · have hk := ab_ifn hk hc
            refine mb_ifn hc ?_
            by_cases hc : w109_2 = (2 : Int)
            · have hk := ab_ifp hk hc
              refine mb_ifp hc ?_
              obtain rfl := Option.some.inj hk
              rfl
            · have hk := ab_ifn hk hc
              refine mb_ifn hc ?_
              obtain ⟨q4, hq4, hk⟩ := ab_bnd hk
              refine mb_on rfl (s_X9_stringsUnder hq4) ?_
              obtain ⟨q5, hq5, hk⟩ := ab_bnd hk
              refine mb_eq (s_X9_bits hq5) ?_
              obtain rfl := Option.some.inj hk
              rfl
noncomputable def g_X9_says (a1 : Int) (σ : st_S) : Option st_S :=
  (sa_st σ 610 400 (σ 596 30) (ab_w8 (ab_w8 a1))).bind fun σ1 =>
  (some (up2 σ1 596 30 (ab_w32 ((σ1 596 30) + (1 : Int))))).bind fun σ2 =>
  some σ2
set_option maxRecDepth 20000 in
theorem s_X9_says {a1 : Int} {σ : st_S} {q : st_S} (hk : g_X9_says a1 σ = some q) : f_X9_says ((596 : Nat) : Int) a1 (mk_ σ) = some (mk_ q) := by
  unfold g_X9_says at hk
  unfold f_X9_says
  refine mb_getR 610 rfl rfl (by decide) ?_
  refine mb_get rfl rfl ?_
  obtain ⟨σ1, hσ1, hk⟩ := ab_bnd hk
  refine mb_ast ⟨rfl, rfl, fun _ => rfl⟩ hσ1 ?_
  refine mb_get rfl rfl ?_
  obtain ⟨σ2, hσ2, hk⟩ := ab_bnd hk
  refine mb_put rfl rfl hσ2 ?_
  obtain rfl := Option.some.inj hk
  rfl
noncomputable def g_X9_saysWord_J30 (rec : Int → Int → st_S → Option st_S) (v1 : Int) (v3 : Int) (σ : st_S) : Option st_S :=
  rec v1 (ab_w32 (v3 + (1 : Int))) σ
set_option maxRecDepth 20000 in
theorem s_X9_saysWord_J30 {rec : Int → Int → st_S → Option st_S} {recf : Int → Int → Int → ab_H → Option ab_H} (hrec : ∀ (v1 : Int) (v3 : Int) (σ : st_S) (q : st_S), rec v1 v3 σ = some q → recf ((596 : Nat) : Int) v1 v3 (mk_ σ) = some (mk_ q)) : ∀ (v1 : Int) (v3 : Int) (σ : st_S) (q : st_S), g_X9_saysWord_J30 rec v1 v3 σ = some q → f_X9_saysWord_J30 recf ((596 : Nat) : Int) v1 v3 (mk_ σ) = some (mk_ q) := by
  intro v1 v3 σ q hk
  unfold g_X9_saysWord_J30 at hk
  unfold f_X9_saysWord_J30
  exact hrec _ _  _ _ hk
noncomputable def g_X9_saysWord_L2 : Nat → Int → Int → st_S → Option st_S
  | 0, _, _, _ => none
  | n + 1, v1, v3, σ =>
    if (7 : Int) ≤ v3 then
      some σ
    else
    (g_X9_letterOf v1 v3 σ).bind fun q1 =>
    if q1.1 ≤ (0 : Int) then
      g_X9_saysWord_J30 (g_X9_saysWord_L2 n) v1 v3 q1.2
    else
    (g_X9_letterOf v1 v3 q1.2).bind fun q2 =>
    (g_X9_says (ab_w32 ((ab_w32 ((97 : Int) + q2.1)) - (1 : Int))) q2.2).bind fun q3 =>
    g_X9_saysWord_J30 (g_X9_saysWord_L2 n) v1 v3 q3
set_option maxRecDepth 20000 in
theorem s_X9_saysWord_L2 : ∀ (n : Nat) (v1 : Int) (v3 : Int) (σ : st_S) (q : st_S), g_X9_saysWord_L2 n v1 v3 σ = some q → f_X9_saysWord_L2 n ((596 : Nat) : Int) v1 v3 (mk_ σ) = some (mk_ q) := by
  intro n
  induction n with
  | zero => intro v1 v3 σ q hk; cases hk
  | succ n ih =>
    intro v1 v3 σ q hk
    unfold g_X9_saysWord_L2 at hk
    unfold f_X9_saysWord_L2
    by_cases hc : (7 : Int) ≤ v3
    · have hk := ab_ifp hk hc
      refine mb_ifp hc ?_
      obtain rfl := Option.some.inj hk
      rfl
    · have hk := ab_ifn hk hc
      refine mb_ifn hc ?_
      obtain ⟨q1, hq1, hk⟩ := ab_bnd hk
      refine mb_eq (s_X9_letterOf hq1) ?_
      by_cases hc : q1.1 ≤ (0 : Int)
      · have hk := ab_ifp hk hc
        refine mb_ifp hc ?_
        exact s_X9_saysWord_J30 ih _ _  _ _ hk
      · have hk := ab_ifn hk hc
        refine mb_ifn hc ?_
        obtain ⟨q2, hq2, hk⟩ := ab_bnd hk
        refine mb_eq (s_X9_letterOf hq2) ?_
        obtain ⟨q3, hq3, hk⟩ := ab_bnd hk
        refine mb_on rfl (s_X9_says hq3) ?_
        exact s_X9_saysWord_J30 ih _ _  _ _ hk
noncomputable def g_X9_saysWord (a1 : Int) (σ : st_S) : Option st_S :=
  g_X9_saysWord_L2 ab_FU a1 (0 : Int) σ
set_option maxRecDepth 20000 in
theorem s_X9_saysWord {a1 : Int} {σ : st_S} {q : st_S} (hk : g_X9_saysWord a1 σ = some q) : f_X9_saysWord ((596 : Nat) : Int) a1 (mk_ σ) = some (mk_ q) := by
  unfold g_X9_saysWord at hk
  unfold f_X9_saysWord
  refine s_X9_saysWord_L2 _ _ _  _ _ hk
noncomputable def g_X9_saysNumber_L18 : Nat → Int → Int → st_S → Option st_S
  | 0, _, _, _ => none
  | n + 1, v1, v2, σ =>
    if v2 ≤ (0 : Int) then
      some σ
    else
    (ab_dv v1 v2).bind fun t1 =>
    (ab_rm_ t1 (10 : Int)).bind fun t2 =>
    (g_X9_says (ab_w32 ((48 : Int) + t2)) σ).bind fun q3 =>
    (ab_dv v2 (10 : Int)).bind fun t4 =>
    g_X9_saysNumber_L18 n v1 t4 q3
set_option maxRecDepth 20000 in
theorem s_X9_saysNumber_L18 : ∀ (n : Nat) (v1 : Int) (v2 : Int) (σ : st_S) (q : st_S), g_X9_saysNumber_L18 n v1 v2 σ = some q → f_X9_saysNumber_L18 n ((596 : Nat) : Int) v1 v2 (mk_ σ) = some (mk_ q) := by
  intro n
  induction n with
  | zero => intro v1 v2 σ q hk; cases hk
  | succ n ih =>
    intro v1 v2 σ q hk
    unfold g_X9_saysNumber_L18 at hk
    unfold f_X9_saysNumber_L18
    by_cases hc : v2 ≤ (0 : Int)
    · have hk := ab_ifp hk hc
      refine mb_ifp hc ?_
      obtain rfl := Option.some.inj hk
      rfl
    · have hk := ab_ifn hk hc
      refine mb_ifn hc ?_
      obtain ⟨t1, ht1, hk⟩ := ab_bnd hk
      refine mb_eq ht1 ?_
      obtain ⟨t2, ht2, hk⟩ := ab_bnd hk
      refine mb_eq ht2 ?_
      obtain ⟨q3, hq3, hk⟩ := ab_bnd hk
      refine mb_on rfl (s_X9_says hq3) ?_
      obtain ⟨t4, ht4, hk⟩ := ab_bnd hk
      refine mb_eq ht4 ?_
      exact ih _ _  _ _ hk
noncomputable def g_X9_saysNumber_L2 (k18 : Int → Int → st_S → Option st_S) : Nat → Int → Int → st_S → Option st_S
  | 0, _, _, _ => none
  | n + 1, v1, v2, σ =>
    (ab_dv v1 v2).bind fun t1 =>
    if t1 < (10 : Int) then
      k18 v1 v2 σ
    else
    g_X9_saysNumber_L2 k18 n v1 (ab_w32 (v2 * (10 : Int))) σ
set_option maxRecDepth 20000 in
theorem s_X9_saysNumber_L2 {k18 : Int → Int → st_S → Option st_S} {kf18 : Int → Int → Int → ab_H → Option ab_H} (hk18 : ∀ (v1 : Int) (v2 : Int) (σ : st_S) (q : st_S), k18 v1 v2 σ = some q → kf18 ((596 : Nat) : Int) v1 v2 (mk_ σ) = some (mk_ q)) : ∀ (n : Nat) (v1 : Int) (v2 : Int) (σ : st_S) (q : st_S), g_X9_saysNumber_L2 k18 n v1 v2 σ = some q → f_X9_saysNumber_L2 kf18 n ((596 : Nat) : Int) v1 v2 (mk_ σ) = some (mk_ q) := by
  intro n
  induction n with
  | zero => intro v1 v2 σ q hk; cases hk
  | succ n ih =>
    intro v1 v2 σ q hk
    unfold g_X9_saysNumber_L2 at hk
    unfold f_X9_saysNumber_L2
    obtain ⟨t1, ht1, hk⟩ := ab_bnd hk
    refine mb_eq ht1 ?_
    by_cases hc : t1 < (10 : Int)
    · have hk := ab_ifp hk hc
      refine mb_ifp hc ?_
      exact hk18 _ _  _ _ hk
    · have hk := ab_ifn hk hc
      refine mb_ifn hc ?_
      exact ih _ _  _ _ hk
noncomputable def g_X9_saysNumber (a1 : Int) (σ : st_S) : Option st_S :=
  g_X9_saysNumber_L2 (fun w18_1 w18_2 σx18 =>
    g_X9_saysNumber_L18 ab_FU w18_1 w18_2 σx18) ab_FU a1 (1 : Int) σ
set_option maxRecDepth 20000 in
theorem s_X9_saysNumber {a1 : Int} {σ : st_S} {q : st_S} (hk : g_X9_saysNumber a1 σ = some q) : f_X9_saysNumber ((596 : Nat) : Int) a1 (mk_ σ) = some (mk_ q) := by
  unfold g_X9_saysNumber at hk
  unfold f_X9_saysNumber
  refine s_X9_saysNumber_L2 (fun w18_1 w18_2 σx18 q hk => ?_) _ _ _  _ _ hk
  · skip
    refine s_X9_saysNumber_L18 _ _ _  _ _ hk
noncomputable def g_X9_joinOf (a1 : Int) (a2 : Int) (σ : st_S) : Option (Int × st_S) :=
  (ab_dv a1 (6 : Int)).bind fun t1 =>
  (ab_rm_ a1 (6 : Int)).bind fun t2 =>
  (g_X9_termAt t1 t2 σ).bind fun q3 =>
  (sa_ld q3.2 597 416 (ab_w32 (q3.1 + a2))).bind fun t4 =>
  (g_X9_usedOf 597 t4 q3.2).bind fun q5 =>
  some (q5.1, q5.2)
set_option maxRecDepth 20000 in
theorem s_X9_joinOf {a1 : Int} {a2 : Int} {σ : st_S} {q : Int × st_S} (hk : g_X9_joinOf a1 a2 σ = some q) : f_X9_joinOf ((596 : Nat) : Int) a1 a2 (mk_ σ) = some ((q.1, mk_ q.2)) := by
  unfold g_X9_joinOf at hk
  unfold f_X9_joinOf
  refine mb_getR 597 rfl rfl (by decide) ?_
  refine mb_getR 597 rfl rfl (by decide) ?_
  obtain ⟨t1, ht1, hk⟩ := ab_bnd hk
  refine mb_eq ht1 ?_
  obtain ⟨t2, ht2, hk⟩ := ab_bnd hk
  refine mb_eq ht2 ?_
  obtain ⟨q3, hq3, hk⟩ := ab_bnd hk
  refine mb_eq (s_X9_termAt hq3) ?_
  obtain ⟨t4, ht4, hk⟩ := ab_bnd hk
  refine mb_ald ⟨rfl, rfl, fun _ => rfl⟩ ht4 ?_
  obtain ⟨q5, hq5, hk⟩ := ab_bnd hk
  refine mb_eq (s_X9_usedOf ⟨rfl, rfl, fun _ => rfl⟩ hq5) ?_
  obtain rfl := Option.some.inj hk
  rfl
noncomputable def g_X9_prints_L239 : Nat → Int → Int → Int → st_S → Option st_S
  | 0, _, _, _, _ => none
  | n + 1, v1, v3, v4, σ =>
    if v4 = (-1 : Int) then
      some σ
    else
    (g_X9_says v3 σ).bind fun q1 =>
    (g_X9_saysNumber v4 q1).bind fun q2 =>
    (g_X9_addressAbove v1 v4 q2).bind fun q3 =>
    g_X9_prints_L239 n v1 (44 : Int) q3.1 q3.2
set_option maxRecDepth 20000 in
theorem s_X9_prints_L239 : ∀ (n : Nat) (v1 : Int) (v3 : Int) (v4 : Int) (σ : st_S) (q : st_S), g_X9_prints_L239 n v1 v3 v4 σ = some q → f_X9_prints_L239 n ((596 : Nat) : Int) v1 v3 v4 (mk_ σ) = some (mk_ q) := by
  intro n
  induction n with
  | zero => intro v1 v3 v4 σ q hk; cases hk
  | succ n ih =>
    intro v1 v3 v4 σ q hk
    unfold g_X9_prints_L239 at hk
    unfold f_X9_prints_L239
    by_cases hc : v4 = (-1 : Int)
    · have hk := ab_ifp hk hc
      refine mb_ifp hc ?_
      obtain rfl := Option.some.inj hk
      rfl
    · have hk := ab_ifn hk hc
      refine mb_ifn hc ?_
      obtain ⟨q1, hq1, hk⟩ := ab_bnd hk
      refine mb_on rfl (s_X9_says hq1) ?_
      obtain ⟨q2, hq2, hk⟩ := ab_bnd hk
      refine mb_on rfl (s_X9_saysNumber hq2) ?_
      obtain ⟨q3, hq3, hk⟩ := ab_bnd hk
      refine mb_on rfl (s_X9_addressAbove hq3) ?_
      exact ih _ _ _  _ _ hk
noncomputable def g_X9_prints_J206 (rec : Int → Int → Int → st_S → Option st_S) (k228 : Int → st_S → Option st_S) (v1 : Int) (v2 : Int) (v3 : Int) (v4 : Int) (σ : st_S) : Option st_S :=
  (sa_ld σ 601 72 v4).bind fun t1 =>
  (sa_ld σ 600 72 t1).bind fun t2 =>
  (g_X9_saysWord t2 σ).bind fun q3 =>
  rec v1 v2 (ab_w32 (v3 + (1 : Int))) q3
set_option maxRecDepth 20000 in
theorem s_X9_prints_J206 {rec : Int → Int → Int → st_S → Option st_S} {recf : Int → Int → Int → Int → ab_H → Option ab_H} {k228 : Int → st_S → Option st_S} {kf228 : Int → Int → ab_H → Option ab_H} (hrec : ∀ (v1 : Int) (v2 : Int) (v3 : Int) (σ : st_S) (q : st_S), rec v1 v2 v3 σ = some q → recf ((596 : Nat) : Int) v1 v2 v3 (mk_ σ) = some (mk_ q)) (hk228 : ∀ (v1 : Int) (σ : st_S) (q : st_S), k228 v1 σ = some q → kf228 ((596 : Nat) : Int) v1 (mk_ σ) = some (mk_ q)) : ∀ (v1 : Int) (v2 : Int) (v3 : Int) (v4 : Int) (σ : st_S) (q : st_S), g_X9_prints_J206 rec k228 v1 v2 v3 v4 σ = some q → f_X9_prints_J206 recf kf228 ((596 : Nat) : Int) v1 v2 v3 v4 (mk_ σ) = some (mk_ q) := by
  intro v1 v2 v3 v4 σ q hk
  unfold g_X9_prints_J206 at hk
  unfold f_X9_prints_J206
  refine mb_getR 600 rfl rfl (by decide) ?_
  refine mb_getR 601 rfl rfl (by decide) ?_
  obtain ⟨t1, ht1, hk⟩ := ab_bnd hk
  refine mb_ald ⟨rfl, rfl, fun _ => rfl⟩ ht1 ?_
  obtain ⟨t2, ht2, hk⟩ := ab_bnd hk
  refine mb_ald ⟨rfl, rfl, fun _ => rfl⟩ ht2 ?_
  obtain ⟨q3, hq3, hk⟩ := ab_bnd hk
  refine mb_on rfl (s_X9_saysWord hq3) ?_
  exact hrec _ _ _  _ _ hk
noncomputable def g_X9_prints_J168 (rec : Int → Int → Int → st_S → Option st_S) (k228 : Int → st_S → Option st_S) (v1 : Int) (v2 : Int) (v3 : Int) (v4 : Int) (s1 : Int) (σ : st_S) : Option st_S :=
  (g_X9_says s1 σ).bind fun q1 =>
  (g_X9_says (32 : Int) q1).bind fun q2 =>
  (g_X9_joinOf v4 (3 : Int) q2).bind fun q3 =>
  (g_X9_saysWord q3.1 q3.2).bind fun q4 =>
  (g_X9_joinOf v4 (3 : Int) q4).bind fun q5 =>
  if ab_cmp q5.1 (0 : Int) = (0 : Int) then
    g_X9_prints_J206 rec k228 v1 v2 v3 v4 q5.2
  else
  (g_X9_says (32 : Int) q5.2).bind fun q6 =>
  g_X9_prints_J206 rec k228 v1 v2 v3 v4 q6
set_option maxRecDepth 20000 in
theorem s_X9_prints_J168 {rec : Int → Int → Int → st_S → Option st_S} {recf : Int → Int → Int → Int → ab_H → Option ab_H} {k228 : Int → st_S → Option st_S} {kf228 : Int → Int → ab_H → Option ab_H} (hrec : ∀ (v1 : Int) (v2 : Int) (v3 : Int) (σ : st_S) (q : st_S), rec v1 v2 v3 σ = some q → recf ((596 : Nat) : Int) v1 v2 v3 (mk_ σ) = some (mk_ q)) (hk228 : ∀ (v1 : Int) (σ : st_S) (q : st_S), k228 v1 σ = some q → kf228 ((596 : Nat) : Int) v1 (mk_ σ) = some (mk_ q)) : ∀ (v1 : Int) (v2 : Int) (v3 : Int) (v4 : Int) (s1 : Int) (σ : st_S) (q : st_S), g_X9_prints_J168 rec k228 v1 v2 v3 v4 s1 σ = some q → f_X9_prints_J168 recf kf228 ((596 : Nat) : Int) v1 v2 v3 v4 s1 ((596 : Nat) : Int) (mk_ σ) = some (mk_ q) := by
  intro v1 v2 v3 v4 s1 σ q hk
  unfold g_X9_prints_J168 at hk
  unfold f_X9_prints_J168
  obtain ⟨q1, hq1, hk⟩ := ab_bnd hk
  refine mb_on rfl (s_X9_says hq1) ?_
  obtain ⟨q2, hq2, hk⟩ := ab_bnd hk
  refine mb_on rfl (s_X9_says hq2) ?_
  obtain ⟨q3, hq3, hk⟩ := ab_bnd hk
  refine mb_on rfl (s_X9_joinOf hq3) ?_
  obtain ⟨q4, hq4, hk⟩ := ab_bnd hk
  refine mb_on rfl (s_X9_saysWord hq4) ?_
  obtain ⟨q5, hq5, hk⟩ := ab_bnd hk
  refine mb_on rfl (s_X9_joinOf hq5) ?_
  by_cases hc : ab_cmp q5.1 (0 : Int) = (0 : Int)
  · have hk := ab_ifp hk hc
    refine mb_ifp hc ?_
    exact s_X9_prints_J206 hrec hk228 _ _ _ _  _ _ hk
  · have hk := ab_ifn hk hc
    refine mb_ifn hc ?_
    obtain ⟨q6, hq6, hk⟩ := ab_bnd hk
    refine mb_on rfl (s_X9_says hq6) ?_
    exact s_X9_prints_J206 hrec hk228 _ _ _ _  _ _ hk
noncomputable def g_X9_prints_L123 (k228 : Int → st_S → Option st_S) : Nat → Int → Int → Int → st_S → Option st_S
  | 0, _, _, _, _ => none
  | n + 1, v1, v2, v3, σ =>
    (sa_ld σ 607 864 (ab_w32 ((ab_w32 ((12 : Int) * v2)) + (6 : Int)))).bind fun t1 =>
    if t1 < v3 then
      k228 v1 σ
    else
    (sa_ld σ 607 864 (ab_w32 ((ab_w32 ((ab_w32 ((12 : Int) * v2)) + (6 : Int))) + v3))).bind fun t2 =>
    if v3 = (1 : Int) then
      g_X9_prints_J168 (g_X9_prints_L123 k228 n) k228 v1 v2 v3 t2 (58 : Int) σ
    else
    g_X9_prints_J168 (g_X9_prints_L123 k228 n) k228 v1 v2 v3 t2 (46 : Int) σ
set_option maxRecDepth 20000 in
theorem s_X9_prints_L123 {k228 : Int → st_S → Option st_S} {kf228 : Int → Int → ab_H → Option ab_H} (hk228 : ∀ (v1 : Int) (σ : st_S) (q : st_S), k228 v1 σ = some q → kf228 ((596 : Nat) : Int) v1 (mk_ σ) = some (mk_ q)) : ∀ (n : Nat) (v1 : Int) (v2 : Int) (v3 : Int) (σ : st_S) (q : st_S), g_X9_prints_L123 k228 n v1 v2 v3 σ = some q → f_X9_prints_L123 kf228 n ((596 : Nat) : Int) v1 v2 v3 (mk_ σ) = some (mk_ q) := by
  intro n
  induction n with
  | zero => intro v1 v2 v3 σ q hk; cases hk
  | succ n ih =>
    intro v1 v2 v3 σ q hk
    unfold g_X9_prints_L123 at hk
    unfold f_X9_prints_L123
    refine mb_getR 607 rfl rfl (by decide) ?_
    obtain ⟨t1, ht1, hk⟩ := ab_bnd hk
    refine mb_ald ⟨rfl, rfl, fun _ => rfl⟩ ht1 ?_
    by_cases hc : t1 < v3
    · have hk := ab_ifp hk hc
      refine mb_ifp hc ?_
      exact hk228 _  _ _ hk
    · have hk := ab_ifn hk hc
      refine mb_ifn hc ?_
      refine mb_getR 607 rfl rfl (by decide) ?_
      obtain ⟨t2, ht2, hk⟩ := ab_bnd hk
      refine mb_ald ⟨rfl, rfl, fun _ => rfl⟩ ht2 ?_
      by_cases hc : v3 = (1 : Int)
      · have hk := ab_ifp hk hc
        refine mb_ifp hc ?_
        exact s_X9_prints_J168 ih hk228 _ _ _ _ _  _ _ hk
      · have hk := ab_ifn hk hc
        refine mb_ifn hc ?_
        exact s_X9_prints_J168 ih hk228 _ _ _ _ _  _ _ hk
noncomputable def g_X9_prints_J104 (rec : Int → Int → Int → st_S → Option st_S) (k121 : Int → Int → st_S → Option st_S) (v1 : Int) (v2 : Int) (v3 : Int) (v4 : Int) (σ : st_S) : Option st_S :=
  (g_X9_joinOf v4 (4 : Int) σ).bind fun q1 =>
  (g_X9_saysWord q1.1 q1.2).bind fun q2 =>
  rec v1 v2 (ab_w32 (v3 + (1 : Int))) q2
set_option maxRecDepth 20000 in
theorem s_X9_prints_J104 {rec : Int → Int → Int → st_S → Option st_S} {recf : Int → Int → Int → Int → ab_H → Option ab_H} {k121 : Int → Int → st_S → Option st_S} {kf121 : Int → Int → Int → ab_H → Option ab_H} (hrec : ∀ (v1 : Int) (v2 : Int) (v3 : Int) (σ : st_S) (q : st_S), rec v1 v2 v3 σ = some q → recf ((596 : Nat) : Int) v1 v2 v3 (mk_ σ) = some (mk_ q)) (hk121 : ∀ (v1 : Int) (v2 : Int) (σ : st_S) (q : st_S), k121 v1 v2 σ = some q → kf121 ((596 : Nat) : Int) v1 v2 (mk_ σ) = some (mk_ q)) : ∀ (v1 : Int) (v2 : Int) (v3 : Int) (v4 : Int) (σ : st_S) (q : st_S), g_X9_prints_J104 rec k121 v1 v2 v3 v4 σ = some q → f_X9_prints_J104 recf kf121 ((596 : Nat) : Int) v1 v2 v3 v4 (mk_ σ) = some (mk_ q) := by
  intro v1 v2 v3 v4 σ q hk
  unfold g_X9_prints_J104 at hk
  unfold f_X9_prints_J104
  obtain ⟨q1, hq1, hk⟩ := ab_bnd hk
  refine mb_on rfl (s_X9_joinOf hq1) ?_
  obtain ⟨q2, hq2, hk⟩ := ab_bnd hk
  refine mb_on rfl (s_X9_saysWord hq2) ?_
  exact hrec _ _ _  _ _ hk
noncomputable def g_X9_prints_L32 (k121 : Int → Int → st_S → Option st_S) : Nat → Int → Int → Int → st_S → Option st_S
  | 0, _, _, _, _ => none
  | n + 1, v1, v2, v3, σ =>
    (sa_ld σ 607 864 (ab_w32 ((12 : Int) * v2))).bind fun t1 =>
    if t1 < v3 then
      k121 v1 v2 σ
    else
    (sa_ld σ 607 864 (ab_w32 ((ab_w32 ((12 : Int) * v2)) + v3))).bind fun t2 =>
    (g_X9_says (44 : Int) σ).bind fun q3 =>
    (g_X9_says (32 : Int) q3).bind fun q4 =>
    (sa_ld q4 601 72 t2).bind fun t5 =>
    (sa_ld q4 600 72 t5).bind fun t6 =>
    (g_X9_saysWord t6 q4).bind fun q7 =>
    (g_X9_joinOf t2 (4 : Int) q7).bind fun q8 =>
    if ab_cmp q8.1 (0 : Int) = (0 : Int) then
      g_X9_prints_J104 (g_X9_prints_L32 k121 n) k121 v1 v2 v3 t2 q8.2
    else
    (g_X9_says (32 : Int) q8.2).bind fun q9 =>
    g_X9_prints_J104 (g_X9_prints_L32 k121 n) k121 v1 v2 v3 t2 q9
set_option maxRecDepth 20000 in
theorem s_X9_prints_L32 {k121 : Int → Int → st_S → Option st_S} {kf121 : Int → Int → Int → ab_H → Option ab_H} (hk121 : ∀ (v1 : Int) (v2 : Int) (σ : st_S) (q : st_S), k121 v1 v2 σ = some q → kf121 ((596 : Nat) : Int) v1 v2 (mk_ σ) = some (mk_ q)) : ∀ (n : Nat) (v1 : Int) (v2 : Int) (v3 : Int) (σ : st_S) (q : st_S), g_X9_prints_L32 k121 n v1 v2 v3 σ = some q → f_X9_prints_L32 kf121 n ((596 : Nat) : Int) v1 v2 v3 (mk_ σ) = some (mk_ q) := by
  intro n
  induction n with
  | zero => intro v1 v2 v3 σ q hk; cases hk
  | succ n ih =>
    intro v1 v2 v3 σ q hk
    unfold g_X9_prints_L32 at hk
    unfold f_X9_prints_L32
    refine mb_getR 607 rfl rfl (by decide) ?_
    obtain ⟨t1, ht1, hk⟩ := ab_bnd hk
    refine mb_ald ⟨rfl, rfl, fun _ => rfl⟩ ht1 ?_
    by_cases hc : t1 < v3
    · have hk := ab_ifp hk hc
      refine mb_ifp hc ?_
      exact hk121 _ _  _ _ hk
    · have hk := ab_ifn hk hc
      refine mb_ifn hc ?_
      refine mb_getR 607 rfl rfl (by decide) ?_
      obtain ⟨t2, ht2, hk⟩ := ab_bnd hk
      refine mb_ald ⟨rfl, rfl, fun _ => rfl⟩ ht2 ?_
      obtain ⟨q3, hq3, hk⟩ := ab_bnd hk
      refine mb_on rfl (s_X9_says hq3) ?_
      obtain ⟨q4, hq4, hk⟩ := ab_bnd hk
      refine mb_on rfl (s_X9_says hq4) ?_
      refine mb_getR 600 rfl rfl (by decide) ?_
      refine mb_getR 601 rfl rfl (by decide) ?_
      obtain ⟨t5, ht5, hk⟩ := ab_bnd hk
      refine mb_ald ⟨rfl, rfl, fun _ => rfl⟩ ht5 ?_
      obtain ⟨t6, ht6, hk⟩ := ab_bnd hk
      refine mb_ald ⟨rfl, rfl, fun _ => rfl⟩ ht6 ?_
      obtain ⟨q7, hq7, hk⟩ := ab_bnd hk
      refine mb_on rfl (s_X9_saysWord hq7) ?_
      obtain ⟨q8, hq8, hk⟩ := ab_bnd hk
      refine mb_on rfl (s_X9_joinOf hq8) ?_
      by_cases hc : ab_cmp q8.1 (0 : Int) = (0 : Int)
      · have hk := ab_ifp hk hc
        refine mb_ifp hc ?_
        exact s_X9_prints_J104 ih hk121 _ _ _ _  _ _ hk
      · have hk := ab_ifn hk hc
        refine mb_ifn hc ?_
        obtain ⟨q9, hq9, hk⟩ := ab_bnd hk
        refine mb_on rfl (s_X9_says hq9) ?_
        exact s_X9_prints_J104 ih hk121 _ _ _ _  _ _ hk
noncomputable def g_X9_prints (a1 : Int) (σ : st_S) : Option st_S :=
  (g_X9_firstOf a1 σ).bind fun q1 =>
  (sa_ld q1.2 608 72 q1.1).bind fun t2 =>
  (some (up2 q1.2 596 30 (0 : Int))).bind fun σ1 =>
  (g_X9_leadWord t2 σ1).bind fun q3 =>
  (sa_ld q3.2 600 72 q3.1).bind fun t4 =>
  (g_X9_saysWord t4 q3.2).bind fun q5 =>
  g_X9_prints_L32 (fun w121_1 w121_2 σx121 =>
    g_X9_prints_L123 (fun w228_1 σx228 =>
      (g_X9_addressAbove w228_1 (-1 : Int) σx228).bind fun q6 =>
      g_X9_prints_L239 ab_FU w228_1 (32 : Int) q6.1 q6.2) ab_FU w121_1 w121_2 (1 : Int) σx121) ab_FU a1 t2 (1 : Int) q5
set_option maxRecDepth 20000 in
theorem s_X9_prints {a1 : Int} {σ : st_S} {q : st_S} (hk : g_X9_prints a1 σ = some q) : f_X9_prints ((596 : Nat) : Int) a1 (mk_ σ) = some (mk_ q) := by
  unfold g_X9_prints at hk
  unfold f_X9_prints
  refine mb_getR 608 rfl rfl (by decide) ?_
  obtain ⟨q1, hq1, hk⟩ := ab_bnd hk
  refine mb_on rfl (s_X9_firstOf hq1) ?_
  obtain ⟨t2, ht2, hk⟩ := ab_bnd hk
  refine mb_ald ⟨rfl, rfl, fun _ => rfl⟩ ht2 ?_
  obtain ⟨σ1, hσ1, hk⟩ := ab_bnd hk
  refine mb_put rfl rfl hσ1 ?_
  refine mb_getR 600 rfl rfl (by decide) ?_
  obtain ⟨q3, hq3, hk⟩ := ab_bnd hk
  refine mb_on rfl (s_X9_leadWord hq3) ?_
  obtain ⟨t4, ht4, hk⟩ := ab_bnd hk
  refine mb_ald ⟨rfl, rfl, fun _ => rfl⟩ ht4 ?_
  obtain ⟨q5, hq5, hk⟩ := ab_bnd hk
  refine mb_on rfl (s_X9_saysWord hq5) ?_
  refine s_X9_prints_L32 (fun w121_1 w121_2 σx121 q hk => ?_) _ _ _ _  _ _ hk
  · skip
    refine s_X9_prints_L123 (fun w228_1 σx228 q hk => ?_) _ _ _ _  _ _ hk
    · skip
      obtain ⟨q6, hq6, hk⟩ := ab_bnd hk
      refine mb_on rfl (s_X9_addressAbove hq6) ?_
      refine s_X9_prints_L239 _ _ _ _  _ _ hk
noncomputable def g_X9_comesOut_L2 (k33 : st_S → Option st_S) : Nat → Int → st_S → Option st_S
  | 0, _, _ => none
  | n + 1, v1, σ =>
    if σ 596 30 ≤ v1 then
      k33 σ
    else
    (sa_ld σ 610 400 v1).bind fun t1 =>
    (sa_st σ 609 2000 (ab_w32 ((σ 596 28) + v1)) (ab_w8 t1)).bind fun σ1 =>
    g_X9_comesOut_L2 k33 n (ab_w32 (v1 + (1 : Int))) σ1
set_option maxRecDepth 20000 in
theorem s_X9_comesOut_L2 {k33 : st_S → Option st_S} {kf33 : Int → ab_H → Option ab_H} (hk33 : ∀ (σ : st_S) (q : st_S), k33 σ = some q → kf33 ((596 : Nat) : Int) (mk_ σ) = some (mk_ q)) : ∀ (n : Nat) (v1 : Int) (σ : st_S) (q : st_S), g_X9_comesOut_L2 k33 n v1 σ = some q → f_X9_comesOut_L2 kf33 n ((596 : Nat) : Int) v1 (mk_ σ) = some (mk_ q) := by
  intro n
  induction n with
  | zero => intro v1 σ q hk; cases hk
  | succ n ih =>
    intro v1 σ q hk
    unfold g_X9_comesOut_L2 at hk
    unfold f_X9_comesOut_L2
    refine mb_get rfl rfl ?_
    by_cases hc : σ 596 30 ≤ v1
    · have hk := ab_ifp hk hc
      refine mb_ifp hc ?_
      exact hk33  _ _ hk
    · have hk := ab_ifn hk hc
      refine mb_ifn hc ?_
      refine mb_getR 609 rfl rfl (by decide) ?_
      refine mb_get rfl rfl ?_
      refine mb_getR 610 rfl rfl (by decide) ?_
      obtain ⟨t1, ht1, hk⟩ := ab_bnd hk
      refine mb_ald ⟨rfl, rfl, fun _ => rfl⟩ ht1 ?_
      obtain ⟨σ1, hσ1, hk⟩ := ab_bnd hk
      refine mb_ast ⟨rfl, rfl, fun _ => rfl⟩ hσ1 ?_
      exact ih _  _ _ hk
noncomputable def g_X9_comesOut (σ : st_S) : Option st_S :=
  g_X9_comesOut_L2 (fun σx33 =>
    (some (up2 σx33 596 28 (ab_w32 ((σx33 596 28) + (σx33 596 30))))).bind fun σ1 =>
    some σ1) ab_FU (0 : Int) σ
set_option maxRecDepth 20000 in
theorem s_X9_comesOut {σ : st_S} {q : st_S} (hk : g_X9_comesOut σ = some q) : f_X9_comesOut ((596 : Nat) : Int) (mk_ σ) = some (mk_ q) := by
  unfold g_X9_comesOut at hk
  unfold f_X9_comesOut
  refine s_X9_comesOut_L2 (fun σx33 q hk => ?_) _ _  _ _ hk
  · skip
    refine mb_get rfl rfl ?_
    refine mb_get rfl rfl ?_
    obtain ⟨σ1, hσ1, hk⟩ := ab_bnd hk
    refine mb_put rfl rfl hσ1 ?_
    obtain rfl := Option.some.inj hk
    rfl
noncomputable def g_X9_print (a1 : Int) (σ : st_S) : Option (Int × st_S) :=
  (g_X9_isLineNow a1 σ).bind fun q1 =>
  if q1.1 = (0 : Int) then
    some ((-2 : Int), q1.2)
  else
  (g_X9_prints a1 q1.2).bind fun q2 =>
  (some (up2 q2 596 28 (0 : Int))).bind fun σ1 =>
  (g_X9_comesOut σ1).bind fun q3 =>
  some (q3 596 28, q3)
set_option maxRecDepth 20000 in
theorem s_X9_print {a1 : Int} {σ : st_S} {q : Int × st_S} (hk : g_X9_print a1 σ = some q) : f_X9_print ((596 : Nat) : Int) a1 (mk_ σ) = some ((q.1, mk_ q.2)) := by
  unfold g_X9_print at hk
  unfold f_X9_print
  obtain ⟨q1, hq1, hk⟩ := ab_bnd hk
  refine mb_on rfl (s_X9_isLineNow hq1) ?_
  by_cases hc : q1.1 = (0 : Int)
  · have hk := ab_ifp hk hc
    refine mb_ifp hc ?_
    obtain rfl := Option.some.inj hk
    rfl
  · have hk := ab_ifn hk hc
    refine mb_ifn hc ?_
    obtain ⟨q2, hq2, hk⟩ := ab_bnd hk
    refine mb_on rfl (s_X9_prints hq2) ?_
    obtain ⟨σ1, hσ1, hk⟩ := ab_bnd hk
    refine mb_put rfl rfl hσ1 ?_
    obtain ⟨q3, hq3, hk⟩ := ab_bnd hk
    refine mb_on rfl (s_X9_comesOut hq3) ?_
    refine mb_get rfl rfl ?_
    obtain rfl := Option.some.inj hk
    rfl
noncomputable def g_X9_printAll_L11 : Nat → Int → st_S → Option (Int × st_S)
  | 0, _, _ => none
  | n + 1, v1, σ =>
    if σ 596 17 ≤ v1 then
      some (σ 596 17, σ)
    else
    (g_X9_prints v1 σ).bind fun q1 =>
    (g_X9_says (10 : Int) q1).bind fun q2 =>
    if ab_w32 ((q2 596 28) + (q2 596 30)) ≤ (2000 : Int) then
      (g_X9_comesOut q2).bind fun q3 =>
      g_X9_printAll_L11 n (ab_w32 (v1 + (1 : Int))) q3
    else
    some (v1, q2)
set_option maxRecDepth 20000 in
theorem s_X9_printAll_L11 : ∀ (n : Nat) (v1 : Int) (σ : st_S) (q : Int × st_S), g_X9_printAll_L11 n v1 σ = some q → f_X9_printAll_L11 n ((596 : Nat) : Int) v1 (mk_ σ) = some ((q.1, mk_ q.2)) := by
  intro n
  induction n with
  | zero => intro v1 σ q hk; cases hk
  | succ n ih =>
    intro v1 σ q hk
    unfold g_X9_printAll_L11 at hk
    unfold f_X9_printAll_L11
    refine mb_get rfl rfl ?_
    by_cases hc : σ 596 17 ≤ v1
    · have hk := ab_ifp hk hc
      refine mb_ifp hc ?_
      refine mb_get rfl rfl ?_
      obtain rfl := Option.some.inj hk
      rfl
    · have hk := ab_ifn hk hc
      refine mb_ifn hc ?_
      obtain ⟨q1, hq1, hk⟩ := ab_bnd hk
      refine mb_on rfl (s_X9_prints hq1) ?_
      obtain ⟨q2, hq2, hk⟩ := ab_bnd hk
      refine mb_on rfl (s_X9_says hq2) ?_
      refine mb_get rfl rfl ?_
      refine mb_get rfl rfl ?_
      by_cases hc : ab_w32 ((q2 596 28) + (q2 596 30)) ≤ (2000 : Int)
      · have hk := ab_ifp hk hc
        refine mb_ifp hc ?_
        obtain ⟨q3, hq3, hk⟩ := ab_bnd hk
        refine mb_on rfl (s_X9_comesOut hq3) ?_
        exact ih _  _ _ hk
      · have hk := ab_ifn hk hc
        refine mb_ifn hc ?_
        obtain rfl := Option.some.inj hk
        rfl
noncomputable def g_X9_printAll (σ : st_S) : Option (Int × st_S) :=
  (g_X9_lays σ).bind fun q1 =>
  (some (up2 q1 596 28 (0 : Int))).bind fun σ1 =>
  g_X9_printAll_L11 ab_FU (0 : Int) σ1
set_option maxRecDepth 20000 in
theorem s_X9_printAll {σ : st_S} {q : Int × st_S} (hk : g_X9_printAll σ = some q) : f_X9_printAll ((596 : Nat) : Int) (mk_ σ) = some ((q.1, mk_ q.2)) := by
  unfold g_X9_printAll at hk
  unfold f_X9_printAll
  obtain ⟨q1, hq1, hk⟩ := ab_bnd hk
  refine mb_on rfl (s_X9_lays hq1) ?_
  obtain ⟨σ1, hσ1, hk⟩ := ab_bnd hk
  refine mb_put rfl rfl hσ1 ?_
  refine s_X9_printAll_L11 _ _  _ _ hk
noncomputable def g_X9_octet (a1 : Int) (σ : st_S) : Option (Int × st_S) :=
  (g_X9_in a1 (0 : Int) (ab_w32 ((σ 596 28) - (1 : Int))) σ).bind fun q1 =>
  if q1.1 = (0 : Int) then
    some ((-1 : Int), q1.2)
  else
  (sa_ld q1.2 609 2000 a1).bind fun t2 =>
  some (t2, q1.2)
set_option maxRecDepth 20000 in
theorem s_X9_octet {a1 : Int} {σ : st_S} {q : Int × st_S} (hk : g_X9_octet a1 σ = some q) : f_X9_octet ((596 : Nat) : Int) a1 (mk_ σ) = some ((q.1, mk_ q.2)) := by
  unfold g_X9_octet at hk
  unfold f_X9_octet
  refine mb_get rfl rfl ?_
  obtain ⟨q1, hq1, hk⟩ := ab_bnd hk
  refine mb_eq (s_X9_in hq1) ?_
  by_cases hc : q1.1 = (0 : Int)
  · have hk := ab_ifp hk hc
    refine mb_ifp hc ?_
    obtain rfl := Option.some.inj hk
    rfl
  · have hk := ab_ifn hk hc
    refine mb_ifn hc ?_
    refine mb_getR 609 rfl rfl (by decide) ?_
    obtain ⟨t2, ht2, hk⟩ := ab_bnd hk
    refine mb_ald ⟨rfl, rfl, fun _ => rfl⟩ ht2 ?_
    obtain rfl := Option.some.inj hk
    rfl
noncomputable def g_X9_longest_J41 (rec : Int → Int → Int → st_S → Option (Int × st_S)) (v1 : Int) (v2 : Int) (v3 : Int) (σ : st_S) : Option (Int × st_S) :=
  rec v1 v2 (ab_w32 (v3 + (1 : Int))) σ
set_option maxRecDepth 20000 in
theorem s_X9_longest_J41 {rec : Int → Int → Int → st_S → Option (Int × st_S)} {recf : Int → Int → Int → Int → ab_H → Option (Int × ab_H)} (hrec : ∀ (v1 : Int) (v2 : Int) (v3 : Int) (σ : st_S) (q : Int × st_S), rec v1 v2 v3 σ = some q → recf ((596 : Nat) : Int) v1 v2 v3 (mk_ σ) = some ((q.1, mk_ q.2))) : ∀ (v1 : Int) (v2 : Int) (v3 : Int) (σ : st_S) (q : Int × st_S), g_X9_longest_J41 rec v1 v2 v3 σ = some q → f_X9_longest_J41 recf ((596 : Nat) : Int) v1 v2 v3 (mk_ σ) = some ((q.1, mk_ q.2)) := by
  intro v1 v2 v3 σ q hk
  unfold g_X9_longest_J41 at hk
  unfold f_X9_longest_J41
  exact hrec _ _ _  _ _ hk
noncomputable def g_X9_longest_L10 : Nat → Int → Int → Int → st_S → Option (Int × st_S)
  | 0, _, _, _, _ => none
  | n + 1, v1, v2, v3, σ =>
    if σ 596 17 ≤ v3 then
      some (v1, σ)
    else
    (g_X9_prints v3 σ).bind fun q1 =>
    if v2 < q1 596 30 then
      g_X9_longest_J41 (g_X9_longest_L10 n) v3 (q1 596 30) v3 q1
    else
    g_X9_longest_J41 (g_X9_longest_L10 n) v1 v2 v3 q1
set_option maxRecDepth 20000 in
theorem s_X9_longest_L10 : ∀ (n : Nat) (v1 : Int) (v2 : Int) (v3 : Int) (σ : st_S) (q : Int × st_S), g_X9_longest_L10 n v1 v2 v3 σ = some q → f_X9_longest_L10 n ((596 : Nat) : Int) v1 v2 v3 (mk_ σ) = some ((q.1, mk_ q.2)) := by
  intro n
  induction n with
  | zero => intro v1 v2 v3 σ q hk; cases hk
  | succ n ih =>
    intro v1 v2 v3 σ q hk
    unfold g_X9_longest_L10 at hk
    unfold f_X9_longest_L10
    refine mb_get rfl rfl ?_
    by_cases hc : σ 596 17 ≤ v3
    · have hk := ab_ifp hk hc
      refine mb_ifp hc ?_
      obtain rfl := Option.some.inj hk
      rfl
    · have hk := ab_ifn hk hc
      refine mb_ifn hc ?_
      obtain ⟨q1, hq1, hk⟩ := ab_bnd hk
      refine mb_on rfl (s_X9_prints hq1) ?_
      refine mb_get rfl rfl ?_
      by_cases hc : v2 < q1 596 30
      · have hk := ab_ifp hk hc
        refine mb_ifp hc ?_
        refine mb_get rfl rfl ?_
        exact s_X9_longest_J41 ih _ _ _  _ _ hk
      · have hk := ab_ifn hk hc
        refine mb_ifn hc ?_
        exact s_X9_longest_J41 ih _ _ _  _ _ hk
noncomputable def g_X9_longest (σ : st_S) : Option (Int × st_S) :=
  (g_X9_lays σ).bind fun q1 =>
  g_X9_longest_L10 ab_FU (-1 : Int) (0 : Int) (0 : Int) q1
set_option maxRecDepth 20000 in
theorem s_X9_longest {σ : st_S} {q : Int × st_S} (hk : g_X9_longest σ = some q) : f_X9_longest ((596 : Nat) : Int) (mk_ σ) = some ((q.1, mk_ q.2)) := by
  unfold g_X9_longest at hk
  unfold f_X9_longest
  obtain ⟨q1, hq1, hk⟩ := ab_bnd hk
  refine mb_on rfl (s_X9_lays hq1) ?_
  refine s_X9_longest_L10 _ _ _ _  _ _ hk
noncomputable def g_X9_rebuilt_J65 (rec : Int → Int → Int → st_S → Option (Int × st_S)) (v1 : Int) (v2 : Int) (v3 : Int) (σ : st_S) : Option (Int × st_S) :=
  rec v1 v2 (ab_w32 (v3 + (1 : Int))) σ
set_option maxRecDepth 20000 in
theorem s_X9_rebuilt_J65 {rec : Int → Int → Int → st_S → Option (Int × st_S)} {recf : Int → Int → Int → Int → ab_H → Option (Int × ab_H)} (hrec : ∀ (v1 : Int) (v2 : Int) (v3 : Int) (σ : st_S) (q : Int × st_S), rec v1 v2 v3 σ = some q → recf ((596 : Nat) : Int) v1 v2 v3 (mk_ σ) = some ((q.1, mk_ q.2))) : ∀ (v1 : Int) (v2 : Int) (v3 : Int) (σ : st_S) (q : Int × st_S), g_X9_rebuilt_J65 rec v1 v2 v3 σ = some q → f_X9_rebuilt_J65 recf ((596 : Nat) : Int) v1 v2 v3 (mk_ σ) = some ((q.1, mk_ q.2)) := by
  intro v1 v2 v3 σ q hk
  unfold g_X9_rebuilt_J65 at hk
  unfold f_X9_rebuilt_J65
  exact hrec _ _ _  _ _ hk
noncomputable def g_X9_rebuilt_L26 : Nat → Int → Int → Int → st_S → Option (Int × st_S)
  | 0, _, _, _, _ => none
  | n + 1, v1, v2, v3, σ =>
    if σ 596 16 ≤ v3 then
      some (v2, σ)
    else
    (sa_ld σ 605 72 v3).bind fun t1 =>
    (sa_ld σ 605 72 v1).bind fun t2 =>
    if t1 = t2 then
      (sa_ld σ 608 72 v3).bind fun t3 =>
      (sa_ld σ 602 72 t3).bind fun t4 =>
      g_X9_rebuilt_J65 (g_X9_rebuilt_L26 n) v1 (ab_mn v2 t4) v3 σ
    else
    g_X9_rebuilt_J65 (g_X9_rebuilt_L26 n) v1 v2 v3 σ
set_option maxRecDepth 20000 in
theorem s_X9_rebuilt_L26 : ∀ (n : Nat) (v1 : Int) (v2 : Int) (v3 : Int) (σ : st_S) (q : Int × st_S), g_X9_rebuilt_L26 n v1 v2 v3 σ = some q → f_X9_rebuilt_L26 n ((596 : Nat) : Int) v1 v2 v3 (mk_ σ) = some ((q.1, mk_ q.2)) := by
  intro n
  induction n with
  | zero => intro v1 v2 v3 σ q hk; cases hk
  | succ n ih =>
    intro v1 v2 v3 σ q hk
    unfold g_X9_rebuilt_L26 at hk
    unfold f_X9_rebuilt_L26
    refine mb_get rfl rfl ?_
    by_cases hc : σ 596 16 ≤ v3
    · have hk := ab_ifp hk hc
      refine mb_ifp hc ?_
      obtain rfl := Option.some.inj hk
      rfl
    · have hk := ab_ifn hk hc
      refine mb_ifn hc ?_
      refine mb_getR 605 rfl rfl (by decide) ?_
      obtain ⟨t1, ht1, hk⟩ := ab_bnd hk
      refine mb_ald ⟨rfl, rfl, fun _ => rfl⟩ ht1 ?_
      refine mb_getR 605 rfl rfl (by decide) ?_
      obtain ⟨t2, ht2, hk⟩ := ab_bnd hk
      refine mb_ald ⟨rfl, rfl, fun _ => rfl⟩ ht2 ?_
      by_cases hc : t1 = t2
      · have hk := ab_ifp hk hc
        refine mb_ifp hc ?_
        refine mb_getR 602 rfl rfl (by decide) ?_
        refine mb_getR 608 rfl rfl (by decide) ?_
        obtain ⟨t3, ht3, hk⟩ := ab_bnd hk
        refine mb_ald ⟨rfl, rfl, fun _ => rfl⟩ ht3 ?_
        obtain ⟨t4, ht4, hk⟩ := ab_bnd hk
        refine mb_ald ⟨rfl, rfl, fun _ => rfl⟩ ht4 ?_
        exact s_X9_rebuilt_J65 ih _ _ _  _ _ hk
      · have hk := ab_ifn hk hc
        refine mb_ifn hc ?_
        exact s_X9_rebuilt_J65 ih _ _ _  _ _ hk
noncomputable def g_X9_rebuilt (a1 : Int) (σ : st_S) : Option (Int × st_S) :=
  if (0 : Int) ≤ a1 then
    (g_X9_lays σ).bind fun q1 =>
    if a1 < q1 596 16 then
      g_X9_rebuilt_L26 ab_FU a1 (12 : Int) (0 : Int) q1
    else
    some ((-1 : Int), q1)
  else
  some ((-2 : Int), σ)
set_option maxRecDepth 20000 in
theorem s_X9_rebuilt {a1 : Int} {σ : st_S} {q : Int × st_S} (hk : g_X9_rebuilt a1 σ = some q) : f_X9_rebuilt ((596 : Nat) : Int) a1 (mk_ σ) = some ((q.1, mk_ q.2)) := by
  unfold g_X9_rebuilt at hk
  unfold f_X9_rebuilt
  by_cases hc : (0 : Int) ≤ a1
  · have hk := ab_ifp hk hc
    refine mb_ifp hc ?_
    obtain ⟨q1, hq1, hk⟩ := ab_bnd hk
    refine mb_on rfl (s_X9_lays hq1) ?_
    refine mb_get rfl rfl ?_
    by_cases hc : a1 < q1 596 16
    · have hk := ab_ifp hk hc
      refine mb_ifp hc ?_
      refine s_X9_rebuilt_L26 _ _ _ _  _ _ hk
    · have hk := ab_ifn hk hc
      refine mb_ifn hc ?_
      obtain rfl := Option.some.inj hk
      rfl
  · have hk := ab_ifn hk hc
    refine mb_ifn hc ?_
    obtain rfl := Option.some.inj hk
    rfl
noncomputable def g_X9_begins_J89 (rec : Int → Int → Int → Int → Int → st_S → Option (Int × st_S)) (k95 : Int → Int → st_S → Option (Int × st_S)) (v1 : Int) (v3 : Int) (v4 : Int) (v6 : Int) (v7 : Int) (σ : st_S) : Option (Int × st_S) :=
  rec v1 v3 v4 v6 (ab_w32 (v7 + (1 : Int))) σ
set_option maxRecDepth 20000 in
theorem s_X9_begins_J89 {rec : Int → Int → Int → Int → Int → st_S → Option (Int × st_S)} {recf : Int → Int → Int → Int → Int → Int → ab_H → Option (Int × ab_H)} {k95 : Int → Int → st_S → Option (Int × st_S)} {kf95 : Int → Int → ab_H → Option (Int × ab_H)} (hrec : ∀ (v1 : Int) (v3 : Int) (v4 : Int) (v6 : Int) (v7 : Int) (σ : st_S) (q : Int × st_S), rec v1 v3 v4 v6 v7 σ = some q → recf ((596 : Nat) : Int) v1 v3 v4 v6 v7 (mk_ σ) = some ((q.1, mk_ q.2))) (hk95 : ∀ (v1 : Int) (v3 : Int) (σ : st_S) (q : Int × st_S), k95 v1 v3 σ = some q → kf95 v1 v3 (mk_ σ) = some ((q.1, mk_ q.2))) : ∀ (v1 : Int) (v3 : Int) (v4 : Int) (v6 : Int) (v7 : Int) (σ : st_S) (q : Int × st_S), g_X9_begins_J89 rec k95 v1 v3 v4 v6 v7 σ = some q → f_X9_begins_J89 recf kf95 ((596 : Nat) : Int) v1 v3 v4 v6 v7 (mk_ σ) = some ((q.1, mk_ q.2)) := by
  intro v1 v3 v4 v6 v7 σ q hk
  unfold g_X9_begins_J89 at hk
  unfold f_X9_begins_J89
  exact hrec _ _ _ _ _  _ _ hk
noncomputable def g_X9_begins_L43 (k95 : Int → Int → st_S → Option (Int × st_S)) : Nat → Int → Int → Int → Int → Int → st_S → Option (Int × st_S)
  | 0, _, _, _, _, _, _ => none
  | n + 1, v1, v3, v4, v6, v7, σ =>
    if σ 596 18 ≤ v7 then
      k95 v1 v3 σ
    else
    (g_X9_headWord v7 σ).bind fun q1 =>
    (sa_ld q1.2 600 72 q1.1).bind fun t2 =>
    if ab_cmp (ab_lshr t2 v6) (ab_lshr v4 v6) = (0 : Int) then
      if v3 = v1 then
        some (v7, q1.2)
      else
      g_X9_begins_J89 (g_X9_begins_L43 k95 n) k95 v1 (ab_w32 (v3 + (1 : Int))) v4 v6 v7 q1.2
    else
    g_X9_begins_J89 (g_X9_begins_L43 k95 n) k95 v1 v3 v4 v6 v7 q1.2
set_option maxRecDepth 20000 in
theorem s_X9_begins_L43 {k95 : Int → Int → st_S → Option (Int × st_S)} {kf95 : Int → Int → ab_H → Option (Int × ab_H)} (hk95 : ∀ (v1 : Int) (v3 : Int) (σ : st_S) (q : Int × st_S), k95 v1 v3 σ = some q → kf95 v1 v3 (mk_ σ) = some ((q.1, mk_ q.2))) : ∀ (n : Nat) (v1 : Int) (v3 : Int) (v4 : Int) (v6 : Int) (v7 : Int) (σ : st_S) (q : Int × st_S), g_X9_begins_L43 k95 n v1 v3 v4 v6 v7 σ = some q → f_X9_begins_L43 kf95 n ((596 : Nat) : Int) v1 v3 v4 v6 v7 (mk_ σ) = some ((q.1, mk_ q.2)) := by
  intro n
  induction n with
  | zero => intro v1 v3 v4 v6 v7 σ q hk; cases hk
  | succ n ih =>
    intro v1 v3 v4 v6 v7 σ q hk
    unfold g_X9_begins_L43 at hk
    unfold f_X9_begins_L43
    refine mb_get rfl rfl ?_
    by_cases hc : σ 596 18 ≤ v7
    · have hk := ab_ifp hk hc
      refine mb_ifp hc ?_
      exact hk95 _ _  _ _ hk
    · have hk := ab_ifn hk hc
      refine mb_ifn hc ?_
      refine mb_getR 600 rfl rfl (by decide) ?_
      obtain ⟨q1, hq1, hk⟩ := ab_bnd hk
      refine mb_on rfl (s_X9_headWord hq1) ?_
      obtain ⟨t2, ht2, hk⟩ := ab_bnd hk
      refine mb_ald ⟨rfl, rfl, fun _ => rfl⟩ ht2 ?_
      by_cases hc : ab_cmp (ab_lshr t2 v6) (ab_lshr v4 v6) = (0 : Int)
      · have hk := ab_ifp hk hc
        refine mb_ifp hc ?_
        by_cases hc : v3 = v1
        · have hk := ab_ifp hk hc
          refine mb_ifp hc ?_
          obtain rfl := Option.some.inj hk
          rfl
        · have hk := ab_ifn hk hc
          refine mb_ifn hc ?_
          exact s_X9_begins_J89 ih hk95 _ _ _ _ _  _ _ hk
      · have hk := ab_ifn hk hc
        refine mb_ifn hc ?_
        exact s_X9_begins_J89 ih hk95 _ _ _ _ _  _ _ hk
noncomputable def g_X9_begins (a1 : Int) (σ : st_S) : Option (Int × st_S) :=
  (g_X9_lettersTold σ).bind fun q1 =>
  if q1.1 = (-1 : Int) then
    some ((-2 : Int), q1.2)
  else
  if (-1 : Int) ≤ a1 then
    (g_X9_lays q1.2).bind fun q2 =>
    (g_X9_packed (0 : Int) q1.1 q2).bind fun q3 =>
    g_X9_begins_L43 (fun w95_1 w95_3 σx95 =>
      if w95_1 = (-1 : Int) then
        some (w95_3, σx95)
      else
      some ((-1 : Int), σx95)) ab_FU a1 (0 : Int) q3.1 (ab_w32 ((5 : Int) * (ab_w32 ((7 : Int) - q1.1)))) (0 : Int) q3.2
  else
  some ((-2 : Int), q1.2)
set_option maxRecDepth 20000 in
theorem s_X9_begins {a1 : Int} {σ : st_S} {q : Int × st_S} (hk : g_X9_begins a1 σ = some q) : f_X9_begins ((596 : Nat) : Int) a1 (mk_ σ) = some ((q.1, mk_ q.2)) := by
  unfold g_X9_begins at hk
  unfold f_X9_begins
  obtain ⟨q1, hq1, hk⟩ := ab_bnd hk
  refine mb_on rfl (s_X9_lettersTold hq1) ?_
  by_cases hc : q1.1 = (-1 : Int)
  · have hk := ab_ifp hk hc
    refine mb_ifp hc ?_
    obtain rfl := Option.some.inj hk
    rfl
  · have hk := ab_ifn hk hc
    refine mb_ifn hc ?_
    by_cases hc : (-1 : Int) ≤ a1
    · have hk := ab_ifp hk hc
      refine mb_ifp hc ?_
      obtain ⟨q2, hq2, hk⟩ := ab_bnd hk
      refine mb_on rfl (s_X9_lays hq2) ?_
      obtain ⟨q3, hq3, hk⟩ := ab_bnd hk
      refine mb_on rfl (s_X9_packed hq3) ?_
      refine s_X9_begins_L43 (fun w95_1 w95_3 σx95 q hk => ?_) _ _ _ _ _ _  _ _ hk
      · skip
        by_cases hc : w95_1 = (-1 : Int)
        · have hk := ab_ifp hk hc
          refine mb_ifp hc ?_
          obtain rfl := Option.some.inj hk
          rfl
        · have hk := ab_ifn hk hc
          refine mb_ifn hc ?_
          obtain rfl := Option.some.inj hk
          rfl
    · have hk := ab_ifn hk hc
      refine mb_ifn hc ?_
      obtain rfl := Option.some.inj hk
      rfl
noncomputable def g_X9_hasWord_J46 (rec : Int → Int → Int → Int → st_S → Option (Int × st_S)) (v1 : Int) (v2 : Int) (v3 : Int) (v4 : Int) (σ : st_S) : Option (Int × st_S) :=
  rec v1 v2 v3 (ab_w32 (v4 + (1 : Int))) σ
set_option maxRecDepth 20000 in
theorem s_X9_hasWord_J46 {rec : Int → Int → Int → Int → st_S → Option (Int × st_S)} {recf : Int → Int → Int → Int → Int → ab_H → Option (Int × ab_H)} (hrec : ∀ (v1 : Int) (v2 : Int) (v3 : Int) (v4 : Int) (σ : st_S) (q : Int × st_S), rec v1 v2 v3 v4 σ = some q → recf ((596 : Nat) : Int) v1 v2 v3 v4 (mk_ σ) = some ((q.1, mk_ q.2))) : ∀ (v1 : Int) (v2 : Int) (v3 : Int) (v4 : Int) (σ : st_S) (q : Int × st_S), g_X9_hasWord_J46 rec v1 v2 v3 v4 σ = some q → f_X9_hasWord_J46 recf ((596 : Nat) : Int) v1 v2 v3 v4 (mk_ σ) = some ((q.1, mk_ q.2)) := by
  intro v1 v2 v3 v4 σ q hk
  unfold g_X9_hasWord_J46 at hk
  unfold f_X9_hasWord_J46
  exact hrec _ _ _ _  _ _ hk
noncomputable def g_X9_hasWord_L3 : Nat → Int → Int → Int → Int → st_S → Option (Int × st_S)
  | 0, _, _, _, _, _ => none
  | n + 1, v1, v2, v3, v4, σ =>
    (g_X9_terms v1 σ).bind fun q1 =>
    if q1.1 ≤ v4 then
      some ((0 : Int), q1.2)
    else
    (g_X9_place v1 v4 q1.2).bind fun q2 =>
    (sa_ld q2.2 601 72 q2.1).bind fun t3 =>
    if t3 = v2 then
      if v3 = (-1 : Int) then
        some ((1 : Int), q2.2)
      else
      (g_X9_roleOf v1 v4 q2.2).bind fun q4 =>
      if q4.1 = v3 then
        some ((1 : Int), q4.2)
      else
      g_X9_hasWord_J46 (g_X9_hasWord_L3 n) v1 v2 v3 v4 q4.2
    else
    g_X9_hasWord_J46 (g_X9_hasWord_L3 n) v1 v2 v3 v4 q2.2
set_option maxRecDepth 20000 in
theorem s_X9_hasWord_L3 : ∀ (n : Nat) (v1 : Int) (v2 : Int) (v3 : Int) (v4 : Int) (σ : st_S) (q : Int × st_S), g_X9_hasWord_L3 n v1 v2 v3 v4 σ = some q → f_X9_hasWord_L3 n ((596 : Nat) : Int) v1 v2 v3 v4 (mk_ σ) = some ((q.1, mk_ q.2)) := by
  intro n
  induction n with
  | zero => intro v1 v2 v3 v4 σ q hk; cases hk
  | succ n ih =>
    intro v1 v2 v3 v4 σ q hk
    unfold g_X9_hasWord_L3 at hk
    unfold f_X9_hasWord_L3
    obtain ⟨q1, hq1, hk⟩ := ab_bnd hk
    refine mb_on rfl (s_X9_terms hq1) ?_
    by_cases hc : q1.1 ≤ v4
    · have hk := ab_ifp hk hc
      refine mb_ifp hc ?_
      obtain rfl := Option.some.inj hk
      rfl
    · have hk := ab_ifn hk hc
      refine mb_ifn hc ?_
      refine mb_getR 601 rfl rfl (by decide) ?_
      obtain ⟨q2, hq2, hk⟩ := ab_bnd hk
      refine mb_eq (s_X9_place hq2) ?_
      obtain ⟨t3, ht3, hk⟩ := ab_bnd hk
      refine mb_ald ⟨rfl, rfl, fun _ => rfl⟩ ht3 ?_
      by_cases hc : t3 = v2
      · have hk := ab_ifp hk hc
        refine mb_ifp hc ?_
        by_cases hc : v3 = (-1 : Int)
        · have hk := ab_ifp hk hc
          refine mb_ifp hc ?_
          obtain rfl := Option.some.inj hk
          rfl
        · have hk := ab_ifn hk hc
          refine mb_ifn hc ?_
          obtain ⟨q4, hq4, hk⟩ := ab_bnd hk
          refine mb_on rfl (s_X9_roleOf hq4) ?_
          by_cases hc : q4.1 = v3
          · have hk := ab_ifp hk hc
            refine mb_ifp hc ?_
            obtain rfl := Option.some.inj hk
            rfl
          · have hk := ab_ifn hk hc
            refine mb_ifn hc ?_
            exact s_X9_hasWord_J46 ih _ _ _ _  _ _ hk
      · have hk := ab_ifn hk hc
        refine mb_ifn hc ?_
        exact s_X9_hasWord_J46 ih _ _ _ _  _ _ hk
noncomputable def g_X9_hasWord (a1 : Int) (a2 : Int) (a3 : Int) (σ : st_S) : Option (Int × st_S) :=
  g_X9_hasWord_L3 ab_FU a1 a2 a3 (0 : Int) σ
set_option maxRecDepth 20000 in
theorem s_X9_hasWord {a1 : Int} {a2 : Int} {a3 : Int} {σ : st_S} {q : Int × st_S} (hk : g_X9_hasWord a1 a2 a3 σ = some q) : f_X9_hasWord ((596 : Nat) : Int) a1 a2 a3 (mk_ σ) = some ((q.1, mk_ q.2)) := by
  unfold g_X9_hasWord at hk
  unfold f_X9_hasWord
  refine s_X9_hasWord_L3 _ _ _ _ _  _ _ hk
noncomputable def g_X9_having0_J34 (rec : Int → Int → Int → Int → st_S → Option (Int × st_S)) (v1 : Int) (v2 : Int) (v4 : Int) (s1 : Int) (s0 : Int) (σ : st_S) : Option (Int × st_S) :=
  rec v1 v2 (ab_or s0 s1) (ab_w32 (v4 + (1 : Int))) σ
set_option maxRecDepth 20000 in
theorem s_X9_having0_J34 {rec : Int → Int → Int → Int → st_S → Option (Int × st_S)} {recf : Int → Int → Int → Int → Int → ab_H → Option (Int × ab_H)} (hrec : ∀ (v1 : Int) (v2 : Int) (v3 : Int) (v4 : Int) (σ : st_S) (q : Int × st_S), rec v1 v2 v3 v4 σ = some q → recf ((596 : Nat) : Int) v1 v2 v3 v4 (mk_ σ) = some ((q.1, mk_ q.2))) : ∀ (v1 : Int) (v2 : Int) (v4 : Int) (s1 : Int) (s0 : Int) (σ : st_S) (q : Int × st_S), g_X9_having0_J34 rec v1 v2 v4 s1 s0 σ = some q → f_X9_having0_J34 recf ((596 : Nat) : Int) v1 v2 v4 s1 s0 (mk_ σ) = some ((q.1, mk_ q.2)) := by
  intro v1 v2 v4 s1 s0 σ q hk
  unfold g_X9_having0_J34 at hk
  unfold f_X9_having0_J34
  exact hrec _ _ _ _  _ _ hk
noncomputable def g_X9_having0_L5 : Nat → Int → Int → Int → Int → st_S → Option (Int × st_S)
  | 0, _, _, _, _, _ => none
  | n + 1, v1, v2, v3, v4, σ =>
    (g_X9_strings σ).bind fun q1 =>
    if q1.1 ≤ v4 then
      some (v3, q1.2)
    else
    (g_X9_hasWord v4 v1 v2 q1.2).bind fun q2 =>
    if q2.1 = (0 : Int) then
      g_X9_having0_J34 (g_X9_having0_L5 n) v1 v2 v4 (0 : Int) v3 q2.2
    else
    g_X9_having0_J34 (g_X9_having0_L5 n) v1 v2 v4 (ab_shl (1 : Int) v4) v3 q2.2
set_option maxRecDepth 20000 in
theorem s_X9_having0_L5 : ∀ (n : Nat) (v1 : Int) (v2 : Int) (v3 : Int) (v4 : Int) (σ : st_S) (q : Int × st_S), g_X9_having0_L5 n v1 v2 v3 v4 σ = some q → f_X9_having0_L5 n ((596 : Nat) : Int) v1 v2 v3 v4 (mk_ σ) = some ((q.1, mk_ q.2)) := by
  intro n
  induction n with
  | zero => intro v1 v2 v3 v4 σ q hk; cases hk
  | succ n ih =>
    intro v1 v2 v3 v4 σ q hk
    unfold g_X9_having0_L5 at hk
    unfold f_X9_having0_L5
    obtain ⟨q1, hq1, hk⟩ := ab_bnd hk
    refine mb_on rfl (s_X9_strings hq1) ?_
    by_cases hc : q1.1 ≤ v4
    · have hk := ab_ifp hk hc
      refine mb_ifp hc ?_
      obtain rfl := Option.some.inj hk
      rfl
    · have hk := ab_ifn hk hc
      refine mb_ifn hc ?_
      obtain ⟨q2, hq2, hk⟩ := ab_bnd hk
      refine mb_on rfl (s_X9_hasWord hq2) ?_
      by_cases hc : q2.1 = (0 : Int)
      · have hk := ab_ifp hk hc
        refine mb_ifp hc ?_
        exact s_X9_having0_J34 ih _ _ _ _ _  _ _ hk
      · have hk := ab_ifn hk hc
        refine mb_ifn hc ?_
        exact s_X9_having0_J34 ih _ _ _ _ _  _ _ hk
noncomputable def g_X9_having0 (a1 : Int) (a2 : Int) (σ : st_S) : Option (Int × st_S) :=
  g_X9_having0_L5 ab_FU a1 a2 (0 : Int) (0 : Int) σ
set_option maxRecDepth 20000 in
theorem s_X9_having0 {a1 : Int} {a2 : Int} {σ : st_S} {q : Int × st_S} (hk : g_X9_having0 a1 a2 σ = some q) : f_X9_having0 ((596 : Nat) : Int) a1 a2 (mk_ σ) = some ((q.1, mk_ q.2)) := by
  unfold g_X9_having0 at hk
  unfold f_X9_having0
  refine s_X9_having0_L5 _ _ _ _ _  _ _ hk
noncomputable def g_X9_having_J31 (σ : st_S) : Option (Int × st_S) :=
  some ((-2 : Int), σ)
set_option maxRecDepth 20000 in
theorem s_X9_having_J31 : ∀ (σ : st_S) (q : Int × st_S), g_X9_having_J31 σ = some q → f_X9_having_J31 (mk_ σ) = some ((q.1, mk_ q.2)) := by
  intro σ q hk
  unfold g_X9_having_J31 at hk
  unfold f_X9_having_J31
  obtain rfl := Option.some.inj hk
  rfl
noncomputable def g_X9_having (a1 : Int) (a2 : Int) (σ : st_S) : Option (Int × st_S) :=
  (g_X9_isWordNow a1 σ).bind fun q1 =>
  if q1.1 = (0 : Int) then
    g_X9_having_J31 q1.2
  else
  (g_X9_in a2 (-1 : Int) (5 : Int) q1.2).bind fun q2 =>
  if q2.1 = (0 : Int) then
    g_X9_having_J31 q2.2
  else
  (g_X9_having0 a1 a2 q2.2).bind fun q3 =>
  some (q3.1, q3.2)
set_option maxRecDepth 20000 in
theorem s_X9_having {a1 : Int} {a2 : Int} {σ : st_S} {q : Int × st_S} (hk : g_X9_having a1 a2 σ = some q) : f_X9_having ((596 : Nat) : Int) a1 a2 (mk_ σ) = some ((q.1, mk_ q.2)) := by
  unfold g_X9_having at hk
  unfold f_X9_having
  obtain ⟨q1, hq1, hk⟩ := ab_bnd hk
  refine mb_on rfl (s_X9_isWordNow hq1) ?_
  by_cases hc : q1.1 = (0 : Int)
  · have hk := ab_ifp hk hc
    refine mb_ifp hc ?_
    exact s_X9_having_J31  _ _ hk
  · have hk := ab_ifn hk hc
    refine mb_ifn hc ?_
    obtain ⟨q2, hq2, hk⟩ := ab_bnd hk
    refine mb_eq (s_X9_in hq2) ?_
    by_cases hc : q2.1 = (0 : Int)
    · have hk := ab_ifp hk hc
      refine mb_ifp hc ?_
      exact s_X9_having_J31  _ _ hk
    · have hk := ab_ifn hk hc
      refine mb_ifn hc ?_
      obtain ⟨q3, hq3, hk⟩ := ab_bnd hk
      refine mb_on rfl (s_X9_having0 hq3) ?_
      obtain rfl := Option.some.inj hk
      rfl
noncomputable def g_X9_sharing0_J51 (rec : Int → Int → Int → Int → st_S → Option (Int × st_S)) (v1 : Int) (v2 : Int) (v3 : Int) (v4 : Int) (σ : st_S) : Option (Int × st_S) :=
  rec v1 v2 v3 (ab_w32 (v4 + (1 : Int))) σ
set_option maxRecDepth 20000 in
theorem s_X9_sharing0_J51 {rec : Int → Int → Int → Int → st_S → Option (Int × st_S)} {recf : Int → Int → Int → Int → Int → ab_H → Option (Int × ab_H)} (hrec : ∀ (v1 : Int) (v2 : Int) (v3 : Int) (v4 : Int) (σ : st_S) (q : Int × st_S), rec v1 v2 v3 v4 σ = some q → recf ((596 : Nat) : Int) v1 v2 v3 v4 (mk_ σ) = some ((q.1, mk_ q.2))) : ∀ (v1 : Int) (v2 : Int) (v3 : Int) (v4 : Int) (σ : st_S) (q : Int × st_S), g_X9_sharing0_J51 rec v1 v2 v3 v4 σ = some q → f_X9_sharing0_J51 recf ((596 : Nat) : Int) v1 v2 v3 v4 (mk_ σ) = some ((q.1, mk_ q.2)) := by
  intro v1 v2 v3 v4 σ q hk
  unfold g_X9_sharing0_J51 at hk
  unfold f_X9_sharing0_J51
  exact hrec _ _ _ _  _ _ hk
noncomputable def g_X9_sharing0_L12 : Nat → Int → Int → Int → Int → st_S → Option (Int × st_S)
  | 0, _, _, _, _, _ => none
  | n + 1, v1, v2, v3, v4, σ =>
    (g_X9_terms v1 σ).bind fun q1 =>
    if q1.1 ≤ v4 then
      some (v3, q1.2)
    else
    if ab_and (ab_shr v2 v4) (1 : Int) = (1 : Int) then
      (g_X9_place v1 v4 q1.2).bind fun q2 =>
      (sa_ld q2.2 601 72 q2.1).bind fun t3 =>
      (g_X9_having0 t3 (-1 : Int) q2.2).bind fun q4 =>
      g_X9_sharing0_J51 (g_X9_sharing0_L12 n) v1 v2 (ab_and v3 q4.1) v4 q4.2
    else
    g_X9_sharing0_J51 (g_X9_sharing0_L12 n) v1 v2 v3 v4 q1.2
set_option maxRecDepth 20000 in
theorem s_X9_sharing0_L12 : ∀ (n : Nat) (v1 : Int) (v2 : Int) (v3 : Int) (v4 : Int) (σ : st_S) (q : Int × st_S), g_X9_sharing0_L12 n v1 v2 v3 v4 σ = some q → f_X9_sharing0_L12 n ((596 : Nat) : Int) v1 v2 v3 v4 (mk_ σ) = some ((q.1, mk_ q.2)) := by
  intro n
  induction n with
  | zero => intro v1 v2 v3 v4 σ q hk; cases hk
  | succ n ih =>
    intro v1 v2 v3 v4 σ q hk
    unfold g_X9_sharing0_L12 at hk
    unfold f_X9_sharing0_L12
    obtain ⟨q1, hq1, hk⟩ := ab_bnd hk
    refine mb_on rfl (s_X9_terms hq1) ?_
    by_cases hc : q1.1 ≤ v4
    · have hk := ab_ifp hk hc
      refine mb_ifp hc ?_
      obtain rfl := Option.some.inj hk
      rfl
    · have hk := ab_ifn hk hc
      refine mb_ifn hc ?_
      by_cases hc : ab_and (ab_shr v2 v4) (1 : Int) = (1 : Int)
      · have hk := ab_ifp hk hc
        refine mb_ifp hc ?_
        refine mb_getR 601 rfl rfl (by decide) ?_
        obtain ⟨q2, hq2, hk⟩ := ab_bnd hk
        refine mb_eq (s_X9_place hq2) ?_
        obtain ⟨t3, ht3, hk⟩ := ab_bnd hk
        refine mb_ald ⟨rfl, rfl, fun _ => rfl⟩ ht3 ?_
        obtain ⟨q4, hq4, hk⟩ := ab_bnd hk
        refine mb_on rfl (s_X9_having0 hq4) ?_
        exact s_X9_sharing0_J51 ih _ _ _ _  _ _ hk
      · have hk := ab_ifn hk hc
        refine mb_ifn hc ?_
        exact s_X9_sharing0_J51 ih _ _ _ _  _ _ hk
noncomputable def g_X9_sharing0 (a1 : Int) (a2 : Int) (σ : st_S) : Option (Int × st_S) :=
  (g_X9_strings σ).bind fun q1 =>
  g_X9_sharing0_L12 ab_FU a1 a2 (ab_w32 ((ab_shl (1 : Int) q1.1) - (1 : Int))) (0 : Int) q1.2
set_option maxRecDepth 20000 in
theorem s_X9_sharing0 {a1 : Int} {a2 : Int} {σ : st_S} {q : Int × st_S} (hk : g_X9_sharing0 a1 a2 σ = some q) : f_X9_sharing0 ((596 : Nat) : Int) a1 a2 (mk_ σ) = some ((q.1, mk_ q.2)) := by
  unfold g_X9_sharing0 at hk
  unfold f_X9_sharing0
  obtain ⟨q1, hq1, hk⟩ := ab_bnd hk
  refine mb_on rfl (s_X9_strings hq1) ?_
  refine s_X9_sharing0_L12 _ _ _ _ _  _ _ hk
noncomputable def g_X9_sharing (a1 : Int) (a2 : Int) (σ : st_S) : Option (Int × st_S) :=
  (g_X9_isString a1 σ).bind fun q1 =>
  if q1.1 = (0 : Int) then
    some ((-2 : Int), q1.2)
  else
  (g_X9_terms a1 q1.2).bind fun q2 =>
  (g_X9_in a2 (0 : Int) (ab_w32 ((ab_shl (1 : Int) q2.1) - (1 : Int))) q2.2).bind fun q3 =>
  if q3.1 = (0 : Int) then
    some ((-2 : Int), q3.2)
  else
  (g_X9_laysWords q3.2).bind fun q4 =>
  (g_X9_sharing0 a1 a2 q4).bind fun q5 =>
  some (q5.1, q5.2)
set_option maxRecDepth 20000 in
theorem s_X9_sharing {a1 : Int} {a2 : Int} {σ : st_S} {q : Int × st_S} (hk : g_X9_sharing a1 a2 σ = some q) : f_X9_sharing ((596 : Nat) : Int) a1 a2 (mk_ σ) = some ((q.1, mk_ q.2)) := by
  unfold g_X9_sharing at hk
  unfold f_X9_sharing
  obtain ⟨q1, hq1, hk⟩ := ab_bnd hk
  refine mb_on rfl (s_X9_isString hq1) ?_
  by_cases hc : q1.1 = (0 : Int)
  · have hk := ab_ifp hk hc
    refine mb_ifp hc ?_
    obtain rfl := Option.some.inj hk
    rfl
  · have hk := ab_ifn hk hc
    refine mb_ifn hc ?_
    obtain ⟨q2, hq2, hk⟩ := ab_bnd hk
    refine mb_on rfl (s_X9_terms hq2) ?_
    obtain ⟨q3, hq3, hk⟩ := ab_bnd hk
    refine mb_eq (s_X9_in hq3) ?_
    by_cases hc : q3.1 = (0 : Int)
    · have hk := ab_ifp hk hc
      refine mb_ifp hc ?_
      obtain rfl := Option.some.inj hk
      rfl
    · have hk := ab_ifn hk hc
      refine mb_ifn hc ?_
      obtain ⟨q4, hq4, hk⟩ := ab_bnd hk
      refine mb_on rfl (s_X9_laysWords hq4) ?_
      obtain ⟨q5, hq5, hk⟩ := ab_bnd hk
      refine mb_on rfl (s_X9_sharing0 hq5) ?_
      obtain rfl := Option.some.inj hk
      rfl
noncomputable def g_X9_hasSense (a1 : Int) (a2 : Int) (a3 : Int) (σ : st_S) : Option (Int × st_S) :=
  (g_X9_place a2 a3 σ).bind fun q1 =>
  (sa_ld q1.2 601 72 q1.1).bind fun t2 =>
  (g_X9_roleOf a2 a3 q1.2).bind fun q3 =>
  (g_X9_hasWord a1 t2 q3.1 q3.2).bind fun q4 =>
  ab_if (decide (q4.1 = 0 ∨ q4.1 = 1)) <|
  some (q4.1, q4.2)
set_option maxRecDepth 20000 in
theorem s_X9_hasSense {a1 : Int} {a2 : Int} {a3 : Int} {σ : st_S} {q : Int × st_S} (hk : g_X9_hasSense a1 a2 a3 σ = some q) : f_X9_hasSense ((596 : Nat) : Int) a1 a2 a3 (mk_ σ) = some ((q.1, mk_ q.2)) := by
  unfold g_X9_hasSense at hk
  unfold f_X9_hasSense
  refine mb_getR 601 rfl rfl (by decide) ?_
  obtain ⟨q1, hq1, hk⟩ := ab_bnd hk
  refine mb_eq (s_X9_place hq1) ?_
  obtain ⟨t2, ht2, hk⟩ := ab_bnd hk
  refine mb_ald ⟨rfl, rfl, fun _ => rfl⟩ ht2 ?_
  obtain ⟨q3, hq3, hk⟩ := ab_bnd hk
  refine mb_on rfl (s_X9_roleOf hq3) ?_
  obtain ⟨q4, hq4, hk⟩ := ab_bnd hk
  refine mb_on rfl (s_X9_hasWord hq4) ?_
  obtain ⟨hg, hk⟩ := ab_if_some hk
  refine mb_if hg ?_
  obtain rfl := Option.some.inj hk
  rfl
noncomputable def g_X9_isFirst_J47 (rec : Int → Int → Int → st_S → Option (Int × st_S)) (v1 : Int) (v2 : Int) (v3 : Int) (σ : st_S) : Option (Int × st_S) :=
  rec v1 v2 (ab_w32 (v3 + (1 : Int))) σ
set_option maxRecDepth 20000 in
theorem s_X9_isFirst_J47 {rec : Int → Int → Int → st_S → Option (Int × st_S)} {recf : Int → Int → Int → Int → ab_H → Option (Int × ab_H)} (hrec : ∀ (v1 : Int) (v2 : Int) (v3 : Int) (σ : st_S) (q : Int × st_S), rec v1 v2 v3 σ = some q → recf ((596 : Nat) : Int) v1 v2 v3 (mk_ σ) = some ((q.1, mk_ q.2))) : ∀ (v1 : Int) (v2 : Int) (v3 : Int) (σ : st_S) (q : Int × st_S), g_X9_isFirst_J47 rec v1 v2 v3 σ = some q → f_X9_isFirst_J47 recf ((596 : Nat) : Int) v1 v2 v3 (mk_ σ) = some ((q.1, mk_ q.2)) := by
  intro v1 v2 v3 σ q hk
  unfold g_X9_isFirst_J47 at hk
  unfold f_X9_isFirst_J47
  exact hrec _ _ _  _ _ hk
noncomputable def g_X9_isFirst_L2 : Nat → Int → Int → Int → st_S → Option (Int × st_S)
  | 0, _, _, _, _ => none
  | n + 1, v1, v2, v3, σ =>
    if v2 ≤ v3 then
      some ((1 : Int), σ)
    else
    (g_X9_place v1 v3 σ).bind fun q1 =>
    (sa_ld q1.2 601 72 q1.1).bind fun t2 =>
    (g_X9_place v1 v2 q1.2).bind fun q3 =>
    (sa_ld q3.2 601 72 q3.1).bind fun t4 =>
    if t2 = t4 then
      (g_X9_roleOf v1 v3 q3.2).bind fun q5 =>
      (g_X9_roleOf v1 v2 q5.2).bind fun q6 =>
      if q5.1 = q6.1 then
        some ((0 : Int), q6.2)
      else
      g_X9_isFirst_J47 (g_X9_isFirst_L2 n) v1 v2 v3 q6.2
    else
    g_X9_isFirst_J47 (g_X9_isFirst_L2 n) v1 v2 v3 q3.2
set_option maxRecDepth 20000 in
theorem s_X9_isFirst_L2 : ∀ (n : Nat) (v1 : Int) (v2 : Int) (v3 : Int) (σ : st_S) (q : Int × st_S), g_X9_isFirst_L2 n v1 v2 v3 σ = some q → f_X9_isFirst_L2 n ((596 : Nat) : Int) v1 v2 v3 (mk_ σ) = some ((q.1, mk_ q.2)) := by
  intro n
  induction n with
  | zero => intro v1 v2 v3 σ q hk; cases hk
  | succ n ih =>
    intro v1 v2 v3 σ q hk
    unfold g_X9_isFirst_L2 at hk
    unfold f_X9_isFirst_L2
    by_cases hc : v2 ≤ v3
    · have hk := ab_ifp hk hc
      refine mb_ifp hc ?_
      obtain rfl := Option.some.inj hk
      rfl
    · have hk := ab_ifn hk hc
      refine mb_ifn hc ?_
      refine mb_getR 601 rfl rfl (by decide) ?_
      obtain ⟨q1, hq1, hk⟩ := ab_bnd hk
      refine mb_eq (s_X9_place hq1) ?_
      obtain ⟨t2, ht2, hk⟩ := ab_bnd hk
      refine mb_ald ⟨rfl, rfl, fun _ => rfl⟩ ht2 ?_
      refine mb_getR 601 rfl rfl (by decide) ?_
      obtain ⟨q3, hq3, hk⟩ := ab_bnd hk
      refine mb_eq (s_X9_place hq3) ?_
      obtain ⟨t4, ht4, hk⟩ := ab_bnd hk
      refine mb_ald ⟨rfl, rfl, fun _ => rfl⟩ ht4 ?_
      by_cases hc : t2 = t4
      · have hk := ab_ifp hk hc
        refine mb_ifp hc ?_
        obtain ⟨q5, hq5, hk⟩ := ab_bnd hk
        refine mb_on rfl (s_X9_roleOf hq5) ?_
        obtain ⟨q6, hq6, hk⟩ := ab_bnd hk
        refine mb_on rfl (s_X9_roleOf hq6) ?_
        by_cases hc : q5.1 = q6.1
        · have hk := ab_ifp hk hc
          refine mb_ifp hc ?_
          obtain rfl := Option.some.inj hk
          rfl
        · have hk := ab_ifn hk hc
          refine mb_ifn hc ?_
          exact s_X9_isFirst_J47 ih _ _ _  _ _ hk
      · have hk := ab_ifn hk hc
        refine mb_ifn hc ?_
        exact s_X9_isFirst_J47 ih _ _ _  _ _ hk
noncomputable def g_X9_isFirst (a1 : Int) (a2 : Int) (σ : st_S) : Option (Int × st_S) :=
  g_X9_isFirst_L2 ab_FU a1 a2 (0 : Int) σ
set_option maxRecDepth 20000 in
theorem s_X9_isFirst {a1 : Int} {a2 : Int} {σ : st_S} {q : Int × st_S} (hk : g_X9_isFirst a1 a2 σ = some q) : f_X9_isFirst ((596 : Nat) : Int) a1 a2 (mk_ σ) = some ((q.1, mk_ q.2)) := by
  unfold g_X9_isFirst at hk
  unfold f_X9_isFirst
  refine s_X9_isFirst_L2 _ _ _ _  _ _ hk
noncomputable def g_X9_commonOf_J42 (rec : Int → Int → Int → Int → st_S → Option (Int × st_S)) (v1 : Int) (v2 : Int) (v4 : Int) (s1 : Int) (s0 : Int) (σ : st_S) : Option (Int × st_S) :=
  rec v1 v2 (ab_w32 (s0 + s1)) (ab_w32 (v4 + (1 : Int))) σ
set_option maxRecDepth 20000 in
theorem s_X9_commonOf_J42 {rec : Int → Int → Int → Int → st_S → Option (Int × st_S)} {recf : Int → Int → Int → Int → Int → ab_H → Option (Int × ab_H)} (hrec : ∀ (v1 : Int) (v2 : Int) (v3 : Int) (v4 : Int) (σ : st_S) (q : Int × st_S), rec v1 v2 v3 v4 σ = some q → recf ((596 : Nat) : Int) v1 v2 v3 v4 (mk_ σ) = some ((q.1, mk_ q.2))) : ∀ (v1 : Int) (v2 : Int) (v4 : Int) (s1 : Int) (s0 : Int) (σ : st_S) (q : Int × st_S), g_X9_commonOf_J42 rec v1 v2 v4 s1 s0 σ = some q → f_X9_commonOf_J42 recf ((596 : Nat) : Int) v1 v2 v4 s1 s0 (mk_ σ) = some ((q.1, mk_ q.2)) := by
  intro v1 v2 v4 s1 s0 σ q hk
  unfold g_X9_commonOf_J42 at hk
  unfold f_X9_commonOf_J42
  exact hrec _ _ _ _  _ _ hk
noncomputable def g_X9_commonOf_J41 (rec : Int → Int → Int → Int → st_S → Option (Int × st_S)) (v1 : Int) (v2 : Int) (v4 : Int) (s0 : Int) (σ : st_S) : Option (Int × st_S) :=
  g_X9_commonOf_J42 rec v1 v2 v4 (0 : Int) s0 σ
set_option maxRecDepth 20000 in
theorem s_X9_commonOf_J41 {rec : Int → Int → Int → Int → st_S → Option (Int × st_S)} {recf : Int → Int → Int → Int → Int → ab_H → Option (Int × ab_H)} (hrec : ∀ (v1 : Int) (v2 : Int) (v3 : Int) (v4 : Int) (σ : st_S) (q : Int × st_S), rec v1 v2 v3 v4 σ = some q → recf ((596 : Nat) : Int) v1 v2 v3 v4 (mk_ σ) = some ((q.1, mk_ q.2))) : ∀ (v1 : Int) (v2 : Int) (v4 : Int) (s0 : Int) (σ : st_S) (q : Int × st_S), g_X9_commonOf_J41 rec v1 v2 v4 s0 σ = some q → f_X9_commonOf_J41 recf ((596 : Nat) : Int) v1 v2 v4 s0 (mk_ σ) = some ((q.1, mk_ q.2)) := by
  intro v1 v2 v4 s0 σ q hk
  unfold g_X9_commonOf_J41 at hk
  unfold f_X9_commonOf_J41
  exact s_X9_commonOf_J42 hrec _ _ _ _ _  _ _ hk
noncomputable def g_X9_commonOf_L5 : Nat → Int → Int → Int → Int → st_S → Option (Int × st_S)
  | 0, _, _, _, _, _ => none
  | n + 1, v1, v2, v3, v4, σ =>
    (g_X9_terms v1 σ).bind fun q1 =>
    if q1.1 ≤ v4 then
      some (v3, q1.2)
    else
    (g_X9_isFirst v1 v4 q1.2).bind fun q2 =>
    if q2.1 = (0 : Int) then
      g_X9_commonOf_J41 (g_X9_commonOf_L5 n) v1 v2 v4 v3 q2.2
    else
    (g_X9_hasSense v2 v1 v4 q2.2).bind fun q3 =>
    if q3.1 = (0 : Int) then
      g_X9_commonOf_J41 (g_X9_commonOf_L5 n) v1 v2 v4 v3 q3.2
    else
    g_X9_commonOf_J42 (g_X9_commonOf_L5 n) v1 v2 v4 (1 : Int) v3 q3.2
set_option maxRecDepth 20000 in
theorem s_X9_commonOf_L5 : ∀ (n : Nat) (v1 : Int) (v2 : Int) (v3 : Int) (v4 : Int) (σ : st_S) (q : Int × st_S), g_X9_commonOf_L5 n v1 v2 v3 v4 σ = some q → f_X9_commonOf_L5 n ((596 : Nat) : Int) v1 v2 v3 v4 (mk_ σ) = some ((q.1, mk_ q.2)) := by
  intro n
  induction n with
  | zero => intro v1 v2 v3 v4 σ q hk; cases hk
  | succ n ih =>
    intro v1 v2 v3 v4 σ q hk
    unfold g_X9_commonOf_L5 at hk
    unfold f_X9_commonOf_L5
    obtain ⟨q1, hq1, hk⟩ := ab_bnd hk
    refine mb_on rfl (s_X9_terms hq1) ?_
    by_cases hc : q1.1 ≤ v4
    · have hk := ab_ifp hk hc
      refine mb_ifp hc ?_
      obtain rfl := Option.some.inj hk
      rfl
    · have hk := ab_ifn hk hc
      refine mb_ifn hc ?_
      obtain ⟨q2, hq2, hk⟩ := ab_bnd hk
      refine mb_on rfl (s_X9_isFirst hq2) ?_
      by_cases hc : q2.1 = (0 : Int)
      · have hk := ab_ifp hk hc
        refine mb_ifp hc ?_
        exact s_X9_commonOf_J41 ih _ _ _ _  _ _ hk
      · have hk := ab_ifn hk hc
        refine mb_ifn hc ?_
        obtain ⟨q3, hq3, hk⟩ := ab_bnd hk
        refine mb_on rfl (s_X9_hasSense hq3) ?_
        by_cases hc : q3.1 = (0 : Int)
        · have hk := ab_ifp hk hc
          refine mb_ifp hc ?_
          exact s_X9_commonOf_J41 ih _ _ _ _  _ _ hk
        · have hk := ab_ifn hk hc
          refine mb_ifn hc ?_
          exact s_X9_commonOf_J42 ih _ _ _ _ _  _ _ hk
noncomputable def g_X9_commonOf (a1 : Int) (a2 : Int) (σ : st_S) : Option (Int × st_S) :=
  g_X9_commonOf_L5 ab_FU a1 a2 (0 : Int) (0 : Int) σ
set_option maxRecDepth 20000 in
theorem s_X9_commonOf {a1 : Int} {a2 : Int} {σ : st_S} {q : Int × st_S} (hk : g_X9_commonOf a1 a2 σ = some q) : f_X9_commonOf ((596 : Nat) : Int) a1 a2 (mk_ σ) = some ((q.1, mk_ q.2)) := by
  unfold g_X9_commonOf at hk
  unfold f_X9_commonOf
  refine s_X9_commonOf_L5 _ _ _ _ _  _ _ hk
noncomputable def g_X9_areOneSense_J34 (σ : st_S) : Option (Int × st_S) :=
  some ((0 : Int), σ)
set_option maxRecDepth 20000 in
theorem s_X9_areOneSense_J34 : ∀ (σ : st_S) (q : Int × st_S), g_X9_areOneSense_J34 σ = some q → f_X9_areOneSense_J34 (mk_ σ) = some ((q.1, mk_ q.2)) := by
  intro σ q hk
  unfold g_X9_areOneSense_J34 at hk
  unfold f_X9_areOneSense_J34
  obtain rfl := Option.some.inj hk
  rfl
noncomputable def g_X9_areOneSense (a1 : Int) (a2 : Int) (σ : st_S) : Option (Int × st_S) :=
  (g_X9_commonOf a1 a2 σ).bind fun q1 =>
  (g_X9_commonOf a1 a1 q1.2).bind fun q2 =>
  if q1.1 = q2.1 then
    (g_X9_commonOf a2 a1 q2.2).bind fun q3 =>
    (g_X9_commonOf a2 a2 q3.2).bind fun q4 =>
    if q3.1 = q4.1 then
      some ((1 : Int), q4.2)
    else
    g_X9_areOneSense_J34 q4.2
  else
  g_X9_areOneSense_J34 q2.2
set_option maxRecDepth 20000 in
theorem s_X9_areOneSense {a1 : Int} {a2 : Int} {σ : st_S} {q : Int × st_S} (hk : g_X9_areOneSense a1 a2 σ = some q) : f_X9_areOneSense ((596 : Nat) : Int) a1 a2 (mk_ σ) = some ((q.1, mk_ q.2)) := by
  unfold g_X9_areOneSense at hk
  unfold f_X9_areOneSense
  obtain ⟨q1, hq1, hk⟩ := ab_bnd hk
  refine mb_on rfl (s_X9_commonOf hq1) ?_
  obtain ⟨q2, hq2, hk⟩ := ab_bnd hk
  refine mb_on rfl (s_X9_commonOf hq2) ?_
  by_cases hc : q1.1 = q2.1
  · have hk := ab_ifp hk hc
    refine mb_ifp hc ?_
    obtain ⟨q3, hq3, hk⟩ := ab_bnd hk
    refine mb_on rfl (s_X9_commonOf hq3) ?_
    obtain ⟨q4, hq4, hk⟩ := ab_bnd hk
    refine mb_on rfl (s_X9_commonOf hq4) ?_
    by_cases hc : q3.1 = q4.1
    · have hk := ab_ifp hk hc
      refine mb_ifp hc ?_
      obtain rfl := Option.some.inj hk
      rfl
    · have hk := ab_ifn hk hc
      refine mb_ifn hc ?_
      exact s_X9_areOneSense_J34  _ _ hk
  · have hk := ab_ifn hk hc
    refine mb_ifn hc ?_
    exact s_X9_areOneSense_J34  _ _ hk
noncomputable def g_X9_areSame_J83 (rec : Int → Int → Int → Int → st_S → Option (Int × st_S)) (v1 : Int) (v2 : Int) (v4 : Int) (s0 : Int) (σ : st_S) : Option (Int × st_S) :=
  rec v1 v2 s0 (ab_w32 (v4 + (1 : Int))) σ
set_option maxRecDepth 20000 in
theorem s_X9_areSame_J83 {rec : Int → Int → Int → Int → st_S → Option (Int × st_S)} {recf : Int → Int → Int → Int → Int → ab_H → Option (Int × ab_H)} (hrec : ∀ (v1 : Int) (v2 : Int) (v3 : Int) (v4 : Int) (σ : st_S) (q : Int × st_S), rec v1 v2 v3 v4 σ = some q → recf ((596 : Nat) : Int) v1 v2 v3 v4 (mk_ σ) = some ((q.1, mk_ q.2))) : ∀ (v1 : Int) (v2 : Int) (v4 : Int) (s0 : Int) (σ : st_S) (q : Int × st_S), g_X9_areSame_J83 rec v1 v2 v4 s0 σ = some q → f_X9_areSame_J83 recf ((596 : Nat) : Int) v1 v2 v4 s0 (mk_ σ) = some ((q.1, mk_ q.2)) := by
  intro v1 v2 v4 s0 σ q hk
  unfold g_X9_areSame_J83 at hk
  unfold f_X9_areSame_J83
  exact hrec _ _ _ _  _ _ hk
noncomputable def g_X9_areSame_J82 (rec : Int → Int → Int → Int → st_S → Option (Int × st_S)) (v1 : Int) (v2 : Int) (v4 : Int) (σ : st_S) : Option (Int × st_S) :=
  g_X9_areSame_J83 rec v1 v2 v4 (0 : Int) σ
set_option maxRecDepth 20000 in
theorem s_X9_areSame_J82 {rec : Int → Int → Int → Int → st_S → Option (Int × st_S)} {recf : Int → Int → Int → Int → Int → ab_H → Option (Int × ab_H)} (hrec : ∀ (v1 : Int) (v2 : Int) (v3 : Int) (v4 : Int) (σ : st_S) (q : Int × st_S), rec v1 v2 v3 v4 σ = some q → recf ((596 : Nat) : Int) v1 v2 v3 v4 (mk_ σ) = some ((q.1, mk_ q.2))) : ∀ (v1 : Int) (v2 : Int) (v4 : Int) (σ : st_S) (q : Int × st_S), g_X9_areSame_J82 rec v1 v2 v4 σ = some q → f_X9_areSame_J82 recf ((596 : Nat) : Int) v1 v2 v4 (mk_ σ) = some ((q.1, mk_ q.2)) := by
  intro v1 v2 v4 σ q hk
  unfold g_X9_areSame_J82 at hk
  unfold f_X9_areSame_J82
  exact s_X9_areSame_J83 hrec _ _ _ _  _ _ hk
noncomputable def g_X9_areSame_L22 : Nat → Int → Int → Int → Int → st_S → Option (Int × st_S)
  | 0, _, _, _, _, _ => none
  | n + 1, v1, v2, v3, v4, σ =>
    (g_X9_terms v1 σ).bind fun q1 =>
    if q1.1 ≤ v4 then
      ab_if (decide (v3 = 0 ∨ v3 = 1)) <|
      some (v3, q1.2)
    else
    if v3 = (0 : Int) then
      ab_if (decide (v3 = 0 ∨ v3 = 1)) <|
      some (v3, q1.2)
    else
    (g_X9_roleOf v1 v4 q1.2).bind fun q2 =>
    (g_X9_roleOf v2 v4 q2.2).bind fun q3 =>
    if q2.1 = q3.1 then
      (g_X9_place v1 v4 q3.2).bind fun q4 =>
      (sa_ld q4.2 601 72 q4.1).bind fun t5 =>
      (g_X9_place v2 v4 q4.2).bind fun q6 =>
      (sa_ld q6.2 601 72 q6.1).bind fun t7 =>
      if t5 = t7 then
        g_X9_areSame_J83 (g_X9_areSame_L22 n) v1 v2 v4 (1 : Int) q6.2
      else
      g_X9_areSame_J82 (g_X9_areSame_L22 n) v1 v2 v4 q6.2
    else
    g_X9_areSame_J82 (g_X9_areSame_L22 n) v1 v2 v4 q3.2
set_option maxRecDepth 20000 in
theorem s_X9_areSame_L22 : ∀ (n : Nat) (v1 : Int) (v2 : Int) (v3 : Int) (v4 : Int) (σ : st_S) (q : Int × st_S), g_X9_areSame_L22 n v1 v2 v3 v4 σ = some q → f_X9_areSame_L22 n ((596 : Nat) : Int) v1 v2 v3 v4 (mk_ σ) = some ((q.1, mk_ q.2)) := by
  intro n
  induction n with
  | zero => intro v1 v2 v3 v4 σ q hk; cases hk
  | succ n ih =>
    intro v1 v2 v3 v4 σ q hk
    unfold g_X9_areSame_L22 at hk
    unfold f_X9_areSame_L22
    obtain ⟨q1, hq1, hk⟩ := ab_bnd hk
    refine mb_on rfl (s_X9_terms hq1) ?_
    by_cases hc : q1.1 ≤ v4
    · have hk := ab_ifp hk hc
      refine mb_ifp hc ?_
      obtain ⟨hg, hk⟩ := ab_if_some hk
      refine mb_if hg ?_
      obtain rfl := Option.some.inj hk
      rfl
    · have hk := ab_ifn hk hc
      refine mb_ifn hc ?_
      by_cases hc : v3 = (0 : Int)
      · have hk := ab_ifp hk hc
        refine mb_ifp hc ?_
        obtain ⟨hg, hk⟩ := ab_if_some hk
        refine mb_if hg ?_
        obtain rfl := Option.some.inj hk
        rfl
      · have hk := ab_ifn hk hc
        refine mb_ifn hc ?_
        obtain ⟨q2, hq2, hk⟩ := ab_bnd hk
        refine mb_on rfl (s_X9_roleOf hq2) ?_
        obtain ⟨q3, hq3, hk⟩ := ab_bnd hk
        refine mb_on rfl (s_X9_roleOf hq3) ?_
        by_cases hc : q2.1 = q3.1
        · have hk := ab_ifp hk hc
          refine mb_ifp hc ?_
          refine mb_getR 601 rfl rfl (by decide) ?_
          obtain ⟨q4, hq4, hk⟩ := ab_bnd hk
          refine mb_eq (s_X9_place hq4) ?_
          obtain ⟨t5, ht5, hk⟩ := ab_bnd hk
          refine mb_ald ⟨rfl, rfl, fun _ => rfl⟩ ht5 ?_
          refine mb_getR 601 rfl rfl (by decide) ?_
          obtain ⟨q6, hq6, hk⟩ := ab_bnd hk
          refine mb_eq (s_X9_place hq6) ?_
          obtain ⟨t7, ht7, hk⟩ := ab_bnd hk
          refine mb_ald ⟨rfl, rfl, fun _ => rfl⟩ ht7 ?_
          by_cases hc : t5 = t7
          · have hk := ab_ifp hk hc
            refine mb_ifp hc ?_
            exact s_X9_areSame_J83 ih _ _ _ _  _ _ hk
          · have hk := ab_ifn hk hc
            refine mb_ifn hc ?_
            exact s_X9_areSame_J82 ih _ _ _  _ _ hk
        · have hk := ab_ifn hk hc
          refine mb_ifn hc ?_
          exact s_X9_areSame_J82 ih _ _ _  _ _ hk
noncomputable def g_X9_areSame_J18 (v1 : Int) (v2 : Int) (s0 : Int) (σ : st_S) : Option (Int × st_S) :=
  g_X9_areSame_L22 ab_FU v1 v2 s0 (0 : Int) σ
set_option maxRecDepth 20000 in
theorem s_X9_areSame_J18 : ∀ (v1 : Int) (v2 : Int) (s0 : Int) (σ : st_S) (q : Int × st_S), g_X9_areSame_J18 v1 v2 s0 σ = some q → f_X9_areSame_J18 ((596 : Nat) : Int) v1 v2 s0 (mk_ σ) = some ((q.1, mk_ q.2)) := by
  intro v1 v2 s0 σ q hk
  unfold g_X9_areSame_J18 at hk
  unfold f_X9_areSame_J18
  refine s_X9_areSame_L22 _ _ _ _ _  _ _ hk
noncomputable def g_X9_areSame (a1 : Int) (a2 : Int) (σ : st_S) : Option (Int × st_S) :=
  (g_X9_terms a1 σ).bind fun q1 =>
  (g_X9_terms a2 q1.2).bind fun q2 =>
  if q1.1 = q2.1 then
    g_X9_areSame_J18 a1 a2 (1 : Int) q2.2
  else
  g_X9_areSame_J18 a1 a2 (0 : Int) q2.2
set_option maxRecDepth 20000 in
theorem s_X9_areSame {a1 : Int} {a2 : Int} {σ : st_S} {q : Int × st_S} (hk : g_X9_areSame a1 a2 σ = some q) : f_X9_areSame ((596 : Nat) : Int) a1 a2 (mk_ σ) = some ((q.1, mk_ q.2)) := by
  unfold g_X9_areSame at hk
  unfold f_X9_areSame
  obtain ⟨q1, hq1, hk⟩ := ab_bnd hk
  refine mb_on rfl (s_X9_terms hq1) ?_
  obtain ⟨q2, hq2, hk⟩ := ab_bnd hk
  refine mb_on rfl (s_X9_terms hq2) ?_
  by_cases hc : q1.1 = q2.1
  · have hk := ab_ifp hk hc
    refine mb_ifp hc ?_
    exact s_X9_areSame_J18 _ _ _  _ _ hk
  · have hk := ab_ifn hk hc
    refine mb_ifn hc ?_
    exact s_X9_areSame_J18 _ _ _  _ _ hk
noncomputable def g_X9_alike (a1 : Int) (a2 : Int) (σ : st_S) : Option (Int × st_S) :=
  (g_X9_isString a1 σ).bind fun q1 =>
  if q1.1 = (0 : Int) then
    some ((-2 : Int), q1.2)
  else
  (g_X9_isString a2 q1.2).bind fun q2 =>
  if q2.1 = (0 : Int) then
    some ((-2 : Int), q2.2)
  else
  (g_X9_laysWords q2.2).bind fun q3 =>
  (g_X9_areSame a1 a2 q3).bind fun q4 =>
  if q4.1 = (0 : Int) then
    (g_X9_areOneSense a1 a2 q4.2).bind fun q5 =>
    if q5.1 = (0 : Int) then
      some ((0 : Int), q5.2)
    else
    some ((1 : Int), q5.2)
  else
  some ((2 : Int), q4.2)
set_option maxRecDepth 20000 in
theorem s_X9_alike {a1 : Int} {a2 : Int} {σ : st_S} {q : Int × st_S} (hk : g_X9_alike a1 a2 σ = some q) : f_X9_alike ((596 : Nat) : Int) a1 a2 (mk_ σ) = some ((q.1, mk_ q.2)) := by
  unfold g_X9_alike at hk
  unfold f_X9_alike
  obtain ⟨q1, hq1, hk⟩ := ab_bnd hk
  refine mb_on rfl (s_X9_isString hq1) ?_
  by_cases hc : q1.1 = (0 : Int)
  · have hk := ab_ifp hk hc
    refine mb_ifp hc ?_
    obtain rfl := Option.some.inj hk
    rfl
  · have hk := ab_ifn hk hc
    refine mb_ifn hc ?_
    obtain ⟨q2, hq2, hk⟩ := ab_bnd hk
    refine mb_on rfl (s_X9_isString hq2) ?_
    by_cases hc : q2.1 = (0 : Int)
    · have hk := ab_ifp hk hc
      refine mb_ifp hc ?_
      obtain rfl := Option.some.inj hk
      rfl
    · have hk := ab_ifn hk hc
      refine mb_ifn hc ?_
      obtain ⟨q3, hq3, hk⟩ := ab_bnd hk
      refine mb_on rfl (s_X9_laysWords hq3) ?_
      obtain ⟨q4, hq4, hk⟩ := ab_bnd hk
      refine mb_on rfl (s_X9_areSame hq4) ?_
      by_cases hc : q4.1 = (0 : Int)
      · have hk := ab_ifp hk hc
        refine mb_ifp hc ?_
        obtain ⟨q5, hq5, hk⟩ := ab_bnd hk
        refine mb_on rfl (s_X9_areOneSense hq5) ?_
        by_cases hc : q5.1 = (0 : Int)
        · have hk := ab_ifp hk hc
          refine mb_ifp hc ?_
          obtain rfl := Option.some.inj hk
          rfl
        · have hk := ab_ifn hk hc
          refine mb_ifn hc ?_
          obtain rfl := Option.some.inj hk
          rfl
      · have hk := ab_ifn hk hc
        refine mb_ifn hc ?_
        obtain rfl := Option.some.inj hk
        rfl
noncomputable def g_X9_common (a1 : Int) (a2 : Int) (a3 : Int) (σ : st_S) : Option (Int × st_S) :=
  (g_X9_isString a1 σ).bind fun q1 =>
  if q1.1 = (0 : Int) then
    some ((-2 : Int), q1.2)
  else
  (g_X9_isString a2 q1.2).bind fun q2 =>
  if q2.1 = (0 : Int) then
    some ((-2 : Int), q2.2)
  else
  (g_X9_in a3 (0 : Int) (1 : Int) q2.2).bind fun q3 =>
  if q3.1 = (0 : Int) then
    some ((-2 : Int), q3.2)
  else
  (g_X9_laysWords q3.2).bind fun q4 =>
  (g_X9_commonOf a1 a2 q4).bind fun q5 =>
  if a3 = (0 : Int) then
    some (q5.1, q5.2)
  else
  (g_X9_commonOf a1 a1 q5.2).bind fun q6 =>
  (g_X9_commonOf a2 a2 q6.2).bind fun q7 =>
  some (ab_w32 ((ab_w32 (q6.1 + q7.1)) - q5.1), q7.2)
set_option maxRecDepth 20000 in
theorem s_X9_common {a1 : Int} {a2 : Int} {a3 : Int} {σ : st_S} {q : Int × st_S} (hk : g_X9_common a1 a2 a3 σ = some q) : f_X9_common ((596 : Nat) : Int) a1 a2 a3 (mk_ σ) = some ((q.1, mk_ q.2)) := by
  unfold g_X9_common at hk
  unfold f_X9_common
  obtain ⟨q1, hq1, hk⟩ := ab_bnd hk
  refine mb_on rfl (s_X9_isString hq1) ?_
  by_cases hc : q1.1 = (0 : Int)
  · have hk := ab_ifp hk hc
    refine mb_ifp hc ?_
    obtain rfl := Option.some.inj hk
    rfl
  · have hk := ab_ifn hk hc
    refine mb_ifn hc ?_
    obtain ⟨q2, hq2, hk⟩ := ab_bnd hk
    refine mb_on rfl (s_X9_isString hq2) ?_
    by_cases hc : q2.1 = (0 : Int)
    · have hk := ab_ifp hk hc
      refine mb_ifp hc ?_
      obtain rfl := Option.some.inj hk
      rfl
    · have hk := ab_ifn hk hc
      refine mb_ifn hc ?_
      obtain ⟨q3, hq3, hk⟩ := ab_bnd hk
      refine mb_eq (s_X9_in hq3) ?_
      by_cases hc : q3.1 = (0 : Int)
      · have hk := ab_ifp hk hc
        refine mb_ifp hc ?_
        obtain rfl := Option.some.inj hk
        rfl
      · have hk := ab_ifn hk hc
        refine mb_ifn hc ?_
        obtain ⟨q4, hq4, hk⟩ := ab_bnd hk
        refine mb_on rfl (s_X9_laysWords hq4) ?_
        obtain ⟨q5, hq5, hk⟩ := ab_bnd hk
        refine mb_on rfl (s_X9_commonOf hq5) ?_
        by_cases hc : a3 = (0 : Int)
        · have hk := ab_ifp hk hc
          refine mb_ifp hc ?_
          obtain rfl := Option.some.inj hk
          rfl
        · have hk := ab_ifn hk hc
          refine mb_ifn hc ?_
          obtain ⟨q6, hq6, hk⟩ := ab_bnd hk
          refine mb_on rfl (s_X9_commonOf hq6) ?_
          obtain ⟨q7, hq7, hk⟩ := ab_bnd hk
          refine mb_on rfl (s_X9_commonOf hq7) ?_
          obtain rfl := Option.some.inj hk
          rfl
noncomputable def g_X9_nearest_J62 (rec : Int → Int → Int → Int → st_S → Option (Int × st_S)) (v1 : Int) (v2 : Int) (v3 : Int) (v4 : Int) (σ : st_S) : Option (Int × st_S) :=
  rec v1 v2 v3 (ab_w32 (v4 + (1 : Int))) σ
set_option maxRecDepth 20000 in
theorem s_X9_nearest_J62 {rec : Int → Int → Int → Int → st_S → Option (Int × st_S)} {recf : Int → Int → Int → Int → Int → ab_H → Option (Int × ab_H)} (hrec : ∀ (v1 : Int) (v2 : Int) (v3 : Int) (v4 : Int) (σ : st_S) (q : Int × st_S), rec v1 v2 v3 v4 σ = some q → recf ((596 : Nat) : Int) v1 v2 v3 v4 (mk_ σ) = some ((q.1, mk_ q.2))) : ∀ (v1 : Int) (v2 : Int) (v3 : Int) (v4 : Int) (σ : st_S) (q : Int × st_S), g_X9_nearest_J62 rec v1 v2 v3 v4 σ = some q → f_X9_nearest_J62 recf ((596 : Nat) : Int) v1 v2 v3 v4 (mk_ σ) = some ((q.1, mk_ q.2)) := by
  intro v1 v2 v3 v4 σ q hk
  unfold g_X9_nearest_J62 at hk
  unfold f_X9_nearest_J62
  exact hrec _ _ _ _  _ _ hk
noncomputable def g_X9_nearest_L22 : Nat → Int → Int → Int → Int → st_S → Option (Int × st_S)
  | 0, _, _, _, _, _ => none
  | n + 1, v1, v2, v3, v4, σ =>
    (g_X9_strings σ).bind fun q1 =>
    if q1.1 ≤ v4 then
      some (v2, q1.2)
    else
    if v4 = v1 then
      g_X9_nearest_J62 (g_X9_nearest_L22 n) v1 v2 v3 v4 q1.2
    else
    (g_X9_commonOf v1 v4 q1.2).bind fun q2 =>
    if v3 < q2.1 then
      (g_X9_commonOf v1 v4 q2.2).bind fun q3 =>
      g_X9_nearest_J62 (g_X9_nearest_L22 n) v1 v4 q3.1 v4 q3.2
    else
    g_X9_nearest_J62 (g_X9_nearest_L22 n) v1 v2 v3 v4 q2.2
set_option maxRecDepth 20000 in
theorem s_X9_nearest_L22 : ∀ (n : Nat) (v1 : Int) (v2 : Int) (v3 : Int) (v4 : Int) (σ : st_S) (q : Int × st_S), g_X9_nearest_L22 n v1 v2 v3 v4 σ = some q → f_X9_nearest_L22 n ((596 : Nat) : Int) v1 v2 v3 v4 (mk_ σ) = some ((q.1, mk_ q.2)) := by
  intro n
  induction n with
  | zero => intro v1 v2 v3 v4 σ q hk; cases hk
  | succ n ih =>
    intro v1 v2 v3 v4 σ q hk
    unfold g_X9_nearest_L22 at hk
    unfold f_X9_nearest_L22
    obtain ⟨q1, hq1, hk⟩ := ab_bnd hk
    refine mb_on rfl (s_X9_strings hq1) ?_
    by_cases hc : q1.1 ≤ v4
    · have hk := ab_ifp hk hc
      refine mb_ifp hc ?_
      obtain rfl := Option.some.inj hk
      rfl
    · have hk := ab_ifn hk hc
      refine mb_ifn hc ?_
      by_cases hc : v4 = v1
      · have hk := ab_ifp hk hc
        refine mb_ifp hc ?_
        exact s_X9_nearest_J62 ih _ _ _ _  _ _ hk
      · have hk := ab_ifn hk hc
        refine mb_ifn hc ?_
        obtain ⟨q2, hq2, hk⟩ := ab_bnd hk
        refine mb_on rfl (s_X9_commonOf hq2) ?_
        by_cases hc : v3 < q2.1
        · have hk := ab_ifp hk hc
          refine mb_ifp hc ?_
          obtain ⟨q3, hq3, hk⟩ := ab_bnd hk
          refine mb_on rfl (s_X9_commonOf hq3) ?_
          exact s_X9_nearest_J62 ih _ _ _ _  _ _ hk
        · have hk := ab_ifn hk hc
          refine mb_ifn hc ?_
          exact s_X9_nearest_J62 ih _ _ _ _  _ _ hk
noncomputable def g_X9_nearest (a1 : Int) (σ : st_S) : Option (Int × st_S) :=
  (g_X9_isString a1 σ).bind fun q1 =>
  if q1.1 = (0 : Int) then
    some ((-2 : Int), q1.2)
  else
  (g_X9_laysWords q1.2).bind fun q2 =>
  g_X9_nearest_L22 ab_FU a1 (-1 : Int) (0 : Int) (0 : Int) q2
set_option maxRecDepth 20000 in
theorem s_X9_nearest {a1 : Int} {σ : st_S} {q : Int × st_S} (hk : g_X9_nearest a1 σ = some q) : f_X9_nearest ((596 : Nat) : Int) a1 (mk_ σ) = some ((q.1, mk_ q.2)) := by
  unfold g_X9_nearest at hk
  unfold f_X9_nearest
  obtain ⟨q1, hq1, hk⟩ := ab_bnd hk
  refine mb_on rfl (s_X9_isString hq1) ?_
  by_cases hc : q1.1 = (0 : Int)
  · have hk := ab_ifp hk hc
    refine mb_ifp hc ?_
    obtain rfl := Option.some.inj hk
    rfl
  · have hk := ab_ifn hk hc
    refine mb_ifn hc ?_
    obtain ⟨q2, hq2, hk⟩ := ab_bnd hk
    refine mb_on rfl (s_X9_laysWords hq2) ?_
    refine s_X9_nearest_L22 _ _ _ _ _  _ _ hk
noncomputable def g_X9_senses_J63 (rec : Int → Int → st_S → Option (Int × st_S)) (v2 : Int) (s1 : Int) (s0 : Int) (σ : st_S) : Option (Int × st_S) :=
  rec (ab_w32 (s0 + s1)) (ab_w32 (v2 + (1 : Int))) σ
set_option maxRecDepth 20000 in
theorem s_X9_senses_J63 {rec : Int → Int → st_S → Option (Int × st_S)} {recf : Int → Int → Int → ab_H → Option (Int × ab_H)} (hrec : ∀ (v1 : Int) (v2 : Int) (σ : st_S) (q : Int × st_S), rec v1 v2 σ = some q → recf ((596 : Nat) : Int) v1 v2 (mk_ σ) = some ((q.1, mk_ q.2))) : ∀ (v2 : Int) (s1 : Int) (s0 : Int) (σ : st_S) (q : Int × st_S), g_X9_senses_J63 rec v2 s1 s0 σ = some q → f_X9_senses_J63 recf ((596 : Nat) : Int) v2 s1 s0 (mk_ σ) = some ((q.1, mk_ q.2)) := by
  intro v2 s1 s0 σ q hk
  unfold g_X9_senses_J63 at hk
  unfold f_X9_senses_J63
  exact hrec _ _  _ _ hk
noncomputable def g_X9_senses_J53 (rec : Int → Int → st_S → Option (Int × st_S)) (v1 : Int) (v2 : Int) (v3 : Int) (σ : st_S) : Option (Int × st_S) :=
  if v3 = (0 : Int) then
    g_X9_senses_J63 rec v2 (0 : Int) v1 σ
  else
  g_X9_senses_J63 rec v2 (1 : Int) v1 σ
set_option maxRecDepth 20000 in
theorem s_X9_senses_J53 {rec : Int → Int → st_S → Option (Int × st_S)} {recf : Int → Int → Int → ab_H → Option (Int × ab_H)} (hrec : ∀ (v1 : Int) (v2 : Int) (σ : st_S) (q : Int × st_S), rec v1 v2 σ = some q → recf ((596 : Nat) : Int) v1 v2 (mk_ σ) = some ((q.1, mk_ q.2))) : ∀ (v1 : Int) (v2 : Int) (v3 : Int) (σ : st_S) (q : Int × st_S), g_X9_senses_J53 rec v1 v2 v3 σ = some q → f_X9_senses_J53 recf ((596 : Nat) : Int) v1 v2 v3 (mk_ σ) = some ((q.1, mk_ q.2)) := by
  intro v1 v2 v3 σ q hk
  unfold g_X9_senses_J53 at hk
  unfold f_X9_senses_J53
  by_cases hc : v3 = (0 : Int)
  · have hk := ab_ifp hk hc
    refine mb_ifp hc ?_
    exact s_X9_senses_J63 hrec _ _ _  _ _ hk
  · have hk := ab_ifn hk hc
    refine mb_ifn hc ?_
    exact s_X9_senses_J63 hrec _ _ _  _ _ hk
noncomputable def g_X9_senses_J46 (rec : Int → Int → Int → Int → st_S → Option (Int × st_S)) (k53 : Int → Int → Int → st_S → Option (Int × st_S)) (v1 : Int) (v2 : Int) (v4 : Int) (s0 : Int) (σ : st_S) : Option (Int × st_S) :=
  rec v1 v2 s0 (ab_w32 (v4 + (1 : Int))) σ
set_option maxRecDepth 20000 in
theorem s_X9_senses_J46 {rec : Int → Int → Int → Int → st_S → Option (Int × st_S)} {recf : Int → Int → Int → Int → Int → ab_H → Option (Int × ab_H)} {k53 : Int → Int → Int → st_S → Option (Int × st_S)} {kf53 : Int → Int → Int → Int → ab_H → Option (Int × ab_H)} (hrec : ∀ (v1 : Int) (v2 : Int) (v3 : Int) (v4 : Int) (σ : st_S) (q : Int × st_S), rec v1 v2 v3 v4 σ = some q → recf ((596 : Nat) : Int) v1 v2 v3 v4 (mk_ σ) = some ((q.1, mk_ q.2))) (hk53 : ∀ (v1 : Int) (v2 : Int) (v3 : Int) (σ : st_S) (q : Int × st_S), k53 v1 v2 v3 σ = some q → kf53 ((596 : Nat) : Int) v1 v2 v3 (mk_ σ) = some ((q.1, mk_ q.2))) : ∀ (v1 : Int) (v2 : Int) (v4 : Int) (s0 : Int) (σ : st_S) (q : Int × st_S), g_X9_senses_J46 rec k53 v1 v2 v4 s0 σ = some q → f_X9_senses_J46 recf kf53 ((596 : Nat) : Int) v1 v2 v4 s0 (mk_ σ) = some ((q.1, mk_ q.2)) := by
  intro v1 v2 v4 s0 σ q hk
  unfold g_X9_senses_J46 at hk
  unfold f_X9_senses_J46
  exact hrec _ _ _ _  _ _ hk
noncomputable def g_X9_senses_L21 (k53 : Int → Int → Int → st_S → Option (Int × st_S)) : Nat → Int → Int → Int → Int → st_S → Option (Int × st_S)
  | 0, _, _, _, _, _ => none
  | n + 1, v1, v2, v3, v4, σ =>
    if v2 ≤ v4 then
      k53 v1 v2 v3 σ
    else
    if v3 = (0 : Int) then
      k53 v1 v2 v3 σ
    else
    (g_X9_areOneSense v2 v4 σ).bind fun q1 =>
    if q1.1 = (0 : Int) then
      g_X9_senses_J46 (g_X9_senses_L21 k53 n) k53 v1 v2 v4 (1 : Int) q1.2
    else
    g_X9_senses_J46 (g_X9_senses_L21 k53 n) k53 v1 v2 v4 (0 : Int) q1.2
set_option maxRecDepth 20000 in
theorem s_X9_senses_L21 {k53 : Int → Int → Int → st_S → Option (Int × st_S)} {kf53 : Int → Int → Int → Int → ab_H → Option (Int × ab_H)} (hk53 : ∀ (v1 : Int) (v2 : Int) (v3 : Int) (σ : st_S) (q : Int × st_S), k53 v1 v2 v3 σ = some q → kf53 ((596 : Nat) : Int) v1 v2 v3 (mk_ σ) = some ((q.1, mk_ q.2))) : ∀ (n : Nat) (v1 : Int) (v2 : Int) (v3 : Int) (v4 : Int) (σ : st_S) (q : Int × st_S), g_X9_senses_L21 k53 n v1 v2 v3 v4 σ = some q → f_X9_senses_L21 kf53 n ((596 : Nat) : Int) v1 v2 v3 v4 (mk_ σ) = some ((q.1, mk_ q.2)) := by
  intro n
  induction n with
  | zero => intro v1 v2 v3 v4 σ q hk; cases hk
  | succ n ih =>
    intro v1 v2 v3 v4 σ q hk
    unfold g_X9_senses_L21 at hk
    unfold f_X9_senses_L21
    by_cases hc : v2 ≤ v4
    · have hk := ab_ifp hk hc
      refine mb_ifp hc ?_
      exact hk53 _ _ _  _ _ hk
    · have hk := ab_ifn hk hc
      refine mb_ifn hc ?_
      by_cases hc : v3 = (0 : Int)
      · have hk := ab_ifp hk hc
        refine mb_ifp hc ?_
        exact hk53 _ _ _  _ _ hk
      · have hk := ab_ifn hk hc
        refine mb_ifn hc ?_
        obtain ⟨q1, hq1, hk⟩ := ab_bnd hk
        refine mb_on rfl (s_X9_areOneSense hq1) ?_
        by_cases hc : q1.1 = (0 : Int)
        · have hk := ab_ifp hk hc
          refine mb_ifp hc ?_
          exact s_X9_senses_J46 ih hk53 _ _ _ _  _ _ hk
        · have hk := ab_ifn hk hc
          refine mb_ifn hc ?_
          exact s_X9_senses_J46 ih hk53 _ _ _ _  _ _ hk
noncomputable def g_X9_senses_L8 : Nat → Int → Int → st_S → Option (Int × st_S)
  | 0, _, _, _ => none
  | n + 1, v1, v2, σ =>
    (g_X9_strings σ).bind fun q1 =>
    if q1.1 ≤ v2 then
      some (v1, q1.2)
    else
    g_X9_senses_L21 (fun w53_1 w53_2 w53_3 σx53 =>
      g_X9_senses_J53 (g_X9_senses_L8 n) w53_1 w53_2 w53_3 σx53) ab_FU v1 v2 (1 : Int) (0 : Int) q1.2
set_option maxRecDepth 20000 in
theorem s_X9_senses_L8 : ∀ (n : Nat) (v1 : Int) (v2 : Int) (σ : st_S) (q : Int × st_S), g_X9_senses_L8 n v1 v2 σ = some q → f_X9_senses_L8 n ((596 : Nat) : Int) v1 v2 (mk_ σ) = some ((q.1, mk_ q.2)) := by
  intro n
  induction n with
  | zero => intro v1 v2 σ q hk; cases hk
  | succ n ih =>
    intro v1 v2 σ q hk
    unfold g_X9_senses_L8 at hk
    unfold f_X9_senses_L8
    obtain ⟨q1, hq1, hk⟩ := ab_bnd hk
    refine mb_on rfl (s_X9_strings hq1) ?_
    by_cases hc : q1.1 ≤ v2
    · have hk := ab_ifp hk hc
      refine mb_ifp hc ?_
      obtain rfl := Option.some.inj hk
      rfl
    · have hk := ab_ifn hk hc
      refine mb_ifn hc ?_
      refine s_X9_senses_L21 (fun w53_1 w53_2 w53_3 σx53 q hk => ?_) _ _ _ _ _  _ _ hk
      · skip
        exact s_X9_senses_J53 ih _ _ _  _ _ hk
noncomputable def g_X9_senses (σ : st_S) : Option (Int × st_S) :=
  (g_X9_laysWords σ).bind fun q1 =>
  g_X9_senses_L8 ab_FU (0 : Int) (0 : Int) q1
set_option maxRecDepth 20000 in
theorem s_X9_senses {σ : st_S} {q : Int × st_S} (hk : g_X9_senses σ = some q) : f_X9_senses ((596 : Nat) : Int) (mk_ σ) = some ((q.1, mk_ q.2)) := by
  unfold g_X9_senses at hk
  unfold f_X9_senses
  obtain ⟨q1, hq1, hk⟩ := ab_bnd hk
  refine mb_on rfl (s_X9_laysWords hq1) ?_
  refine s_X9_senses_L8 _ _ _  _ _ hk
noncomputable def g_X9_isBeside_J89 (rec : Int → Int → Int → Int → Int → st_S → Option (Int × st_S)) (k72 : st_S → Option (Int × st_S)) (k95 : Int → Int → Int → Int → st_S → Option (Int × st_S)) (v1 : Int) (v2 : Int) (v3 : Int) (v4 : Int) (v5 : Int) (σ : st_S) : Option (Int × st_S) :=
  rec v1 v2 v3 v4 (ab_w32 (v5 + (1 : Int))) σ
set_option maxRecDepth 20000 in
theorem s_X9_isBeside_J89 {rec : Int → Int → Int → Int → Int → st_S → Option (Int × st_S)} {recf : Int → Int → Int → Int → Int → Int → ab_H → Option (Int × ab_H)} {k72 : st_S → Option (Int × st_S)} {kf72 : ab_H → Option (Int × ab_H)} {k95 : Int → Int → Int → Int → st_S → Option (Int × st_S)} {kf95 : Int → Int → Int → Int → Int → ab_H → Option (Int × ab_H)} (hrec : ∀ (v1 : Int) (v2 : Int) (v3 : Int) (v4 : Int) (v5 : Int) (σ : st_S) (q : Int × st_S), rec v1 v2 v3 v4 v5 σ = some q → recf ((596 : Nat) : Int) v1 v2 v3 v4 v5 (mk_ σ) = some ((q.1, mk_ q.2))) (hk72 : ∀ (σ : st_S) (q : Int × st_S), k72 σ = some q → kf72 (mk_ σ) = some ((q.1, mk_ q.2))) (hk95 : ∀ (v1 : Int) (v2 : Int) (v3 : Int) (v4 : Int) (σ : st_S) (q : Int × st_S), k95 v1 v2 v3 v4 σ = some q → kf95 ((596 : Nat) : Int) v1 v2 v3 v4 (mk_ σ) = some ((q.1, mk_ q.2))) : ∀ (v1 : Int) (v2 : Int) (v3 : Int) (v4 : Int) (v5 : Int) (σ : st_S) (q : Int × st_S), g_X9_isBeside_J89 rec k72 k95 v1 v2 v3 v4 v5 σ = some q → f_X9_isBeside_J89 recf kf72 kf95 ((596 : Nat) : Int) v1 v2 v3 v4 v5 (mk_ σ) = some ((q.1, mk_ q.2)) := by
  intro v1 v2 v3 v4 v5 σ q hk
  unfold g_X9_isBeside_J89 at hk
  unfold f_X9_isBeside_J89
  exact hrec _ _ _ _ _  _ _ hk
noncomputable def g_X9_isBeside_L15 (k72 : st_S → Option (Int × st_S)) (k95 : Int → Int → Int → Int → st_S → Option (Int × st_S)) : Nat → Int → Int → Int → Int → Int → st_S → Option (Int × st_S)
  | 0, _, _, _, _, _, _ => none
  | n + 1, v1, v2, v3, v4, v5, σ =>
    (g_X9_terms v4 σ).bind fun q1 =>
    if q1.1 ≤ v5 then
      k95 v1 v2 v3 v4 q1.2
    else
    (g_X9_place v4 (ab_w32 (v5 - (1 : Int))) q1.2).bind fun q2 =>
    (sa_ld q2.2 601 72 q2.1).bind fun t3 =>
    (g_X9_place v4 v5 q2.2).bind fun q4 =>
    (sa_ld q4.2 601 72 q4.1).bind fun t5 =>
    if v3 = (0 : Int) then
      if t5 = v1 then
        if t3 = v2 then
          k72 q4.2
        else
        g_X9_isBeside_J89 (g_X9_isBeside_L15 k72 k95 n) k72 k95 v1 v2 v3 v4 v5 q4.2
      else
      g_X9_isBeside_J89 (g_X9_isBeside_L15 k72 k95 n) k72 k95 v1 v2 v3 v4 v5 q4.2
    else
    if t3 = v1 then
      if t5 = v2 then
        some ((1 : Int), q4.2)
      else
      g_X9_isBeside_J89 (g_X9_isBeside_L15 k72 k95 n) k72 k95 v1 v2 v3 v4 v5 q4.2
    else
    g_X9_isBeside_J89 (g_X9_isBeside_L15 k72 k95 n) k72 k95 v1 v2 v3 v4 v5 q4.2
set_option maxRecDepth 20000 in
theorem s_X9_isBeside_L15 {k72 : st_S → Option (Int × st_S)} {kf72 : ab_H → Option (Int × ab_H)} {k95 : Int → Int → Int → Int → st_S → Option (Int × st_S)} {kf95 : Int → Int → Int → Int → Int → ab_H → Option (Int × ab_H)} (hk72 : ∀ (σ : st_S) (q : Int × st_S), k72 σ = some q → kf72 (mk_ σ) = some ((q.1, mk_ q.2))) (hk95 : ∀ (v1 : Int) (v2 : Int) (v3 : Int) (v4 : Int) (σ : st_S) (q : Int × st_S), k95 v1 v2 v3 v4 σ = some q → kf95 ((596 : Nat) : Int) v1 v2 v3 v4 (mk_ σ) = some ((q.1, mk_ q.2))) : ∀ (n : Nat) (v1 : Int) (v2 : Int) (v3 : Int) (v4 : Int) (v5 : Int) (σ : st_S) (q : Int × st_S), g_X9_isBeside_L15 k72 k95 n v1 v2 v3 v4 v5 σ = some q → f_X9_isBeside_L15 kf72 kf95 n ((596 : Nat) : Int) v1 v2 v3 v4 v5 (mk_ σ) = some ((q.1, mk_ q.2)) := by
  intro n
  induction n with
  | zero => intro v1 v2 v3 v4 v5 σ q hk; cases hk
  | succ n ih =>
    intro v1 v2 v3 v4 v5 σ q hk
    unfold g_X9_isBeside_L15 at hk
    unfold f_X9_isBeside_L15
    obtain ⟨q1, hq1, hk⟩ := ab_bnd hk
    refine mb_on rfl (s_X9_terms hq1) ?_
    by_cases hc : q1.1 ≤ v5
    · have hk := ab_ifp hk hc
      refine mb_ifp hc ?_
      exact hk95 _ _ _ _  _ _ hk
    · have hk := ab_ifn hk hc
      refine mb_ifn hc ?_
      refine mb_getR 601 rfl rfl (by decide) ?_
      obtain ⟨q2, hq2, hk⟩ := ab_bnd hk
      refine mb_eq (s_X9_place hq2) ?_
      obtain ⟨t3, ht3, hk⟩ := ab_bnd hk
      refine mb_ald ⟨rfl, rfl, fun _ => rfl⟩ ht3 ?_
      refine mb_getR 601 rfl rfl (by decide) ?_
      obtain ⟨q4, hq4, hk⟩ := ab_bnd hk
      refine mb_eq (s_X9_place hq4) ?_
      obtain ⟨t5, ht5, hk⟩ := ab_bnd hk
      refine mb_ald ⟨rfl, rfl, fun _ => rfl⟩ ht5 ?_
      by_cases hc : v3 = (0 : Int)
      · have hk := ab_ifp hk hc
        refine mb_ifp hc ?_
        by_cases hc : t5 = v1
        · have hk := ab_ifp hk hc
          refine mb_ifp hc ?_
          by_cases hc : t3 = v2
          · have hk := ab_ifp hk hc
            refine mb_ifp hc ?_
            exact hk72  _ _ hk
          · have hk := ab_ifn hk hc
            refine mb_ifn hc ?_
            exact s_X9_isBeside_J89 ih hk72 hk95 _ _ _ _ _  _ _ hk
        · have hk := ab_ifn hk hc
          refine mb_ifn hc ?_
          exact s_X9_isBeside_J89 ih hk72 hk95 _ _ _ _ _  _ _ hk
      · have hk := ab_ifn hk hc
        refine mb_ifn hc ?_
        by_cases hc : t3 = v1
        · have hk := ab_ifp hk hc
          refine mb_ifp hc ?_
          by_cases hc : t5 = v2
          · have hk := ab_ifp hk hc
            refine mb_ifp hc ?_
            obtain rfl := Option.some.inj hk
            rfl
          · have hk := ab_ifn hk hc
            refine mb_ifn hc ?_
            exact s_X9_isBeside_J89 ih hk72 hk95 _ _ _ _ _  _ _ hk
        · have hk := ab_ifn hk hc
          refine mb_ifn hc ?_
          exact s_X9_isBeside_J89 ih hk72 hk95 _ _ _ _ _  _ _ hk
noncomputable def g_X9_isBeside_L3 (k72 : st_S → Option (Int × st_S)) : Nat → Int → Int → Int → Int → st_S → Option (Int × st_S)
  | 0, _, _, _, _, _ => none
  | n + 1, v1, v2, v3, v4, σ =>
    (g_X9_strings σ).bind fun q1 =>
    if q1.1 ≤ v4 then
      some ((0 : Int), q1.2)
    else
    g_X9_isBeside_L15 (fun σx72 =>
      k72 σx72) (fun w95_1 w95_2 w95_3 w95_4 σx95 =>
      g_X9_isBeside_L3 k72 n w95_1 w95_2 w95_3 (ab_w32 (w95_4 + (1 : Int))) σx95) ab_FU v1 v2 v3 v4 (1 : Int) q1.2
set_option maxRecDepth 20000 in
theorem s_X9_isBeside_L3 {k72 : st_S → Option (Int × st_S)} {kf72 : ab_H → Option (Int × ab_H)} (hk72 : ∀ (σ : st_S) (q : Int × st_S), k72 σ = some q → kf72 (mk_ σ) = some ((q.1, mk_ q.2))) : ∀ (n : Nat) (v1 : Int) (v2 : Int) (v3 : Int) (v4 : Int) (σ : st_S) (q : Int × st_S), g_X9_isBeside_L3 k72 n v1 v2 v3 v4 σ = some q → f_X9_isBeside_L3 kf72 n ((596 : Nat) : Int) v1 v2 v3 v4 (mk_ σ) = some ((q.1, mk_ q.2)) := by
  intro n
  induction n with
  | zero => intro v1 v2 v3 v4 σ q hk; cases hk
  | succ n ih =>
    intro v1 v2 v3 v4 σ q hk
    unfold g_X9_isBeside_L3 at hk
    unfold f_X9_isBeside_L3
    obtain ⟨q1, hq1, hk⟩ := ab_bnd hk
    refine mb_on rfl (s_X9_strings hq1) ?_
    by_cases hc : q1.1 ≤ v4
    · have hk := ab_ifp hk hc
      refine mb_ifp hc ?_
      obtain rfl := Option.some.inj hk
      rfl
    · have hk := ab_ifn hk hc
      refine mb_ifn hc ?_
      refine s_X9_isBeside_L15 (fun σx72 q hk => ?_) (fun w95_1 w95_2 w95_3 w95_4 σx95 q hk => ?_) _ _ _ _ _ _  _ _ hk
      · skip
        exact hk72  _ _ hk
      · skip
        exact ih _ _ _ _  _ _ hk
noncomputable def g_X9_isBeside (a1 : Int) (a2 : Int) (a3 : Int) (σ : st_S) : Option (Int × st_S) :=
  g_X9_isBeside_L3 (fun σx72 =>
    some ((1 : Int), σx72)) ab_FU a1 a2 a3 (0 : Int) σ
set_option maxRecDepth 20000 in
theorem s_X9_isBeside {a1 : Int} {a2 : Int} {a3 : Int} {σ : st_S} {q : Int × st_S} (hk : g_X9_isBeside a1 a2 a3 σ = some q) : f_X9_isBeside ((596 : Nat) : Int) a1 a2 a3 (mk_ σ) = some ((q.1, mk_ q.2)) := by
  unfold g_X9_isBeside at hk
  unfold f_X9_isBeside
  refine s_X9_isBeside_L3 (fun σx72 q hk => ?_) _ _ _ _ _  _ _ hk
  · skip
    obtain rfl := Option.some.inj hk
    rfl
noncomputable def g_X9_beside_J67 (rec : Int → Int → Int → Int → Int → st_S → Option (Int × st_S)) (k73 : Int → Int → st_S → Option (Int × st_S)) (v1 : Int) (v2 : Int) (v3 : Int) (v4 : Int) (v5 : Int) (σ : st_S) : Option (Int × st_S) :=
  rec v1 v2 v3 v4 (ab_w32 (v5 + (1 : Int))) σ
set_option maxRecDepth 20000 in
theorem s_X9_beside_J67 {rec : Int → Int → Int → Int → Int → st_S → Option (Int × st_S)} {recf : Int → Int → Int → Int → Int → Int → ab_H → Option (Int × ab_H)} {k73 : Int → Int → st_S → Option (Int × st_S)} {kf73 : Int → Int → ab_H → Option (Int × ab_H)} (hrec : ∀ (v1 : Int) (v2 : Int) (v3 : Int) (v4 : Int) (v5 : Int) (σ : st_S) (q : Int × st_S), rec v1 v2 v3 v4 v5 σ = some q → recf ((596 : Nat) : Int) v1 v2 v3 v4 v5 (mk_ σ) = some ((q.1, mk_ q.2))) (hk73 : ∀ (v3 : Int) (v4 : Int) (σ : st_S) (q : Int × st_S), k73 v3 v4 σ = some q → kf73 v3 v4 (mk_ σ) = some ((q.1, mk_ q.2))) : ∀ (v1 : Int) (v2 : Int) (v3 : Int) (v4 : Int) (v5 : Int) (σ : st_S) (q : Int × st_S), g_X9_beside_J67 rec k73 v1 v2 v3 v4 v5 σ = some q → f_X9_beside_J67 recf kf73 ((596 : Nat) : Int) v1 v2 v3 v4 v5 (mk_ σ) = some ((q.1, mk_ q.2)) := by
  intro v1 v2 v3 v4 v5 σ q hk
  unfold g_X9_beside_J67 at hk
  unfold f_X9_beside_J67
  exact hrec _ _ _ _ _  _ _ hk
noncomputable def g_X9_beside_L32 (k73 : Int → Int → st_S → Option (Int × st_S)) : Nat → Int → Int → Int → Int → Int → st_S → Option (Int × st_S)
  | 0, _, _, _, _, _, _ => none
  | n + 1, v1, v2, v3, v4, v5, σ =>
    if σ 596 14 ≤ v5 then
      k73 v3 v4 σ
    else
    (g_X9_isBeside v1 v5 v2 σ).bind fun q1 =>
    if q1.1 = (0 : Int) then
      g_X9_beside_J67 (g_X9_beside_L32 k73 n) k73 v1 v2 v3 v4 v5 q1.2
    else
    if v4 = v3 then
      some (v5, q1.2)
    else
    g_X9_beside_J67 (g_X9_beside_L32 k73 n) k73 v1 v2 v3 (ab_w32 (v4 + (1 : Int))) v5 q1.2
set_option maxRecDepth 20000 in
theorem s_X9_beside_L32 {k73 : Int → Int → st_S → Option (Int × st_S)} {kf73 : Int → Int → ab_H → Option (Int × ab_H)} (hk73 : ∀ (v3 : Int) (v4 : Int) (σ : st_S) (q : Int × st_S), k73 v3 v4 σ = some q → kf73 v3 v4 (mk_ σ) = some ((q.1, mk_ q.2))) : ∀ (n : Nat) (v1 : Int) (v2 : Int) (v3 : Int) (v4 : Int) (v5 : Int) (σ : st_S) (q : Int × st_S), g_X9_beside_L32 k73 n v1 v2 v3 v4 v5 σ = some q → f_X9_beside_L32 kf73 n ((596 : Nat) : Int) v1 v2 v3 v4 v5 (mk_ σ) = some ((q.1, mk_ q.2)) := by
  intro n
  induction n with
  | zero => intro v1 v2 v3 v4 v5 σ q hk; cases hk
  | succ n ih =>
    intro v1 v2 v3 v4 v5 σ q hk
    unfold g_X9_beside_L32 at hk
    unfold f_X9_beside_L32
    refine mb_get rfl rfl ?_
    by_cases hc : σ 596 14 ≤ v5
    · have hk := ab_ifp hk hc
      refine mb_ifp hc ?_
      exact hk73 _ _  _ _ hk
    · have hk := ab_ifn hk hc
      refine mb_ifn hc ?_
      obtain ⟨q1, hq1, hk⟩ := ab_bnd hk
      refine mb_on rfl (s_X9_isBeside hq1) ?_
      by_cases hc : q1.1 = (0 : Int)
      · have hk := ab_ifp hk hc
        refine mb_ifp hc ?_
        exact s_X9_beside_J67 ih hk73 _ _ _ _ _  _ _ hk
      · have hk := ab_ifn hk hc
        refine mb_ifn hc ?_
        by_cases hc : v4 = v3
        · have hk := ab_ifp hk hc
          refine mb_ifp hc ?_
          obtain rfl := Option.some.inj hk
          rfl
        · have hk := ab_ifn hk hc
          refine mb_ifn hc ?_
          exact s_X9_beside_J67 ih hk73 _ _ _ _ _  _ _ hk
noncomputable def g_X9_beside (a1 : Int) (a2 : Int) (a3 : Int) (σ : st_S) : Option (Int × st_S) :=
  (g_X9_isWordNow a1 σ).bind fun q1 =>
  if q1.1 = (0 : Int) then
    some ((-2 : Int), q1.2)
  else
  (g_X9_in a2 (0 : Int) (1 : Int) q1.2).bind fun q2 =>
  if q2.1 = (0 : Int) then
    some ((-2 : Int), q2.2)
  else
  if (-1 : Int) ≤ a3 then
    g_X9_beside_L32 (fun w73_3 w73_4 σx73 =>
      if w73_3 = (-1 : Int) then
        some (w73_4, σx73)
      else
      some ((-1 : Int), σx73)) ab_FU a1 a2 a3 (0 : Int) (0 : Int) q2.2
  else
  some ((-2 : Int), q2.2)
set_option maxRecDepth 20000 in
theorem s_X9_beside {a1 : Int} {a2 : Int} {a3 : Int} {σ : st_S} {q : Int × st_S} (hk : g_X9_beside a1 a2 a3 σ = some q) : f_X9_beside ((596 : Nat) : Int) a1 a2 a3 (mk_ σ) = some ((q.1, mk_ q.2)) := by
  unfold g_X9_beside at hk
  unfold f_X9_beside
  obtain ⟨q1, hq1, hk⟩ := ab_bnd hk
  refine mb_on rfl (s_X9_isWordNow hq1) ?_
  by_cases hc : q1.1 = (0 : Int)
  · have hk := ab_ifp hk hc
    refine mb_ifp hc ?_
    obtain rfl := Option.some.inj hk
    rfl
  · have hk := ab_ifn hk hc
    refine mb_ifn hc ?_
    obtain ⟨q2, hq2, hk⟩ := ab_bnd hk
    refine mb_eq (s_X9_in hq2) ?_
    by_cases hc : q2.1 = (0 : Int)
    · have hk := ab_ifp hk hc
      refine mb_ifp hc ?_
      obtain rfl := Option.some.inj hk
      rfl
    · have hk := ab_ifn hk hc
      refine mb_ifn hc ?_
      by_cases hc : (-1 : Int) ≤ a3
      · have hk := ab_ifp hk hc
        refine mb_ifp hc ?_
        refine s_X9_beside_L32 (fun w73_3 w73_4 σx73 q hk => ?_) _ _ _ _ _ _  _ _ hk
        · skip
          by_cases hc : w73_3 = (-1 : Int)
          · have hk := ab_ifp hk hc
            refine mb_ifp hc ?_
            obtain rfl := Option.some.inj hk
            rfl
          · have hk := ab_ifn hk hc
            refine mb_ifn hc ?_
            obtain rfl := Option.some.inj hk
            rfl
      · have hk := ab_ifn hk hc
        refine mb_ifn hc ?_
        obtain rfl := Option.some.inj hk
        rfl
noncomputable def g_X9_oftenOf (a1 : Int) (σ : st_S) : Option (Int × st_S) :=
  (g_X9_having0 a1 (-1 : Int) σ).bind fun q1 =>
  (g_X9_bits q1.1 q1.2).bind fun q2 =>
  some (q2.1, q2.2)
set_option maxRecDepth 20000 in
theorem s_X9_oftenOf {a1 : Int} {σ : st_S} {q : Int × st_S} (hk : g_X9_oftenOf a1 σ = some q) : f_X9_oftenOf ((596 : Nat) : Int) a1 (mk_ σ) = some ((q.1, mk_ q.2)) := by
  unfold g_X9_oftenOf at hk
  unfold f_X9_oftenOf
  obtain ⟨q1, hq1, hk⟩ := ab_bnd hk
  refine mb_on rfl (s_X9_having0 hq1) ?_
  obtain ⟨q2, hq2, hk⟩ := ab_bnd hk
  refine mb_eq (s_X9_bits hq2) ?_
  obtain rfl := Option.some.inj hk
  rfl
noncomputable def g_X9_often (a1 : Int) (σ : st_S) : Option (Int × st_S) :=
  (g_X9_isWordNow a1 σ).bind fun q1 =>
  if q1.1 = (0 : Int) then
    some ((-2 : Int), q1.2)
  else
  (g_X9_oftenOf a1 q1.2).bind fun q2 =>
  some (q2.1, q2.2)
set_option maxRecDepth 20000 in
theorem s_X9_often {a1 : Int} {σ : st_S} {q : Int × st_S} (hk : g_X9_often a1 σ = some q) : f_X9_often ((596 : Nat) : Int) a1 (mk_ σ) = some ((q.1, mk_ q.2)) := by
  unfold g_X9_often at hk
  unfold f_X9_often
  obtain ⟨q1, hq1, hk⟩ := ab_bnd hk
  refine mb_on rfl (s_X9_isWordNow hq1) ?_
  by_cases hc : q1.1 = (0 : Int)
  · have hk := ab_ifp hk hc
    refine mb_ifp hc ?_
    obtain rfl := Option.some.inj hk
    rfl
  · have hk := ab_ifn hk hc
    refine mb_ifn hc ?_
    obtain ⟨q2, hq2, hk⟩ := ab_bnd hk
    refine mb_on rfl (s_X9_oftenOf hq2) ?_
    obtain rfl := Option.some.inj hk
    rfl
noncomputable def g_X9_most_J75 (rec : Int → Int → Int → Int → st_S → Option (Int × st_S)) (k83 : Int → Int → Int → st_S → Option (Int × st_S)) (v1 : Int) (v2 : Int) (v4 : Int) (s1 : Int) (s0 : Int) (σ : st_S) : Option (Int × st_S) :=
  rec v1 v2 (ab_w32 (s0 + s1)) (ab_w32 (v4 + (1 : Int))) σ
set_option maxRecDepth 20000 in
theorem s_X9_most_J75 {rec : Int → Int → Int → Int → st_S → Option (Int × st_S)} {recf : Int → Int → Int → Int → Int → ab_H → Option (Int × ab_H)} {k83 : Int → Int → Int → st_S → Option (Int × st_S)} {kf83 : Int → Int → Int → Int → ab_H → Option (Int × ab_H)} (hrec : ∀ (v1 : Int) (v2 : Int) (v3 : Int) (v4 : Int) (σ : st_S) (q : Int × st_S), rec v1 v2 v3 v4 σ = some q → recf ((596 : Nat) : Int) v1 v2 v3 v4 (mk_ σ) = some ((q.1, mk_ q.2))) (hk83 : ∀ (v1 : Int) (v2 : Int) (v3 : Int) (σ : st_S) (q : Int × st_S), k83 v1 v2 v3 σ = some q → kf83 ((596 : Nat) : Int) v1 v2 v3 (mk_ σ) = some ((q.1, mk_ q.2))) : ∀ (v1 : Int) (v2 : Int) (v4 : Int) (s1 : Int) (s0 : Int) (σ : st_S) (q : Int × st_S), g_X9_most_J75 rec k83 v1 v2 v4 s1 s0 σ = some q → f_X9_most_J75 recf kf83 ((596 : Nat) : Int) v1 v2 v4 s1 s0 (mk_ σ) = some ((q.1, mk_ q.2)) := by
  intro v1 v2 v4 s1 s0 σ q hk
  unfold g_X9_most_J75 at hk
  unfold f_X9_most_J75
  exact hrec _ _ _ _  _ _ hk
noncomputable def g_X9_most_J74 (rec : Int → Int → Int → Int → st_S → Option (Int × st_S)) (k83 : Int → Int → Int → st_S → Option (Int × st_S)) (v1 : Int) (v2 : Int) (v4 : Int) (s0 : Int) (σ : st_S) : Option (Int × st_S) :=
  g_X9_most_J75 rec k83 v1 v2 v4 (0 : Int) s0 σ
set_option maxRecDepth 20000 in
theorem s_X9_most_J74 {rec : Int → Int → Int → Int → st_S → Option (Int × st_S)} {recf : Int → Int → Int → Int → Int → ab_H → Option (Int × ab_H)} {k83 : Int → Int → Int → st_S → Option (Int × st_S)} {kf83 : Int → Int → Int → Int → ab_H → Option (Int × ab_H)} (hrec : ∀ (v1 : Int) (v2 : Int) (v3 : Int) (v4 : Int) (σ : st_S) (q : Int × st_S), rec v1 v2 v3 v4 σ = some q → recf ((596 : Nat) : Int) v1 v2 v3 v4 (mk_ σ) = some ((q.1, mk_ q.2))) (hk83 : ∀ (v1 : Int) (v2 : Int) (v3 : Int) (σ : st_S) (q : Int × st_S), k83 v1 v2 v3 σ = some q → kf83 ((596 : Nat) : Int) v1 v2 v3 (mk_ σ) = some ((q.1, mk_ q.2))) : ∀ (v1 : Int) (v2 : Int) (v4 : Int) (s0 : Int) (σ : st_S) (q : Int × st_S), g_X9_most_J74 rec k83 v1 v2 v4 s0 σ = some q → f_X9_most_J74 recf kf83 ((596 : Nat) : Int) v1 v2 v4 s0 (mk_ σ) = some ((q.1, mk_ q.2)) := by
  intro v1 v2 v4 s0 σ q hk
  unfold g_X9_most_J74 at hk
  unfold f_X9_most_J74
  exact s_X9_most_J75 hrec hk83 _ _ _ _ _  _ _ hk
noncomputable def g_X9_most_J70 (rec : Int → Int → Int → Int → st_S → Option (Int × st_S)) (k83 : Int → Int → Int → st_S → Option (Int × st_S)) (v1 : Int) (v2 : Int) (v4 : Int) (s0 : Int) (σ : st_S) : Option (Int × st_S) :=
  g_X9_most_J75 rec k83 v1 v2 v4 (1 : Int) s0 σ
set_option maxRecDepth 20000 in
theorem s_X9_most_J70 {rec : Int → Int → Int → Int → st_S → Option (Int × st_S)} {recf : Int → Int → Int → Int → Int → ab_H → Option (Int × ab_H)} {k83 : Int → Int → Int → st_S → Option (Int × st_S)} {kf83 : Int → Int → Int → Int → ab_H → Option (Int × ab_H)} (hrec : ∀ (v1 : Int) (v2 : Int) (v3 : Int) (v4 : Int) (σ : st_S) (q : Int × st_S), rec v1 v2 v3 v4 σ = some q → recf ((596 : Nat) : Int) v1 v2 v3 v4 (mk_ σ) = some ((q.1, mk_ q.2))) (hk83 : ∀ (v1 : Int) (v2 : Int) (v3 : Int) (σ : st_S) (q : Int × st_S), k83 v1 v2 v3 σ = some q → kf83 ((596 : Nat) : Int) v1 v2 v3 (mk_ σ) = some ((q.1, mk_ q.2))) : ∀ (v1 : Int) (v2 : Int) (v4 : Int) (s0 : Int) (σ : st_S) (q : Int × st_S), g_X9_most_J70 rec k83 v1 v2 v4 s0 σ = some q → f_X9_most_J70 recf kf83 ((596 : Nat) : Int) v1 v2 v4 s0 (mk_ σ) = some ((q.1, mk_ q.2)) := by
  intro v1 v2 v4 s0 σ q hk
  unfold g_X9_most_J70 at hk
  unfold f_X9_most_J70
  exact s_X9_most_J75 hrec hk83 _ _ _ _ _  _ _ hk
noncomputable def g_X9_most_L26 (k83 : Int → Int → Int → st_S → Option (Int × st_S)) : Nat → Int → Int → Int → Int → st_S → Option (Int × st_S)
  | 0, _, _, _, _, _ => none
  | n + 1, v1, v2, v3, v4, σ =>
    if σ 596 14 ≤ v4 then
      k83 v1 v2 v3 σ
    else
    (g_X9_oftenOf v4 σ).bind fun q1 =>
    (g_X9_oftenOf v2 q1.2).bind fun q2 =>
    if q2.1 < q1.1 then
      g_X9_most_J70 (g_X9_most_L26 k83 n) k83 v1 v2 v4 v3 q2.2
    else
    (g_X9_oftenOf v4 q2.2).bind fun q3 =>
    (g_X9_oftenOf v2 q3.2).bind fun q4 =>
    if q3.1 = q4.1 then
      if v2 ≤ v4 then
        g_X9_most_J74 (g_X9_most_L26 k83 n) k83 v1 v2 v4 v3 q4.2
      else
      g_X9_most_J70 (g_X9_most_L26 k83 n) k83 v1 v2 v4 v3 q4.2
    else
    g_X9_most_J74 (g_X9_most_L26 k83 n) k83 v1 v2 v4 v3 q4.2
set_option maxRecDepth 20000 in
theorem s_X9_most_L26 {k83 : Int → Int → Int → st_S → Option (Int × st_S)} {kf83 : Int → Int → Int → Int → ab_H → Option (Int × ab_H)} (hk83 : ∀ (v1 : Int) (v2 : Int) (v3 : Int) (σ : st_S) (q : Int × st_S), k83 v1 v2 v3 σ = some q → kf83 ((596 : Nat) : Int) v1 v2 v3 (mk_ σ) = some ((q.1, mk_ q.2))) : ∀ (n : Nat) (v1 : Int) (v2 : Int) (v3 : Int) (v4 : Int) (σ : st_S) (q : Int × st_S), g_X9_most_L26 k83 n v1 v2 v3 v4 σ = some q → f_X9_most_L26 kf83 n ((596 : Nat) : Int) v1 v2 v3 v4 (mk_ σ) = some ((q.1, mk_ q.2)) := by
  intro n
  induction n with
  | zero => intro v1 v2 v3 v4 σ q hk; cases hk
  | succ n ih =>
    intro v1 v2 v3 v4 σ q hk
    unfold g_X9_most_L26 at hk
    unfold f_X9_most_L26
    refine mb_get rfl rfl ?_
    by_cases hc : σ 596 14 ≤ v4
    · have hk := ab_ifp hk hc
      refine mb_ifp hc ?_
      exact hk83 _ _ _  _ _ hk
    · have hk := ab_ifn hk hc
      refine mb_ifn hc ?_
      obtain ⟨q1, hq1, hk⟩ := ab_bnd hk
      refine mb_on rfl (s_X9_oftenOf hq1) ?_
      obtain ⟨q2, hq2, hk⟩ := ab_bnd hk
      refine mb_on rfl (s_X9_oftenOf hq2) ?_
      by_cases hc : q2.1 < q1.1
      · have hk := ab_ifp hk hc
        refine mb_ifp hc ?_
        exact s_X9_most_J70 ih hk83 _ _ _ _  _ _ hk
      · have hk := ab_ifn hk hc
        refine mb_ifn hc ?_
        obtain ⟨q3, hq3, hk⟩ := ab_bnd hk
        refine mb_on rfl (s_X9_oftenOf hq3) ?_
        obtain ⟨q4, hq4, hk⟩ := ab_bnd hk
        refine mb_on rfl (s_X9_oftenOf hq4) ?_
        by_cases hc : q3.1 = q4.1
        · have hk := ab_ifp hk hc
          refine mb_ifp hc ?_
          by_cases hc : v2 ≤ v4
          · have hk := ab_ifp hk hc
            refine mb_ifp hc ?_
            exact s_X9_most_J74 ih hk83 _ _ _ _  _ _ hk
          · have hk := ab_ifn hk hc
            refine mb_ifn hc ?_
            exact s_X9_most_J70 ih hk83 _ _ _ _  _ _ hk
        · have hk := ab_ifn hk hc
          refine mb_ifn hc ?_
          exact s_X9_most_J74 ih hk83 _ _ _ _  _ _ hk
noncomputable def g_X9_most_L13 : Nat → Int → Int → st_S → Option (Int × st_S)
  | 0, _, _, _ => none
  | n + 1, v1, v2, σ =>
    if σ 596 14 ≤ v2 then
      some ((-1 : Int), σ)
    else
    g_X9_most_L26 (fun w83_1 w83_2 w83_3 σx83 =>
      if w83_3 = w83_1 then
        some (w83_2, σx83)
      else
      g_X9_most_L13 n w83_1 (ab_w32 (w83_2 + (1 : Int))) σx83) ab_FU v1 v2 (0 : Int) (0 : Int) σ
set_option maxRecDepth 20000 in
theorem s_X9_most_L13 : ∀ (n : Nat) (v1 : Int) (v2 : Int) (σ : st_S) (q : Int × st_S), g_X9_most_L13 n v1 v2 σ = some q → f_X9_most_L13 n ((596 : Nat) : Int) v1 v2 (mk_ σ) = some ((q.1, mk_ q.2)) := by
  intro n
  induction n with
  | zero => intro v1 v2 σ q hk; cases hk
  | succ n ih =>
    intro v1 v2 σ q hk
    unfold g_X9_most_L13 at hk
    unfold f_X9_most_L13
    refine mb_get rfl rfl ?_
    by_cases hc : σ 596 14 ≤ v2
    · have hk := ab_ifp hk hc
      refine mb_ifp hc ?_
      obtain rfl := Option.some.inj hk
      rfl
    · have hk := ab_ifn hk hc
      refine mb_ifn hc ?_
      refine s_X9_most_L26 (fun w83_1 w83_2 w83_3 σx83 q hk => ?_) _ _ _ _ _  _ _ hk
      · skip
        by_cases hc : w83_3 = w83_1
        · have hk := ab_ifp hk hc
          refine mb_ifp hc ?_
          obtain rfl := Option.some.inj hk
          rfl
        · have hk := ab_ifn hk hc
          refine mb_ifn hc ?_
          exact ih _ _  _ _ hk
noncomputable def g_X9_most (a1 : Int) (σ : st_S) : Option (Int × st_S) :=
  if (0 : Int) ≤ a1 then
    (g_X9_laysWords σ).bind fun q1 =>
    g_X9_most_L13 ab_FU a1 (0 : Int) q1
  else
  some ((-2 : Int), σ)
set_option maxRecDepth 20000 in
theorem s_X9_most {a1 : Int} {σ : st_S} {q : Int × st_S} (hk : g_X9_most a1 σ = some q) : f_X9_most ((596 : Nat) : Int) a1 (mk_ σ) = some ((q.1, mk_ q.2)) := by
  unfold g_X9_most at hk
  unfold f_X9_most
  by_cases hc : (0 : Int) ≤ a1
  · have hk := ab_ifp hk hc
    refine mb_ifp hc ?_
    obtain ⟨q1, hq1, hk⟩ := ab_bnd hk
    refine mb_on rfl (s_X9_laysWords hq1) ?_
    refine s_X9_most_L13 _ _ _  _ _ hk
  · have hk := ab_ifn hk hc
    refine mb_ifn hc ?_
    obtain rfl := Option.some.inj hk
    rfl
noncomputable def g_X9_apart_J60 (rec : Int → Int → Int → st_S → Option (Int × st_S)) (v1 : Int) (v2 : Int) (v3 : Int) (σ : st_S) : Option (Int × st_S) :=
  rec v1 v2 (ab_w32 (v3 + (1 : Int))) σ
set_option maxRecDepth 20000 in
theorem s_X9_apart_J60 {rec : Int → Int → Int → st_S → Option (Int × st_S)} {recf : Int → Int → Int → Int → ab_H → Option (Int × ab_H)} (hrec : ∀ (v1 : Int) (v2 : Int) (v3 : Int) (σ : st_S) (q : Int × st_S), rec v1 v2 v3 σ = some q → recf ((596 : Nat) : Int) v1 v2 v3 (mk_ σ) = some ((q.1, mk_ q.2))) : ∀ (v1 : Int) (v2 : Int) (v3 : Int) (σ : st_S) (q : Int × st_S), g_X9_apart_J60 rec v1 v2 v3 σ = some q → f_X9_apart_J60 recf ((596 : Nat) : Int) v1 v2 v3 (mk_ σ) = some ((q.1, mk_ q.2)) := by
  intro v1 v2 v3 σ q hk
  unfold g_X9_apart_J60 at hk
  unfold f_X9_apart_J60
  exact hrec _ _ _  _ _ hk
noncomputable def g_X9_apart_J46 (rec : Int → Int → Int → st_S → Option (Int × st_S)) (v1 : Int) (v2 : Int) (v3 : Int) (σ : st_S) : Option (Int × st_S) :=
  (g_X9_sharing0 v1 v3 σ).bind fun q1 =>
  if q1.1 = ab_shl (1 : Int) v1 then
    g_X9_apart_J60 rec v1 v3 v3 q1.2
  else
  g_X9_apart_J60 rec v1 v2 v3 q1.2
set_option maxRecDepth 20000 in
theorem s_X9_apart_J46 {rec : Int → Int → Int → st_S → Option (Int × st_S)} {recf : Int → Int → Int → Int → ab_H → Option (Int × ab_H)} (hrec : ∀ (v1 : Int) (v2 : Int) (v3 : Int) (σ : st_S) (q : Int × st_S), rec v1 v2 v3 σ = some q → recf ((596 : Nat) : Int) v1 v2 v3 (mk_ σ) = some ((q.1, mk_ q.2))) : ∀ (v1 : Int) (v2 : Int) (v3 : Int) (σ : st_S) (q : Int × st_S), g_X9_apart_J46 rec v1 v2 v3 σ = some q → f_X9_apart_J46 recf ((596 : Nat) : Int) v1 v2 v3 (mk_ σ) = some ((q.1, mk_ q.2)) := by
  intro v1 v2 v3 σ q hk
  unfold g_X9_apart_J46 at hk
  unfold f_X9_apart_J46
  obtain ⟨q1, hq1, hk⟩ := ab_bnd hk
  refine mb_on rfl (s_X9_sharing0 hq1) ?_
  by_cases hc : q1.1 = ab_shl (1 : Int) v1
  · have hk := ab_ifp hk hc
    refine mb_ifp hc ?_
    exact s_X9_apart_J60 hrec _ _ _  _ _ hk
  · have hk := ab_ifn hk hc
    refine mb_ifn hc ?_
    exact s_X9_apart_J60 hrec _ _ _  _ _ hk
noncomputable def g_X9_apart_L19 : Nat → Int → Int → Int → st_S → Option (Int × st_S)
  | 0, _, _, _, _ => none
  | n + 1, v1, v2, v3, σ =>
    (g_X9_terms v1 σ).bind fun q1 =>
    if ab_shl (1 : Int) q1.1 ≤ v3 then
      some (v2, q1.2)
    else
    if v2 = (-1 : Int) then
      g_X9_apart_J46 (g_X9_apart_L19 n) v1 v2 v3 q1.2
    else
    (g_X9_bits v3 q1.2).bind fun q2 =>
    (g_X9_bits v2 q2.2).bind fun q3 =>
    if q3.1 ≤ q2.1 then
      g_X9_apart_J60 (g_X9_apart_L19 n) v1 v2 v3 q3.2
    else
    g_X9_apart_J46 (g_X9_apart_L19 n) v1 v2 v3 q3.2
set_option maxRecDepth 20000 in
theorem s_X9_apart_L19 : ∀ (n : Nat) (v1 : Int) (v2 : Int) (v3 : Int) (σ : st_S) (q : Int × st_S), g_X9_apart_L19 n v1 v2 v3 σ = some q → f_X9_apart_L19 n ((596 : Nat) : Int) v1 v2 v3 (mk_ σ) = some ((q.1, mk_ q.2)) := by
  intro n
  induction n with
  | zero => intro v1 v2 v3 σ q hk; cases hk
  | succ n ih =>
    intro v1 v2 v3 σ q hk
    unfold g_X9_apart_L19 at hk
    unfold f_X9_apart_L19
    obtain ⟨q1, hq1, hk⟩ := ab_bnd hk
    refine mb_on rfl (s_X9_terms hq1) ?_
    by_cases hc : ab_shl (1 : Int) q1.1 ≤ v3
    · have hk := ab_ifp hk hc
      refine mb_ifp hc ?_
      obtain rfl := Option.some.inj hk
      rfl
    · have hk := ab_ifn hk hc
      refine mb_ifn hc ?_
      by_cases hc : v2 = (-1 : Int)
      · have hk := ab_ifp hk hc
        refine mb_ifp hc ?_
        exact s_X9_apart_J46 ih _ _ _  _ _ hk
      · have hk := ab_ifn hk hc
        refine mb_ifn hc ?_
        obtain ⟨q2, hq2, hk⟩ := ab_bnd hk
        refine mb_eq (s_X9_bits hq2) ?_
        obtain ⟨q3, hq3, hk⟩ := ab_bnd hk
        refine mb_eq (s_X9_bits hq3) ?_
        by_cases hc : q3.1 ≤ q2.1
        · have hk := ab_ifp hk hc
          refine mb_ifp hc ?_
          exact s_X9_apart_J60 ih _ _ _  _ _ hk
        · have hk := ab_ifn hk hc
          refine mb_ifn hc ?_
          exact s_X9_apart_J46 ih _ _ _  _ _ hk
noncomputable def g_X9_apart (a1 : Int) (σ : st_S) : Option (Int × st_S) :=
  (g_X9_isString a1 σ).bind fun q1 =>
  if q1.1 = (0 : Int) then
    some ((-2 : Int), q1.2)
  else
  (g_X9_laysWords q1.2).bind fun q2 =>
  g_X9_apart_L19 ab_FU a1 (-1 : Int) (0 : Int) q2
set_option maxRecDepth 20000 in
theorem s_X9_apart {a1 : Int} {σ : st_S} {q : Int × st_S} (hk : g_X9_apart a1 σ = some q) : f_X9_apart ((596 : Nat) : Int) a1 (mk_ σ) = some ((q.1, mk_ q.2)) := by
  unfold g_X9_apart at hk
  unfold f_X9_apart
  obtain ⟨q1, hq1, hk⟩ := ab_bnd hk
  refine mb_on rfl (s_X9_isString hq1) ?_
  by_cases hc : q1.1 = (0 : Int)
  · have hk := ab_ifp hk hc
    refine mb_ifp hc ?_
    obtain rfl := Option.some.inj hk
    rfl
  · have hk := ab_ifn hk hc
    refine mb_ifn hc ?_
    obtain ⟨q2, hq2, hk⟩ := ab_bnd hk
    refine mb_on rfl (s_X9_laysWords hq2) ?_
    refine s_X9_apart_L19 _ _ _ _  _ _ hk
noncomputable def g_X9_cover_J238 (rec : Int → Int → st_S → Option (Int × st_S)) (v1 : Int) (v2 : Int) (σ : st_S) : Option (Int × st_S) :=
  rec v1 (ab_w32 (v2 + (1 : Int))) σ
set_option maxRecDepth 20000 in
theorem s_X9_cover_J238 {rec : Int → Int → st_S → Option (Int × st_S)} {recf : Int → Int → Int → ab_H → Option (Int × ab_H)} (hrec : ∀ (v1 : Int) (v2 : Int) (σ : st_S) (q : Int × st_S), rec v1 v2 σ = some q → recf ((596 : Nat) : Int) v1 v2 (mk_ σ) = some ((q.1, mk_ q.2))) : ∀ (v1 : Int) (v2 : Int) (σ : st_S) (q : Int × st_S), g_X9_cover_J238 rec v1 v2 σ = some q → f_X9_cover_J238 recf ((596 : Nat) : Int) v1 v2 (mk_ σ) = some ((q.1, mk_ q.2)) := by
  intro v1 v2 σ q hk
  unfold g_X9_cover_J238 at hk
  unfold f_X9_cover_J238
  exact hrec _ _  _ _ hk
noncomputable def g_X9_cover_J191 (rec : Int → Int → Int → Int → Int → st_S → Option (Int × st_S)) (k197 : Int → Int → Int → Int → st_S → Option (Int × st_S)) (v1 : Int) (v2 : Int) (v3 : Int) (v5 : Int) (v7 : Int) (σ : st_S) : Option (Int × st_S) :=
  rec v1 v2 v3 v5 (ab_w32 (v7 + (1 : Int))) σ
set_option maxRecDepth 20000 in
theorem s_X9_cover_J191 {rec : Int → Int → Int → Int → Int → st_S → Option (Int × st_S)} {recf : Int → Int → Int → Int → Int → Int → ab_H → Option (Int × ab_H)} {k197 : Int → Int → Int → Int → st_S → Option (Int × st_S)} {kf197 : Int → Int → Int → Int → Int → ab_H → Option (Int × ab_H)} (hrec : ∀ (v1 : Int) (v2 : Int) (v3 : Int) (v5 : Int) (v7 : Int) (σ : st_S) (q : Int × st_S), rec v1 v2 v3 v5 v7 σ = some q → recf ((596 : Nat) : Int) v1 v2 v3 v5 v7 (mk_ σ) = some ((q.1, mk_ q.2))) (hk197 : ∀ (v1 : Int) (v2 : Int) (v3 : Int) (v5 : Int) (σ : st_S) (q : Int × st_S), k197 v1 v2 v3 v5 σ = some q → kf197 ((596 : Nat) : Int) v1 v2 v3 v5 (mk_ σ) = some ((q.1, mk_ q.2))) : ∀ (v1 : Int) (v2 : Int) (v3 : Int) (v5 : Int) (v7 : Int) (σ : st_S) (q : Int × st_S), g_X9_cover_J191 rec k197 v1 v2 v3 v5 v7 σ = some q → f_X9_cover_J191 recf kf197 ((596 : Nat) : Int) v1 v2 v3 v5 v7 (mk_ σ) = some ((q.1, mk_ q.2)) := by
  intro v1 v2 v3 v5 v7 σ q hk
  unfold g_X9_cover_J191 at hk
  unfold f_X9_cover_J191
  exact hrec _ _ _ _ _  _ _ hk
noncomputable def g_X9_cover_L148 (k197 : Int → Int → Int → Int → st_S → Option (Int × st_S)) : Nat → Int → Int → Int → Int → Int → st_S → Option (Int × st_S)
  | 0, _, _, _, _, _, _ => none
  | n + 1, v1, v2, v3, v5, v7, σ =>
    (g_X9_strings σ).bind fun q1 =>
    if q1.1 ≤ v7 then
      k197 v1 v2 v3 v5 q1.2
    else
    if ab_and (ab_shr v2 v7) (1 : Int) = (0 : Int) then
      g_X9_cover_J191 (g_X9_cover_L148 k197 n) k197 v1 v2 v3 v5 v7 q1.2
    else
    (sa_ld q1.2 611 12 v7).bind fun t2 =>
    (sa_ld q1.2 612 12 v7).bind fun t3 =>
    g_X9_cover_J191 (g_X9_cover_L148 k197 n) k197 v1 v2 (ab_lor v3 t2) (ab_lor v5 t3) v7 q1.2
set_option maxRecDepth 20000 in
theorem s_X9_cover_L148 {k197 : Int → Int → Int → Int → st_S → Option (Int × st_S)} {kf197 : Int → Int → Int → Int → Int → ab_H → Option (Int × ab_H)} (hk197 : ∀ (v1 : Int) (v2 : Int) (v3 : Int) (v5 : Int) (σ : st_S) (q : Int × st_S), k197 v1 v2 v3 v5 σ = some q → kf197 ((596 : Nat) : Int) v1 v2 v3 v5 (mk_ σ) = some ((q.1, mk_ q.2))) : ∀ (n : Nat) (v1 : Int) (v2 : Int) (v3 : Int) (v5 : Int) (v7 : Int) (σ : st_S) (q : Int × st_S), g_X9_cover_L148 k197 n v1 v2 v3 v5 v7 σ = some q → f_X9_cover_L148 kf197 n ((596 : Nat) : Int) v1 v2 v3 v5 v7 (mk_ σ) = some ((q.1, mk_ q.2)) := by
  intro n
  induction n with
  | zero => intro v1 v2 v3 v5 v7 σ q hk; cases hk
  | succ n ih =>
    intro v1 v2 v3 v5 v7 σ q hk
    unfold g_X9_cover_L148 at hk
    unfold f_X9_cover_L148
    obtain ⟨q1, hq1, hk⟩ := ab_bnd hk
    refine mb_on rfl (s_X9_strings hq1) ?_
    by_cases hc : q1.1 ≤ v7
    · have hk := ab_ifp hk hc
      refine mb_ifp hc ?_
      exact hk197 _ _ _ _  _ _ hk
    · have hk := ab_ifn hk hc
      refine mb_ifn hc ?_
      by_cases hc : ab_and (ab_shr v2 v7) (1 : Int) = (0 : Int)
      · have hk := ab_ifp hk hc
        refine mb_ifp hc ?_
        exact s_X9_cover_J191 ih hk197 _ _ _ _ _  _ _ hk
      · have hk := ab_ifn hk hc
        refine mb_ifn hc ?_
        refine mb_getR 611 rfl rfl (by decide) ?_
        obtain ⟨t2, ht2, hk⟩ := ab_bnd hk
        refine mb_ald ⟨rfl, rfl, fun _ => rfl⟩ ht2 ?_
        refine mb_getR 612 rfl rfl (by decide) ?_
        obtain ⟨t3, ht3, hk⟩ := ab_bnd hk
        refine mb_ald ⟨rfl, rfl, fun _ => rfl⟩ ht3 ?_
        exact s_X9_cover_J191 ih hk197 _ _ _ _ _  _ _ hk
noncomputable def g_X9_cover_J140 (rec : Int → Int → st_S → Option (Int × st_S)) (v1 : Int) (v2 : Int) (σ : st_S) : Option (Int × st_S) :=
  g_X9_cover_L148 (fun w197_1 w197_2 w197_3 w197_5 σx197 =>
    if ab_cmp w197_3 (ab_w64 ((ab_lshl (1 : Int) (ab_mn (36 : Int) (σx197 596 14))) - (1 : Int))) = (0 : Int) then
      if ab_cmp w197_5 (ab_w64 ((ab_lshl (1 : Int) (ab_mx (0 : Int) (ab_w32 ((σx197 596 14) - (36 : Int))))) - (1 : Int))) = (0 : Int) then
        g_X9_cover_J238 rec w197_2 w197_2 σx197
      else
      g_X9_cover_J238 rec w197_1 w197_2 σx197
    else
    g_X9_cover_J238 rec w197_1 w197_2 σx197) ab_FU v1 v2 (0 : Int) (0 : Int) (0 : Int) σ
set_option maxRecDepth 20000 in
theorem s_X9_cover_J140 {rec : Int → Int → st_S → Option (Int × st_S)} {recf : Int → Int → Int → ab_H → Option (Int × ab_H)} (hrec : ∀ (v1 : Int) (v2 : Int) (σ : st_S) (q : Int × st_S), rec v1 v2 σ = some q → recf ((596 : Nat) : Int) v1 v2 (mk_ σ) = some ((q.1, mk_ q.2))) : ∀ (v1 : Int) (v2 : Int) (σ : st_S) (q : Int × st_S), g_X9_cover_J140 rec v1 v2 σ = some q → f_X9_cover_J140 recf ((596 : Nat) : Int) v1 v2 (mk_ σ) = some ((q.1, mk_ q.2)) := by
  intro v1 v2 σ q hk
  unfold g_X9_cover_J140 at hk
  unfold f_X9_cover_J140
  refine s_X9_cover_L148 (fun w197_1 w197_2 w197_3 w197_5 σx197 q hk => ?_) _ _ _ _ _ _  _ _ hk
  · skip
    refine mb_get rfl rfl ?_
    by_cases hc : ab_cmp w197_3 (ab_w64 ((ab_lshl (1 : Int) (ab_mn (36 : Int) (σx197 596 14))) - (1 : Int))) = (0 : Int)
    · have hk := ab_ifp hk hc
      refine mb_ifp hc ?_
      refine mb_get rfl rfl ?_
      by_cases hc : ab_cmp w197_5 (ab_w64 ((ab_lshl (1 : Int) (ab_mx (0 : Int) (ab_w32 ((σx197 596 14) - (36 : Int))))) - (1 : Int))) = (0 : Int)
      · have hk := ab_ifp hk hc
        refine mb_ifp hc ?_
        exact s_X9_cover_J238 hrec _ _  _ _ hk
      · have hk := ab_ifn hk hc
        refine mb_ifn hc ?_
        exact s_X9_cover_J238 hrec _ _  _ _ hk
    · have hk := ab_ifn hk hc
      refine mb_ifn hc ?_
      exact s_X9_cover_J238 hrec _ _  _ _ hk
noncomputable def g_X9_cover_L111 : Nat → Int → Int → st_S → Option (Int × st_S)
  | 0, _, _, _ => none
  | n + 1, v1, v2, σ =>
    (g_X9_strings σ).bind fun q1 =>
    if ab_shl (1 : Int) q1.1 ≤ v2 then
      some (v1, q1.2)
    else
    if v1 = (-1 : Int) then
      g_X9_cover_J140 (g_X9_cover_L111 n) v1 v2 q1.2
    else
    (g_X9_bits v2 q1.2).bind fun q2 =>
    (g_X9_bits v1 q2.2).bind fun q3 =>
    if q2.1 < q3.1 then
      g_X9_cover_J140 (g_X9_cover_L111 n) v1 v2 q3.2
    else
    g_X9_cover_J238 (g_X9_cover_L111 n) v1 v2 q3.2
set_option maxRecDepth 20000 in
theorem s_X9_cover_L111 : ∀ (n : Nat) (v1 : Int) (v2 : Int) (σ : st_S) (q : Int × st_S), g_X9_cover_L111 n v1 v2 σ = some q → f_X9_cover_L111 n ((596 : Nat) : Int) v1 v2 (mk_ σ) = some ((q.1, mk_ q.2)) := by
  intro n
  induction n with
  | zero => intro v1 v2 σ q hk; cases hk
  | succ n ih =>
    intro v1 v2 σ q hk
    unfold g_X9_cover_L111 at hk
    unfold f_X9_cover_L111
    obtain ⟨q1, hq1, hk⟩ := ab_bnd hk
    refine mb_on rfl (s_X9_strings hq1) ?_
    by_cases hc : ab_shl (1 : Int) q1.1 ≤ v2
    · have hk := ab_ifp hk hc
      refine mb_ifp hc ?_
      obtain rfl := Option.some.inj hk
      rfl
    · have hk := ab_ifn hk hc
      refine mb_ifn hc ?_
      by_cases hc : v1 = (-1 : Int)
      · have hk := ab_ifp hk hc
        refine mb_ifp hc ?_
        exact s_X9_cover_J140 ih _ _  _ _ hk
      · have hk := ab_ifn hk hc
        refine mb_ifn hc ?_
        obtain ⟨q2, hq2, hk⟩ := ab_bnd hk
        refine mb_eq (s_X9_bits hq2) ?_
        obtain ⟨q3, hq3, hk⟩ := ab_bnd hk
        refine mb_eq (s_X9_bits hq3) ?_
        by_cases hc : q2.1 < q3.1
        · have hk := ab_ifp hk hc
          refine mb_ifp hc ?_
          exact s_X9_cover_J140 ih _ _  _ _ hk
        · have hk := ab_ifn hk hc
          refine mb_ifn hc ?_
          exact s_X9_cover_J238 ih _ _  _ _ hk
noncomputable def g_X9_cover_J95 (rec : Int → Int → st_S → Option (Int × st_S)) (k101 : Int → st_S → Option (Int × st_S)) (v1 : Int) (v2 : Int) (σ : st_S) : Option (Int × st_S) :=
  rec v1 (ab_w32 (v2 + (1 : Int))) σ
set_option maxRecDepth 20000 in
theorem s_X9_cover_J95 {rec : Int → Int → st_S → Option (Int × st_S)} {recf : Int → Int → Int → ab_H → Option (Int × ab_H)} {k101 : Int → st_S → Option (Int × st_S)} {kf101 : Int → Int → ab_H → Option (Int × ab_H)} (hrec : ∀ (v1 : Int) (v2 : Int) (σ : st_S) (q : Int × st_S), rec v1 v2 σ = some q → recf ((596 : Nat) : Int) v1 v2 (mk_ σ) = some ((q.1, mk_ q.2))) (hk101 : ∀ (v1 : Int) (σ : st_S) (q : Int × st_S), k101 v1 σ = some q → kf101 ((596 : Nat) : Int) v1 (mk_ σ) = some ((q.1, mk_ q.2))) : ∀ (v1 : Int) (v2 : Int) (σ : st_S) (q : Int × st_S), g_X9_cover_J95 rec k101 v1 v2 σ = some q → f_X9_cover_J95 recf kf101 ((596 : Nat) : Int) v1 v2 (mk_ σ) = some ((q.1, mk_ q.2)) := by
  intro v1 v2 σ q hk
  unfold g_X9_cover_J95 at hk
  unfold f_X9_cover_J95
  exact hrec _ _  _ _ hk
noncomputable def g_X9_cover_L39 (k101 : Int → st_S → Option (Int × st_S)) : Nat → Int → Int → st_S → Option (Int × st_S)
  | 0, _, _, _ => none
  | n + 1, v1, v2, σ =>
    (g_X9_terms v1 σ).bind fun q1 =>
    if q1.1 ≤ v2 then
      k101 v1 q1.2
    else
    (g_X9_place v1 v2 q1.2).bind fun q2 =>
    (sa_ld q2.2 601 72 q2.1).bind fun t3 =>
    if (36 : Int) ≤ t3 then
      (sa_ld q2.2 612 12 v1).bind fun t4 =>
      (sa_st q2.2 612 12 v1 (ab_lor t4 (ab_lshl (1 : Int) (ab_w32 (t3 - (36 : Int)))))).bind fun σ1 =>
      g_X9_cover_J95 (g_X9_cover_L39 k101 n) k101 v1 v2 σ1
    else
    (sa_ld q2.2 611 12 v1).bind fun t5 =>
    (sa_st q2.2 611 12 v1 (ab_lor t5 (ab_lshl (1 : Int) t3))).bind fun σ2 =>
    g_X9_cover_J95 (g_X9_cover_L39 k101 n) k101 v1 v2 σ2
set_option maxRecDepth 20000 in
theorem s_X9_cover_L39 {k101 : Int → st_S → Option (Int × st_S)} {kf101 : Int → Int → ab_H → Option (Int × ab_H)} (hk101 : ∀ (v1 : Int) (σ : st_S) (q : Int × st_S), k101 v1 σ = some q → kf101 ((596 : Nat) : Int) v1 (mk_ σ) = some ((q.1, mk_ q.2))) : ∀ (n : Nat) (v1 : Int) (v2 : Int) (σ : st_S) (q : Int × st_S), g_X9_cover_L39 k101 n v1 v2 σ = some q → f_X9_cover_L39 kf101 n ((596 : Nat) : Int) v1 v2 (mk_ σ) = some ((q.1, mk_ q.2)) := by
  intro n
  induction n with
  | zero => intro v1 v2 σ q hk; cases hk
  | succ n ih =>
    intro v1 v2 σ q hk
    unfold g_X9_cover_L39 at hk
    unfold f_X9_cover_L39
    obtain ⟨q1, hq1, hk⟩ := ab_bnd hk
    refine mb_on rfl (s_X9_terms hq1) ?_
    by_cases hc : q1.1 ≤ v2
    · have hk := ab_ifp hk hc
      refine mb_ifp hc ?_
      exact hk101 _  _ _ hk
    · have hk := ab_ifn hk hc
      refine mb_ifn hc ?_
      refine mb_getR 601 rfl rfl (by decide) ?_
      obtain ⟨q2, hq2, hk⟩ := ab_bnd hk
      refine mb_eq (s_X9_place hq2) ?_
      obtain ⟨t3, ht3, hk⟩ := ab_bnd hk
      refine mb_ald ⟨rfl, rfl, fun _ => rfl⟩ ht3 ?_
      by_cases hc : (36 : Int) ≤ t3
      · have hk := ab_ifp hk hc
        refine mb_ifp hc ?_
        refine mb_getR 612 rfl rfl (by decide) ?_
        obtain ⟨t4, ht4, hk⟩ := ab_bnd hk
        refine mb_ald ⟨rfl, rfl, fun _ => rfl⟩ ht4 ?_
        obtain ⟨σ1, hσ1, hk⟩ := ab_bnd hk
        refine mb_ast ⟨rfl, rfl, fun _ => rfl⟩ hσ1 ?_
        exact s_X9_cover_J95 ih hk101 _ _  _ _ hk
      · have hk := ab_ifn hk hc
        refine mb_ifn hc ?_
        refine mb_getR 611 rfl rfl (by decide) ?_
        obtain ⟨t5, ht5, hk⟩ := ab_bnd hk
        refine mb_ald ⟨rfl, rfl, fun _ => rfl⟩ ht5 ?_
        obtain ⟨σ2, hσ2, hk⟩ := ab_bnd hk
        refine mb_ast ⟨rfl, rfl, fun _ => rfl⟩ hσ2 ?_
        exact s_X9_cover_J95 ih hk101 _ _  _ _ hk
noncomputable def g_X9_cover_L15 (k107 : st_S → Option (Int × st_S)) : Nat → Int → st_S → Option (Int × st_S)
  | 0, _, _ => none
  | n + 1, v1, σ =>
    (g_X9_strings σ).bind fun q1 =>
    if q1.1 ≤ v1 then
      k107 q1.2
    else
    (sa_st q1.2 611 12 v1 (0 : Int)).bind fun σ1 =>
    (sa_st σ1 612 12 v1 (0 : Int)).bind fun σ2 =>
    g_X9_cover_L39 (fun w101_1 σx101 =>
      g_X9_cover_L15 k107 n (ab_w32 (w101_1 + (1 : Int))) σx101) ab_FU v1 (0 : Int) σ2
set_option maxRecDepth 20000 in
theorem s_X9_cover_L15 {k107 : st_S → Option (Int × st_S)} {kf107 : Int → ab_H → Option (Int × ab_H)} (hk107 : ∀ (σ : st_S) (q : Int × st_S), k107 σ = some q → kf107 ((596 : Nat) : Int) (mk_ σ) = some ((q.1, mk_ q.2))) : ∀ (n : Nat) (v1 : Int) (σ : st_S) (q : Int × st_S), g_X9_cover_L15 k107 n v1 σ = some q → f_X9_cover_L15 kf107 n ((596 : Nat) : Int) v1 (mk_ σ) = some ((q.1, mk_ q.2)) := by
  intro n
  induction n with
  | zero => intro v1 σ q hk; cases hk
  | succ n ih =>
    intro v1 σ q hk
    unfold g_X9_cover_L15 at hk
    unfold f_X9_cover_L15
    obtain ⟨q1, hq1, hk⟩ := ab_bnd hk
    refine mb_on rfl (s_X9_strings hq1) ?_
    by_cases hc : q1.1 ≤ v1
    · have hk := ab_ifp hk hc
      refine mb_ifp hc ?_
      exact hk107  _ _ hk
    · have hk := ab_ifn hk hc
      refine mb_ifn hc ?_
      refine mb_getR 611 rfl rfl (by decide) ?_
      obtain ⟨σ1, hσ1, hk⟩ := ab_bnd hk
      refine mb_ast ⟨rfl, rfl, fun _ => rfl⟩ hσ1 ?_
      refine mb_getR 612 rfl rfl (by decide) ?_
      obtain ⟨σ2, hσ2, hk⟩ := ab_bnd hk
      refine mb_ast ⟨rfl, rfl, fun _ => rfl⟩ hσ2 ?_
      refine s_X9_cover_L39 (fun w101_1 σx101 q hk => ?_) _ _ _  _ _ hk
      · skip
        exact ih _  _ _ hk
noncomputable def g_X9_cover (σ : st_S) : Option (Int × st_S) :=
  (g_X9_laysWords σ).bind fun q1 =>
  if q1 596 14 = (0 : Int) then
    some ((-1 : Int), q1)
  else
  g_X9_cover_L15 (fun σx107 =>
    g_X9_cover_L111 ab_FU (-1 : Int) (0 : Int) σx107) ab_FU (0 : Int) q1
set_option maxRecDepth 20000 in
theorem s_X9_cover {σ : st_S} {q : Int × st_S} (hk : g_X9_cover σ = some q) : f_X9_cover ((596 : Nat) : Int) (mk_ σ) = some ((q.1, mk_ q.2)) := by
  unfold g_X9_cover at hk
  unfold f_X9_cover
  obtain ⟨q1, hq1, hk⟩ := ab_bnd hk
  refine mb_on rfl (s_X9_laysWords hq1) ?_
  refine mb_get rfl rfl ?_
  by_cases hc : q1 596 14 = (0 : Int)
  · have hk := ab_ifp hk hc
    refine mb_ifp hc ?_
    obtain rfl := Option.some.inj hk
    rfl
  · have hk := ab_ifn hk hc
    refine mb_ifn hc ?_
    refine s_X9_cover_L15 (fun σx107 q hk => ?_) _ _  _ _ hk
    · skip
      refine s_X9_cover_L111 _ _ _  _ _ hk
noncomputable def g_X9_would_L51 (k78 : Int → Int → st_S → Option (Int × st_S)) : Nat → Int → Int → Int → st_S → Option (Int × st_S)
  | 0, _, _, _, _ => none
  | n + 1, v3, v4, v5, σ =>
    if σ 596 16 ≤ v5 then
      k78 v3 v4 σ
    else
    (sa_ld σ 604 72 v5).bind fun t1 =>
    g_X9_would_L51 k78 n v3 (ab_w32 (v4 + t1)) (ab_w32 (v5 + (1 : Int))) σ
set_option maxRecDepth 20000 in
theorem s_X9_would_L51 {k78 : Int → Int → st_S → Option (Int × st_S)} {kf78 : Int → Int → Int → ab_H → Option (Int × ab_H)} (hk78 : ∀ (v3 : Int) (v4 : Int) (σ : st_S) (q : Int × st_S), k78 v3 v4 σ = some q → kf78 ((596 : Nat) : Int) v3 v4 (mk_ σ) = some ((q.1, mk_ q.2))) : ∀ (n : Nat) (v3 : Int) (v4 : Int) (v5 : Int) (σ : st_S) (q : Int × st_S), g_X9_would_L51 k78 n v3 v4 v5 σ = some q → f_X9_would_L51 kf78 n ((596 : Nat) : Int) v3 v4 v5 (mk_ σ) = some ((q.1, mk_ q.2)) := by
  intro n
  induction n with
  | zero => intro v3 v4 v5 σ q hk; cases hk
  | succ n ih =>
    intro v3 v4 v5 σ q hk
    unfold g_X9_would_L51 at hk
    unfold f_X9_would_L51
    refine mb_get rfl rfl ?_
    by_cases hc : σ 596 16 ≤ v5
    · have hk := ab_ifp hk hc
      refine mb_ifp hc ?_
      exact hk78 _ _  _ _ hk
    · have hk := ab_ifn hk hc
      refine mb_ifn hc ?_
      refine mb_getR 604 rfl rfl (by decide) ?_
      obtain ⟨t1, ht1, hk⟩ := ab_bnd hk
      refine mb_ald ⟨rfl, rfl, fun _ => rfl⟩ ht1 ?_
      exact ih _ _ _  _ _ hk
noncomputable def g_X9_would (a1 : Int) (a2 : Int) (a3 : Int) (σ : st_S) : Option (Int × st_S) :=
  (g_X9_in a1 (0 : Int) (5 : Int) σ).bind fun q1 =>
  if q1.1 = (0 : Int) then
    some ((-2 : Int), q1.2)
  else
  (g_X9_in a2 (0 : Int) (2 : Int) q1.2).bind fun q2 =>
  if q2.1 = (0 : Int) then
    some ((-2 : Int), q2.2)
  else
  (g_X9_in a3 (0 : Int) (2 : Int) q2.2).bind fun q3 =>
  if q3.1 = (0 : Int) then
    some ((-2 : Int), q3.2)
  else
  (g_X9_laysBy a1 a2 q3.2).bind fun q4 =>
  g_X9_would_L51 (fun w78_3 w78_4 σx78 =>
    if w78_3 = (0 : Int) then
      some (σx78 596 16, σx78)
    else
    if w78_3 = (1 : Int) then
      some (σx78 596 17, σx78)
    else
    some (w78_4, σx78)) ab_FU a3 (0 : Int) (0 : Int) q4
set_option maxRecDepth 20000 in
theorem s_X9_would {a1 : Int} {a2 : Int} {a3 : Int} {σ : st_S} {q : Int × st_S} (hk : g_X9_would a1 a2 a3 σ = some q) : f_X9_would ((596 : Nat) : Int) a1 a2 a3 (mk_ σ) = some ((q.1, mk_ q.2)) := by
  unfold g_X9_would at hk
  unfold f_X9_would
  obtain ⟨q1, hq1, hk⟩ := ab_bnd hk
  refine mb_eq (s_X9_in hq1) ?_
  by_cases hc : q1.1 = (0 : Int)
  · have hk := ab_ifp hk hc
    refine mb_ifp hc ?_
    obtain rfl := Option.some.inj hk
    rfl
  · have hk := ab_ifn hk hc
    refine mb_ifn hc ?_
    obtain ⟨q2, hq2, hk⟩ := ab_bnd hk
    refine mb_eq (s_X9_in hq2) ?_
    by_cases hc : q2.1 = (0 : Int)
    · have hk := ab_ifp hk hc
      refine mb_ifp hc ?_
      obtain rfl := Option.some.inj hk
      rfl
    · have hk := ab_ifn hk hc
      refine mb_ifn hc ?_
      obtain ⟨q3, hq3, hk⟩ := ab_bnd hk
      refine mb_eq (s_X9_in hq3) ?_
      by_cases hc : q3.1 = (0 : Int)
      · have hk := ab_ifp hk hc
        refine mb_ifp hc ?_
        obtain rfl := Option.some.inj hk
        rfl
      · have hk := ab_ifn hk hc
        refine mb_ifn hc ?_
        obtain ⟨q4, hq4, hk⟩ := ab_bnd hk
        refine mb_on rfl (s_X9_laysBy hq4) ?_
        refine s_X9_would_L51 (fun w78_3 w78_4 σx78 q hk => ?_) _ _ _ _  _ _ hk
        · skip
          by_cases hc : w78_3 = (0 : Int)
          · have hk := ab_ifp hk hc
            refine mb_ifp hc ?_
            refine mb_get rfl rfl ?_
            obtain rfl := Option.some.inj hk
            rfl
          · have hk := ab_ifn hk hc
            refine mb_ifn hc ?_
            by_cases hc : w78_3 = (1 : Int)
            · have hk := ab_ifp hk hc
              refine mb_ifp hc ?_
              refine mb_get rfl rfl ?_
              obtain rfl := Option.some.inj hk
              rfl
            · have hk := ab_ifn hk hc
              refine mb_ifn hc ?_
              obtain rfl := Option.some.inj hk
              rfl
noncomputable def g_X9_isIn (a1 : Int) (a2 : Int) (σ : st_S) : Option (Int × st_S) :=
  (g_X9_having0 a1 a2 σ).bind fun q1 =>
  if q1.1 = (0 : Int) then
    some ((0 : Int), q1.2)
  else
  some ((1 : Int), q1.2)
set_option maxRecDepth 20000 in
theorem s_X9_isIn {a1 : Int} {a2 : Int} {σ : st_S} {q : Int × st_S} (hk : g_X9_isIn a1 a2 σ = some q) : f_X9_isIn ((596 : Nat) : Int) a1 a2 (mk_ σ) = some ((q.1, mk_ q.2)) := by
  unfold g_X9_isIn at hk
  unfold f_X9_isIn
  obtain ⟨q1, hq1, hk⟩ := ab_bnd hk
  refine mb_on rfl (s_X9_having0 hq1) ?_
  by_cases hc : q1.1 = (0 : Int)
  · have hk := ab_ifp hk hc
    refine mb_ifp hc ?_
    obtain rfl := Option.some.inj hk
    rfl
  · have hk := ab_ifn hk hc
    refine mb_ifn hc ?_
    obtain rfl := Option.some.inj hk
    rfl
noncomputable def g_X9_gather_J62 (rec : Int → Int → Int → Int → st_S → Option (Int × st_S)) (k68 : Int → Int → st_S → Option (Int × st_S)) (v1 : Int) (v2 : Int) (v3 : Int) (v4 : Int) (σ : st_S) : Option (Int × st_S) :=
  rec v1 v2 v3 (ab_w32 (v4 + (1 : Int))) σ
set_option maxRecDepth 20000 in
theorem s_X9_gather_J62 {rec : Int → Int → Int → Int → st_S → Option (Int × st_S)} {recf : Int → Int → Int → Int → Int → ab_H → Option (Int × ab_H)} {k68 : Int → Int → st_S → Option (Int × st_S)} {kf68 : Int → Int → ab_H → Option (Int × ab_H)} (hrec : ∀ (v1 : Int) (v2 : Int) (v3 : Int) (v4 : Int) (σ : st_S) (q : Int × st_S), rec v1 v2 v3 v4 σ = some q → recf ((596 : Nat) : Int) v1 v2 v3 v4 (mk_ σ) = some ((q.1, mk_ q.2))) (hk68 : ∀ (v2 : Int) (v3 : Int) (σ : st_S) (q : Int × st_S), k68 v2 v3 σ = some q → kf68 v2 v3 (mk_ σ) = some ((q.1, mk_ q.2))) : ∀ (v1 : Int) (v2 : Int) (v3 : Int) (v4 : Int) (σ : st_S) (q : Int × st_S), g_X9_gather_J62 rec k68 v1 v2 v3 v4 σ = some q → f_X9_gather_J62 recf kf68 ((596 : Nat) : Int) v1 v2 v3 v4 (mk_ σ) = some ((q.1, mk_ q.2)) := by
  intro v1 v2 v3 v4 σ q hk
  unfold g_X9_gather_J62 at hk
  unfold f_X9_gather_J62
  exact hrec _ _ _ _  _ _ hk
noncomputable def g_X9_gather_L29 (k68 : Int → Int → st_S → Option (Int × st_S)) : Nat → Int → Int → Int → Int → st_S → Option (Int × st_S)
  | 0, _, _, _, _, _ => none
  | n + 1, v1, v2, v3, v4, σ =>
    if σ 596 14 ≤ v4 then
      k68 v2 v3 σ
    else
    (g_X9_isIn v4 v1 σ).bind fun q1 =>
    if q1.1 = (0 : Int) then
      g_X9_gather_J62 (g_X9_gather_L29 k68 n) k68 v1 v2 v3 v4 q1.2
    else
    if v3 = v2 then
      some (v4, q1.2)
    else
    g_X9_gather_J62 (g_X9_gather_L29 k68 n) k68 v1 v2 (ab_w32 (v3 + (1 : Int))) v4 q1.2
set_option maxRecDepth 20000 in
theorem s_X9_gather_L29 {k68 : Int → Int → st_S → Option (Int × st_S)} {kf68 : Int → Int → ab_H → Option (Int × ab_H)} (hk68 : ∀ (v2 : Int) (v3 : Int) (σ : st_S) (q : Int × st_S), k68 v2 v3 σ = some q → kf68 v2 v3 (mk_ σ) = some ((q.1, mk_ q.2))) : ∀ (n : Nat) (v1 : Int) (v2 : Int) (v3 : Int) (v4 : Int) (σ : st_S) (q : Int × st_S), g_X9_gather_L29 k68 n v1 v2 v3 v4 σ = some q → f_X9_gather_L29 kf68 n ((596 : Nat) : Int) v1 v2 v3 v4 (mk_ σ) = some ((q.1, mk_ q.2)) := by
  intro n
  induction n with
  | zero => intro v1 v2 v3 v4 σ q hk; cases hk
  | succ n ih =>
    intro v1 v2 v3 v4 σ q hk
    unfold g_X9_gather_L29 at hk
    unfold f_X9_gather_L29
    refine mb_get rfl rfl ?_
    by_cases hc : σ 596 14 ≤ v4
    · have hk := ab_ifp hk hc
      refine mb_ifp hc ?_
      exact hk68 _ _  _ _ hk
    · have hk := ab_ifn hk hc
      refine mb_ifn hc ?_
      obtain ⟨q1, hq1, hk⟩ := ab_bnd hk
      refine mb_on rfl (s_X9_isIn hq1) ?_
      by_cases hc : q1.1 = (0 : Int)
      · have hk := ab_ifp hk hc
        refine mb_ifp hc ?_
        exact s_X9_gather_J62 ih hk68 _ _ _ _  _ _ hk
      · have hk := ab_ifn hk hc
        refine mb_ifn hc ?_
        by_cases hc : v3 = v2
        · have hk := ab_ifp hk hc
          refine mb_ifp hc ?_
          obtain rfl := Option.some.inj hk
          rfl
        · have hk := ab_ifn hk hc
          refine mb_ifn hc ?_
          exact s_X9_gather_J62 ih hk68 _ _ _ _  _ _ hk
noncomputable def g_X9_gather (a1 : Int) (a2 : Int) (σ : st_S) : Option (Int × st_S) :=
  (g_X9_in a1 (0 : Int) (5 : Int) σ).bind fun q1 =>
  if q1.1 = (0 : Int) then
    some ((-2 : Int), q1.2)
  else
  if (-1 : Int) ≤ a2 then
    (g_X9_laysWords q1.2).bind fun q2 =>
    g_X9_gather_L29 (fun w68_2 w68_3 σx68 =>
      if w68_2 = (-1 : Int) then
        some (w68_3, σx68)
      else
      some ((-1 : Int), σx68)) ab_FU a1 a2 (0 : Int) (0 : Int) q2
  else
  some ((-2 : Int), q1.2)
set_option maxRecDepth 20000 in
theorem s_X9_gather {a1 : Int} {a2 : Int} {σ : st_S} {q : Int × st_S} (hk : g_X9_gather a1 a2 σ = some q) : f_X9_gather ((596 : Nat) : Int) a1 a2 (mk_ σ) = some ((q.1, mk_ q.2)) := by
  unfold g_X9_gather at hk
  unfold f_X9_gather
  obtain ⟨q1, hq1, hk⟩ := ab_bnd hk
  refine mb_eq (s_X9_in hq1) ?_
  by_cases hc : q1.1 = (0 : Int)
  · have hk := ab_ifp hk hc
    refine mb_ifp hc ?_
    obtain rfl := Option.some.inj hk
    rfl
  · have hk := ab_ifn hk hc
    refine mb_ifn hc ?_
    by_cases hc : (-1 : Int) ≤ a2
    · have hk := ab_ifp hk hc
      refine mb_ifp hc ?_
      obtain ⟨q2, hq2, hk⟩ := ab_bnd hk
      refine mb_on rfl (s_X9_laysWords hq2) ?_
      refine s_X9_gather_L29 (fun w68_2 w68_3 σx68 q hk => ?_) _ _ _ _ _  _ _ hk
      · skip
        by_cases hc : w68_2 = (-1 : Int)
        · have hk := ab_ifp hk hc
          refine mb_ifp hc ?_
          obtain rfl := Option.some.inj hk
          rfl
        · have hk := ab_ifn hk hc
          refine mb_ifn hc ?_
          obtain rfl := Option.some.inj hk
          rfl
    · have hk := ab_ifn hk hc
      refine mb_ifn hc ?_
      obtain rfl := Option.some.inj hk
      rfl
noncomputable def g_X9_shared_J55 (rec : Int → Int → Int → st_S → Option (Int × st_S)) (v1 : Int) (v3 : Int) (s1 : Int) (s0 : Int) (σ : st_S) : Option (Int × st_S) :=
  rec v1 (ab_w32 (s0 + s1)) (ab_w32 (v3 + (1 : Int))) σ
set_option maxRecDepth 20000 in
theorem s_X9_shared_J55 {rec : Int → Int → Int → st_S → Option (Int × st_S)} {recf : Int → Int → Int → Int → ab_H → Option (Int × ab_H)} (hrec : ∀ (v1 : Int) (v2 : Int) (v3 : Int) (σ : st_S) (q : Int × st_S), rec v1 v2 v3 σ = some q → recf ((596 : Nat) : Int) v1 v2 v3 (mk_ σ) = some ((q.1, mk_ q.2))) : ∀ (v1 : Int) (v3 : Int) (s1 : Int) (s0 : Int) (σ : st_S) (q : Int × st_S), g_X9_shared_J55 rec v1 v3 s1 s0 σ = some q → f_X9_shared_J55 recf ((596 : Nat) : Int) v1 v3 s1 s0 (mk_ σ) = some ((q.1, mk_ q.2)) := by
  intro v1 v3 s1 s0 σ q hk
  unfold g_X9_shared_J55 at hk
  unfold f_X9_shared_J55
  exact hrec _ _ _  _ _ hk
noncomputable def g_X9_shared_J54 (rec : Int → Int → Int → st_S → Option (Int × st_S)) (v1 : Int) (v3 : Int) (s0 : Int) (σ : st_S) : Option (Int × st_S) :=
  g_X9_shared_J55 rec v1 v3 (0 : Int) s0 σ
set_option maxRecDepth 20000 in
theorem s_X9_shared_J54 {rec : Int → Int → Int → st_S → Option (Int × st_S)} {recf : Int → Int → Int → Int → ab_H → Option (Int × ab_H)} (hrec : ∀ (v1 : Int) (v2 : Int) (v3 : Int) (σ : st_S) (q : Int × st_S), rec v1 v2 v3 σ = some q → recf ((596 : Nat) : Int) v1 v2 v3 (mk_ σ) = some ((q.1, mk_ q.2))) : ∀ (v1 : Int) (v3 : Int) (s0 : Int) (σ : st_S) (q : Int × st_S), g_X9_shared_J54 rec v1 v3 s0 σ = some q → f_X9_shared_J54 recf ((596 : Nat) : Int) v1 v3 s0 (mk_ σ) = some ((q.1, mk_ q.2)) := by
  intro v1 v3 s0 σ q hk
  unfold g_X9_shared_J54 at hk
  unfold f_X9_shared_J54
  exact s_X9_shared_J55 hrec _ _ _ _  _ _ hk
noncomputable def g_X9_shared_L23 : Nat → Int → Int → Int → st_S → Option (Int × st_S)
  | 0, _, _, _, _ => none
  | n + 1, v1, v2, v3, σ =>
    if σ 596 14 ≤ v3 then
      some (v2, σ)
    else
    (g_X9_isIn v3 v1 σ).bind fun q1 =>
    if q1.1 = (0 : Int) then
      g_X9_shared_J54 (g_X9_shared_L23 n) v1 v3 v2 q1.2
    else
    (g_X9_oftenOf v3 q1.2).bind fun q2 =>
    if q2.1 ≤ (1 : Int) then
      g_X9_shared_J54 (g_X9_shared_L23 n) v1 v3 v2 q2.2
    else
    g_X9_shared_J55 (g_X9_shared_L23 n) v1 v3 (1 : Int) v2 q2.2
set_option maxRecDepth 20000 in
theorem s_X9_shared_L23 : ∀ (n : Nat) (v1 : Int) (v2 : Int) (v3 : Int) (σ : st_S) (q : Int × st_S), g_X9_shared_L23 n v1 v2 v3 σ = some q → f_X9_shared_L23 n ((596 : Nat) : Int) v1 v2 v3 (mk_ σ) = some ((q.1, mk_ q.2)) := by
  intro n
  induction n with
  | zero => intro v1 v2 v3 σ q hk; cases hk
  | succ n ih =>
    intro v1 v2 v3 σ q hk
    unfold g_X9_shared_L23 at hk
    unfold f_X9_shared_L23
    refine mb_get rfl rfl ?_
    by_cases hc : σ 596 14 ≤ v3
    · have hk := ab_ifp hk hc
      refine mb_ifp hc ?_
      obtain rfl := Option.some.inj hk
      rfl
    · have hk := ab_ifn hk hc
      refine mb_ifn hc ?_
      obtain ⟨q1, hq1, hk⟩ := ab_bnd hk
      refine mb_on rfl (s_X9_isIn hq1) ?_
      by_cases hc : q1.1 = (0 : Int)
      · have hk := ab_ifp hk hc
        refine mb_ifp hc ?_
        exact s_X9_shared_J54 ih _ _ _  _ _ hk
      · have hk := ab_ifn hk hc
        refine mb_ifn hc ?_
        obtain ⟨q2, hq2, hk⟩ := ab_bnd hk
        refine mb_on rfl (s_X9_oftenOf hq2) ?_
        by_cases hc : q2.1 ≤ (1 : Int)
        · have hk := ab_ifp hk hc
          refine mb_ifp hc ?_
          exact s_X9_shared_J54 ih _ _ _  _ _ hk
        · have hk := ab_ifn hk hc
          refine mb_ifn hc ?_
          exact s_X9_shared_J55 ih _ _ _ _  _ _ hk
noncomputable def g_X9_shared (a1 : Int) (σ : st_S) : Option (Int × st_S) :=
  (g_X9_in a1 (0 : Int) (5 : Int) σ).bind fun q1 =>
  if q1.1 = (0 : Int) then
    some ((-2 : Int), q1.2)
  else
  (g_X9_laysWords q1.2).bind fun q2 =>
  g_X9_shared_L23 ab_FU a1 (0 : Int) (0 : Int) q2
set_option maxRecDepth 20000 in
theorem s_X9_shared {a1 : Int} {σ : st_S} {q : Int × st_S} (hk : g_X9_shared a1 σ = some q) : f_X9_shared ((596 : Nat) : Int) a1 (mk_ σ) = some ((q.1, mk_ q.2)) := by
  unfold g_X9_shared at hk
  unfold f_X9_shared
  obtain ⟨q1, hq1, hk⟩ := ab_bnd hk
  refine mb_eq (s_X9_in hq1) ?_
  by_cases hc : q1.1 = (0 : Int)
  · have hk := ab_ifp hk hc
    refine mb_ifp hc ?_
    obtain rfl := Option.some.inj hk
    rfl
  · have hk := ab_ifn hk hc
    refine mb_ifn hc ?_
    obtain ⟨q2, hq2, hk⟩ := ab_bnd hk
    refine mb_on rfl (s_X9_laysWords hq2) ?_
    refine s_X9_shared_L23 _ _ _ _  _ _ hk
noncomputable def g_X9_lost_L66 (k120 : Int → Int → Int → st_S → Option (Int × st_S)) : Nat → Int → Int → Int → Int → st_S → Option (Int × st_S)
  | 0, _, _, _, _, _ => none
  | n + 1, v2, v3, v4, v5, σ =>
    (sa_ld σ 607 864 (ab_w32 ((ab_w32 ((12 : Int) * v2)) + (ab_w32 ((6 : Int) * v4))))).bind fun t1 =>
    if t1 < v5 then
      k120 v2 v3 v4 σ
    else
    (sa_ld σ 607 864 (ab_w32 ((ab_w32 ((ab_w32 ((12 : Int) * v2)) + (ab_w32 ((6 : Int) * v4)))) + v5))).bind fun t2 =>
    (ab_rm_ t2 (6 : Int)).bind fun t3 =>
    g_X9_lost_L66 k120 n v2 (ab_and v3 (ab_xor (ab_shl (1 : Int) t3) (-1 : Int))) v4 (ab_w32 (v5 + (1 : Int))) σ
set_option maxRecDepth 20000 in
theorem s_X9_lost_L66 {k120 : Int → Int → Int → st_S → Option (Int × st_S)} {kf120 : Int → Int → Int → Int → ab_H → Option (Int × ab_H)} (hk120 : ∀ (v2 : Int) (v3 : Int) (v4 : Int) (σ : st_S) (q : Int × st_S), k120 v2 v3 v4 σ = some q → kf120 ((596 : Nat) : Int) v2 v3 v4 (mk_ σ) = some ((q.1, mk_ q.2))) : ∀ (n : Nat) (v2 : Int) (v3 : Int) (v4 : Int) (v5 : Int) (σ : st_S) (q : Int × st_S), g_X9_lost_L66 k120 n v2 v3 v4 v5 σ = some q → f_X9_lost_L66 kf120 n ((596 : Nat) : Int) v2 v3 v4 v5 (mk_ σ) = some ((q.1, mk_ q.2)) := by
  intro n
  induction n with
  | zero => intro v2 v3 v4 v5 σ q hk; cases hk
  | succ n ih =>
    intro v2 v3 v4 v5 σ q hk
    unfold g_X9_lost_L66 at hk
    unfold f_X9_lost_L66
    refine mb_getR 607 rfl rfl (by decide) ?_
    obtain ⟨t1, ht1, hk⟩ := ab_bnd hk
    refine mb_ald ⟨rfl, rfl, fun _ => rfl⟩ ht1 ?_
    by_cases hc : t1 < v5
    · have hk := ab_ifp hk hc
      refine mb_ifp hc ?_
      exact hk120 _ _ _  _ _ hk
    · have hk := ab_ifn hk hc
      refine mb_ifn hc ?_
      refine mb_getR 607 rfl rfl (by decide) ?_
      obtain ⟨t2, ht2, hk⟩ := ab_bnd hk
      refine mb_ald ⟨rfl, rfl, fun _ => rfl⟩ ht2 ?_
      obtain ⟨t3, ht3, hk⟩ := ab_bnd hk
      refine mb_eq ht3 ?_
      exact ih _ _ _ _  _ _ hk
noncomputable def g_X9_lost_L57 : Nat → Int → Int → Int → st_S → Option (Int × st_S)
  | 0, _, _, _, _ => none
  | n + 1, v2, v3, v4, σ =>
    if (2 : Int) ≤ v4 then
      some (v3, σ)
    else
    g_X9_lost_L66 (fun w120_2 w120_3 w120_4 σx120 =>
      g_X9_lost_L57 n w120_2 w120_3 (ab_w32 (w120_4 + (1 : Int))) σx120) ab_FU v2 v3 v4 (1 : Int) σ
set_option maxRecDepth 20000 in
theorem s_X9_lost_L57 : ∀ (n : Nat) (v2 : Int) (v3 : Int) (v4 : Int) (σ : st_S) (q : Int × st_S), g_X9_lost_L57 n v2 v3 v4 σ = some q → f_X9_lost_L57 n ((596 : Nat) : Int) v2 v3 v4 (mk_ σ) = some ((q.1, mk_ q.2)) := by
  intro n
  induction n with
  | zero => intro v2 v3 v4 σ q hk; cases hk
  | succ n ih =>
    intro v2 v3 v4 σ q hk
    unfold g_X9_lost_L57 at hk
    unfold f_X9_lost_L57
    by_cases hc : (2 : Int) ≤ v4
    · have hk := ab_ifp hk hc
      refine mb_ifp hc ?_
      obtain rfl := Option.some.inj hk
      rfl
    · have hk := ab_ifn hk hc
      refine mb_ifn hc ?_
      refine s_X9_lost_L66 (fun w120_2 w120_3 w120_4 σx120 q hk => ?_) _ _ _ _ _  _ _ hk
      · skip
        exact ih _ _ _  _ _ hk
noncomputable def g_X9_lost (a1 : Int) (σ : st_S) : Option (Int × st_S) :=
  if (0 : Int) ≤ a1 then
    (g_X9_lays σ).bind fun q1 =>
    if a1 < q1 596 16 then
      (sa_ld q1 608 72 a1).bind fun t2 =>
      (sa_ld q1 602 72 t2).bind fun t3 =>
      (g_X9_terms t3 q1).bind fun q4 =>
      (sa_ld q4.2 603 72 t2).bind fun t5 =>
      g_X9_lost_L57 ab_FU t2 (ab_and (ab_w32 ((ab_shl (1 : Int) q4.1) - (1 : Int))) (ab_xor (ab_shl (1 : Int) t5) (-1 : Int))) (0 : Int) q4.2
    else
    some ((-1 : Int), q1)
  else
  some ((-2 : Int), σ)
set_option maxRecDepth 20000 in
theorem s_X9_lost {a1 : Int} {σ : st_S} {q : Int × st_S} (hk : g_X9_lost a1 σ = some q) : f_X9_lost ((596 : Nat) : Int) a1 (mk_ σ) = some ((q.1, mk_ q.2)) := by
  unfold g_X9_lost at hk
  unfold f_X9_lost
  by_cases hc : (0 : Int) ≤ a1
  · have hk := ab_ifp hk hc
    refine mb_ifp hc ?_
    obtain ⟨q1, hq1, hk⟩ := ab_bnd hk
    refine mb_on rfl (s_X9_lays hq1) ?_
    refine mb_get rfl rfl ?_
    by_cases hc : a1 < q1 596 16
    · have hk := ab_ifp hk hc
      refine mb_ifp hc ?_
      refine mb_getR 608 rfl rfl (by decide) ?_
      obtain ⟨t2, ht2, hk⟩ := ab_bnd hk
      refine mb_ald ⟨rfl, rfl, fun _ => rfl⟩ ht2 ?_
      refine mb_getR 602 rfl rfl (by decide) ?_
      obtain ⟨t3, ht3, hk⟩ := ab_bnd hk
      refine mb_ald ⟨rfl, rfl, fun _ => rfl⟩ ht3 ?_
      obtain ⟨q4, hq4, hk⟩ := ab_bnd hk
      refine mb_on rfl (s_X9_terms hq4) ?_
      refine mb_getR 603 rfl rfl (by decide) ?_
      obtain ⟨t5, ht5, hk⟩ := ab_bnd hk
      refine mb_ald ⟨rfl, rfl, fun _ => rfl⟩ ht5 ?_
      refine s_X9_lost_L57 _ _ _ _  _ _ hk
    · have hk := ab_ifn hk hc
      refine mb_ifn hc ?_
      obtain rfl := Option.some.inj hk
      rfl
  · have hk := ab_ifn hk hc
    refine mb_ifn hc ?_
    obtain rfl := Option.some.inj hk
    rfl
noncomputable def g_X9_laysFar_J169 (rec : Int → Int → st_S → Option st_S) (k175 : Int → st_S → Option st_S) (v2 : Int) (v3 : Int) (σ : st_S) : Option st_S :=
  rec v2 (ab_w32 (v3 + (1 : Int))) σ
set_option maxRecDepth 20000 in
theorem s_X9_laysFar_J169 {rec : Int → Int → st_S → Option st_S} {recf : Int → Int → Int → ab_H → Option ab_H} {k175 : Int → st_S → Option st_S} {kf175 : Int → Int → ab_H → Option ab_H} (hrec : ∀ (v2 : Int) (v3 : Int) (σ : st_S) (q : st_S), rec v2 v3 σ = some q → recf ((596 : Nat) : Int) v2 v3 (mk_ σ) = some (mk_ q)) (hk175 : ∀ (v2 : Int) (σ : st_S) (q : st_S), k175 v2 σ = some q → kf175 ((596 : Nat) : Int) v2 (mk_ σ) = some (mk_ q)) : ∀ (v2 : Int) (v3 : Int) (σ : st_S) (q : st_S), g_X9_laysFar_J169 rec k175 v2 v3 σ = some q → f_X9_laysFar_J169 recf kf175 ((596 : Nat) : Int) v2 v3 (mk_ σ) = some (mk_ q) := by
  intro v2 v3 σ q hk
  unfold g_X9_laysFar_J169 at hk
  unfold f_X9_laysFar_J169
  exact hrec _ _  _ _ hk
noncomputable def g_X9_laysFar_J163 (rec : Int → Int → Int → Int → st_S → Option st_S) (k169 : Int → Int → st_S → Option st_S) (v2 : Int) (v3 : Int) (v4 : Int) (v5 : Int) (σ : st_S) : Option st_S :=
  rec v2 v3 v4 (ab_w32 (v5 + (1 : Int))) σ
set_option maxRecDepth 20000 in
theorem s_X9_laysFar_J163 {rec : Int → Int → Int → Int → st_S → Option st_S} {recf : Int → Int → Int → Int → Int → ab_H → Option ab_H} {k169 : Int → Int → st_S → Option st_S} {kf169 : Int → Int → Int → ab_H → Option ab_H} (hrec : ∀ (v2 : Int) (v3 : Int) (v4 : Int) (v5 : Int) (σ : st_S) (q : st_S), rec v2 v3 v4 v5 σ = some q → recf ((596 : Nat) : Int) v2 v3 v4 v5 (mk_ σ) = some (mk_ q)) (hk169 : ∀ (v2 : Int) (v3 : Int) (σ : st_S) (q : st_S), k169 v2 v3 σ = some q → kf169 ((596 : Nat) : Int) v2 v3 (mk_ σ) = some (mk_ q)) : ∀ (v2 : Int) (v3 : Int) (v4 : Int) (v5 : Int) (σ : st_S) (q : st_S), g_X9_laysFar_J163 rec k169 v2 v3 v4 v5 σ = some q → f_X9_laysFar_J163 recf kf169 ((596 : Nat) : Int) v2 v3 v4 v5 (mk_ σ) = some (mk_ q) := by
  intro v2 v3 v4 v5 σ q hk
  unfold g_X9_laysFar_J163 at hk
  unfold f_X9_laysFar_J163
  exact hrec _ _ _ _  _ _ hk
noncomputable def g_X9_laysFar_L109 (k169 : Int → Int → st_S → Option st_S) : Nat → Int → Int → Int → Int → st_S → Option st_S
  | 0, _, _, _, _, _ => none
  | n + 1, v2, v3, v4, v5, σ =>
    (g_X9_terms v3 σ).bind fun q1 =>
    if q1.1 ≤ v5 then
      k169 v2 v3 q1.2
    else
    if v4 = (0 : Int) then
      k169 v2 v3 q1.2
    else
    (g_X9_place v3 v5 q1.2).bind fun q2 =>
    (sa_ld q2.2 601 72 q2.1).bind fun t3 =>
    (sa_ld q2.2 613 72 t3).bind fun t4 =>
    if t4 = (-1 : Int) then
      (g_X9_place v3 v5 q2.2).bind fun q5 =>
      (sa_ld q5.2 601 72 q5.1).bind fun t6 =>
      (sa_st q5.2 613 72 t6 (ab_w32 (v2 + (1 : Int)))).bind fun σ1 =>
      g_X9_laysFar_J163 (g_X9_laysFar_L109 k169 n) k169 v2 v3 v4 v5 σ1
    else
    g_X9_laysFar_J163 (g_X9_laysFar_L109 k169 n) k169 v2 v3 v4 v5 q2.2
set_option maxRecDepth 20000 in
theorem s_X9_laysFar_L109 {k169 : Int → Int → st_S → Option st_S} {kf169 : Int → Int → Int → ab_H → Option ab_H} (hk169 : ∀ (v2 : Int) (v3 : Int) (σ : st_S) (q : st_S), k169 v2 v3 σ = some q → kf169 ((596 : Nat) : Int) v2 v3 (mk_ σ) = some (mk_ q)) : ∀ (n : Nat) (v2 : Int) (v3 : Int) (v4 : Int) (v5 : Int) (σ : st_S) (q : st_S), g_X9_laysFar_L109 k169 n v2 v3 v4 v5 σ = some q → f_X9_laysFar_L109 kf169 n ((596 : Nat) : Int) v2 v3 v4 v5 (mk_ σ) = some (mk_ q) := by
  intro n
  induction n with
  | zero => intro v2 v3 v4 v5 σ q hk; cases hk
  | succ n ih =>
    intro v2 v3 v4 v5 σ q hk
    unfold g_X9_laysFar_L109 at hk
    unfold f_X9_laysFar_L109
    obtain ⟨q1, hq1, hk⟩ := ab_bnd hk
    refine mb_on rfl (s_X9_terms hq1) ?_
    by_cases hc : q1.1 ≤ v5
    · have hk := ab_ifp hk hc
      refine mb_ifp hc ?_
      exact hk169 _ _  _ _ hk
    · have hk := ab_ifn hk hc
      refine mb_ifn hc ?_
      by_cases hc : v4 = (0 : Int)
      · have hk := ab_ifp hk hc
        refine mb_ifp hc ?_
        exact hk169 _ _  _ _ hk
      · have hk := ab_ifn hk hc
        refine mb_ifn hc ?_
        refine mb_getR 613 rfl rfl (by decide) ?_
        refine mb_getR 601 rfl rfl (by decide) ?_
        obtain ⟨q2, hq2, hk⟩ := ab_bnd hk
        refine mb_eq (s_X9_place hq2) ?_
        obtain ⟨t3, ht3, hk⟩ := ab_bnd hk
        refine mb_ald ⟨rfl, rfl, fun _ => rfl⟩ ht3 ?_
        obtain ⟨t4, ht4, hk⟩ := ab_bnd hk
        refine mb_ald ⟨rfl, rfl, fun _ => rfl⟩ ht4 ?_
        by_cases hc : t4 = (-1 : Int)
        · have hk := ab_ifp hk hc
          refine mb_ifp hc ?_
          refine mb_getR 613 rfl rfl (by decide) ?_
          refine mb_getR 601 rfl rfl (by decide) ?_
          obtain ⟨q5, hq5, hk⟩ := ab_bnd hk
          refine mb_eq (s_X9_place hq5) ?_
          obtain ⟨t6, ht6, hk⟩ := ab_bnd hk
          refine mb_ald ⟨rfl, rfl, fun _ => rfl⟩ ht6 ?_
          obtain ⟨σ1, hσ1, hk⟩ := ab_bnd hk
          refine mb_ast ⟨rfl, rfl, fun _ => rfl⟩ hσ1 ?_
          exact s_X9_laysFar_J163 ih hk169 _ _ _ _  _ _ hk
        · have hk := ab_ifn hk hc
          refine mb_ifn hc ?_
          exact s_X9_laysFar_J163 ih hk169 _ _ _ _  _ _ hk
noncomputable def g_X9_laysFar_J98 (rec : Int → Int → Int → Int → st_S → Option st_S) (k106 : Int → Int → Int → st_S → Option st_S) (v2 : Int) (v3 : Int) (v5 : Int) (s0 : Int) (σ : st_S) : Option st_S :=
  rec v2 v3 s0 (ab_w32 (v5 + (1 : Int))) σ
set_option maxRecDepth 20000 in
theorem s_X9_laysFar_J98 {rec : Int → Int → Int → Int → st_S → Option st_S} {recf : Int → Int → Int → Int → Int → ab_H → Option ab_H} {k106 : Int → Int → Int → st_S → Option st_S} {kf106 : Int → Int → Int → Int → ab_H → Option ab_H} (hrec : ∀ (v2 : Int) (v3 : Int) (v4 : Int) (v5 : Int) (σ : st_S) (q : st_S), rec v2 v3 v4 v5 σ = some q → recf ((596 : Nat) : Int) v2 v3 v4 v5 (mk_ σ) = some (mk_ q)) (hk106 : ∀ (v2 : Int) (v3 : Int) (v4 : Int) (σ : st_S) (q : st_S), k106 v2 v3 v4 σ = some q → kf106 ((596 : Nat) : Int) v2 v3 v4 (mk_ σ) = some (mk_ q)) : ∀ (v2 : Int) (v3 : Int) (v5 : Int) (s0 : Int) (σ : st_S) (q : st_S), g_X9_laysFar_J98 rec k106 v2 v3 v5 s0 σ = some q → f_X9_laysFar_J98 recf kf106 ((596 : Nat) : Int) v2 v3 v5 s0 (mk_ σ) = some (mk_ q) := by
  intro v2 v3 v5 s0 σ q hk
  unfold g_X9_laysFar_J98 at hk
  unfold f_X9_laysFar_J98
  exact hrec _ _ _ _  _ _ hk
noncomputable def g_X9_laysFar_J93 (rec : Int → Int → Int → Int → st_S → Option st_S) (k106 : Int → Int → Int → st_S → Option st_S) (v2 : Int) (v3 : Int) (v5 : Int) (σ : st_S) : Option st_S :=
  g_X9_laysFar_J98 rec k106 v2 v3 v5 (1 : Int) σ
set_option maxRecDepth 20000 in
theorem s_X9_laysFar_J93 {rec : Int → Int → Int → Int → st_S → Option st_S} {recf : Int → Int → Int → Int → Int → ab_H → Option ab_H} {k106 : Int → Int → Int → st_S → Option st_S} {kf106 : Int → Int → Int → Int → ab_H → Option ab_H} (hrec : ∀ (v2 : Int) (v3 : Int) (v4 : Int) (v5 : Int) (σ : st_S) (q : st_S), rec v2 v3 v4 v5 σ = some q → recf ((596 : Nat) : Int) v2 v3 v4 v5 (mk_ σ) = some (mk_ q)) (hk106 : ∀ (v2 : Int) (v3 : Int) (v4 : Int) (σ : st_S) (q : st_S), k106 v2 v3 v4 σ = some q → kf106 ((596 : Nat) : Int) v2 v3 v4 (mk_ σ) = some (mk_ q)) : ∀ (v2 : Int) (v3 : Int) (v5 : Int) (σ : st_S) (q : st_S), g_X9_laysFar_J93 rec k106 v2 v3 v5 σ = some q → f_X9_laysFar_J93 recf kf106 ((596 : Nat) : Int) v2 v3 v5 (mk_ σ) = some (mk_ q) := by
  intro v2 v3 v5 σ q hk
  unfold g_X9_laysFar_J93 at hk
  unfold f_X9_laysFar_J93
  exact s_X9_laysFar_J98 hrec hk106 _ _ _ _  _ _ hk
noncomputable def g_X9_laysFar_L58 (k106 : Int → Int → Int → st_S → Option st_S) : Nat → Int → Int → Int → Int → st_S → Option st_S
  | 0, _, _, _, _, _ => none
  | n + 1, v2, v3, v4, v5, σ =>
    (g_X9_terms v3 σ).bind fun q1 =>
    if q1.1 ≤ v5 then
      k106 v2 v3 v4 q1.2
    else
    if v4 = (0 : Int) then
      (g_X9_place v3 v5 q1.2).bind fun q2 =>
      (sa_ld q2.2 601 72 q2.1).bind fun t3 =>
      (sa_ld q2.2 613 72 t3).bind fun t4 =>
      if t4 = v2 then
        g_X9_laysFar_J93 (g_X9_laysFar_L58 k106 n) k106 v2 v3 v5 q2.2
      else
      g_X9_laysFar_J98 (g_X9_laysFar_L58 k106 n) k106 v2 v3 v5 (0 : Int) q2.2
    else
    g_X9_laysFar_J93 (g_X9_laysFar_L58 k106 n) k106 v2 v3 v5 q1.2
set_option maxRecDepth 20000 in
theorem s_X9_laysFar_L58 {k106 : Int → Int → Int → st_S → Option st_S} {kf106 : Int → Int → Int → Int → ab_H → Option ab_H} (hk106 : ∀ (v2 : Int) (v3 : Int) (v4 : Int) (σ : st_S) (q : st_S), k106 v2 v3 v4 σ = some q → kf106 ((596 : Nat) : Int) v2 v3 v4 (mk_ σ) = some (mk_ q)) : ∀ (n : Nat) (v2 : Int) (v3 : Int) (v4 : Int) (v5 : Int) (σ : st_S) (q : st_S), g_X9_laysFar_L58 k106 n v2 v3 v4 v5 σ = some q → f_X9_laysFar_L58 kf106 n ((596 : Nat) : Int) v2 v3 v4 v5 (mk_ σ) = some (mk_ q) := by
  intro n
  induction n with
  | zero => intro v2 v3 v4 v5 σ q hk; cases hk
  | succ n ih =>
    intro v2 v3 v4 v5 σ q hk
    unfold g_X9_laysFar_L58 at hk
    unfold f_X9_laysFar_L58
    obtain ⟨q1, hq1, hk⟩ := ab_bnd hk
    refine mb_on rfl (s_X9_terms hq1) ?_
    by_cases hc : q1.1 ≤ v5
    · have hk := ab_ifp hk hc
      refine mb_ifp hc ?_
      exact hk106 _ _ _  _ _ hk
    · have hk := ab_ifn hk hc
      refine mb_ifn hc ?_
      by_cases hc : v4 = (0 : Int)
      · have hk := ab_ifp hk hc
        refine mb_ifp hc ?_
        refine mb_getR 613 rfl rfl (by decide) ?_
        refine mb_getR 601 rfl rfl (by decide) ?_
        obtain ⟨q2, hq2, hk⟩ := ab_bnd hk
        refine mb_eq (s_X9_place hq2) ?_
        obtain ⟨t3, ht3, hk⟩ := ab_bnd hk
        refine mb_ald ⟨rfl, rfl, fun _ => rfl⟩ ht3 ?_
        obtain ⟨t4, ht4, hk⟩ := ab_bnd hk
        refine mb_ald ⟨rfl, rfl, fun _ => rfl⟩ ht4 ?_
        by_cases hc : t4 = v2
        · have hk := ab_ifp hk hc
          refine mb_ifp hc ?_
          exact s_X9_laysFar_J93 ih hk106 _ _ _  _ _ hk
        · have hk := ab_ifn hk hc
          refine mb_ifn hc ?_
          exact s_X9_laysFar_J98 ih hk106 _ _ _ _  _ _ hk
      · have hk := ab_ifn hk hc
        refine mb_ifn hc ?_
        exact s_X9_laysFar_J93 ih hk106 _ _ _  _ _ hk
noncomputable def g_X9_laysFar_L44 (k175 : Int → st_S → Option st_S) : Nat → Int → Int → st_S → Option st_S
  | 0, _, _, _ => none
  | n + 1, v2, v3, σ =>
    (g_X9_strings σ).bind fun q1 =>
    if q1.1 ≤ v3 then
      k175 v2 q1.2
    else
    g_X9_laysFar_L58 (fun w106_2 w106_3 w106_4 σx106 =>
      g_X9_laysFar_L109 (fun w169_2 w169_3 σx169 =>
        g_X9_laysFar_J169 (g_X9_laysFar_L44 k175 n) k175 w169_2 w169_3 σx169) ab_FU w106_2 w106_3 w106_4 (0 : Int) σx106) ab_FU v2 v3 (0 : Int) (0 : Int) q1.2
set_option maxRecDepth 20000 in
theorem s_X9_laysFar_L44 {k175 : Int → st_S → Option st_S} {kf175 : Int → Int → ab_H → Option ab_H} (hk175 : ∀ (v2 : Int) (σ : st_S) (q : st_S), k175 v2 σ = some q → kf175 ((596 : Nat) : Int) v2 (mk_ σ) = some (mk_ q)) : ∀ (n : Nat) (v2 : Int) (v3 : Int) (σ : st_S) (q : st_S), g_X9_laysFar_L44 k175 n v2 v3 σ = some q → f_X9_laysFar_L44 kf175 n ((596 : Nat) : Int) v2 v3 (mk_ σ) = some (mk_ q) := by
  intro n
  induction n with
  | zero => intro v2 v3 σ q hk; cases hk
  | succ n ih =>
    intro v2 v3 σ q hk
    unfold g_X9_laysFar_L44 at hk
    unfold f_X9_laysFar_L44
    obtain ⟨q1, hq1, hk⟩ := ab_bnd hk
    refine mb_on rfl (s_X9_strings hq1) ?_
    by_cases hc : q1.1 ≤ v3
    · have hk := ab_ifp hk hc
      refine mb_ifp hc ?_
      exact hk175 _  _ _ hk
    · have hk := ab_ifn hk hc
      refine mb_ifn hc ?_
      refine s_X9_laysFar_L58 (fun w106_2 w106_3 w106_4 σx106 q hk => ?_) _ _ _ _ _  _ _ hk
      · skip
        refine s_X9_laysFar_L109 (fun w169_2 w169_3 σx169 q hk => ?_) _ _ _ _ _  _ _ hk
        · skip
          exact s_X9_laysFar_J169 ih hk175 _ _  _ _ hk
noncomputable def g_X9_laysFar_L34 : Nat → Int → st_S → Option st_S
  | 0, _, _ => none
  | n + 1, v2, σ =>
    if σ 596 14 ≤ v2 then
      some σ
    else
    g_X9_laysFar_L44 (fun w175_2 σx175 =>
      g_X9_laysFar_L34 n (ab_w32 (w175_2 + (1 : Int))) σx175) ab_FU v2 (0 : Int) σ
set_option maxRecDepth 20000 in
theorem s_X9_laysFar_L34 : ∀ (n : Nat) (v2 : Int) (σ : st_S) (q : st_S), g_X9_laysFar_L34 n v2 σ = some q → f_X9_laysFar_L34 n ((596 : Nat) : Int) v2 (mk_ σ) = some (mk_ q) := by
  intro n
  induction n with
  | zero => intro v2 σ q hk; cases hk
  | succ n ih =>
    intro v2 σ q hk
    unfold g_X9_laysFar_L34 at hk
    unfold f_X9_laysFar_L34
    refine mb_get rfl rfl ?_
    by_cases hc : σ 596 14 ≤ v2
    · have hk := ab_ifp hk hc
      refine mb_ifp hc ?_
      obtain rfl := Option.some.inj hk
      rfl
    · have hk := ab_ifn hk hc
      refine mb_ifn hc ?_
      refine s_X9_laysFar_L44 (fun w175_2 σx175 q hk => ?_) _ _ _  _ _ hk
      · skip
        exact ih _  _ _ hk
noncomputable def g_X9_laysFar_J25 (rec : Int → Int → st_S → Option st_S) (k32 : st_S → Option st_S) (v1 : Int) (v2 : Int) (s2 : Int) (s1 : Int) (σ : st_S) : Option st_S :=
  (sa_st σ 613 72 s1 s2).bind fun σ1 =>
  rec v1 (ab_w32 (v2 + (1 : Int))) σ1
set_option maxRecDepth 20000 in
theorem s_X9_laysFar_J25 {rec : Int → Int → st_S → Option st_S} {recf : Int → Int → Int → ab_H → Option ab_H} {k32 : st_S → Option st_S} {kf32 : Int → ab_H → Option ab_H} (hrec : ∀ (v1 : Int) (v2 : Int) (σ : st_S) (q : st_S), rec v1 v2 σ = some q → recf ((596 : Nat) : Int) v1 v2 (mk_ σ) = some (mk_ q)) (hk32 : ∀ (σ : st_S) (q : st_S), k32 σ = some q → kf32 ((596 : Nat) : Int) (mk_ σ) = some (mk_ q)) : ∀ (v1 : Int) (v2 : Int) (s2 : Int) (s1 : Int) (σ : st_S) (q : st_S), g_X9_laysFar_J25 rec k32 v1 v2 s2 s1 σ = some q → f_X9_laysFar_J25 recf kf32 ((596 : Nat) : Int) v1 v2 s2 s1 ((613 : Nat) : Int) (mk_ σ) = some (mk_ q) := by
  intro v1 v2 s2 s1 σ q hk
  unfold g_X9_laysFar_J25 at hk
  unfold f_X9_laysFar_J25
  obtain ⟨σ1, hσ1, hk⟩ := ab_bnd hk
  refine mb_ast ⟨rfl, rfl, fun _ => rfl⟩ hσ1 ?_
  exact hrec _ _  _ _ hk
noncomputable def g_X9_laysFar_L2 (k32 : st_S → Option st_S) : Nat → Int → Int → st_S → Option st_S
  | 0, _, _, _ => none
  | n + 1, v1, v2, σ =>
    if σ 596 14 ≤ v2 then
      k32 σ
    else
    if v2 = v1 then
      g_X9_laysFar_J25 (g_X9_laysFar_L2 k32 n) k32 v1 v2 (0 : Int) v2 σ
    else
    g_X9_laysFar_J25 (g_X9_laysFar_L2 k32 n) k32 v1 v2 (-1 : Int) v2 σ
set_option maxRecDepth 20000 in
theorem s_X9_laysFar_L2 {k32 : st_S → Option st_S} {kf32 : Int → ab_H → Option ab_H} (hk32 : ∀ (σ : st_S) (q : st_S), k32 σ = some q → kf32 ((596 : Nat) : Int) (mk_ σ) = some (mk_ q)) : ∀ (n : Nat) (v1 : Int) (v2 : Int) (σ : st_S) (q : st_S), g_X9_laysFar_L2 k32 n v1 v2 σ = some q → f_X9_laysFar_L2 kf32 n ((596 : Nat) : Int) v1 v2 (mk_ σ) = some (mk_ q) := by
  intro n
  induction n with
  | zero => intro v1 v2 σ q hk; cases hk
  | succ n ih =>
    intro v1 v2 σ q hk
    unfold g_X9_laysFar_L2 at hk
    unfold f_X9_laysFar_L2
    refine mb_get rfl rfl ?_
    by_cases hc : σ 596 14 ≤ v2
    · have hk := ab_ifp hk hc
      refine mb_ifp hc ?_
      exact hk32  _ _ hk
    · have hk := ab_ifn hk hc
      refine mb_ifn hc ?_
      refine mb_getR 613 rfl rfl (by decide) ?_
      by_cases hc : v2 = v1
      · have hk := ab_ifp hk hc
        refine mb_ifp hc ?_
        exact s_X9_laysFar_J25 ih hk32 _ _ _ _  _ _ hk
      · have hk := ab_ifn hk hc
        refine mb_ifn hc ?_
        exact s_X9_laysFar_J25 ih hk32 _ _ _ _  _ _ hk
noncomputable def g_X9_laysFar (a1 : Int) (σ : st_S) : Option st_S :=
  g_X9_laysFar_L2 (fun σx32 =>
    g_X9_laysFar_L34 ab_FU (0 : Int) σx32) ab_FU a1 (0 : Int) σ
set_option maxRecDepth 20000 in
theorem s_X9_laysFar {a1 : Int} {σ : st_S} {q : st_S} (hk : g_X9_laysFar a1 σ = some q) : f_X9_laysFar ((596 : Nat) : Int) a1 (mk_ σ) = some (mk_ q) := by
  unfold g_X9_laysFar at hk
  unfold f_X9_laysFar
  refine s_X9_laysFar_L2 (fun σx32 q hk => ?_) _ _ _  _ _ hk
  · skip
    refine s_X9_laysFar_L34 _ _  _ _ hk
noncomputable def g_X9_chain (a1 : Int) (a2 : Int) (σ : st_S) : Option (Int × st_S) :=
  (g_X9_isWordNow a1 σ).bind fun q1 =>
  if q1.1 = (0 : Int) then
    some ((-2 : Int), q1.2)
  else
  (g_X9_in a2 (0 : Int) (ab_w32 ((q1.2 596 14) - (1 : Int))) q1.2).bind fun q2 =>
  if q2.1 = (0 : Int) then
    some ((-2 : Int), q2.2)
  else
  (g_X9_laysFar a1 q2.2).bind fun q3 =>
  (sa_ld q3 613 72 a2).bind fun t4 =>
  some (t4, q3)
set_option maxRecDepth 20000 in
theorem s_X9_chain {a1 : Int} {a2 : Int} {σ : st_S} {q : Int × st_S} (hk : g_X9_chain a1 a2 σ = some q) : f_X9_chain ((596 : Nat) : Int) a1 a2 (mk_ σ) = some ((q.1, mk_ q.2)) := by
  unfold g_X9_chain at hk
  unfold f_X9_chain
  obtain ⟨q1, hq1, hk⟩ := ab_bnd hk
  refine mb_on rfl (s_X9_isWordNow hq1) ?_
  by_cases hc : q1.1 = (0 : Int)
  · have hk := ab_ifp hk hc
    refine mb_ifp hc ?_
    obtain rfl := Option.some.inj hk
    rfl
  · have hk := ab_ifn hk hc
    refine mb_ifn hc ?_
    refine mb_get rfl rfl ?_
    obtain ⟨q2, hq2, hk⟩ := ab_bnd hk
    refine mb_eq (s_X9_in hq2) ?_
    by_cases hc : q2.1 = (0 : Int)
    · have hk := ab_ifp hk hc
      refine mb_ifp hc ?_
      obtain rfl := Option.some.inj hk
      rfl
    · have hk := ab_ifn hk hc
      refine mb_ifn hc ?_
      obtain ⟨q3, hq3, hk⟩ := ab_bnd hk
      refine mb_on rfl (s_X9_laysFar hq3) ?_
      refine mb_getR 613 rfl rfl (by decide) ?_
      obtain ⟨t4, ht4, hk⟩ := ab_bnd hk
      refine mb_ald ⟨rfl, rfl, fun _ => rfl⟩ ht4 ?_
      obtain rfl := Option.some.inj hk
      rfl
noncomputable def g_X9_groups_J69 (rec : Int → Int → st_S → Option (Int × st_S)) (v2 : Int) (s1 : Int) (s0 : Int) (σ : st_S) : Option (Int × st_S) :=
  rec (ab_w32 (s0 + s1)) (ab_w32 (v2 + (1 : Int))) σ
set_option maxRecDepth 20000 in
theorem s_X9_groups_J69 {rec : Int → Int → st_S → Option (Int × st_S)} {recf : Int → Int → Int → ab_H → Option (Int × ab_H)} (hrec : ∀ (v1 : Int) (v2 : Int) (σ : st_S) (q : Int × st_S), rec v1 v2 σ = some q → recf ((596 : Nat) : Int) v1 v2 (mk_ σ) = some ((q.1, mk_ q.2))) : ∀ (v2 : Int) (s1 : Int) (s0 : Int) (σ : st_S) (q : Int × st_S), g_X9_groups_J69 rec v2 s1 s0 σ = some q → f_X9_groups_J69 recf ((596 : Nat) : Int) v2 s1 s0 (mk_ σ) = some ((q.1, mk_ q.2)) := by
  intro v2 s1 s0 σ q hk
  unfold g_X9_groups_J69 at hk
  unfold f_X9_groups_J69
  exact hrec _ _  _ _ hk
noncomputable def g_X9_groups_J59 (rec : Int → Int → st_S → Option (Int × st_S)) (v1 : Int) (v2 : Int) (v3 : Int) (σ : st_S) : Option (Int × st_S) :=
  if v3 = (0 : Int) then
    g_X9_groups_J69 rec v2 (0 : Int) v1 σ
  else
  g_X9_groups_J69 rec v2 (1 : Int) v1 σ
set_option maxRecDepth 20000 in
theorem s_X9_groups_J59 {rec : Int → Int → st_S → Option (Int × st_S)} {recf : Int → Int → Int → ab_H → Option (Int × ab_H)} (hrec : ∀ (v1 : Int) (v2 : Int) (σ : st_S) (q : Int × st_S), rec v1 v2 σ = some q → recf ((596 : Nat) : Int) v1 v2 (mk_ σ) = some ((q.1, mk_ q.2))) : ∀ (v1 : Int) (v2 : Int) (v3 : Int) (σ : st_S) (q : Int × st_S), g_X9_groups_J59 rec v1 v2 v3 σ = some q → f_X9_groups_J59 recf ((596 : Nat) : Int) v1 v2 v3 (mk_ σ) = some ((q.1, mk_ q.2)) := by
  intro v1 v2 v3 σ q hk
  unfold g_X9_groups_J59 at hk
  unfold f_X9_groups_J59
  by_cases hc : v3 = (0 : Int)
  · have hk := ab_ifp hk hc
    refine mb_ifp hc ?_
    exact s_X9_groups_J69 hrec _ _ _  _ _ hk
  · have hk := ab_ifn hk hc
    refine mb_ifn hc ?_
    exact s_X9_groups_J69 hrec _ _ _  _ _ hk
noncomputable def g_X9_groups_J52 (rec : Int → Int → Int → Int → st_S → Option (Int × st_S)) (k59 : Int → Int → Int → st_S → Option (Int × st_S)) (v1 : Int) (v2 : Int) (v4 : Int) (s0 : Int) (σ : st_S) : Option (Int × st_S) :=
  rec v1 v2 s0 (ab_w32 (v4 + (1 : Int))) σ
set_option maxRecDepth 20000 in
theorem s_X9_groups_J52 {rec : Int → Int → Int → Int → st_S → Option (Int × st_S)} {recf : Int → Int → Int → Int → Int → ab_H → Option (Int × ab_H)} {k59 : Int → Int → Int → st_S → Option (Int × st_S)} {kf59 : Int → Int → Int → Int → ab_H → Option (Int × ab_H)} (hrec : ∀ (v1 : Int) (v2 : Int) (v3 : Int) (v4 : Int) (σ : st_S) (q : Int × st_S), rec v1 v2 v3 v4 σ = some q → recf ((596 : Nat) : Int) v1 v2 v3 v4 (mk_ σ) = some ((q.1, mk_ q.2))) (hk59 : ∀ (v1 : Int) (v2 : Int) (v3 : Int) (σ : st_S) (q : Int × st_S), k59 v1 v2 v3 σ = some q → kf59 ((596 : Nat) : Int) v1 v2 v3 (mk_ σ) = some ((q.1, mk_ q.2))) : ∀ (v1 : Int) (v2 : Int) (v4 : Int) (s0 : Int) (σ : st_S) (q : Int × st_S), g_X9_groups_J52 rec k59 v1 v2 v4 s0 σ = some q → f_X9_groups_J52 recf kf59 ((596 : Nat) : Int) v1 v2 v4 s0 (mk_ σ) = some ((q.1, mk_ q.2)) := by
  intro v1 v2 v4 s0 σ q hk
  unfold g_X9_groups_J52 at hk
  unfold f_X9_groups_J52
  exact hrec _ _ _ _  _ _ hk
noncomputable def g_X9_groups_L26 (k59 : Int → Int → Int → st_S → Option (Int × st_S)) : Nat → Int → Int → Int → Int → st_S → Option (Int × st_S)
  | 0, _, _, _, _, _ => none
  | n + 1, v1, v2, v3, v4, σ =>
    if v2 ≤ v4 then
      k59 v1 v2 v3 σ
    else
    if v3 = (0 : Int) then
      k59 v1 v2 v3 σ
    else
    (sa_ld σ 613 72 v4).bind fun t1 =>
    if t1 = (-1 : Int) then
      g_X9_groups_J52 (g_X9_groups_L26 k59 n) k59 v1 v2 v4 (1 : Int) σ
    else
    g_X9_groups_J52 (g_X9_groups_L26 k59 n) k59 v1 v2 v4 (0 : Int) σ
set_option maxRecDepth 20000 in
theorem s_X9_groups_L26 {k59 : Int → Int → Int → st_S → Option (Int × st_S)} {kf59 : Int → Int → Int → Int → ab_H → Option (Int × ab_H)} (hk59 : ∀ (v1 : Int) (v2 : Int) (v3 : Int) (σ : st_S) (q : Int × st_S), k59 v1 v2 v3 σ = some q → kf59 ((596 : Nat) : Int) v1 v2 v3 (mk_ σ) = some ((q.1, mk_ q.2))) : ∀ (n : Nat) (v1 : Int) (v2 : Int) (v3 : Int) (v4 : Int) (σ : st_S) (q : Int × st_S), g_X9_groups_L26 k59 n v1 v2 v3 v4 σ = some q → f_X9_groups_L26 kf59 n ((596 : Nat) : Int) v1 v2 v3 v4 (mk_ σ) = some ((q.1, mk_ q.2)) := by
  intro n
  induction n with
  | zero => intro v1 v2 v3 v4 σ q hk; cases hk
  | succ n ih =>
    intro v1 v2 v3 v4 σ q hk
    unfold g_X9_groups_L26 at hk
    unfold f_X9_groups_L26
    by_cases hc : v2 ≤ v4
    · have hk := ab_ifp hk hc
      refine mb_ifp hc ?_
      exact hk59 _ _ _  _ _ hk
    · have hk := ab_ifn hk hc
      refine mb_ifn hc ?_
      by_cases hc : v3 = (0 : Int)
      · have hk := ab_ifp hk hc
        refine mb_ifp hc ?_
        exact hk59 _ _ _  _ _ hk
      · have hk := ab_ifn hk hc
        refine mb_ifn hc ?_
        refine mb_getR 613 rfl rfl (by decide) ?_
        obtain ⟨t1, ht1, hk⟩ := ab_bnd hk
        refine mb_ald ⟨rfl, rfl, fun _ => rfl⟩ ht1 ?_
        by_cases hc : t1 = (-1 : Int)
        · have hk := ab_ifp hk hc
          refine mb_ifp hc ?_
          exact s_X9_groups_J52 ih hk59 _ _ _ _  _ _ hk
        · have hk := ab_ifn hk hc
          refine mb_ifn hc ?_
          exact s_X9_groups_J52 ih hk59 _ _ _ _  _ _ hk
noncomputable def g_X9_groups_L8 : Nat → Int → Int → st_S → Option (Int × st_S)
  | 0, _, _, _ => none
  | n + 1, v1, v2, σ =>
    if σ 596 14 ≤ v2 then
      some (v1, σ)
    else
    (g_X9_laysFar v2 σ).bind fun q1 =>
    g_X9_groups_L26 (fun w59_1 w59_2 w59_3 σx59 =>
      g_X9_groups_J59 (g_X9_groups_L8 n) w59_1 w59_2 w59_3 σx59) ab_FU v1 v2 (1 : Int) (0 : Int) q1
set_option maxRecDepth 20000 in
theorem s_X9_groups_L8 : ∀ (n : Nat) (v1 : Int) (v2 : Int) (σ : st_S) (q : Int × st_S), g_X9_groups_L8 n v1 v2 σ = some q → f_X9_groups_L8 n ((596 : Nat) : Int) v1 v2 (mk_ σ) = some ((q.1, mk_ q.2)) := by
  intro n
  induction n with
  | zero => intro v1 v2 σ q hk; cases hk
  | succ n ih =>
    intro v1 v2 σ q hk
    unfold g_X9_groups_L8 at hk
    unfold f_X9_groups_L8
    refine mb_get rfl rfl ?_
    by_cases hc : σ 596 14 ≤ v2
    · have hk := ab_ifp hk hc
      refine mb_ifp hc ?_
      obtain rfl := Option.some.inj hk
      rfl
    · have hk := ab_ifn hk hc
      refine mb_ifn hc ?_
      obtain ⟨q1, hq1, hk⟩ := ab_bnd hk
      refine mb_on rfl (s_X9_laysFar hq1) ?_
      refine s_X9_groups_L26 (fun w59_1 w59_2 w59_3 σx59 q hk => ?_) _ _ _ _ _  _ _ hk
      · skip
        exact s_X9_groups_J59 ih _ _ _  _ _ hk
noncomputable def g_X9_groups (σ : st_S) : Option (Int × st_S) :=
  (g_X9_laysWords σ).bind fun q1 =>
  g_X9_groups_L8 ab_FU (0 : Int) (0 : Int) q1
set_option maxRecDepth 20000 in
theorem s_X9_groups {σ : st_S} {q : Int × st_S} (hk : g_X9_groups σ = some q) : f_X9_groups ((596 : Nat) : Int) (mk_ σ) = some ((q.1, mk_ q.2)) := by
  unfold g_X9_groups at hk
  unfold f_X9_groups
  obtain ⟨q1, hq1, hk⟩ := ab_bnd hk
  refine mb_on rfl (s_X9_laysWords hq1) ?_
  refine s_X9_groups_L8 _ _ _  _ _ hk
noncomputable def g_X9_shown_J161 (rec : Int → Int → Int → Int → st_S → Option (Int × st_S)) (v1 : Int) (v2 : Int) (v4 : Int) (s1 : Int) (s0 : Int) (σ : st_S) : Option (Int × st_S) :=
  rec v1 v2 (ab_w32 (s0 + s1)) (ab_w32 (v4 + (1 : Int))) σ
set_option maxRecDepth 20000 in
theorem s_X9_shown_J161 {rec : Int → Int → Int → Int → st_S → Option (Int × st_S)} {recf : Int → Int → Int → Int → Int → ab_H → Option (Int × ab_H)} (hrec : ∀ (v1 : Int) (v2 : Int) (v3 : Int) (v4 : Int) (σ : st_S) (q : Int × st_S), rec v1 v2 v3 v4 σ = some q → recf ((596 : Nat) : Int) v1 v2 v3 v4 (mk_ σ) = some ((q.1, mk_ q.2))) : ∀ (v1 : Int) (v2 : Int) (v4 : Int) (s1 : Int) (s0 : Int) (σ : st_S) (q : Int × st_S), g_X9_shown_J161 rec v1 v2 v4 s1 s0 σ = some q → f_X9_shown_J161 recf ((596 : Nat) : Int) v1 v2 v4 s1 s0 (mk_ σ) = some ((q.1, mk_ q.2)) := by
  intro v1 v2 v4 s1 s0 σ q hk
  unfold g_X9_shown_J161 at hk
  unfold f_X9_shown_J161
  exact hrec _ _ _ _  _ _ hk
noncomputable def g_X9_shown_J150 (rec : Int → Int → Int → Int → st_S → Option (Int × st_S)) (v1 : Int) (v2 : Int) (v3 : Int) (v4 : Int) (v6 : Int) (σ : st_S) : Option (Int × st_S) :=
  if v6 = (0 : Int) then
    g_X9_shown_J161 rec v1 v2 v4 (0 : Int) v3 σ
  else
  g_X9_shown_J161 rec v1 v2 v4 (1 : Int) v3 σ
set_option maxRecDepth 20000 in
theorem s_X9_shown_J150 {rec : Int → Int → Int → Int → st_S → Option (Int × st_S)} {recf : Int → Int → Int → Int → Int → ab_H → Option (Int × ab_H)} (hrec : ∀ (v1 : Int) (v2 : Int) (v3 : Int) (v4 : Int) (σ : st_S) (q : Int × st_S), rec v1 v2 v3 v4 σ = some q → recf ((596 : Nat) : Int) v1 v2 v3 v4 (mk_ σ) = some ((q.1, mk_ q.2))) : ∀ (v1 : Int) (v2 : Int) (v3 : Int) (v4 : Int) (v6 : Int) (σ : st_S) (q : Int × st_S), g_X9_shown_J150 rec v1 v2 v3 v4 v6 σ = some q → f_X9_shown_J150 recf ((596 : Nat) : Int) v1 v2 v3 v4 v6 (mk_ σ) = some ((q.1, mk_ q.2)) := by
  intro v1 v2 v3 v4 v6 σ q hk
  unfold g_X9_shown_J150 at hk
  unfold f_X9_shown_J150
  by_cases hc : v6 = (0 : Int)
  · have hk := ab_ifp hk hc
    refine mb_ifp hc ?_
    exact s_X9_shown_J161 hrec _ _ _ _ _  _ _ hk
  · have hk := ab_ifn hk hc
    refine mb_ifn hc ?_
    exact s_X9_shown_J161 hrec _ _ _ _ _  _ _ hk
noncomputable def g_X9_shown_J142 (rec : Int → Int → Int → Int → Int → Int → Int → st_S → Option (Int × st_S)) (k150 : Int → Int → Int → Int → Int → st_S → Option (Int × st_S)) (v1 : Int) (v2 : Int) (v3 : Int) (v4 : Int) (v7 : Int) (v8 : Int) (s0 : Int) (σ : st_S) : Option (Int × st_S) :=
  rec v1 v2 v3 v4 s0 v7 (ab_w32 (v8 + (1 : Int))) σ
set_option maxRecDepth 20000 in
theorem s_X9_shown_J142 {rec : Int → Int → Int → Int → Int → Int → Int → st_S → Option (Int × st_S)} {recf : Int → Int → Int → Int → Int → Int → Int → Int → ab_H → Option (Int × ab_H)} {k150 : Int → Int → Int → Int → Int → st_S → Option (Int × st_S)} {kf150 : Int → Int → Int → Int → Int → Int → ab_H → Option (Int × ab_H)} (hrec : ∀ (v1 : Int) (v2 : Int) (v3 : Int) (v4 : Int) (v6 : Int) (v7 : Int) (v8 : Int) (σ : st_S) (q : Int × st_S), rec v1 v2 v3 v4 v6 v7 v8 σ = some q → recf ((596 : Nat) : Int) v1 v2 v3 v4 v6 v7 v8 (mk_ σ) = some ((q.1, mk_ q.2))) (hk150 : ∀ (v1 : Int) (v2 : Int) (v3 : Int) (v4 : Int) (v6 : Int) (σ : st_S) (q : Int × st_S), k150 v1 v2 v3 v4 v6 σ = some q → kf150 ((596 : Nat) : Int) v1 v2 v3 v4 v6 (mk_ σ) = some ((q.1, mk_ q.2))) : ∀ (v1 : Int) (v2 : Int) (v3 : Int) (v4 : Int) (v7 : Int) (v8 : Int) (s0 : Int) (σ : st_S) (q : Int × st_S), g_X9_shown_J142 rec k150 v1 v2 v3 v4 v7 v8 s0 σ = some q → f_X9_shown_J142 recf kf150 ((596 : Nat) : Int) v1 v2 v3 v4 v7 v8 s0 (mk_ σ) = some ((q.1, mk_ q.2)) := by
  intro v1 v2 v3 v4 v7 v8 s0 σ q hk
  unfold g_X9_shown_J142 at hk
  unfold f_X9_shown_J142
  exact hrec _ _ _ _ _ _ _  _ _ hk
noncomputable def g_X9_shown_J137 (rec : Int → Int → Int → Int → Int → Int → Int → st_S → Option (Int × st_S)) (k150 : Int → Int → Int → Int → Int → st_S → Option (Int × st_S)) (v1 : Int) (v2 : Int) (v3 : Int) (v4 : Int) (v7 : Int) (v8 : Int) (σ : st_S) : Option (Int × st_S) :=
  g_X9_shown_J142 rec k150 v1 v2 v3 v4 v7 v8 (1 : Int) σ
set_option maxRecDepth 20000 in
theorem s_X9_shown_J137 {rec : Int → Int → Int → Int → Int → Int → Int → st_S → Option (Int × st_S)} {recf : Int → Int → Int → Int → Int → Int → Int → Int → ab_H → Option (Int × ab_H)} {k150 : Int → Int → Int → Int → Int → st_S → Option (Int × st_S)} {kf150 : Int → Int → Int → Int → Int → Int → ab_H → Option (Int × ab_H)} (hrec : ∀ (v1 : Int) (v2 : Int) (v3 : Int) (v4 : Int) (v6 : Int) (v7 : Int) (v8 : Int) (σ : st_S) (q : Int × st_S), rec v1 v2 v3 v4 v6 v7 v8 σ = some q → recf ((596 : Nat) : Int) v1 v2 v3 v4 v6 v7 v8 (mk_ σ) = some ((q.1, mk_ q.2))) (hk150 : ∀ (v1 : Int) (v2 : Int) (v3 : Int) (v4 : Int) (v6 : Int) (σ : st_S) (q : Int × st_S), k150 v1 v2 v3 v4 v6 σ = some q → kf150 ((596 : Nat) : Int) v1 v2 v3 v4 v6 (mk_ σ) = some ((q.1, mk_ q.2))) : ∀ (v1 : Int) (v2 : Int) (v3 : Int) (v4 : Int) (v7 : Int) (v8 : Int) (σ : st_S) (q : Int × st_S), g_X9_shown_J137 rec k150 v1 v2 v3 v4 v7 v8 σ = some q → f_X9_shown_J137 recf kf150 ((596 : Nat) : Int) v1 v2 v3 v4 v7 v8 (mk_ σ) = some ((q.1, mk_ q.2)) := by
  intro v1 v2 v3 v4 v7 v8 σ q hk
  unfold g_X9_shown_J137 at hk
  unfold f_X9_shown_J137
  exact s_X9_shown_J142 hrec hk150 _ _ _ _ _ _ _  _ _ hk
noncomputable def g_X9_shown_L97 (k150 : Int → Int → Int → Int → Int → st_S → Option (Int × st_S)) : Nat → Int → Int → Int → Int → Int → Int → Int → st_S → Option (Int × st_S)
  | 0, _, _, _, _, _, _, _, _ => none
  | n + 1, v1, v2, v3, v4, v6, v7, v8, σ =>
    (sa_ld σ 607 864 v7).bind fun t1 =>
    if t1 < v8 then
      k150 v1 v2 v3 v4 v6 σ
    else
    if v2 ≤ (0 : Int) then
      k150 v1 v2 v3 v4 v6 σ
    else
    if v6 = (0 : Int) then
      (sa_ld σ 607 864 (ab_w32 (v7 + v8))).bind fun t2 =>
      (sa_ld σ 601 72 t2).bind fun t3 =>
      if t3 = v1 then
        g_X9_shown_J137 (g_X9_shown_L97 k150 n) k150 v1 v2 v3 v4 v7 v8 σ
      else
      g_X9_shown_J142 (g_X9_shown_L97 k150 n) k150 v1 v2 v3 v4 v7 v8 (0 : Int) σ
    else
    g_X9_shown_J137 (g_X9_shown_L97 k150 n) k150 v1 v2 v3 v4 v7 v8 σ
set_option maxRecDepth 20000 in
theorem s_X9_shown_L97 {k150 : Int → Int → Int → Int → Int → st_S → Option (Int × st_S)} {kf150 : Int → Int → Int → Int → Int → Int → ab_H → Option (Int × ab_H)} (hk150 : ∀ (v1 : Int) (v2 : Int) (v3 : Int) (v4 : Int) (v6 : Int) (σ : st_S) (q : Int × st_S), k150 v1 v2 v3 v4 v6 σ = some q → kf150 ((596 : Nat) : Int) v1 v2 v3 v4 v6 (mk_ σ) = some ((q.1, mk_ q.2))) : ∀ (n : Nat) (v1 : Int) (v2 : Int) (v3 : Int) (v4 : Int) (v6 : Int) (v7 : Int) (v8 : Int) (σ : st_S) (q : Int × st_S), g_X9_shown_L97 k150 n v1 v2 v3 v4 v6 v7 v8 σ = some q → f_X9_shown_L97 kf150 n ((596 : Nat) : Int) v1 v2 v3 v4 v6 v7 v8 (mk_ σ) = some ((q.1, mk_ q.2)) := by
  intro n
  induction n with
  | zero => intro v1 v2 v3 v4 v6 v7 v8 σ q hk; cases hk
  | succ n ih =>
    intro v1 v2 v3 v4 v6 v7 v8 σ q hk
    unfold g_X9_shown_L97 at hk
    unfold f_X9_shown_L97
    refine mb_getR 607 rfl rfl (by decide) ?_
    obtain ⟨t1, ht1, hk⟩ := ab_bnd hk
    refine mb_ald ⟨rfl, rfl, fun _ => rfl⟩ ht1 ?_
    by_cases hc : t1 < v8
    · have hk := ab_ifp hk hc
      refine mb_ifp hc ?_
      exact hk150 _ _ _ _ _  _ _ hk
    · have hk := ab_ifn hk hc
      refine mb_ifn hc ?_
      by_cases hc : v2 ≤ (0 : Int)
      · have hk := ab_ifp hk hc
        refine mb_ifp hc ?_
        exact hk150 _ _ _ _ _  _ _ hk
      · have hk := ab_ifn hk hc
        refine mb_ifn hc ?_
        by_cases hc : v6 = (0 : Int)
        · have hk := ab_ifp hk hc
          refine mb_ifp hc ?_
          refine mb_getR 601 rfl rfl (by decide) ?_
          refine mb_getR 607 rfl rfl (by decide) ?_
          obtain ⟨t2, ht2, hk⟩ := ab_bnd hk
          refine mb_ald ⟨rfl, rfl, fun _ => rfl⟩ ht2 ?_
          obtain ⟨t3, ht3, hk⟩ := ab_bnd hk
          refine mb_ald ⟨rfl, rfl, fun _ => rfl⟩ ht3 ?_
          by_cases hc : t3 = v1
          · have hk := ab_ifp hk hc
            refine mb_ifp hc ?_
            exact s_X9_shown_J137 ih hk150 _ _ _ _ _ _  _ _ hk
          · have hk := ab_ifn hk hc
            refine mb_ifn hc ?_
            exact s_X9_shown_J142 ih hk150 _ _ _ _ _ _ _  _ _ hk
        · have hk := ab_ifn hk hc
          refine mb_ifn hc ?_
          exact s_X9_shown_J137 ih hk150 _ _ _ _ _ _  _ _ hk
noncomputable def g_X9_shown_J91 (rec : Int → Int → Int → Int → st_S → Option (Int × st_S)) (v1 : Int) (v2 : Int) (v3 : Int) (v4 : Int) (v6 : Int) (s1 : Int) (s0 : Int) (σ : st_S) : Option (Int × st_S) :=
  g_X9_shown_L97 (fun w150_1 w150_2 w150_3 w150_4 w150_6 σx150 =>
    g_X9_shown_J150 rec w150_1 w150_2 w150_3 w150_4 w150_6 σx150) ab_FU v1 v2 v3 v4 v6 (ab_w32 (s0 + s1)) (1 : Int) σ
set_option maxRecDepth 20000 in
theorem s_X9_shown_J91 {rec : Int → Int → Int → Int → st_S → Option (Int × st_S)} {recf : Int → Int → Int → Int → Int → ab_H → Option (Int × ab_H)} (hrec : ∀ (v1 : Int) (v2 : Int) (v3 : Int) (v4 : Int) (σ : st_S) (q : Int × st_S), rec v1 v2 v3 v4 σ = some q → recf ((596 : Nat) : Int) v1 v2 v3 v4 (mk_ σ) = some ((q.1, mk_ q.2))) : ∀ (v1 : Int) (v2 : Int) (v3 : Int) (v4 : Int) (v6 : Int) (s1 : Int) (s0 : Int) (σ : st_S) (q : Int × st_S), g_X9_shown_J91 rec v1 v2 v3 v4 v6 s1 s0 σ = some q → f_X9_shown_J91 recf ((596 : Nat) : Int) v1 v2 v3 v4 v6 s1 s0 (mk_ σ) = some ((q.1, mk_ q.2)) := by
  intro v1 v2 v3 v4 v6 s1 s0 σ q hk
  unfold g_X9_shown_J91 at hk
  unfold f_X9_shown_J91
  refine s_X9_shown_L97 (fun w150_1 w150_2 w150_3 w150_4 w150_6 σx150 q hk => ?_) _ _ _ _ _ _ _ _  _ _ hk
  · skip
    exact s_X9_shown_J150 hrec _ _ _ _ _  _ _ hk
noncomputable def g_X9_shown_J73 (rec : Int → Int → Int → Int → st_S → Option (Int × st_S)) (v1 : Int) (v2 : Int) (v3 : Int) (v4 : Int) (v5 : Int) (s0 : Int) (σ : st_S) : Option (Int × st_S) :=
  if v2 = (2 : Int) then
    g_X9_shown_J91 rec v1 v2 v3 v4 s0 (6 : Int) (ab_w32 ((12 : Int) * v5)) σ
  else
  g_X9_shown_J91 rec v1 v2 v3 v4 s0 (0 : Int) (ab_w32 ((12 : Int) * v5)) σ
set_option maxRecDepth 20000 in
theorem s_X9_shown_J73 {rec : Int → Int → Int → Int → st_S → Option (Int × st_S)} {recf : Int → Int → Int → Int → Int → ab_H → Option (Int × ab_H)} (hrec : ∀ (v1 : Int) (v2 : Int) (v3 : Int) (v4 : Int) (σ : st_S) (q : Int × st_S), rec v1 v2 v3 v4 σ = some q → recf ((596 : Nat) : Int) v1 v2 v3 v4 (mk_ σ) = some ((q.1, mk_ q.2))) : ∀ (v1 : Int) (v2 : Int) (v3 : Int) (v4 : Int) (v5 : Int) (s0 : Int) (σ : st_S) (q : Int × st_S), g_X9_shown_J73 rec v1 v2 v3 v4 v5 s0 σ = some q → f_X9_shown_J73 recf ((596 : Nat) : Int) v1 v2 v3 v4 v5 s0 (mk_ σ) = some ((q.1, mk_ q.2)) := by
  intro v1 v2 v3 v4 v5 s0 σ q hk
  unfold g_X9_shown_J73 at hk
  unfold f_X9_shown_J73
  by_cases hc : v2 = (2 : Int)
  · have hk := ab_ifp hk hc
    refine mb_ifp hc ?_
    exact s_X9_shown_J91 hrec _ _ _ _ _ _ _  _ _ hk
  · have hk := ab_ifn hk hc
    refine mb_ifn hc ?_
    exact s_X9_shown_J91 hrec _ _ _ _ _ _ _  _ _ hk
noncomputable def g_X9_shown_J72 (rec : Int → Int → Int → Int → st_S → Option (Int × st_S)) (v1 : Int) (v2 : Int) (v3 : Int) (v4 : Int) (v5 : Int) (σ : st_S) : Option (Int × st_S) :=
  g_X9_shown_J73 rec v1 v2 v3 v4 v5 (0 : Int) σ
set_option maxRecDepth 20000 in
theorem s_X9_shown_J72 {rec : Int → Int → Int → Int → st_S → Option (Int × st_S)} {recf : Int → Int → Int → Int → Int → ab_H → Option (Int × ab_H)} (hrec : ∀ (v1 : Int) (v2 : Int) (v3 : Int) (v4 : Int) (σ : st_S) (q : Int × st_S), rec v1 v2 v3 v4 σ = some q → recf ((596 : Nat) : Int) v1 v2 v3 v4 (mk_ σ) = some ((q.1, mk_ q.2))) : ∀ (v1 : Int) (v2 : Int) (v3 : Int) (v4 : Int) (v5 : Int) (σ : st_S) (q : Int × st_S), g_X9_shown_J72 rec v1 v2 v3 v4 v5 σ = some q → f_X9_shown_J72 recf ((596 : Nat) : Int) v1 v2 v3 v4 v5 (mk_ σ) = some ((q.1, mk_ q.2)) := by
  intro v1 v2 v3 v4 v5 σ q hk
  unfold g_X9_shown_J72 at hk
  unfold f_X9_shown_J72
  exact s_X9_shown_J73 hrec _ _ _ _ _ _  _ _ hk
noncomputable def g_X9_shown_L32 : Nat → Int → Int → Int → Int → st_S → Option (Int × st_S)
  | 0, _, _, _, _, _ => none
  | n + 1, v1, v2, v3, v4, σ =>
    if σ 596 17 ≤ v4 then
      some (v3, σ)
    else
    (g_X9_firstOf v4 σ).bind fun q1 =>
    (sa_ld q1.2 608 72 q1.1).bind fun t2 =>
    if v2 = (0 : Int) then
      (g_X9_leadWord t2 q1.2).bind fun q3 =>
      if q3.1 = v1 then
        g_X9_shown_J73 (g_X9_shown_L32 n) v1 v2 v3 v4 t2 (1 : Int) q3.2
      else
      g_X9_shown_J72 (g_X9_shown_L32 n) v1 v2 v3 v4 t2 q3.2
    else
    g_X9_shown_J72 (g_X9_shown_L32 n) v1 v2 v3 v4 t2 q1.2
set_option maxRecDepth 20000 in
theorem s_X9_shown_L32 : ∀ (n : Nat) (v1 : Int) (v2 : Int) (v3 : Int) (v4 : Int) (σ : st_S) (q : Int × st_S), g_X9_shown_L32 n v1 v2 v3 v4 σ = some q → f_X9_shown_L32 n ((596 : Nat) : Int) v1 v2 v3 v4 (mk_ σ) = some ((q.1, mk_ q.2)) := by
  intro n
  induction n with
  | zero => intro v1 v2 v3 v4 σ q hk; cases hk
  | succ n ih =>
    intro v1 v2 v3 v4 σ q hk
    unfold g_X9_shown_L32 at hk
    unfold f_X9_shown_L32
    refine mb_get rfl rfl ?_
    by_cases hc : σ 596 17 ≤ v4
    · have hk := ab_ifp hk hc
      refine mb_ifp hc ?_
      obtain rfl := Option.some.inj hk
      rfl
    · have hk := ab_ifn hk hc
      refine mb_ifn hc ?_
      refine mb_getR 608 rfl rfl (by decide) ?_
      obtain ⟨q1, hq1, hk⟩ := ab_bnd hk
      refine mb_on rfl (s_X9_firstOf hq1) ?_
      obtain ⟨t2, ht2, hk⟩ := ab_bnd hk
      refine mb_ald ⟨rfl, rfl, fun _ => rfl⟩ ht2 ?_
      by_cases hc : v2 = (0 : Int)
      · have hk := ab_ifp hk hc
        refine mb_ifp hc ?_
        obtain ⟨q3, hq3, hk⟩ := ab_bnd hk
        refine mb_on rfl (s_X9_leadWord hq3) ?_
        by_cases hc : q3.1 = v1
        · have hk := ab_ifp hk hc
          refine mb_ifp hc ?_
          exact s_X9_shown_J73 ih _ _ _ _ _ _  _ _ hk
        · have hk := ab_ifn hk hc
          refine mb_ifn hc ?_
          exact s_X9_shown_J72 ih _ _ _ _ _  _ _ hk
      · have hk := ab_ifn hk hc
        refine mb_ifn hc ?_
        exact s_X9_shown_J72 ih _ _ _ _ _  _ _ hk
noncomputable def g_X9_shown (a1 : Int) (a2 : Int) (σ : st_S) : Option (Int × st_S) :=
  (g_X9_isWordNow a1 σ).bind fun q1 =>
  if q1.1 = (0 : Int) then
    some ((-2 : Int), q1.2)
  else
  (g_X9_in a2 (0 : Int) (2 : Int) q1.2).bind fun q2 =>
  if q2.1 = (0 : Int) then
    some ((-2 : Int), q2.2)
  else
  (g_X9_lays q2.2).bind fun q3 =>
  g_X9_shown_L32 ab_FU a1 a2 (0 : Int) (0 : Int) q3
set_option maxRecDepth 20000 in
theorem s_X9_shown {a1 : Int} {a2 : Int} {σ : st_S} {q : Int × st_S} (hk : g_X9_shown a1 a2 σ = some q) : f_X9_shown ((596 : Nat) : Int) a1 a2 (mk_ σ) = some ((q.1, mk_ q.2)) := by
  unfold g_X9_shown at hk
  unfold f_X9_shown
  obtain ⟨q1, hq1, hk⟩ := ab_bnd hk
  refine mb_on rfl (s_X9_isWordNow hq1) ?_
  by_cases hc : q1.1 = (0 : Int)
  · have hk := ab_ifp hk hc
    refine mb_ifp hc ?_
    obtain rfl := Option.some.inj hk
    rfl
  · have hk := ab_ifn hk hc
    refine mb_ifn hc ?_
    obtain ⟨q2, hq2, hk⟩ := ab_bnd hk
    refine mb_eq (s_X9_in hq2) ?_
    by_cases hc : q2.1 = (0 : Int)
    · have hk := ab_ifp hk hc
      refine mb_ifp hc ?_
      obtain rfl := Option.some.inj hk
      rfl
    · have hk := ab_ifn hk hc
      refine mb_ifn hc ?_
      obtain ⟨q3, hq3, hk⟩ := ab_bnd hk
      refine mb_on rfl (s_X9_lays hq3) ?_
      refine s_X9_shown_L32 _ _ _ _ _  _ _ hk
noncomputable def g_X9_twins_J100 (rec : Int → Int → Int → st_S → Option (Int × st_S)) (k106 : Int → Int → st_S → Option (Int × st_S)) (v1 : Int) (v2 : Int) (v3 : Int) (σ : st_S) : Option (Int × st_S) :=
  rec v1 v2 (ab_w32 (v3 + (1 : Int))) σ
set_option maxRecDepth 20000 in
theorem s_X9_twins_J100 {rec : Int → Int → Int → st_S → Option (Int × st_S)} {recf : Int → Int → Int → Int → ab_H → Option (Int × ab_H)} {k106 : Int → Int → st_S → Option (Int × st_S)} {kf106 : Int → Int → ab_H → Option (Int × ab_H)} (hrec : ∀ (v1 : Int) (v2 : Int) (v3 : Int) (σ : st_S) (q : Int × st_S), rec v1 v2 v3 σ = some q → recf ((596 : Nat) : Int) v1 v2 v3 (mk_ σ) = some ((q.1, mk_ q.2))) (hk106 : ∀ (v1 : Int) (v2 : Int) (σ : st_S) (q : Int × st_S), k106 v1 v2 σ = some q → kf106 v1 v2 (mk_ σ) = some ((q.1, mk_ q.2))) : ∀ (v1 : Int) (v2 : Int) (v3 : Int) (σ : st_S) (q : Int × st_S), g_X9_twins_J100 rec k106 v1 v2 v3 σ = some q → f_X9_twins_J100 recf kf106 ((596 : Nat) : Int) v1 v2 v3 (mk_ σ) = some ((q.1, mk_ q.2)) := by
  intro v1 v2 v3 σ q hk
  unfold g_X9_twins_J100 at hk
  unfold f_X9_twins_J100
  exact hrec _ _ _  _ _ hk
noncomputable def g_X9_twins_J92 (rec : Int → Int → Int → Int → st_S → Option (Int × st_S)) (k100 : Int → Int → Int → st_S → Option (Int × st_S)) (v1 : Int) (v3 : Int) (v4 : Int) (s1 : Int) (s0 : Int) (σ : st_S) : Option (Int × st_S) :=
  rec v1 (ab_or s0 s1) v3 (ab_w32 (v4 + (1 : Int))) σ
set_option maxRecDepth 20000 in
theorem s_X9_twins_J92 {rec : Int → Int → Int → Int → st_S → Option (Int × st_S)} {recf : Int → Int → Int → Int → Int → ab_H → Option (Int × ab_H)} {k100 : Int → Int → Int → st_S → Option (Int × st_S)} {kf100 : Int → Int → Int → Int → ab_H → Option (Int × ab_H)} (hrec : ∀ (v1 : Int) (v2 : Int) (v3 : Int) (v4 : Int) (σ : st_S) (q : Int × st_S), rec v1 v2 v3 v4 σ = some q → recf ((596 : Nat) : Int) v1 v2 v3 v4 (mk_ σ) = some ((q.1, mk_ q.2))) (hk100 : ∀ (v1 : Int) (v2 : Int) (v3 : Int) (σ : st_S) (q : Int × st_S), k100 v1 v2 v3 σ = some q → kf100 ((596 : Nat) : Int) v1 v2 v3 (mk_ σ) = some ((q.1, mk_ q.2))) : ∀ (v1 : Int) (v3 : Int) (v4 : Int) (s1 : Int) (s0 : Int) (σ : st_S) (q : Int × st_S), g_X9_twins_J92 rec k100 v1 v3 v4 s1 s0 σ = some q → f_X9_twins_J92 recf kf100 ((596 : Nat) : Int) v1 v3 v4 s1 s0 (mk_ σ) = some ((q.1, mk_ q.2)) := by
  intro v1 v3 v4 s1 s0 σ q hk
  unfold g_X9_twins_J92 at hk
  unfold f_X9_twins_J92
  exact hrec _ _ _ _  _ _ hk
noncomputable def g_X9_twins_L48 (k100 : Int → Int → Int → st_S → Option (Int × st_S)) : Nat → Int → Int → Int → Int → st_S → Option (Int × st_S)
  | 0, _, _, _, _, _ => none
  | n + 1, v1, v2, v3, v4, σ =>
    if σ 596 16 ≤ v4 then
      k100 v1 v2 v3 σ
    else
    (sa_ld σ 605 72 v4).bind fun t1 =>
    (sa_ld σ 605 72 v3).bind fun t2 =>
    if t1 = t2 then
      (sa_ld σ 608 72 v4).bind fun t3 =>
      (sa_ld σ 602 72 t3).bind fun t4 =>
      g_X9_twins_J92 (g_X9_twins_L48 k100 n) k100 v1 v3 v4 (ab_shl (1 : Int) t4) v2 σ
    else
    g_X9_twins_J92 (g_X9_twins_L48 k100 n) k100 v1 v3 v4 (0 : Int) v2 σ
set_option maxRecDepth 20000 in
theorem s_X9_twins_L48 {k100 : Int → Int → Int → st_S → Option (Int × st_S)} {kf100 : Int → Int → Int → Int → ab_H → Option (Int × ab_H)} (hk100 : ∀ (v1 : Int) (v2 : Int) (v3 : Int) (σ : st_S) (q : Int × st_S), k100 v1 v2 v3 σ = some q → kf100 ((596 : Nat) : Int) v1 v2 v3 (mk_ σ) = some ((q.1, mk_ q.2))) : ∀ (n : Nat) (v1 : Int) (v2 : Int) (v3 : Int) (v4 : Int) (σ : st_S) (q : Int × st_S), g_X9_twins_L48 k100 n v1 v2 v3 v4 σ = some q → f_X9_twins_L48 kf100 n ((596 : Nat) : Int) v1 v2 v3 v4 (mk_ σ) = some ((q.1, mk_ q.2)) := by
  intro n
  induction n with
  | zero => intro v1 v2 v3 v4 σ q hk; cases hk
  | succ n ih =>
    intro v1 v2 v3 v4 σ q hk
    unfold g_X9_twins_L48 at hk
    unfold f_X9_twins_L48
    refine mb_get rfl rfl ?_
    by_cases hc : σ 596 16 ≤ v4
    · have hk := ab_ifp hk hc
      refine mb_ifp hc ?_
      exact hk100 _ _ _  _ _ hk
    · have hk := ab_ifn hk hc
      refine mb_ifn hc ?_
      refine mb_getR 605 rfl rfl (by decide) ?_
      obtain ⟨t1, ht1, hk⟩ := ab_bnd hk
      refine mb_ald ⟨rfl, rfl, fun _ => rfl⟩ ht1 ?_
      refine mb_getR 605 rfl rfl (by decide) ?_
      obtain ⟨t2, ht2, hk⟩ := ab_bnd hk
      refine mb_ald ⟨rfl, rfl, fun _ => rfl⟩ ht2 ?_
      by_cases hc : t1 = t2
      · have hk := ab_ifp hk hc
        refine mb_ifp hc ?_
        refine mb_getR 602 rfl rfl (by decide) ?_
        refine mb_getR 608 rfl rfl (by decide) ?_
        obtain ⟨t3, ht3, hk⟩ := ab_bnd hk
        refine mb_ald ⟨rfl, rfl, fun _ => rfl⟩ ht3 ?_
        obtain ⟨t4, ht4, hk⟩ := ab_bnd hk
        refine mb_ald ⟨rfl, rfl, fun _ => rfl⟩ ht4 ?_
        exact s_X9_twins_J92 ih hk100 _ _ _ _ _  _ _ hk
      · have hk := ab_ifn hk hc
        refine mb_ifn hc ?_
        exact s_X9_twins_J92 ih hk100 _ _ _ _ _  _ _ hk
noncomputable def g_X9_twins_L19 (k106 : Int → Int → st_S → Option (Int × st_S)) : Nat → Int → Int → Int → st_S → Option (Int × st_S)
  | 0, _, _, _, _ => none
  | n + 1, v1, v2, v3, σ =>
    if σ 596 16 ≤ v3 then
      k106 v1 v2 σ
    else
    (sa_ld σ 608 72 v3).bind fun t1 =>
    (sa_ld σ 602 72 t1).bind fun t2 =>
    if t2 = v1 then
      g_X9_twins_L48 (fun w100_1 w100_2 w100_3 σx100 =>
        g_X9_twins_J100 (g_X9_twins_L19 k106 n) k106 w100_1 w100_2 w100_3 σx100) ab_FU v1 v2 v3 (0 : Int) σ
    else
    g_X9_twins_J100 (g_X9_twins_L19 k106 n) k106 v1 v2 v3 σ
set_option maxRecDepth 20000 in
theorem s_X9_twins_L19 {k106 : Int → Int → st_S → Option (Int × st_S)} {kf106 : Int → Int → ab_H → Option (Int × ab_H)} (hk106 : ∀ (v1 : Int) (v2 : Int) (σ : st_S) (q : Int × st_S), k106 v1 v2 σ = some q → kf106 v1 v2 (mk_ σ) = some ((q.1, mk_ q.2))) : ∀ (n : Nat) (v1 : Int) (v2 : Int) (v3 : Int) (σ : st_S) (q : Int × st_S), g_X9_twins_L19 k106 n v1 v2 v3 σ = some q → f_X9_twins_L19 kf106 n ((596 : Nat) : Int) v1 v2 v3 (mk_ σ) = some ((q.1, mk_ q.2)) := by
  intro n
  induction n with
  | zero => intro v1 v2 v3 σ q hk; cases hk
  | succ n ih =>
    intro v1 v2 v3 σ q hk
    unfold g_X9_twins_L19 at hk
    unfold f_X9_twins_L19
    refine mb_get rfl rfl ?_
    by_cases hc : σ 596 16 ≤ v3
    · have hk := ab_ifp hk hc
      refine mb_ifp hc ?_
      exact hk106 _ _  _ _ hk
    · have hk := ab_ifn hk hc
      refine mb_ifn hc ?_
      refine mb_getR 602 rfl rfl (by decide) ?_
      refine mb_getR 608 rfl rfl (by decide) ?_
      obtain ⟨t1, ht1, hk⟩ := ab_bnd hk
      refine mb_ald ⟨rfl, rfl, fun _ => rfl⟩ ht1 ?_
      obtain ⟨t2, ht2, hk⟩ := ab_bnd hk
      refine mb_ald ⟨rfl, rfl, fun _ => rfl⟩ ht2 ?_
      by_cases hc : t2 = v1
      · have hk := ab_ifp hk hc
        refine mb_ifp hc ?_
        refine s_X9_twins_L48 (fun w100_1 w100_2 w100_3 σx100 q hk => ?_) _ _ _ _ _  _ _ hk
        · skip
          exact s_X9_twins_J100 ih hk106 _ _ _  _ _ hk
      · have hk := ab_ifn hk hc
        refine mb_ifn hc ?_
        exact s_X9_twins_J100 ih hk106 _ _ _  _ _ hk
noncomputable def g_X9_twins (a1 : Int) (σ : st_S) : Option (Int × st_S) :=
  (g_X9_isString a1 σ).bind fun q1 =>
  if q1.1 = (0 : Int) then
    some ((-2 : Int), q1.2)
  else
  (g_X9_lays q1.2).bind fun q2 =>
  g_X9_twins_L19 (fun w106_1 w106_2 σx106 =>
    some (ab_and w106_2 (ab_xor (ab_shl (1 : Int) w106_1) (-1 : Int)), σx106)) ab_FU a1 (0 : Int) (0 : Int) q2
set_option maxRecDepth 20000 in
theorem s_X9_twins {a1 : Int} {σ : st_S} {q : Int × st_S} (hk : g_X9_twins a1 σ = some q) : f_X9_twins ((596 : Nat) : Int) a1 (mk_ σ) = some ((q.1, mk_ q.2)) := by
  unfold g_X9_twins at hk
  unfold f_X9_twins
  obtain ⟨q1, hq1, hk⟩ := ab_bnd hk
  refine mb_on rfl (s_X9_isString hq1) ?_
  by_cases hc : q1.1 = (0 : Int)
  · have hk := ab_ifp hk hc
    refine mb_ifp hc ?_
    obtain rfl := Option.some.inj hk
    rfl
  · have hk := ab_ifn hk hc
    refine mb_ifn hc ?_
    obtain ⟨q2, hq2, hk⟩ := ab_bnd hk
    refine mb_on rfl (s_X9_lays hq2) ?_
    refine s_X9_twins_L19 (fun w106_1 w106_2 σx106 q hk => ?_) _ _ _ _  _ _ hk
    · skip
      obtain rfl := Option.some.inj hk
      rfl
noncomputable def g_X9_rarest_J61 (rec : Int → Int → Int → st_S → Option (Int × st_S)) (v1 : Int) (v2 : Int) (v3 : Int) (σ : st_S) : Option (Int × st_S) :=
  rec v1 v2 (ab_w32 (v3 + (1 : Int))) σ
set_option maxRecDepth 20000 in
theorem s_X9_rarest_J61 {rec : Int → Int → Int → st_S → Option (Int × st_S)} {recf : Int → Int → Int → Int → ab_H → Option (Int × ab_H)} (hrec : ∀ (v1 : Int) (v2 : Int) (v3 : Int) (σ : st_S) (q : Int × st_S), rec v1 v2 v3 σ = some q → recf ((596 : Nat) : Int) v1 v2 v3 (mk_ σ) = some ((q.1, mk_ q.2))) : ∀ (v1 : Int) (v2 : Int) (v3 : Int) (σ : st_S) (q : Int × st_S), g_X9_rarest_J61 rec v1 v2 v3 σ = some q → f_X9_rarest_J61 recf ((596 : Nat) : Int) v1 v2 v3 (mk_ σ) = some ((q.1, mk_ q.2)) := by
  intro v1 v2 v3 σ q hk
  unfold g_X9_rarest_J61 at hk
  unfold f_X9_rarest_J61
  exact hrec _ _ _  _ _ hk
noncomputable def g_X9_rarest_L19 : Nat → Int → Int → Int → st_S → Option (Int × st_S)
  | 0, _, _, _, _ => none
  | n + 1, v1, v2, v3, σ =>
    (g_X9_terms v1 σ).bind fun q1 =>
    if q1.1 ≤ v3 then
      some (v2, q1.2)
    else
    (g_X9_place v1 v3 q1.2).bind fun q2 =>
    (sa_ld q2.2 601 72 q2.1).bind fun t3 =>
    (g_X9_oftenOf t3 q2.2).bind fun q4 =>
    (g_X9_place v1 v2 q4.2).bind fun q5 =>
    (sa_ld q5.2 601 72 q5.1).bind fun t6 =>
    (g_X9_oftenOf t6 q5.2).bind fun q7 =>
    if q7.1 ≤ q4.1 then
      g_X9_rarest_J61 (g_X9_rarest_L19 n) v1 v2 v3 q7.2
    else
    g_X9_rarest_J61 (g_X9_rarest_L19 n) v1 v3 v3 q7.2
set_option maxRecDepth 20000 in
theorem s_X9_rarest_L19 : ∀ (n : Nat) (v1 : Int) (v2 : Int) (v3 : Int) (σ : st_S) (q : Int × st_S), g_X9_rarest_L19 n v1 v2 v3 σ = some q → f_X9_rarest_L19 n ((596 : Nat) : Int) v1 v2 v3 (mk_ σ) = some ((q.1, mk_ q.2)) := by
  intro n
  induction n with
  | zero => intro v1 v2 v3 σ q hk; cases hk
  | succ n ih =>
    intro v1 v2 v3 σ q hk
    unfold g_X9_rarest_L19 at hk
    unfold f_X9_rarest_L19
    obtain ⟨q1, hq1, hk⟩ := ab_bnd hk
    refine mb_on rfl (s_X9_terms hq1) ?_
    by_cases hc : q1.1 ≤ v3
    · have hk := ab_ifp hk hc
      refine mb_ifp hc ?_
      obtain rfl := Option.some.inj hk
      rfl
    · have hk := ab_ifn hk hc
      refine mb_ifn hc ?_
      refine mb_getR 601 rfl rfl (by decide) ?_
      obtain ⟨q2, hq2, hk⟩ := ab_bnd hk
      refine mb_eq (s_X9_place hq2) ?_
      obtain ⟨t3, ht3, hk⟩ := ab_bnd hk
      refine mb_ald ⟨rfl, rfl, fun _ => rfl⟩ ht3 ?_
      obtain ⟨q4, hq4, hk⟩ := ab_bnd hk
      refine mb_on rfl (s_X9_oftenOf hq4) ?_
      refine mb_getR 601 rfl rfl (by decide) ?_
      obtain ⟨q5, hq5, hk⟩ := ab_bnd hk
      refine mb_eq (s_X9_place hq5) ?_
      obtain ⟨t6, ht6, hk⟩ := ab_bnd hk
      refine mb_ald ⟨rfl, rfl, fun _ => rfl⟩ ht6 ?_
      obtain ⟨q7, hq7, hk⟩ := ab_bnd hk
      refine mb_on rfl (s_X9_oftenOf hq7) ?_
      by_cases hc : q7.1 ≤ q4.1
      · have hk := ab_ifp hk hc
        refine mb_ifp hc ?_
        exact s_X9_rarest_J61 ih _ _ _  _ _ hk
      · have hk := ab_ifn hk hc
        refine mb_ifn hc ?_
        exact s_X9_rarest_J61 ih _ _ _  _ _ hk
noncomputable def g_X9_rarest (a1 : Int) (σ : st_S) : Option (Int × st_S) :=
  (g_X9_isString a1 σ).bind fun q1 =>
  if q1.1 = (0 : Int) then
    some ((-2 : Int), q1.2)
  else
  (g_X9_laysWords q1.2).bind fun q2 =>
  g_X9_rarest_L19 ab_FU a1 (0 : Int) (1 : Int) q2
set_option maxRecDepth 20000 in
theorem s_X9_rarest {a1 : Int} {σ : st_S} {q : Int × st_S} (hk : g_X9_rarest a1 σ = some q) : f_X9_rarest ((596 : Nat) : Int) a1 (mk_ σ) = some ((q.1, mk_ q.2)) := by
  unfold g_X9_rarest at hk
  unfold f_X9_rarest
  obtain ⟨q1, hq1, hk⟩ := ab_bnd hk
  refine mb_on rfl (s_X9_isString hq1) ?_
  by_cases hc : q1.1 = (0 : Int)
  · have hk := ab_ifp hk hc
    refine mb_ifp hc ?_
    obtain rfl := Option.some.inj hk
    rfl
  · have hk := ab_ifn hk hc
    refine mb_ifn hc ?_
    obtain ⟨q2, hq2, hk⟩ := ab_bnd hk
    refine mb_on rfl (s_X9_laysWords hq2) ?_
    refine s_X9_rarest_L19 _ _ _ _  _ _ hk
noncomputable def g_X9_crossed_J50 (σ : st_S) : Option (Int × st_S) :=
  some ((-2 : Int), σ)
set_option maxRecDepth 20000 in
theorem s_X9_crossed_J50 : ∀ (σ : st_S) (q : Int × st_S), g_X9_crossed_J50 σ = some q → f_X9_crossed_J50 (mk_ σ) = some ((q.1, mk_ q.2)) := by
  intro σ q hk
  unfold g_X9_crossed_J50 at hk
  unfold f_X9_crossed_J50
  obtain rfl := Option.some.inj hk
  rfl
noncomputable def g_X9_crossed (a1 : Int) (a2 : Int) (σ : st_S) : Option (Int × st_S) :=
  (g_X9_lays σ).bind fun q1 =>
  (g_X9_in a1 (0 : Int) (ab_w32 ((q1 596 18) - (1 : Int))) q1).bind fun q2 =>
  if q2.1 = (0 : Int) then
    g_X9_crossed_J50 q2.2
  else
  (g_X9_in a2 (0 : Int) (ab_w32 ((q2.2 596 18) - (1 : Int))) q2.2).bind fun q3 =>
  if q3.1 = (0 : Int) then
    g_X9_crossed_J50 q3.2
  else
  (g_X9_stringsUnder a1 q3.2).bind fun q4 =>
  (g_X9_stringsUnder a2 q4.2).bind fun q5 =>
  some (ab_and q4.1 q5.1, q5.2)
set_option maxRecDepth 20000 in
theorem s_X9_crossed {a1 : Int} {a2 : Int} {σ : st_S} {q : Int × st_S} (hk : g_X9_crossed a1 a2 σ = some q) : f_X9_crossed ((596 : Nat) : Int) a1 a2 (mk_ σ) = some ((q.1, mk_ q.2)) := by
  unfold g_X9_crossed at hk
  unfold f_X9_crossed
  obtain ⟨q1, hq1, hk⟩ := ab_bnd hk
  refine mb_on rfl (s_X9_lays hq1) ?_
  refine mb_get rfl rfl ?_
  obtain ⟨q2, hq2, hk⟩ := ab_bnd hk
  refine mb_eq (s_X9_in hq2) ?_
  by_cases hc : q2.1 = (0 : Int)
  · have hk := ab_ifp hk hc
    refine mb_ifp hc ?_
    exact s_X9_crossed_J50  _ _ hk
  · have hk := ab_ifn hk hc
    refine mb_ifn hc ?_
    refine mb_get rfl rfl ?_
    obtain ⟨q3, hq3, hk⟩ := ab_bnd hk
    refine mb_eq (s_X9_in hq3) ?_
    by_cases hc : q3.1 = (0 : Int)
    · have hk := ab_ifp hk hc
      refine mb_ifp hc ?_
      exact s_X9_crossed_J50  _ _ hk
    · have hk := ab_ifn hk hc
      refine mb_ifn hc ?_
      obtain ⟨q4, hq4, hk⟩ := ab_bnd hk
      refine mb_on rfl (s_X9_stringsUnder hq4) ?_
      obtain ⟨q5, hq5, hk⟩ := ab_bnd hk
      refine mb_on rfl (s_X9_stringsUnder hq5) ?_
      obtain rfl := Option.some.inj hk
      rfl
noncomputable def g_X9_undo_L21 : Nat → Int → st_S → Option (Int × st_S)
  | 0, _, _ => none
  | n + 1, v1, σ =>
    if (416 : Int) ≤ v1 then
      some (σ 596 34, σ)
    else
    (sa_ld σ 614 4160 (ab_w32 ((ab_w32 ((416 : Int) * (σ 596 34))) + v1))).bind fun t1 =>
    (sa_st σ 597 416 v1 t1).bind fun σ1 =>
    g_X9_undo_L21 n (ab_w32 (v1 + (1 : Int))) σ1
set_option maxRecDepth 20000 in
theorem s_X9_undo_L21 : ∀ (n : Nat) (v1 : Int) (σ : st_S) (q : Int × st_S), g_X9_undo_L21 n v1 σ = some q → f_X9_undo_L21 n ((596 : Nat) : Int) v1 (mk_ σ) = some ((q.1, mk_ q.2)) := by
  intro n
  induction n with
  | zero => intro v1 σ q hk; cases hk
  | succ n ih =>
    intro v1 σ q hk
    unfold g_X9_undo_L21 at hk
    unfold f_X9_undo_L21
    by_cases hc : (416 : Int) ≤ v1
    · have hk := ab_ifp hk hc
      refine mb_ifp hc ?_
      refine mb_get rfl rfl ?_
      obtain rfl := Option.some.inj hk
      rfl
    · have hk := ab_ifn hk hc
      refine mb_ifn hc ?_
      refine mb_getR 597 rfl rfl (by decide) ?_
      refine mb_getR 614 rfl rfl (by decide) ?_
      refine mb_get rfl rfl ?_
      obtain ⟨t1, ht1, hk⟩ := ab_bnd hk
      refine mb_ald ⟨rfl, rfl, fun _ => rfl⟩ ht1 ?_
      obtain ⟨σ1, hσ1, hk⟩ := ab_bnd hk
      refine mb_ast ⟨rfl, rfl, fun _ => rfl⟩ hσ1 ?_
      exact ih _  _ _ hk
noncomputable def g_X9_undo (σ : st_S) : Option (Int × st_S) :=
  if σ 596 34 = (0 : Int) then
    some ((-1 : Int), σ)
  else
  (some (up2 σ 596 34 (ab_w32 ((σ 596 34) - (1 : Int))))).bind fun σ1 =>
  g_X9_undo_L21 ab_FU (0 : Int) σ1
set_option maxRecDepth 20000 in
theorem s_X9_undo {σ : st_S} {q : Int × st_S} (hk : g_X9_undo σ = some q) : f_X9_undo ((596 : Nat) : Int) (mk_ σ) = some ((q.1, mk_ q.2)) := by
  unfold g_X9_undo at hk
  unfold f_X9_undo
  refine mb_get rfl rfl ?_
  by_cases hc : σ 596 34 = (0 : Int)
  · have hk := ab_ifp hk hc
    refine mb_ifp hc ?_
    obtain rfl := Option.some.inj hk
    rfl
  · have hk := ab_ifn hk hc
    refine mb_ifn hc ?_
    refine mb_get rfl rfl ?_
    obtain ⟨σ1, hσ1, hk⟩ := ab_bnd hk
    refine mb_put rfl rfl hσ1 ?_
    refine s_X9_undo_L21 _ _  _ _ hk
noncomputable def g_X9_drops_L23 (k51 : st_S → Option (Int × st_S)) : Nat → Int → st_S → Option (Int × st_S)
  | 0, _, _ => none
  | n + 1, v2, σ =>
    if (384 : Int) ≤ v2 then
      k51 σ
    else
    (sa_ld σ 597 416 (ab_w32 (v2 + (32 : Int)))).bind fun t1 =>
    (sa_st σ 597 416 v2 t1).bind fun σ1 =>
    g_X9_drops_L23 k51 n (ab_w32 (v2 + (1 : Int))) σ1
set_option maxRecDepth 20000 in
theorem s_X9_drops_L23 {k51 : st_S → Option (Int × st_S)} {kf51 : Int → ab_H → Option (Int × ab_H)} (hk51 : ∀ (σ : st_S) (q : Int × st_S), k51 σ = some q → kf51 ((596 : Nat) : Int) (mk_ σ) = some ((q.1, mk_ q.2))) : ∀ (n : Nat) (v2 : Int) (σ : st_S) (q : Int × st_S), g_X9_drops_L23 k51 n v2 σ = some q → f_X9_drops_L23 kf51 n ((596 : Nat) : Int) v2 (mk_ σ) = some ((q.1, mk_ q.2)) := by
  intro n
  induction n with
  | zero => intro v2 σ q hk; cases hk
  | succ n ih =>
    intro v2 σ q hk
    unfold g_X9_drops_L23 at hk
    unfold f_X9_drops_L23
    by_cases hc : (384 : Int) ≤ v2
    · have hk := ab_ifp hk hc
      refine mb_ifp hc ?_
      exact hk51  _ _ hk
    · have hk := ab_ifn hk hc
      refine mb_ifn hc ?_
      refine mb_getR 597 rfl rfl (by decide) ?_
      refine mb_getR 597 rfl rfl (by decide) ?_
      obtain ⟨t1, ht1, hk⟩ := ab_bnd hk
      refine mb_ald ⟨rfl, rfl, fun _ => rfl⟩ ht1 ?_
      obtain ⟨σ1, hσ1, hk⟩ := ab_bnd hk
      refine mb_ast ⟨rfl, rfl, fun _ => rfl⟩ hσ1 ?_
      exact ih _  _ _ hk
noncomputable def g_X9_drops (a1 : Int) (σ : st_S) : Option (Int × st_S) :=
  (g_X9_isString a1 σ).bind fun q1 =>
  if q1.1 = (0 : Int) then
    some ((-2 : Int), q1.2)
  else
  (g_X9_keeps q1.2).bind fun q2 =>
  g_X9_drops_L23 (fun σx51 =>
    (sa_ld σx51 597 416 (0 : Int)).bind fun t3 =>
    (sa_st σx51 597 416 (0 : Int) (ab_w64 (t3 - (1 : Int)))).bind fun σ1 =>
    (g_X9_strings σ1).bind fun q4 =>
    some (q4.1, q4.2)) ab_FU (ab_w32 ((32 : Int) + (ab_w32 ((32 : Int) * a1)))) q2
set_option maxRecDepth 20000 in
theorem s_X9_drops {a1 : Int} {σ : st_S} {q : Int × st_S} (hk : g_X9_drops a1 σ = some q) : f_X9_drops ((596 : Nat) : Int) a1 (mk_ σ) = some ((q.1, mk_ q.2)) := by
  unfold g_X9_drops at hk
  unfold f_X9_drops
  obtain ⟨q1, hq1, hk⟩ := ab_bnd hk
  refine mb_on rfl (s_X9_isString hq1) ?_
  by_cases hc : q1.1 = (0 : Int)
  · have hk := ab_ifp hk hc
    refine mb_ifp hc ?_
    obtain rfl := Option.some.inj hk
    rfl
  · have hk := ab_ifn hk hc
    refine mb_ifn hc ?_
    obtain ⟨q2, hq2, hk⟩ := ab_bnd hk
    refine mb_on rfl (s_X9_keeps hq2) ?_
    refine s_X9_drops_L23 (fun σx51 q hk => ?_) _ _  _ _ hk
    · skip
      refine mb_getR 597 rfl rfl (by decide) ?_
      obtain ⟨t3, ht3, hk⟩ := ab_bnd hk
      refine mb_ald ⟨rfl, rfl, fun _ => rfl⟩ ht3 ?_
      obtain ⟨σ1, hσ1, hk⟩ := ab_bnd hk
      refine mb_ast ⟨rfl, rfl, fun _ => rfl⟩ hσ1 ?_
      obtain ⟨q4, hq4, hk⟩ := ab_bnd hk
      refine mb_on rfl (s_X9_strings hq4) ?_
      obtain rfl := Option.some.inj hk
      rfl
noncomputable def g_X9_law (a1 : Int) (a2 : Int) (σ : st_S) : Option (Int × st_S) :=
  (g_X9_in a1 (0 : Int) (5 : Int) σ).bind fun q1 =>
  if q1.1 = (0 : Int) then
    some ((-2 : Int), q1.2)
  else
  (g_X9_in a2 (0 : Int) (2 : Int) q1.2).bind fun q2 =>
  if q2.1 = (0 : Int) then
    some ((-2 : Int), q2.2)
  else
  (sa_ld q2.2 597 416 (ab_w32 ((2 : Int) + a1))).bind fun t3 =>
  if ab_w32 t3 = a2 then
    some (ab_w32 t3, q2.2)
  else
  (g_X9_keeps q2.2).bind fun q4 =>
  (sa_st q4 597 416 (ab_w32 ((2 : Int) + a1)) a2).bind fun σ1 =>
  some (ab_w32 t3, σ1)
set_option maxRecDepth 20000 in
theorem s_X9_law {a1 : Int} {a2 : Int} {σ : st_S} {q : Int × st_S} (hk : g_X9_law a1 a2 σ = some q) : f_X9_law ((596 : Nat) : Int) a1 a2 (mk_ σ) = some ((q.1, mk_ q.2)) := by
  unfold g_X9_law at hk
  unfold f_X9_law
  obtain ⟨q1, hq1, hk⟩ := ab_bnd hk
  refine mb_eq (s_X9_in hq1) ?_
  by_cases hc : q1.1 = (0 : Int)
  · have hk := ab_ifp hk hc
    refine mb_ifp hc ?_
    obtain rfl := Option.some.inj hk
    rfl
  · have hk := ab_ifn hk hc
    refine mb_ifn hc ?_
    obtain ⟨q2, hq2, hk⟩ := ab_bnd hk
    refine mb_eq (s_X9_in hq2) ?_
    by_cases hc : q2.1 = (0 : Int)
    · have hk := ab_ifp hk hc
      refine mb_ifp hc ?_
      obtain rfl := Option.some.inj hk
      rfl
    · have hk := ab_ifn hk hc
      refine mb_ifn hc ?_
      refine mb_getR 597 rfl rfl (by decide) ?_
      obtain ⟨t3, ht3, hk⟩ := ab_bnd hk
      refine mb_ald ⟨rfl, rfl, fun _ => rfl⟩ ht3 ?_
      by_cases hc : ab_w32 t3 = a2
      · have hk := ab_ifp hk hc
        refine mb_ifp hc ?_
        obtain rfl := Option.some.inj hk
        rfl
      · have hk := ab_ifn hk hc
        refine mb_ifn hc ?_
        obtain ⟨q4, hq4, hk⟩ := ab_bnd hk
        refine mb_on rfl (s_X9_keeps hq4) ?_
        refine mb_getR 597 rfl rfl (by decide) ?_
        obtain ⟨σ1, hσ1, hk⟩ := ab_bnd hk
        refine mb_ast ⟨rfl, rfl, fun _ => rfl⟩ hσ1 ?_
        obtain rfl := Option.some.inj hk
        rfl
noncomputable def g_X9_lead_J36 (v1 : Int) (v2 : Int) (v3 : Int) (s0 : Int) (σ : st_S) : Option (Int × st_S) :=
  if s0 = v3 then
    some (s0, σ)
  else
  (g_X9_keeps σ).bind fun q1 =>
  (g_X9_termAt v1 v2 q1).bind fun q2 =>
  (sa_st q2.2 597 416 (ab_w32 (q2.1 + (1 : Int))) v3).bind fun σ1 =>
  some (s0, σ1)
set_option maxRecDepth 20000 in
theorem s_X9_lead_J36 : ∀ (v1 : Int) (v2 : Int) (v3 : Int) (s0 : Int) (σ : st_S) (q : Int × st_S), g_X9_lead_J36 v1 v2 v3 s0 σ = some q → f_X9_lead_J36 ((596 : Nat) : Int) v1 v2 v3 s0 (mk_ σ) = some ((q.1, mk_ q.2)) := by
  intro v1 v2 v3 s0 σ q hk
  unfold g_X9_lead_J36 at hk
  unfold f_X9_lead_J36
  by_cases hc : s0 = v3
  · have hk := ab_ifp hk hc
    refine mb_ifp hc ?_
    obtain rfl := Option.some.inj hk
    rfl
  · have hk := ab_ifn hk hc
    refine mb_ifn hc ?_
    obtain ⟨q1, hq1, hk⟩ := ab_bnd hk
    refine mb_on rfl (s_X9_keeps hq1) ?_
    refine mb_getR 597 rfl rfl (by decide) ?_
    obtain ⟨q2, hq2, hk⟩ := ab_bnd hk
    refine mb_eq (s_X9_termAt hq2) ?_
    obtain ⟨σ1, hσ1, hk⟩ := ab_bnd hk
    refine mb_ast ⟨rfl, rfl, fun _ => rfl⟩ hσ1 ?_
    obtain rfl := Option.some.inj hk
    rfl
noncomputable def g_X9_lead (a1 : Int) (a2 : Int) (a3 : Int) (σ : st_S) : Option (Int × st_S) :=
  (g_X9_isTerm a1 a2 σ).bind fun q1 =>
  if q1.1 = (0 : Int) then
    some ((-2 : Int), q1.2)
  else
  (g_X9_in a3 (0 : Int) (1 : Int) q1.2).bind fun q2 =>
  if q2.1 = (0 : Int) then
    some ((-2 : Int), q2.2)
  else
  (g_X9_doesLead a1 a2 q2.2).bind fun q3 =>
  if q3.1 = (0 : Int) then
    g_X9_lead_J36 a1 a2 a3 (0 : Int) q3.2
  else
  g_X9_lead_J36 a1 a2 a3 (1 : Int) q3.2
set_option maxRecDepth 20000 in
theorem s_X9_lead {a1 : Int} {a2 : Int} {a3 : Int} {σ : st_S} {q : Int × st_S} (hk : g_X9_lead a1 a2 a3 σ = some q) : f_X9_lead ((596 : Nat) : Int) a1 a2 a3 (mk_ σ) = some ((q.1, mk_ q.2)) := by
  unfold g_X9_lead at hk
  unfold f_X9_lead
  obtain ⟨q1, hq1, hk⟩ := ab_bnd hk
  refine mb_on rfl (s_X9_isTerm hq1) ?_
  by_cases hc : q1.1 = (0 : Int)
  · have hk := ab_ifp hk hc
    refine mb_ifp hc ?_
    obtain rfl := Option.some.inj hk
    rfl
  · have hk := ab_ifn hk hc
    refine mb_ifn hc ?_
    obtain ⟨q2, hq2, hk⟩ := ab_bnd hk
    refine mb_eq (s_X9_in hq2) ?_
    by_cases hc : q2.1 = (0 : Int)
    · have hk := ab_ifp hk hc
      refine mb_ifp hc ?_
      obtain rfl := Option.some.inj hk
      rfl
    · have hk := ab_ifn hk hc
      refine mb_ifn hc ?_
      obtain ⟨q3, hq3, hk⟩ := ab_bnd hk
      refine mb_on rfl (s_X9_doesLead hq3) ?_
      by_cases hc : q3.1 = (0 : Int)
      · have hk := ab_ifp hk hc
        refine mb_ifp hc ?_
        exact s_X9_lead_J36 _ _ _ _  _ _ hk
      · have hk := ab_ifn hk hc
        refine mb_ifn hc ?_
        exact s_X9_lead_J36 _ _ _ _  _ _ hk
noncomputable def g_X9_roleIf_J23 (s2 : Int) (s1 : Int) (σ : st_S) : Option (Int × st_S) :=
  (g_X9_roleOf s1 s2 σ).bind fun q1 =>
  some (q1.1, q1.2)
set_option maxRecDepth 20000 in
theorem s_X9_roleIf_J23 : ∀ (s2 : Int) (s1 : Int) (σ : st_S) (q : Int × st_S), g_X9_roleIf_J23 s2 s1 σ = some q → f_X9_roleIf_J23 s2 s1 ((596 : Nat) : Int) (mk_ σ) = some ((q.1, mk_ q.2)) := by
  intro s2 s1 σ q hk
  unfold g_X9_roleIf_J23 at hk
  unfold f_X9_roleIf_J23
  obtain ⟨q1, hq1, hk⟩ := ab_bnd hk
  refine mb_on rfl (s_X9_roleOf hq1) ?_
  obtain rfl := Option.some.inj hk
  rfl
noncomputable def g_X9_roleIf (a1 : Int) (a2 : Int) (a3 : Int) (a4 : Int) (σ : st_S) : Option (Int × st_S) :=
  if a2 = a3 then
    g_X9_roleIf_J23 a4 a1 σ
  else
  if a2 = a4 then
    g_X9_roleIf_J23 a3 a1 σ
  else
  g_X9_roleIf_J23 a2 a1 σ
set_option maxRecDepth 20000 in
theorem s_X9_roleIf {a1 : Int} {a2 : Int} {a3 : Int} {a4 : Int} {σ : st_S} {q : Int × st_S} (hk : g_X9_roleIf a1 a2 a3 a4 σ = some q) : f_X9_roleIf ((596 : Nat) : Int) a1 a2 a3 a4 (mk_ σ) = some ((q.1, mk_ q.2)) := by
  unfold g_X9_roleIf at hk
  unfold f_X9_roleIf
  by_cases hc : a2 = a3
  · have hk := ab_ifp hk hc
    refine mb_ifp hc ?_
    exact s_X9_roleIf_J23 _ _  _ _ hk
  · have hk := ab_ifn hk hc
    refine mb_ifn hc ?_
    by_cases hc : a2 = a4
    · have hk := ab_ifp hk hc
      refine mb_ifp hc ?_
      exact s_X9_roleIf_J23 _ _  _ _ hk
    · have hk := ab_ifn hk hc
      refine mb_ifn hc ?_
      exact s_X9_roleIf_J23 _ _  _ _ hk
noncomputable def g_X9_swaps_L78 : Nat → Int → Int → Int → Int → st_S → Option (Int × st_S)
  | 0, _, _, _, _, _ => none
  | n + 1, v1, v2, v3, v4, σ =>
    if (5 : Int) ≤ v4 then
      some ((1 : Int), σ)
    else
    (g_X9_termAt v1 v2 σ).bind fun q1 =>
    (sa_ld q1.2 597 416 (ab_w32 (q1.1 + v4))).bind fun t2 =>
    (g_X9_termAt v1 v2 q1.2).bind fun q3 =>
    (g_X9_termAt v1 v3 q3.2).bind fun q4 =>
    (sa_ld q4.2 597 416 (ab_w32 (q4.1 + v4))).bind fun t5 =>
    (sa_st q4.2 597 416 (ab_w32 (q3.1 + v4)) t5).bind fun σ1 =>
    (g_X9_termAt v1 v3 σ1).bind fun q6 =>
    (sa_st q6.2 597 416 (ab_w32 (q6.1 + v4)) t2).bind fun σ2 =>
    g_X9_swaps_L78 n v1 v2 v3 (ab_w32 (v4 + (1 : Int))) σ2
set_option maxRecDepth 20000 in
theorem s_X9_swaps_L78 : ∀ (n : Nat) (v1 : Int) (v2 : Int) (v3 : Int) (v4 : Int) (σ : st_S) (q : Int × st_S), g_X9_swaps_L78 n v1 v2 v3 v4 σ = some q → f_X9_swaps_L78 n ((596 : Nat) : Int) v1 v2 v3 v4 (mk_ σ) = some ((q.1, mk_ q.2)) := by
  intro n
  induction n with
  | zero => intro v1 v2 v3 v4 σ q hk; cases hk
  | succ n ih =>
    intro v1 v2 v3 v4 σ q hk
    unfold g_X9_swaps_L78 at hk
    unfold f_X9_swaps_L78
    by_cases hc : (5 : Int) ≤ v4
    · have hk := ab_ifp hk hc
      refine mb_ifp hc ?_
      obtain rfl := Option.some.inj hk
      rfl
    · have hk := ab_ifn hk hc
      refine mb_ifn hc ?_
      refine mb_getR 597 rfl rfl (by decide) ?_
      obtain ⟨q1, hq1, hk⟩ := ab_bnd hk
      refine mb_eq (s_X9_termAt hq1) ?_
      obtain ⟨t2, ht2, hk⟩ := ab_bnd hk
      refine mb_ald ⟨rfl, rfl, fun _ => rfl⟩ ht2 ?_
      refine mb_getR 597 rfl rfl (by decide) ?_
      obtain ⟨q3, hq3, hk⟩ := ab_bnd hk
      refine mb_eq (s_X9_termAt hq3) ?_
      refine mb_getR 597 rfl rfl (by decide) ?_
      obtain ⟨q4, hq4, hk⟩ := ab_bnd hk
      refine mb_eq (s_X9_termAt hq4) ?_
      obtain ⟨t5, ht5, hk⟩ := ab_bnd hk
      refine mb_ald ⟨rfl, rfl, fun _ => rfl⟩ ht5 ?_
      obtain ⟨σ1, hσ1, hk⟩ := ab_bnd hk
      refine mb_ast ⟨rfl, rfl, fun _ => rfl⟩ hσ1 ?_
      refine mb_getR 597 rfl rfl (by decide) ?_
      obtain ⟨q6, hq6, hk⟩ := ab_bnd hk
      refine mb_eq (s_X9_termAt hq6) ?_
      obtain ⟨σ2, hσ2, hk⟩ := ab_bnd hk
      refine mb_ast ⟨rfl, rfl, fun _ => rfl⟩ hσ2 ?_
      exact ih _ _ _ _  _ _ hk
noncomputable def g_X9_swaps_L29 (k71 : Int → Int → Int → st_S → Option (Int × st_S)) : Nat → Int → Int → Int → Int → st_S → Option (Int × st_S)
  | 0, _, _, _, _, _ => none
  | n + 1, v1, v2, v3, v4, σ =>
    (g_X9_terms v1 σ).bind fun q1 =>
    if q1.1 ≤ v4 then
      k71 v1 v2 v3 q1.2
    else
    (g_X9_roleIf v1 v4 v2 v3 q1.2).bind fun q2 =>
    (g_X9_roleIf v1 (ab_w32 (v4 - (1 : Int))) v2 v3 q2.2).bind fun q3 =>
    if q3.1 ≤ q2.1 then
      g_X9_swaps_L29 k71 n v1 v2 v3 (ab_w32 (v4 + (1 : Int))) q3.2
    else
    some ((-6 : Int), q3.2)
set_option maxRecDepth 20000 in
theorem s_X9_swaps_L29 {k71 : Int → Int → Int → st_S → Option (Int × st_S)} {kf71 : Int → Int → Int → Int → ab_H → Option (Int × ab_H)} (hk71 : ∀ (v1 : Int) (v2 : Int) (v3 : Int) (σ : st_S) (q : Int × st_S), k71 v1 v2 v3 σ = some q → kf71 ((596 : Nat) : Int) v1 v2 v3 (mk_ σ) = some ((q.1, mk_ q.2))) : ∀ (n : Nat) (v1 : Int) (v2 : Int) (v3 : Int) (v4 : Int) (σ : st_S) (q : Int × st_S), g_X9_swaps_L29 k71 n v1 v2 v3 v4 σ = some q → f_X9_swaps_L29 kf71 n ((596 : Nat) : Int) v1 v2 v3 v4 (mk_ σ) = some ((q.1, mk_ q.2)) := by
  intro n
  induction n with
  | zero => intro v1 v2 v3 v4 σ q hk; cases hk
  | succ n ih =>
    intro v1 v2 v3 v4 σ q hk
    unfold g_X9_swaps_L29 at hk
    unfold f_X9_swaps_L29
    obtain ⟨q1, hq1, hk⟩ := ab_bnd hk
    refine mb_on rfl (s_X9_terms hq1) ?_
    by_cases hc : q1.1 ≤ v4
    · have hk := ab_ifp hk hc
      refine mb_ifp hc ?_
      exact hk71 _ _ _  _ _ hk
    · have hk := ab_ifn hk hc
      refine mb_ifn hc ?_
      obtain ⟨q2, hq2, hk⟩ := ab_bnd hk
      refine mb_on rfl (s_X9_roleIf hq2) ?_
      obtain ⟨q3, hq3, hk⟩ := ab_bnd hk
      refine mb_on rfl (s_X9_roleIf hq3) ?_
      by_cases hc : q3.1 ≤ q2.1
      · have hk := ab_ifp hk hc
        refine mb_ifp hc ?_
        exact ih _ _ _ _  _ _ hk
      · have hk := ab_ifn hk hc
        refine mb_ifn hc ?_
        obtain rfl := Option.some.inj hk
        rfl
noncomputable def g_X9_swaps (a1 : Int) (a2 : Int) (a3 : Int) (σ : st_S) : Option (Int × st_S) :=
  (g_X9_isTerm a1 a2 σ).bind fun q1 =>
  if q1.1 = (0 : Int) then
    some ((-2 : Int), q1.2)
  else
  (g_X9_isTerm a1 a3 q1.2).bind fun q2 =>
  if q2.1 = (0 : Int) then
    some ((-2 : Int), q2.2)
  else
  if a2 = a3 then
    some ((-2 : Int), q2.2)
  else
  g_X9_swaps_L29 (fun w71_1 w71_2 w71_3 σx71 =>
    (g_X9_keeps σx71).bind fun q3 =>
    g_X9_swaps_L78 ab_FU w71_1 w71_2 w71_3 (0 : Int) q3) ab_FU a1 a2 a3 (1 : Int) q2.2
set_option maxRecDepth 20000 in
theorem s_X9_swaps {a1 : Int} {a2 : Int} {a3 : Int} {σ : st_S} {q : Int × st_S} (hk : g_X9_swaps a1 a2 a3 σ = some q) : f_X9_swaps ((596 : Nat) : Int) a1 a2 a3 (mk_ σ) = some ((q.1, mk_ q.2)) := by
  unfold g_X9_swaps at hk
  unfold f_X9_swaps
  obtain ⟨q1, hq1, hk⟩ := ab_bnd hk
  refine mb_on rfl (s_X9_isTerm hq1) ?_
  by_cases hc : q1.1 = (0 : Int)
  · have hk := ab_ifp hk hc
    refine mb_ifp hc ?_
    obtain rfl := Option.some.inj hk
    rfl
  · have hk := ab_ifn hk hc
    refine mb_ifn hc ?_
    obtain ⟨q2, hq2, hk⟩ := ab_bnd hk
    refine mb_on rfl (s_X9_isTerm hq2) ?_
    by_cases hc : q2.1 = (0 : Int)
    · have hk := ab_ifp hk hc
      refine mb_ifp hc ?_
      obtain rfl := Option.some.inj hk
      rfl
    · have hk := ab_ifn hk hc
      refine mb_ifn hc ?_
      by_cases hc : a2 = a3
      · have hk := ab_ifp hk hc
        refine mb_ifp hc ?_
        obtain rfl := Option.some.inj hk
        rfl
      · have hk := ab_ifn hk hc
        refine mb_ifn hc ?_
        refine s_X9_swaps_L29 (fun w71_1 w71_2 w71_3 σx71 q hk => ?_) _ _ _ _ _  _ _ hk
        · skip
          obtain ⟨q3, hq3, hk⟩ := ab_bnd hk
          refine mb_on rfl (s_X9_keeps hq3) ?_
          refine s_X9_swaps_L78 _ _ _ _ _  _ _ hk
noncomputable def g_X9_see (a1 : Int) (a2 : Int) (σ : st_S) : Option (Int × st_S) :=
  (g_X9_isWordNow a1 σ).bind fun q1 =>
  if q1.1 = (0 : Int) then
    some ((-2 : Int), q1.2)
  else
  (g_X9_in a2 (0 : Int) (ab_w32 ((q1.2 596 14) - (1 : Int))) q1.2).bind fun q2 =>
  if q2.1 = (0 : Int) then
    some ((-2 : Int), q2.2)
  else
  (g_X9_sees q2.2).bind fun q3 =>
  if q3.1 = (12 : Int) then
    some ((-5 : Int), q3.2)
  else
  if a1 = a2 then
    some ((-6 : Int), q3.2)
  else
  (g_X9_keeps q3.2).bind fun q4 =>
  (g_X9_sees q4).bind fun q5 =>
  (sa_ld q5.2 600 72 a1).bind fun t6 =>
  (sa_st q5.2 597 416 (ab_w32 ((8 : Int) + (ab_w32 ((2 : Int) * q5.1)))) t6).bind fun σ1 =>
  (g_X9_sees σ1).bind fun q7 =>
  (sa_ld q7.2 600 72 a2).bind fun t8 =>
  (sa_st q7.2 597 416 (ab_w32 ((ab_w32 ((8 : Int) + (ab_w32 ((2 : Int) * q7.1)))) + (1 : Int))) t8).bind fun σ2 =>
  (sa_ld σ2 597 416 (1 : Int)).bind fun t9 =>
  (sa_st σ2 597 416 (1 : Int) (ab_w64 (t9 + (1 : Int)))).bind fun σ3 =>
  (g_X9_sees σ3).bind fun q10 =>
  some (q10.1, q10.2)
set_option maxRecDepth 20000 in
theorem s_X9_see {a1 : Int} {a2 : Int} {σ : st_S} {q : Int × st_S} (hk : g_X9_see a1 a2 σ = some q) : f_X9_see ((596 : Nat) : Int) a1 a2 (mk_ σ) = some ((q.1, mk_ q.2)) := by
  unfold g_X9_see at hk
  unfold f_X9_see
  obtain ⟨q1, hq1, hk⟩ := ab_bnd hk
  refine mb_on rfl (s_X9_isWordNow hq1) ?_
  by_cases hc : q1.1 = (0 : Int)
  · have hk := ab_ifp hk hc
    refine mb_ifp hc ?_
    obtain rfl := Option.some.inj hk
    rfl
  · have hk := ab_ifn hk hc
    refine mb_ifn hc ?_
    refine mb_get rfl rfl ?_
    obtain ⟨q2, hq2, hk⟩ := ab_bnd hk
    refine mb_eq (s_X9_in hq2) ?_
    by_cases hc : q2.1 = (0 : Int)
    · have hk := ab_ifp hk hc
      refine mb_ifp hc ?_
      obtain rfl := Option.some.inj hk
      rfl
    · have hk := ab_ifn hk hc
      refine mb_ifn hc ?_
      obtain ⟨q3, hq3, hk⟩ := ab_bnd hk
      refine mb_on rfl (s_X9_sees hq3) ?_
      by_cases hc : q3.1 = (12 : Int)
      · have hk := ab_ifp hk hc
        refine mb_ifp hc ?_
        obtain rfl := Option.some.inj hk
        rfl
      · have hk := ab_ifn hk hc
        refine mb_ifn hc ?_
        by_cases hc : a1 = a2
        · have hk := ab_ifp hk hc
          refine mb_ifp hc ?_
          obtain rfl := Option.some.inj hk
          rfl
        · have hk := ab_ifn hk hc
          refine mb_ifn hc ?_
          obtain ⟨q4, hq4, hk⟩ := ab_bnd hk
          refine mb_on rfl (s_X9_keeps hq4) ?_
          refine mb_getR 597 rfl rfl (by decide) ?_
          obtain ⟨q5, hq5, hk⟩ := ab_bnd hk
          refine mb_on rfl (s_X9_sees hq5) ?_
          refine mb_getR 600 rfl rfl (by decide) ?_
          obtain ⟨t6, ht6, hk⟩ := ab_bnd hk
          refine mb_ald ⟨rfl, rfl, fun _ => rfl⟩ ht6 ?_
          obtain ⟨σ1, hσ1, hk⟩ := ab_bnd hk
          refine mb_ast ⟨rfl, rfl, fun _ => rfl⟩ hσ1 ?_
          refine mb_getR 597 rfl rfl (by decide) ?_
          obtain ⟨q7, hq7, hk⟩ := ab_bnd hk
          refine mb_on rfl (s_X9_sees hq7) ?_
          refine mb_getR 600 rfl rfl (by decide) ?_
          obtain ⟨t8, ht8, hk⟩ := ab_bnd hk
          refine mb_ald ⟨rfl, rfl, fun _ => rfl⟩ ht8 ?_
          obtain ⟨σ2, hσ2, hk⟩ := ab_bnd hk
          refine mb_ast ⟨rfl, rfl, fun _ => rfl⟩ hσ2 ?_
          refine mb_getR 597 rfl rfl (by decide) ?_
          obtain ⟨t9, ht9, hk⟩ := ab_bnd hk
          refine mb_ald ⟨rfl, rfl, fun _ => rfl⟩ ht9 ?_
          obtain ⟨σ3, hσ3, hk⟩ := ab_bnd hk
          refine mb_ast ⟨rfl, rfl, fun _ => rfl⟩ hσ3 ?_
          obtain ⟨q10, hq10, hk⟩ := ab_bnd hk
          refine mb_on rfl (s_X9_sees hq10) ?_
          obtain rfl := Option.some.inj hk
          rfl
noncomputable def g_X9_forget_L28 (k54 : st_S → Option (Int × st_S)) : Nat → Int → st_S → Option (Int × st_S)
  | 0, _, _ => none
  | n + 1, v2, σ =>
    if (30 : Int) ≤ v2 then
      k54 σ
    else
    (sa_ld σ 597 416 (ab_w32 (v2 + (2 : Int)))).bind fun t1 =>
    (sa_st σ 597 416 v2 t1).bind fun σ1 =>
    g_X9_forget_L28 k54 n (ab_w32 (v2 + (1 : Int))) σ1
set_option maxRecDepth 20000 in
theorem s_X9_forget_L28 {k54 : st_S → Option (Int × st_S)} {kf54 : Int → ab_H → Option (Int × ab_H)} (hk54 : ∀ (σ : st_S) (q : Int × st_S), k54 σ = some q → kf54 ((596 : Nat) : Int) (mk_ σ) = some ((q.1, mk_ q.2))) : ∀ (n : Nat) (v2 : Int) (σ : st_S) (q : Int × st_S), g_X9_forget_L28 k54 n v2 σ = some q → f_X9_forget_L28 kf54 n ((596 : Nat) : Int) v2 (mk_ σ) = some ((q.1, mk_ q.2)) := by
  intro n
  induction n with
  | zero => intro v2 σ q hk; cases hk
  | succ n ih =>
    intro v2 σ q hk
    unfold g_X9_forget_L28 at hk
    unfold f_X9_forget_L28
    by_cases hc : (30 : Int) ≤ v2
    · have hk := ab_ifp hk hc
      refine mb_ifp hc ?_
      exact hk54  _ _ hk
    · have hk := ab_ifn hk hc
      refine mb_ifn hc ?_
      refine mb_getR 597 rfl rfl (by decide) ?_
      refine mb_getR 597 rfl rfl (by decide) ?_
      obtain ⟨t1, ht1, hk⟩ := ab_bnd hk
      refine mb_ald ⟨rfl, rfl, fun _ => rfl⟩ ht1 ?_
      obtain ⟨σ1, hσ1, hk⟩ := ab_bnd hk
      refine mb_ast ⟨rfl, rfl, fun _ => rfl⟩ hσ1 ?_
      exact ih _  _ _ hk
noncomputable def g_X9_forget (a1 : Int) (σ : st_S) : Option (Int × st_S) :=
  if (0 : Int) ≤ a1 then
    (g_X9_sees σ).bind fun q1 =>
    if a1 < q1.1 then
      (g_X9_keeps q1.2).bind fun q2 =>
      g_X9_forget_L28 (fun σx54 =>
        (sa_ld σx54 597 416 (1 : Int)).bind fun t3 =>
        (sa_st σx54 597 416 (1 : Int) (ab_w64 (t3 - (1 : Int)))).bind fun σ1 =>
        (g_X9_sees σ1).bind fun q4 =>
        some (q4.1, q4.2)) ab_FU (ab_w32 ((8 : Int) + (ab_w32 ((2 : Int) * a1)))) q2
    else
    some ((-1 : Int), q1.2)
  else
  some ((-2 : Int), σ)
set_option maxRecDepth 20000 in
theorem s_X9_forget {a1 : Int} {σ : st_S} {q : Int × st_S} (hk : g_X9_forget a1 σ = some q) : f_X9_forget ((596 : Nat) : Int) a1 (mk_ σ) = some ((q.1, mk_ q.2)) := by
  unfold g_X9_forget at hk
  unfold f_X9_forget
  by_cases hc : (0 : Int) ≤ a1
  · have hk := ab_ifp hk hc
    refine mb_ifp hc ?_
    obtain ⟨q1, hq1, hk⟩ := ab_bnd hk
    refine mb_on rfl (s_X9_sees hq1) ?_
    by_cases hc : a1 < q1.1
    · have hk := ab_ifp hk hc
      refine mb_ifp hc ?_
      obtain ⟨q2, hq2, hk⟩ := ab_bnd hk
      refine mb_on rfl (s_X9_keeps hq2) ?_
      refine s_X9_forget_L28 (fun σx54 q hk => ?_) _ _  _ _ hk
      · skip
        refine mb_getR 597 rfl rfl (by decide) ?_
        obtain ⟨t3, ht3, hk⟩ := ab_bnd hk
        refine mb_ald ⟨rfl, rfl, fun _ => rfl⟩ ht3 ?_
        obtain ⟨σ1, hσ1, hk⟩ := ab_bnd hk
        refine mb_ast ⟨rfl, rfl, fun _ => rfl⟩ hσ1 ?_
        obtain ⟨q4, hq4, hk⟩ := ab_bnd hk
        refine mb_on rfl (s_X9_sees hq4) ?_
        obtain rfl := Option.some.inj hk
        rfl
    · have hk := ab_ifn hk hc
      refine mb_ifn hc ?_
      obtain rfl := Option.some.inj hk
      rfl
  · have hk := ab_ifn hk hc
    refine mb_ifn hc ?_
    obtain rfl := Option.some.inj hk
    rfl
noncomputable def g_X9_moves_L39 (k67 : Int → Int → Int → st_S → Option (Int × st_S)) : Nat → Int → Int → Int → Int → st_S → Option (Int × st_S)
  | 0, _, _, _, _, _ => none
  | n + 1, v1, v2, v3, v4, σ =>
    (g_X9_strings σ).bind fun q1 =>
    if q1.1 ≤ v4 then
      k67 v1 v2 v3 q1.2
    else
    (g_X9_addressOf v4 q1.2).bind fun q2 =>
    if q2.1 = v2 then
      some ((-6 : Int), q2.2)
    else
    g_X9_moves_L39 k67 n v1 v2 v3 (ab_w32 (v4 + (1 : Int))) q2.2
set_option maxRecDepth 20000 in
theorem s_X9_moves_L39 {k67 : Int → Int → Int → st_S → Option (Int × st_S)} {kf67 : Int → Int → Int → Int → ab_H → Option (Int × ab_H)} (hk67 : ∀ (v1 : Int) (v2 : Int) (v3 : Int) (σ : st_S) (q : Int × st_S), k67 v1 v2 v3 σ = some q → kf67 ((596 : Nat) : Int) v1 v2 v3 (mk_ σ) = some ((q.1, mk_ q.2))) : ∀ (n : Nat) (v1 : Int) (v2 : Int) (v3 : Int) (v4 : Int) (σ : st_S) (q : Int × st_S), g_X9_moves_L39 k67 n v1 v2 v3 v4 σ = some q → f_X9_moves_L39 kf67 n ((596 : Nat) : Int) v1 v2 v3 v4 (mk_ σ) = some ((q.1, mk_ q.2)) := by
  intro n
  induction n with
  | zero => intro v1 v2 v3 v4 σ q hk; cases hk
  | succ n ih =>
    intro v1 v2 v3 v4 σ q hk
    unfold g_X9_moves_L39 at hk
    unfold f_X9_moves_L39
    obtain ⟨q1, hq1, hk⟩ := ab_bnd hk
    refine mb_on rfl (s_X9_strings hq1) ?_
    by_cases hc : q1.1 ≤ v4
    · have hk := ab_ifp hk hc
      refine mb_ifp hc ?_
      exact hk67 _ _ _  _ _ hk
    · have hk := ab_ifn hk hc
      refine mb_ifn hc ?_
      obtain ⟨q2, hq2, hk⟩ := ab_bnd hk
      refine mb_on rfl (s_X9_addressOf hq2) ?_
      by_cases hc : q2.1 = v2
      · have hk := ab_ifp hk hc
        refine mb_ifp hc ?_
        obtain rfl := Option.some.inj hk
        rfl
      · have hk := ab_ifn hk hc
        refine mb_ifn hc ?_
        exact ih _ _ _ _  _ _ hk
noncomputable def g_X9_moves (a1 : Int) (a2 : Int) (σ : st_S) : Option (Int × st_S) :=
  (g_X9_isString a1 σ).bind fun q1 =>
  if q1.1 = (0 : Int) then
    some ((-2 : Int), q1.2)
  else
  (g_X9_in a2 (0 : Int) (999 : Int) q1.2).bind fun q2 =>
  if q2.1 = (0 : Int) then
    some ((-2 : Int), q2.2)
  else
  (g_X9_addressOf a1 q2.2).bind fun q3 =>
  if q3.1 = a2 then
    some (q3.1, q3.2)
  else
  g_X9_moves_L39 (fun w67_1 w67_2 w67_3 σx67 =>
    (g_X9_keeps σx67).bind fun q4 =>
    (sa_st q4 597 416 (ab_w32 ((32 : Int) + (ab_w32 ((32 : Int) * w67_1)))) w67_2).bind fun σ1 =>
    some (w67_3, σ1)) ab_FU a1 a2 q3.1 (0 : Int) q3.2
set_option maxRecDepth 20000 in
theorem s_X9_moves {a1 : Int} {a2 : Int} {σ : st_S} {q : Int × st_S} (hk : g_X9_moves a1 a2 σ = some q) : f_X9_moves ((596 : Nat) : Int) a1 a2 (mk_ σ) = some ((q.1, mk_ q.2)) := by
  unfold g_X9_moves at hk
  unfold f_X9_moves
  obtain ⟨q1, hq1, hk⟩ := ab_bnd hk
  refine mb_on rfl (s_X9_isString hq1) ?_
  by_cases hc : q1.1 = (0 : Int)
  · have hk := ab_ifp hk hc
    refine mb_ifp hc ?_
    obtain rfl := Option.some.inj hk
    rfl
  · have hk := ab_ifn hk hc
    refine mb_ifn hc ?_
    obtain ⟨q2, hq2, hk⟩ := ab_bnd hk
    refine mb_eq (s_X9_in hq2) ?_
    by_cases hc : q2.1 = (0 : Int)
    · have hk := ab_ifp hk hc
      refine mb_ifp hc ?_
      obtain rfl := Option.some.inj hk
      rfl
    · have hk := ab_ifn hk hc
      refine mb_ifn hc ?_
      obtain ⟨q3, hq3, hk⟩ := ab_bnd hk
      refine mb_on rfl (s_X9_addressOf hq3) ?_
      by_cases hc : q3.1 = a2
      · have hk := ab_ifp hk hc
        refine mb_ifp hc ?_
        obtain rfl := Option.some.inj hk
        rfl
      · have hk := ab_ifn hk hc
        refine mb_ifn hc ?_
        refine s_X9_moves_L39 (fun w67_1 w67_2 w67_3 σx67 q hk => ?_) _ _ _ _ _  _ _ hk
        · skip
          obtain ⟨q4, hq4, hk⟩ := ab_bnd hk
          refine mb_on rfl (s_X9_keeps hq4) ?_
          refine mb_getR 597 rfl rfl (by decide) ?_
          obtain ⟨σ1, hσ1, hk⟩ := ab_bnd hk
          refine mb_ast ⟨rfl, rfl, fun _ => rfl⟩ hσ1 ?_
          obtain rfl := Option.some.inj hk
          rfl
