noncomputable def g_X8_feed (a1 : Int) (a2 : Int) (a3 : Int) (a4 : Int) (a5 : Int) (σ : st_S) : Option (Int × st_S) :=
  if ab_w32 ((σ 2 1) + (20 : Int)) ≤ (1200 : Int) then
    (g_X1_putFour 2 a1 σ).bind fun q1 =>
    (g_X1_putFour 2 a2 q1).bind fun q2 =>
    (g_X1_putFour 2 a3 q2).bind fun q3 =>
    (g_X1_putFour 2 a4 q3).bind fun q4 =>
    (g_X1_putFour 2 a5 q4).bind fun q5 =>
    some (q5 2 1, q5)
  else
  some ((-1 : Int), σ)
set_option maxRecDepth 20000 in
theorem s_X8_feed {a1 : Int} {a2 : Int} {a3 : Int} {a4 : Int} {a5 : Int} {σ : st_S} {q : Int × st_S} (hk : g_X8_feed a1 a2 a3 a4 a5 σ = some q) : f_X8_feed ((1 : Nat) : Int) a1 a2 a3 a4 a5 (mk_ σ) = some ((q.1, mk_ q.2)) := by
  unfold g_X8_feed at hk
  unfold f_X8_feed
  refine mb_getR 2 rfl rfl (by decide) ?_
  refine mb_get rfl rfl ?_
  by_cases hc : ab_w32 ((σ 2 1) + (20 : Int)) ≤ (1200 : Int)
  · have hk := ab_ifp hk hc
    refine mb_ifp hc ?_
    refine mb_getR 2 rfl rfl (by decide) ?_
    obtain ⟨q1, hq1, hk⟩ := ab_bnd hk
    refine mb_on rfl (s_X1_putFour (rfl : isBy 2 = true) hq1) ?_
    refine mb_getR 2 rfl rfl (by decide) ?_
    obtain ⟨q2, hq2, hk⟩ := ab_bnd hk
    refine mb_on rfl (s_X1_putFour (rfl : isBy 2 = true) hq2) ?_
    refine mb_getR 2 rfl rfl (by decide) ?_
    obtain ⟨q3, hq3, hk⟩ := ab_bnd hk
    refine mb_on rfl (s_X1_putFour (rfl : isBy 2 = true) hq3) ?_
    refine mb_getR 2 rfl rfl (by decide) ?_
    obtain ⟨q4, hq4, hk⟩ := ab_bnd hk
    refine mb_on rfl (s_X1_putFour (rfl : isBy 2 = true) hq4) ?_
    refine mb_getR 2 rfl rfl (by decide) ?_
    obtain ⟨q5, hq5, hk⟩ := ab_bnd hk
    refine mb_on rfl (s_X1_putFour (rfl : isBy 2 = true) hq5) ?_
    refine mb_getR 2 rfl rfl (by decide) ?_
    refine mb_get rfl rfl ?_
    obtain rfl := Option.some.inj hk
    rfl
  · have hk := ab_ifn hk hc
    refine mb_ifn hc ?_
    obtain rfl := Option.some.inj hk
    rfl
noncomputable def g_X8_end (a1 : Int) (σ : st_S) : Option (Int × st_S) :=
  if a1 < (0 : Int) then
    some ((-1 : Int), σ)
  else
  if a1 ≤ σ 2 1 then
    (some (up2 σ 2 1 a1)).bind fun σ1 =>
    some (a1, σ1)
  else
  some ((-1 : Int), σ)
set_option maxRecDepth 20000 in
theorem s_X8_end {a1 : Int} {σ : st_S} {q : Int × st_S} (hk : g_X8_end a1 σ = some q) : f_X8_end ((1 : Nat) : Int) a1 (mk_ σ) = some ((q.1, mk_ q.2)) := by
  unfold g_X8_end at hk
  unfold f_X8_end
  by_cases hc : a1 < (0 : Int)
  · have hk := ab_ifp hk hc
    refine mb_ifp hc ?_
    obtain rfl := Option.some.inj hk
    rfl
  · have hk := ab_ifn hk hc
    refine mb_ifn hc ?_
    refine mb_getR 2 rfl rfl (by decide) ?_
    refine mb_get rfl rfl ?_
    by_cases hc : a1 ≤ σ 2 1
    · have hk := ab_ifp hk hc
      refine mb_ifp hc ?_
      refine mb_getR 2 rfl rfl (by decide) ?_
      obtain ⟨σ1, hσ1, hk⟩ := ab_bnd hk
      refine mb_put rfl rfl hσ1 ?_
      obtain rfl := Option.some.inj hk
      rfl
    · have hk := ab_ifn hk hc
      refine mb_ifn hc ?_
      obtain rfl := Option.some.inj hk
      rfl
noncomputable def g_X8_renew (σ : st_S) : Option st_S :=
  (g_X7_gatherFrom 13 σ).bind fun q1 =>
  (g_X5_takeFrom 13 q1).bind fun q2 =>
  (g_X6_turnAll 156 13 q2).bind fun q3 =>
  some q3
set_option maxRecDepth 20000 in
theorem s_X8_renew {σ : st_S} {q : st_S} (hk : g_X8_renew σ = some q) : f_X8_renew ((1 : Nat) : Int) (mk_ σ) = some (mk_ q) := by
  unfold g_X8_renew at hk
  unfold f_X8_renew
  refine mb_getR 147 rfl rfl (by decide) ?_
  refine mb_getR 13 rfl rfl (by decide) ?_
  obtain ⟨q1, hq1, hk⟩ := ab_bnd hk
  refine mb_on rfl (s_X7_gatherFrom (rfl : isBk 13 = true) hq1) ?_
  refine mb_getR 150 rfl rfl (by decide) ?_
  refine mb_getR 13 rfl rfl (by decide) ?_
  refine mb_getR 147 rfl rfl (by decide) ?_
  obtain ⟨q2, hq2, hk⟩ := ab_bnd hk
  refine mb_on rfl (s_X5_takeFrom (rfl : isBk 13 = true) hq2) ?_
  refine mb_getR 156 rfl rfl (by decide) ?_
  refine mb_getR 13 rfl rfl (by decide) ?_
  refine mb_getR 150 rfl rfl (by decide) ?_
  obtain ⟨q3, hq3, hk⟩ := ab_bnd hk
  refine mb_on rfl (s_X6_turnAll (rfl : isTu 156 = true) (rfl : isBk 13 = true) hq3) ?_
  obtain rfl := Option.some.inj hk
  rfl
noncomputable def g_X8_text (σ : st_S) : Option (Int × st_S) :=
  (g_X4_readText 2 24 σ).bind fun q1 =>
  (some (up2 q1.2 2 1 (0 : Int))).bind fun σ1 =>
  if q1.1 = (0 : Int) then
    some ((-4 : Int), σ1)
  else
  (g_X3_forgetAll σ1).bind fun q2 =>
  (g_X0_copyFrom 13 24 q2).bind fun q3 =>
  (g_X8_renew q3).bind fun q4 =>
  some (q4 8 8, q4)
set_option maxRecDepth 20000 in
theorem s_X8_text {σ : st_S} {q : Int × st_S} (hk : g_X8_text σ = some q) : f_X8_text ((1 : Nat) : Int) (mk_ σ) = some ((q.1, mk_ q.2)) := by
  unfold g_X8_text at hk
  unfold f_X8_text
  refine mb_getR 8 rfl rfl (by decide) ?_
  refine mb_getR 2 rfl rfl (by decide) ?_
  refine mb_getR 24 rfl rfl (by decide) ?_
  obtain ⟨q1, hq1, hk⟩ := ab_bnd hk
  refine mb_on rfl (s_X4_readText (rfl : isBy 2 = true) (rfl : isBk 24 = true) hq1) ?_
  refine mb_getR 2 rfl rfl (by decide) ?_
  obtain ⟨σ1, hσ1, hk⟩ := ab_bnd hk
  refine mb_put rfl rfl hσ1 ?_
  by_cases hc : q1.1 = (0 : Int)
  · have hk := ab_ifp hk hc
    refine mb_ifp hc ?_
    obtain rfl := Option.some.inj hk
    rfl
  · have hk := ab_ifn hk hc
    refine mb_ifn hc ?_
    refine mb_getR 35 rfl rfl (by decide) ?_
    obtain ⟨q2, hq2, hk⟩ := ab_bnd hk
    refine mb_on rfl (s_X3_forgetAll hq2) ?_
    refine mb_getR 13 rfl rfl (by decide) ?_
    refine mb_getR 24 rfl rfl (by decide) ?_
    obtain ⟨q3, hq3, hk⟩ := ab_bnd hk
    refine mb_on rfl (s_X0_copyFrom (rfl : isBk 13 = true) (rfl : isBk 24 = true) hq3) ?_
    obtain ⟨q4, hq4, hk⟩ := ab_bnd hk
    refine mb_on rfl (s_X8_renew hq4) ?_
    refine mb_getR 8 rfl rfl (by decide) ?_
    refine mb_get rfl rfl ?_
    obtain rfl := Option.some.inj hk
    rfl
noncomputable def g_X8_fault (a1 : Int) (σ : st_S) : Option (Int × st_S) :=
  if a1 = (0 : Int) then
    some (σ 8 9, σ)
  else
  if a1 = (1 : Int) then
    some (σ 8 10, σ)
  else
  some ((-1 : Int), σ)
set_option maxRecDepth 20000 in
theorem s_X8_fault {a1 : Int} {σ : st_S} {q : Int × st_S} (hk : g_X8_fault a1 σ = some q) : f_X8_fault ((1 : Nat) : Int) a1 (mk_ σ) = some ((q.1, mk_ q.2)) := by
  unfold g_X8_fault at hk
  unfold f_X8_fault
  by_cases hc : a1 = (0 : Int)
  · have hk := ab_ifp hk hc
    refine mb_ifp hc ?_
    refine mb_getR 8 rfl rfl (by decide) ?_
    refine mb_get rfl rfl ?_
    obtain rfl := Option.some.inj hk
    rfl
  · have hk := ab_ifn hk hc
    refine mb_ifn hc ?_
    by_cases hc : a1 = (1 : Int)
    · have hk := ab_ifp hk hc
      refine mb_ifp hc ?_
      refine mb_getR 8 rfl rfl (by decide) ?_
      refine mb_get rfl rfl ?_
      obtain rfl := Option.some.inj hk
      rfl
    · have hk := ab_ifn hk hc
      refine mb_ifn hc ?_
      obtain rfl := Option.some.inj hk
      rfl
noncomputable def g_X8_count (a1 : Int) (σ : st_S) : Option (Int × st_S) :=
  if a1 = (0 : Int) then
    some (σ 13 0, σ)
  else
  if a1 = (1 : Int) then
    (g_X0_termsOfAll 13 σ).bind fun q1 =>
    some (q1.1, q1.2)
  else
  if a1 = (2 : Int) then
    some (σ 13 9, σ)
  else
  if a1 = (3 : Int) then
    some (σ 147 0, σ)
  else
  if a1 = (4 : Int) then
    some (σ 156 1, σ)
  else
  if a1 = (5 : Int) then
    some (σ 156 3, σ)
  else
  if a1 = (6 : Int) then
    some (σ 156 5, σ)
  else
  if a1 = (7 : Int) then
    some (σ 35 2, σ)
  else
  if a1 = (8 : Int) then
    some (σ 2 1, σ)
  else
  if a1 = (9 : Int) then
    some (σ 4 1, σ)
  else
  some ((-1 : Int), σ)
set_option maxRecDepth 20000 in
theorem s_X8_count {a1 : Int} {σ : st_S} {q : Int × st_S} (hk : g_X8_count a1 σ = some q) : f_X8_count ((1 : Nat) : Int) a1 (mk_ σ) = some ((q.1, mk_ q.2)) := by
  unfold g_X8_count at hk
  unfold f_X8_count
  by_cases hc : a1 = (0 : Int)
  · have hk := ab_ifp hk hc
    refine mb_ifp hc ?_
    refine mb_getR 13 rfl rfl (by decide) ?_
    refine mb_get rfl rfl ?_
    obtain rfl := Option.some.inj hk
    rfl
  · have hk := ab_ifn hk hc
    refine mb_ifn hc ?_
    by_cases hc : a1 = (1 : Int)
    · have hk := ab_ifp hk hc
      refine mb_ifp hc ?_
      refine mb_getR 13 rfl rfl (by decide) ?_
      obtain ⟨q1, hq1, hk⟩ := ab_bnd hk
      refine mb_on rfl (s_X0_termsOfAll (rfl : isBk 13 = true) hq1) ?_
      obtain rfl := Option.some.inj hk
      rfl
    · have hk := ab_ifn hk hc
      refine mb_ifn hc ?_
      by_cases hc : a1 = (2 : Int)
      · have hk := ab_ifp hk hc
        refine mb_ifp hc ?_
        refine mb_getR 13 rfl rfl (by decide) ?_
        refine mb_get rfl rfl ?_
        obtain rfl := Option.some.inj hk
        rfl
      · have hk := ab_ifn hk hc
        refine mb_ifn hc ?_
        by_cases hc : a1 = (3 : Int)
        · have hk := ab_ifp hk hc
          refine mb_ifp hc ?_
          refine mb_getR 147 rfl rfl (by decide) ?_
          refine mb_get rfl rfl ?_
          obtain rfl := Option.some.inj hk
          rfl
        · have hk := ab_ifn hk hc
          refine mb_ifn hc ?_
          by_cases hc : a1 = (4 : Int)
          · have hk := ab_ifp hk hc
            refine mb_ifp hc ?_
            refine mb_getR 156 rfl rfl (by decide) ?_
            refine mb_get rfl rfl ?_
            obtain rfl := Option.some.inj hk
            rfl
          · have hk := ab_ifn hk hc
            refine mb_ifn hc ?_
            by_cases hc : a1 = (5 : Int)
            · have hk := ab_ifp hk hc
              refine mb_ifp hc ?_
              refine mb_getR 156 rfl rfl (by decide) ?_
              refine mb_get rfl rfl ?_
              obtain rfl := Option.some.inj hk
              rfl
            · have hk := ab_ifn hk hc
              refine mb_ifn hc ?_
              by_cases hc : a1 = (6 : Int)
              · have hk := ab_ifp hk hc
                refine mb_ifp hc ?_
                refine mb_getR 156 rfl rfl (by decide) ?_
                refine mb_get rfl rfl ?_
                obtain rfl := Option.some.inj hk
                rfl
              · have hk := ab_ifn hk hc
                refine mb_ifn hc ?_
                by_cases hc : a1 = (7 : Int)
                · have hk := ab_ifp hk hc
                  refine mb_ifp hc ?_
                  refine mb_getR 35 rfl rfl (by decide) ?_
                  refine mb_get rfl rfl ?_
                  obtain rfl := Option.some.inj hk
                  rfl
                · have hk := ab_ifn hk hc
                  refine mb_ifn hc ?_
                  by_cases hc : a1 = (8 : Int)
                  · have hk := ab_ifp hk hc
                    refine mb_ifp hc ?_
                    refine mb_getR 2 rfl rfl (by decide) ?_
                    refine mb_get rfl rfl ?_
                    obtain rfl := Option.some.inj hk
                    rfl
                  · have hk := ab_ifn hk hc
                    refine mb_ifn hc ?_
                    by_cases hc : a1 = (9 : Int)
                    · have hk := ab_ifp hk hc
                      refine mb_ifp hc ?_
                      refine mb_getR 4 rfl rfl (by decide) ?_
                      refine mb_get rfl rfl ?_
                      obtain rfl := Option.some.inj hk
                      rfl
                    · have hk := ab_ifn hk hc
                      refine mb_ifn hc ?_
                      obtain rfl := Option.some.inj hk
                      rfl
noncomputable def g_X8_isString_J19 (σ : st_S) : Option (Int × st_S) :=
  some ((0 : Int), σ)
set_option maxRecDepth 20000 in
theorem s_X8_isString_J19 : ∀ (σ : st_S) (q : Int × st_S), g_X8_isString_J19 σ = some q → f_X8_isString_J19 (mk_ σ) = some ((q.1, mk_ q.2)) := by
  intro σ q hk
  unfold g_X8_isString_J19 at hk
  unfold f_X8_isString_J19
  obtain rfl := Option.some.inj hk
  rfl
noncomputable def g_X8_isString (a1 : Int) (σ : st_S) : Option (Int × st_S) :=
  if a1 < (0 : Int) then
    g_X8_isString_J19 σ
  else
  if σ 13 0 ≤ a1 then
    g_X8_isString_J19 σ
  else
  some ((1 : Int), σ)
set_option maxRecDepth 20000 in
theorem s_X8_isString {a1 : Int} {σ : st_S} {q : Int × st_S} (hk : g_X8_isString a1 σ = some q) : f_X8_isString ((1 : Nat) : Int) a1 (mk_ σ) = some ((q.1, mk_ q.2)) := by
  unfold g_X8_isString at hk
  unfold f_X8_isString
  by_cases hc : a1 < (0 : Int)
  · have hk := ab_ifp hk hc
    refine mb_ifp hc ?_
    exact s_X8_isString_J19  _ _ hk
  · have hk := ab_ifn hk hc
    refine mb_ifn hc ?_
    refine mb_getR 13 rfl rfl (by decide) ?_
    refine mb_get rfl rfl ?_
    by_cases hc : σ 13 0 ≤ a1
    · have hk := ab_ifp hk hc
      refine mb_ifp hc ?_
      exact s_X8_isString_J19  _ _ hk
    · have hk := ab_ifn hk hc
      refine mb_ifn hc ?_
      obtain rfl := Option.some.inj hk
      rfl
noncomputable def g_X8_string (a1 : Int) (a2 : Int) (σ : st_S) : Option (Int × st_S) :=
  (g_X8_isString a1 σ).bind fun q1 =>
  if q1.1 = (0 : Int) then
    some ((-2 : Int), q1.2)
  else
  if a2 = (0 : Int) then
    (sa_ld q1.2 14 12 a1).bind fun t6 =>
    some (t6, q1.2)
  else
  if a2 = (1 : Int) then
    (sa_ld q1.2 15 12 a1).bind fun t5 =>
    some (t5, q1.2)
  else
  if a2 = (2 : Int) then
    (g_X0_leadingOf 13 a1 q1.2).bind fun q4 =>
    some (q4.1, q4.2)
  else
  if a2 = (3 : Int) then
    (g_X6_doublesOf 156 a1 q1.2).bind fun q3 =>
    some (q3.1, q3.2)
  else
  if a2 = (4 : Int) then
    (g_X5_repeatedIn a1 q1.2).bind fun q2 =>
    some (q2.1, q2.2)
  else
  some ((-2 : Int), q1.2)
set_option maxRecDepth 20000 in
theorem s_X8_string {a1 : Int} {a2 : Int} {σ : st_S} {q : Int × st_S} (hk : g_X8_string a1 a2 σ = some q) : f_X8_string ((1 : Nat) : Int) a1 a2 (mk_ σ) = some ((q.1, mk_ q.2)) := by
  unfold g_X8_string at hk
  unfold f_X8_string
  obtain ⟨q1, hq1, hk⟩ := ab_bnd hk
  refine mb_on rfl (s_X8_isString hq1) ?_
  by_cases hc : q1.1 = (0 : Int)
  · have hk := ab_ifp hk hc
    refine mb_ifp hc ?_
    obtain rfl := Option.some.inj hk
    rfl
  · have hk := ab_ifn hk hc
    refine mb_ifn hc ?_
    by_cases hc : a2 = (0 : Int)
    · have hk := ab_ifp hk hc
      refine mb_ifp hc ?_
      refine mb_getR 13 rfl rfl (by decide) ?_
      refine mb_getR 14 rfl rfl (by decide) ?_
      obtain ⟨t6, ht6, hk⟩ := ab_bnd hk
      refine mb_ald ⟨rfl, rfl, fun _ => rfl⟩ ht6 ?_
      obtain rfl := Option.some.inj hk
      rfl
    · have hk := ab_ifn hk hc
      refine mb_ifn hc ?_
      by_cases hc : a2 = (1 : Int)
      · have hk := ab_ifp hk hc
        refine mb_ifp hc ?_
        refine mb_getR 13 rfl rfl (by decide) ?_
        refine mb_getR 15 rfl rfl (by decide) ?_
        obtain ⟨t5, ht5, hk⟩ := ab_bnd hk
        refine mb_ald ⟨rfl, rfl, fun _ => rfl⟩ ht5 ?_
        obtain rfl := Option.some.inj hk
        rfl
      · have hk := ab_ifn hk hc
        refine mb_ifn hc ?_
        by_cases hc : a2 = (2 : Int)
        · have hk := ab_ifp hk hc
          refine mb_ifp hc ?_
          refine mb_getR 13 rfl rfl (by decide) ?_
          obtain ⟨q4, hq4, hk⟩ := ab_bnd hk
          refine mb_on rfl (s_X0_leadingOf (rfl : isBk 13 = true) hq4) ?_
          obtain rfl := Option.some.inj hk
          rfl
        · have hk := ab_ifn hk hc
          refine mb_ifn hc ?_
          by_cases hc : a2 = (3 : Int)
          · have hk := ab_ifp hk hc
            refine mb_ifp hc ?_
            refine mb_getR 156 rfl rfl (by decide) ?_
            obtain ⟨q3, hq3, hk⟩ := ab_bnd hk
            refine mb_on rfl (s_X6_doublesOf (rfl : isTu 156 = true) hq3) ?_
            obtain rfl := Option.some.inj hk
            rfl
          · have hk := ab_ifn hk hc
            refine mb_ifn hc ?_
            by_cases hc : a2 = (4 : Int)
            · have hk := ab_ifp hk hc
              refine mb_ifp hc ?_
              refine mb_getR 150 rfl rfl (by decide) ?_
              obtain ⟨q2, hq2, hk⟩ := ab_bnd hk
              refine mb_on rfl (s_X5_repeatedIn hq2) ?_
              obtain rfl := Option.some.inj hk
              rfl
            · have hk := ab_ifn hk hc
              refine mb_ifn hc ?_
              obtain rfl := Option.some.inj hk
              rfl
noncomputable def g_X8_isTerm_J29 (σ : st_S) : Option (Int × st_S) :=
  some ((0 : Int), σ)
set_option maxRecDepth 20000 in
theorem s_X8_isTerm_J29 : ∀ (σ : st_S) (q : Int × st_S), g_X8_isTerm_J29 σ = some q → f_X8_isTerm_J29 (mk_ σ) = some ((q.1, mk_ q.2)) := by
  intro σ q hk
  unfold g_X8_isTerm_J29 at hk
  unfold f_X8_isTerm_J29
  obtain rfl := Option.some.inj hk
  rfl
noncomputable def g_X8_isTerm (a1 : Int) (a2 : Int) (σ : st_S) : Option (Int × st_S) :=
  (g_X8_isString a1 σ).bind fun q1 =>
  if q1.1 = (0 : Int) then
    g_X8_isTerm_J29 q1.2
  else
  if a2 < (0 : Int) then
    g_X8_isTerm_J29 q1.2
  else
  (sa_ld q1.2 15 12 a1).bind fun t2 =>
  if t2 ≤ a2 then
    g_X8_isTerm_J29 q1.2
  else
  some ((1 : Int), q1.2)
set_option maxRecDepth 20000 in
theorem s_X8_isTerm {a1 : Int} {a2 : Int} {σ : st_S} {q : Int × st_S} (hk : g_X8_isTerm a1 a2 σ = some q) : f_X8_isTerm ((1 : Nat) : Int) a1 a2 (mk_ σ) = some ((q.1, mk_ q.2)) := by
  unfold g_X8_isTerm at hk
  unfold f_X8_isTerm
  obtain ⟨q1, hq1, hk⟩ := ab_bnd hk
  refine mb_on rfl (s_X8_isString hq1) ?_
  by_cases hc : q1.1 = (0 : Int)
  · have hk := ab_ifp hk hc
    refine mb_ifp hc ?_
    exact s_X8_isTerm_J29  _ _ hk
  · have hk := ab_ifn hk hc
    refine mb_ifn hc ?_
    by_cases hc : a2 < (0 : Int)
    · have hk := ab_ifp hk hc
      refine mb_ifp hc ?_
      exact s_X8_isTerm_J29  _ _ hk
    · have hk := ab_ifn hk hc
      refine mb_ifn hc ?_
      refine mb_getR 13 rfl rfl (by decide) ?_
      refine mb_getR 15 rfl rfl (by decide) ?_
      obtain ⟨t2, ht2, hk⟩ := ab_bnd hk
      refine mb_ald ⟨rfl, rfl, fun _ => rfl⟩ ht2 ?_
      by_cases hc : t2 ≤ a2
      · have hk := ab_ifp hk hc
        refine mb_ifp hc ?_
        exact s_X8_isTerm_J29  _ _ hk
      · have hk := ab_ifn hk hc
        refine mb_ifn hc ?_
        obtain rfl := Option.some.inj hk
        rfl
noncomputable def g_X8_term (a1 : Int) (a2 : Int) (a3 : Int) (σ : st_S) : Option (Int × st_S) :=
  (g_X8_isTerm a1 a2 σ).bind fun q1 =>
  if q1.1 = (0 : Int) then
    some ((-2 : Int), q1.2)
  else
  if a3 = (0 : Int) then
    (sa_ld q1.2 16 72 (ab_w32 ((ab_w32 (a1 * (6 : Int))) + a2))).bind fun t8 =>
    some (t8, q1.2)
  else
  if a3 = (1 : Int) then
    (sa_ld q1.2 17 72 (ab_w32 ((ab_w32 (a1 * (6 : Int))) + a2))).bind fun t7 =>
    some (t7, q1.2)
  else
  if a3 = (2 : Int) then
    (sa_ld q1.2 153 72 (ab_w32 ((ab_w32 (a1 * (6 : Int))) + a2))).bind fun t6 =>
    some (t6, q1.2)
  else
  if a3 = (3 : Int) then
    (sa_ld q1.2 154 72 (ab_w32 ((ab_w32 (a1 * (6 : Int))) + a2))).bind fun t4 =>
    (g_X8_lettersOf t4 q1.2).bind fun q5 =>
    some (q5.1, q5.2)
  else
  if a3 = (4 : Int) then
    (sa_ld q1.2 155 72 (ab_w32 ((ab_w32 (a1 * (6 : Int))) + a2))).bind fun t2 =>
    (g_X8_lettersOf t2 q1.2).bind fun q3 =>
    some (q3.1, q3.2)
  else
  some ((-2 : Int), q1.2)
set_option maxRecDepth 20000 in
theorem s_X8_term {a1 : Int} {a2 : Int} {a3 : Int} {σ : st_S} {q : Int × st_S} (hk : g_X8_term a1 a2 a3 σ = some q) : f_X8_term ((1 : Nat) : Int) a1 a2 a3 (mk_ σ) = some ((q.1, mk_ q.2)) := by
  unfold g_X8_term at hk
  unfold f_X8_term
  obtain ⟨q1, hq1, hk⟩ := ab_bnd hk
  refine mb_on rfl (s_X8_isTerm hq1) ?_
  by_cases hc : q1.1 = (0 : Int)
  · have hk := ab_ifp hk hc
    refine mb_ifp hc ?_
    obtain rfl := Option.some.inj hk
    rfl
  · have hk := ab_ifn hk hc
    refine mb_ifn hc ?_
    by_cases hc : a3 = (0 : Int)
    · have hk := ab_ifp hk hc
      refine mb_ifp hc ?_
      refine mb_getR 13 rfl rfl (by decide) ?_
      refine mb_getR 16 rfl rfl (by decide) ?_
      obtain ⟨t8, ht8, hk⟩ := ab_bnd hk
      refine mb_ald ⟨rfl, rfl, fun _ => rfl⟩ ht8 ?_
      obtain rfl := Option.some.inj hk
      rfl
    · have hk := ab_ifn hk hc
      refine mb_ifn hc ?_
      by_cases hc : a3 = (1 : Int)
      · have hk := ab_ifp hk hc
        refine mb_ifp hc ?_
        refine mb_getR 13 rfl rfl (by decide) ?_
        refine mb_getR 17 rfl rfl (by decide) ?_
        obtain ⟨t7, ht7, hk⟩ := ab_bnd hk
        refine mb_ald ⟨rfl, rfl, fun _ => rfl⟩ ht7 ?_
        obtain rfl := Option.some.inj hk
        rfl
      · have hk := ab_ifn hk hc
        refine mb_ifn hc ?_
        by_cases hc : a3 = (2 : Int)
        · have hk := ab_ifp hk hc
          refine mb_ifp hc ?_
          refine mb_getR 150 rfl rfl (by decide) ?_
          refine mb_getR 153 rfl rfl (by decide) ?_
          obtain ⟨t6, ht6, hk⟩ := ab_bnd hk
          refine mb_ald ⟨rfl, rfl, fun _ => rfl⟩ ht6 ?_
          obtain rfl := Option.some.inj hk
          rfl
        · have hk := ab_ifn hk hc
          refine mb_ifn hc ?_
          by_cases hc : a3 = (3 : Int)
          · have hk := ab_ifp hk hc
            refine mb_ifp hc ?_
            refine mb_getR 150 rfl rfl (by decide) ?_
            refine mb_getR 154 rfl rfl (by decide) ?_
            obtain ⟨t4, ht4, hk⟩ := ab_bnd hk
            refine mb_ald ⟨rfl, rfl, fun _ => rfl⟩ ht4 ?_
            obtain ⟨q5, hq5, hk⟩ := ab_bnd hk
            refine mb_eq (s_X8_lettersOf hq5) ?_
            obtain rfl := Option.some.inj hk
            rfl
          · have hk := ab_ifn hk hc
            refine mb_ifn hc ?_
            by_cases hc : a3 = (4 : Int)
            · have hk := ab_ifp hk hc
              refine mb_ifp hc ?_
              refine mb_getR 150 rfl rfl (by decide) ?_
              refine mb_getR 155 rfl rfl (by decide) ?_
              obtain ⟨t2, ht2, hk⟩ := ab_bnd hk
              refine mb_ald ⟨rfl, rfl, fun _ => rfl⟩ ht2 ?_
              obtain ⟨q3, hq3, hk⟩ := ab_bnd hk
              refine mb_eq (s_X8_lettersOf hq3) ?_
              obtain rfl := Option.some.inj hk
              rfl
            · have hk := ab_ifn hk hc
              refine mb_ifn hc ?_
              obtain rfl := Option.some.inj hk
              rfl
noncomputable def g_X8_isWord_J19 (σ : st_S) : Option (Int × st_S) :=
  some ((0 : Int), σ)
set_option maxRecDepth 20000 in
theorem s_X8_isWord_J19 : ∀ (σ : st_S) (q : Int × st_S), g_X8_isWord_J19 σ = some q → f_X8_isWord_J19 (mk_ σ) = some ((q.1, mk_ q.2)) := by
  intro σ q hk
  unfold g_X8_isWord_J19 at hk
  unfold f_X8_isWord_J19
  obtain rfl := Option.some.inj hk
  rfl
noncomputable def g_X8_isWord (a1 : Int) (σ : st_S) : Option (Int × st_S) :=
  if a1 < (0 : Int) then
    g_X8_isWord_J19 σ
  else
  if σ 147 0 ≤ a1 then
    g_X8_isWord_J19 σ
  else
  some ((1 : Int), σ)
set_option maxRecDepth 20000 in
theorem s_X8_isWord {a1 : Int} {σ : st_S} {q : Int × st_S} (hk : g_X8_isWord a1 σ = some q) : f_X8_isWord ((1 : Nat) : Int) a1 (mk_ σ) = some ((q.1, mk_ q.2)) := by
  unfold g_X8_isWord at hk
  unfold f_X8_isWord
  by_cases hc : a1 < (0 : Int)
  · have hk := ab_ifp hk hc
    refine mb_ifp hc ?_
    exact s_X8_isWord_J19  _ _ hk
  · have hk := ab_ifn hk hc
    refine mb_ifn hc ?_
    refine mb_getR 147 rfl rfl (by decide) ?_
    refine mb_get rfl rfl ?_
    by_cases hc : σ 147 0 ≤ a1
    · have hk := ab_ifp hk hc
      refine mb_ifp hc ?_
      exact s_X8_isWord_J19  _ _ hk
    · have hk := ab_ifn hk hc
      refine mb_ifn hc ?_
      obtain rfl := Option.some.inj hk
      rfl
noncomputable def g_X8_letter (a1 : Int) (a2 : Int) (σ : st_S) : Option (Int × st_S) :=
  (g_X8_isWord a1 σ).bind fun q1 =>
  if q1.1 = (0 : Int) then
    some ((-2 : Int), q1.2)
  else
  if a2 < (0 : Int) then
    some ((-2 : Int), q1.2)
  else
  if a2 < (7 : Int) then
    (sa_ld q1.2 148 72 a1).bind fun t2 =>
    (g_X8_letterOf t2 a2 q1.2).bind fun q3 =>
    some (q3.1, q3.2)
  else
  some ((-2 : Int), q1.2)
set_option maxRecDepth 20000 in
theorem s_X8_letter {a1 : Int} {a2 : Int} {σ : st_S} {q : Int × st_S} (hk : g_X8_letter a1 a2 σ = some q) : f_X8_letter ((1 : Nat) : Int) a1 a2 (mk_ σ) = some ((q.1, mk_ q.2)) := by
  unfold g_X8_letter at hk
  unfold f_X8_letter
  obtain ⟨q1, hq1, hk⟩ := ab_bnd hk
  refine mb_on rfl (s_X8_isWord hq1) ?_
  by_cases hc : q1.1 = (0 : Int)
  · have hk := ab_ifp hk hc
    refine mb_ifp hc ?_
    obtain rfl := Option.some.inj hk
    rfl
  · have hk := ab_ifn hk hc
    refine mb_ifn hc ?_
    by_cases hc : a2 < (0 : Int)
    · have hk := ab_ifp hk hc
      refine mb_ifp hc ?_
      obtain rfl := Option.some.inj hk
      rfl
    · have hk := ab_ifn hk hc
      refine mb_ifn hc ?_
      by_cases hc : a2 < (7 : Int)
      · have hk := ab_ifp hk hc
        refine mb_ifp hc ?_
        refine mb_getR 147 rfl rfl (by decide) ?_
        refine mb_getR 148 rfl rfl (by decide) ?_
        obtain ⟨t2, ht2, hk⟩ := ab_bnd hk
        refine mb_ald ⟨rfl, rfl, fun _ => rfl⟩ ht2 ?_
        obtain ⟨q3, hq3, hk⟩ := ab_bnd hk
        refine mb_eq (s_X8_letterOf hq3) ?_
        obtain rfl := Option.some.inj hk
        rfl
      · have hk := ab_ifn hk hc
        refine mb_ifn hc ?_
        obtain rfl := Option.some.inj hk
        rfl
noncomputable def g_X8_way (a1 : Int) (σ : st_S) : Option (Int × st_S) :=
  (g_X8_isRole a1 σ).bind fun q1 =>
  if q1.1 = (0 : Int) then
    some ((-2 : Int), q1.2)
  else
  (sa_ld q1.2 21 6 a1).bind fun t2 =>
  some (t2, q1.2)
set_option maxRecDepth 20000 in
theorem s_X8_way {a1 : Int} {σ : st_S} {q : Int × st_S} (hk : g_X8_way a1 σ = some q) : f_X8_way ((1 : Nat) : Int) a1 (mk_ σ) = some ((q.1, mk_ q.2)) := by
  unfold g_X8_way at hk
  unfold f_X8_way
  obtain ⟨q1, hq1, hk⟩ := ab_bnd hk
  refine mb_eq (s_X8_isRole hq1) ?_
  by_cases hc : q1.1 = (0 : Int)
  · have hk := ab_ifp hk hc
    refine mb_ifp hc ?_
    obtain rfl := Option.some.inj hk
    rfl
  · have hk := ab_ifn hk hc
    refine mb_ifn hc ?_
    refine mb_getR 13 rfl rfl (by decide) ?_
    refine mb_getR 21 rfl rfl (by decide) ?_
    obtain ⟨t2, ht2, hk⟩ := ab_bnd hk
    refine mb_ald ⟨rfl, rfl, fun _ => rfl⟩ ht2 ?_
    obtain rfl := Option.some.inj hk
    rfl
noncomputable def g_X8_find (σ : st_S) : Option (Int × st_S) :=
  (g_X1_asName 2 σ).bind fun q1 =>
  (some (up2 q1.2 2 1 (0 : Int))).bind fun σ1 =>
  if ab_cmp q1.1 (-1 : Int) = (0 : Int) then
    some ((-2 : Int), σ1)
  else
  if ab_cmp q1.1 (0 : Int) = (0 : Int) then
    some ((-2 : Int), σ1)
  else
  (g_X0_used 13 q1.1 σ1).bind fun q2 =>
  (g_X7_numberOf q2.1 q2.2).bind fun q3 =>
  some (q3.1, q3.2)
set_option maxRecDepth 20000 in
theorem s_X8_find {σ : st_S} {q : Int × st_S} (hk : g_X8_find σ = some q) : f_X8_find ((1 : Nat) : Int) (mk_ σ) = some ((q.1, mk_ q.2)) := by
  unfold g_X8_find at hk
  unfold f_X8_find
  refine mb_getR 2 rfl rfl (by decide) ?_
  obtain ⟨q1, hq1, hk⟩ := ab_bnd hk
  refine mb_on rfl (s_X1_asName (rfl : isBy 2 = true) hq1) ?_
  refine mb_getR 2 rfl rfl (by decide) ?_
  obtain ⟨σ1, hσ1, hk⟩ := ab_bnd hk
  refine mb_put rfl rfl hσ1 ?_
  by_cases hc : ab_cmp q1.1 (-1 : Int) = (0 : Int)
  · have hk := ab_ifp hk hc
    refine mb_ifp hc ?_
    obtain rfl := Option.some.inj hk
    rfl
  · have hk := ab_ifn hk hc
    refine mb_ifn hc ?_
    by_cases hc : ab_cmp q1.1 (0 : Int) = (0 : Int)
    · have hk := ab_ifp hk hc
      refine mb_ifp hc ?_
      obtain rfl := Option.some.inj hk
      rfl
    · have hk := ab_ifn hk hc
      refine mb_ifn hc ?_
      refine mb_getR 147 rfl rfl (by decide) ?_
      refine mb_getR 13 rfl rfl (by decide) ?_
      obtain ⟨q2, hq2, hk⟩ := ab_bnd hk
      refine mb_on rfl (s_X0_used (rfl : isBk 13 = true) hq2) ?_
      obtain ⟨q3, hq3, hk⟩ := ab_bnd hk
      refine mb_on rfl (s_X7_numberOf hq3) ?_
      obtain rfl := Option.some.inj hk
      rfl
noncomputable def g_X8_at (a1 : Int) (σ : st_S) : Option (Int × st_S) :=
  (g_X8_isAddress a1 σ).bind fun q1 =>
  if q1.1 = (0 : Int) then
    some ((-2 : Int), q1.2)
  else
  (g_X0_stringAt 13 a1 q1.2).bind fun q2 =>
  some (q2.1, q2.2)
set_option maxRecDepth 20000 in
theorem s_X8_at {a1 : Int} {σ : st_S} {q : Int × st_S} (hk : g_X8_at a1 σ = some q) : f_X8_at ((1 : Nat) : Int) a1 (mk_ σ) = some ((q.1, mk_ q.2)) := by
  unfold g_X8_at at hk
  unfold f_X8_at
  obtain ⟨q1, hq1, hk⟩ := ab_bnd hk
  refine mb_eq (s_X8_isAddress hq1) ?_
  by_cases hc : q1.1 = (0 : Int)
  · have hk := ab_ifp hk hc
    refine mb_ifp hc ?_
    obtain rfl := Option.some.inj hk
    rfl
  · have hk := ab_ifn hk hc
    refine mb_ifn hc ?_
    refine mb_getR 13 rfl rfl (by decide) ?_
    obtain ⟨q2, hq2, hk⟩ := ab_bnd hk
    refine mb_on rfl (s_X0_stringAt (rfl : isBk 13 = true) hq2) ?_
    obtain rfl := Option.some.inj hk
    rfl
noncomputable def g_X8_entry (a1 : Int) (a2 : Int) (σ : st_S) : Option (Int × st_S) :=
  if a1 < (0 : Int) then
    some ((-2 : Int), σ)
  else
  if a2 < (0 : Int) then
    some ((-2 : Int), σ)
  else
  if a2 ≤ (5 : Int) then
    if a1 < σ 156 1 then
      (sa_ld σ 157 72 a1).bind fun t1 =>
      (sa_en t1).bind fun e1 =>
      if a2 = (0 : Int) then
        some (σ e1 0, σ)
      else
      if a2 = (1 : Int) then
        some (σ e1 2, σ)
      else
      if a2 = (2 : Int) then
        some (σ e1 9, σ)
      else
      if a2 = (3 : Int) then
        some (σ e1 6, σ)
      else
      if a2 = (4 : Int) then
        some (ab_w32 ((σ e1 7) - (σ e1 6)), σ)
      else
      (g_J6_bitCount_0f7a4 (σ e1 8) σ).bind fun q2 =>
      some (q2.1, q2.2)
    else
    some ((-1 : Int), σ)
  else
  some ((-2 : Int), σ)
set_option maxRecDepth 20000 in
theorem s_X8_entry {a1 : Int} {a2 : Int} {σ : st_S} {q : Int × st_S} (hk : g_X8_entry a1 a2 σ = some q) : f_X8_entry ((1 : Nat) : Int) a1 a2 (mk_ σ) = some ((q.1, mk_ q.2)) := by
  unfold g_X8_entry at hk
  unfold f_X8_entry
  by_cases hc : a1 < (0 : Int)
  · have hk := ab_ifp hk hc
    refine mb_ifp hc ?_
    obtain rfl := Option.some.inj hk
    rfl
  · have hk := ab_ifn hk hc
    refine mb_ifn hc ?_
    by_cases hc : a2 < (0 : Int)
    · have hk := ab_ifp hk hc
      refine mb_ifp hc ?_
      obtain rfl := Option.some.inj hk
      rfl
    · have hk := ab_ifn hk hc
      refine mb_ifn hc ?_
      by_cases hc : a2 ≤ (5 : Int)
      · have hk := ab_ifp hk hc
        refine mb_ifp hc ?_
        refine mb_getR 156 rfl rfl (by decide) ?_
        refine mb_get rfl rfl ?_
        by_cases hc : a1 < σ 156 1
        · have hk := ab_ifp hk hc
          refine mb_ifp hc ?_
          refine mb_getR 156 rfl rfl (by decide) ?_
          refine mb_getR 157 rfl rfl (by decide) ?_
          obtain ⟨t1, ht1, hk⟩ := ab_bnd hk
          obtain ⟨e1, he1, hk⟩ := ab_bnd hk
          have pe1 : isEn e1 = true := en_of he1
          refine mb_aldE ⟨rfl, rfl, fun _ => rfl⟩ ht1 he1 ?_
          by_cases hc : a2 = (0 : Int)
          · have hk := ab_ifp hk hc
            refine mb_ifp hc ?_
            refine mb_get (en_ly pe1).1 ((en_ly pe1).2.1 _) ?_
            obtain rfl := Option.some.inj hk
            rfl
          · have hk := ab_ifn hk hc
            refine mb_ifn hc ?_
            by_cases hc : a2 = (1 : Int)
            · have hk := ab_ifp hk hc
              refine mb_ifp hc ?_
              refine mb_get (en_ly pe1).1 ((en_ly pe1).2.1 _) ?_
              obtain rfl := Option.some.inj hk
              rfl
            · have hk := ab_ifn hk hc
              refine mb_ifn hc ?_
              by_cases hc : a2 = (2 : Int)
              · have hk := ab_ifp hk hc
                refine mb_ifp hc ?_
                refine mb_get (en_ly pe1).1 ((en_ly pe1).2.1 _) ?_
                obtain rfl := Option.some.inj hk
                rfl
              · have hk := ab_ifn hk hc
                refine mb_ifn hc ?_
                by_cases hc : a2 = (3 : Int)
                · have hk := ab_ifp hk hc
                  refine mb_ifp hc ?_
                  refine mb_get (en_ly pe1).1 ((en_ly pe1).2.1 _) ?_
                  obtain rfl := Option.some.inj hk
                  rfl
                · have hk := ab_ifn hk hc
                  refine mb_ifn hc ?_
                  by_cases hc : a2 = (4 : Int)
                  · have hk := ab_ifp hk hc
                    refine mb_ifp hc ?_
                    refine mb_get (en_ly pe1).1 ((en_ly pe1).2.1 _) ?_
                    refine mb_get (en_ly pe1).1 ((en_ly pe1).2.1 _) ?_
                    obtain rfl := Option.some.inj hk
                    rfl
                  · have hk := ab_ifn hk hc
                    refine mb_ifn hc ?_
                    refine mb_get (en_ly pe1).1 ((en_ly pe1).2.1 _) ?_
                    obtain ⟨q2, hq2, hk⟩ := ab_bnd hk
                    refine mb_eq (s_J6_bitCount_0f7a4 hq2) ?_
                    obtain rfl := Option.some.inj hk
                    rfl
        · have hk := ab_ifn hk hc
          refine mb_ifn hc ?_
          obtain rfl := Option.some.inj hk
          rfl
      · have hk := ab_ifn hk hc
        refine mb_ifn hc ?_
        obtain rfl := Option.some.inj hk
        rfl
noncomputable def g_X8_row_J76 (v3 : Int) (v4 : Nat) (v5 : Int) (s0 : Int) (σ : st_S) : Option (Int × st_S) :=
  if ab_w32 (s0 - v5) ≤ v3 then
    some ((-1 : Int), σ)
  else
  (sa_ld σ (v4 + 2) 6 (ab_w32 (v5 + v3))).bind fun t1 =>
  some (t1, σ)
set_option maxRecDepth 20000 in
theorem s_X8_row_J76 : ∀ (v3 : Int) (v4 : Nat) (v5 : Int) (s0 : Int) (pv4 : isEn v4 = true) (σ : st_S) (q : Int × st_S), g_X8_row_J76 v3 v4 v5 s0 σ = some q → f_X8_row_J76 v3 ((v4 : Nat) : Int) v5 s0 (mk_ σ) = some ((q.1, mk_ q.2)) := by
  intro v3 v4 v5 s0 pv4 σ q hk
  unfold g_X8_row_J76 at hk
  unfold f_X8_row_J76
  by_cases hc : ab_w32 (s0 - v5) ≤ v3
  · have hk := ab_ifp hk hc
    refine mb_ifp hc ?_
    obtain rfl := Option.some.inj hk
    rfl
  · have hk := ab_ifn hk hc
    refine mb_ifn hc ?_
    refine mb_getR (v4 + 2) (en_ly pv4).1 ((en_ly pv4).2.1 _) (by omega) ?_
    obtain ⟨t1, ht1, hk⟩ := ab_bnd hk
    refine mb_ald (en_ly pv4).2.2.2 ht1 ?_
    obtain rfl := Option.some.inj hk
    rfl
noncomputable def g_X8_row_J57 (v2 : Int) (v3 : Int) (v4 : Nat) (s0 : Int) (σ : st_S) : Option (Int × st_S) :=
  if v2 = (0 : Int) then
    g_X8_row_J76 v3 v4 s0 (σ v4 6) σ
  else
  g_X8_row_J76 v3 v4 s0 (σ v4 7) σ
set_option maxRecDepth 20000 in
theorem s_X8_row_J57 : ∀ (v2 : Int) (v3 : Int) (v4 : Nat) (s0 : Int) (pv4 : isEn v4 = true) (σ : st_S) (q : Int × st_S), g_X8_row_J57 v2 v3 v4 s0 σ = some q → f_X8_row_J57 v2 v3 ((v4 : Nat) : Int) s0 (mk_ σ) = some ((q.1, mk_ q.2)) := by
  intro v2 v3 v4 s0 pv4 σ q hk
  unfold g_X8_row_J57 at hk
  unfold f_X8_row_J57
  by_cases hc : v2 = (0 : Int)
  · have hk := ab_ifp hk hc
    refine mb_ifp hc ?_
    refine mb_get (en_ly pv4).1 ((en_ly pv4).2.1 _) ?_
    exact s_X8_row_J76 _ _ _ _ pv4 _ _ hk
  · have hk := ab_ifn hk hc
    refine mb_ifn hc ?_
    refine mb_get (en_ly pv4).1 ((en_ly pv4).2.1 _) ?_
    exact s_X8_row_J76 _ _ _ _ pv4 _ _ hk
noncomputable def g_X8_row (a1 : Int) (a2 : Int) (a3 : Int) (σ : st_S) : Option (Int × st_S) :=
  if a1 < (0 : Int) then
    some ((-2 : Int), σ)
  else
  if a2 < (0 : Int) then
    some ((-2 : Int), σ)
  else
  if (1 : Int) < a2 then
    some ((-2 : Int), σ)
  else
  if (0 : Int) ≤ a3 then
    if a1 < σ 156 1 then
      (sa_ld σ 157 72 a1).bind fun t1 =>
      (sa_en t1).bind fun e1 =>
      if a2 = (0 : Int) then
        g_X8_row_J57 a2 a3 e1 (0 : Int) σ
      else
      g_X8_row_J57 a2 a3 e1 (σ e1 6) σ
    else
    some ((-1 : Int), σ)
  else
  some ((-2 : Int), σ)
set_option maxRecDepth 20000 in
theorem s_X8_row {a1 : Int} {a2 : Int} {a3 : Int} {σ : st_S} {q : Int × st_S} (hk : g_X8_row a1 a2 a3 σ = some q) : f_X8_row ((1 : Nat) : Int) a1 a2 a3 (mk_ σ) = some ((q.1, mk_ q.2)) := by
  unfold g_X8_row at hk
  unfold f_X8_row
  by_cases hc : a1 < (0 : Int)
  · have hk := ab_ifp hk hc
    refine mb_ifp hc ?_
    obtain rfl := Option.some.inj hk
    rfl
  · have hk := ab_ifn hk hc
    refine mb_ifn hc ?_
    by_cases hc : a2 < (0 : Int)
    · have hk := ab_ifp hk hc
      refine mb_ifp hc ?_
      obtain rfl := Option.some.inj hk
      rfl
    · have hk := ab_ifn hk hc
      refine mb_ifn hc ?_
      by_cases hc : (1 : Int) < a2
      · have hk := ab_ifp hk hc
        refine mb_ifp hc ?_
        obtain rfl := Option.some.inj hk
        rfl
      · have hk := ab_ifn hk hc
        refine mb_ifn hc ?_
        by_cases hc : (0 : Int) ≤ a3
        · have hk := ab_ifp hk hc
          refine mb_ifp hc ?_
          refine mb_getR 156 rfl rfl (by decide) ?_
          refine mb_get rfl rfl ?_
          by_cases hc : a1 < σ 156 1
          · have hk := ab_ifp hk hc
            refine mb_ifp hc ?_
            refine mb_getR 156 rfl rfl (by decide) ?_
            refine mb_getR 157 rfl rfl (by decide) ?_
            obtain ⟨t1, ht1, hk⟩ := ab_bnd hk
            obtain ⟨e1, he1, hk⟩ := ab_bnd hk
            have pe1 : isEn e1 = true := en_of he1
            refine mb_aldE ⟨rfl, rfl, fun _ => rfl⟩ ht1 he1 ?_
            by_cases hc : a2 = (0 : Int)
            · have hk := ab_ifp hk hc
              refine mb_ifp hc ?_
              exact s_X8_row_J57 _ _ _ _ pe1 _ _ hk
            · have hk := ab_ifn hk hc
              refine mb_ifn hc ?_
              refine mb_get (en_ly pe1).1 ((en_ly pe1).2.1 _) ?_
              exact s_X8_row_J57 _ _ _ _ pe1 _ _ hk
          · have hk := ab_ifn hk hc
            refine mb_ifn hc ?_
            obtain rfl := Option.some.inj hk
            rfl
        · have hk := ab_ifn hk hc
          refine mb_ifn hc ?_
          obtain rfl := Option.some.inj hk
          rfl
noncomputable def g_X8_isLine_J19 (σ : st_S) : Option (Int × st_S) :=
  some ((0 : Int), σ)
set_option maxRecDepth 20000 in
theorem s_X8_isLine_J19 : ∀ (σ : st_S) (q : Int × st_S), g_X8_isLine_J19 σ = some q → f_X8_isLine_J19 (mk_ σ) = some ((q.1, mk_ q.2)) := by
  intro σ q hk
  unfold g_X8_isLine_J19 at hk
  unfold f_X8_isLine_J19
  obtain rfl := Option.some.inj hk
  rfl
noncomputable def g_X8_isLine (a1 : Int) (σ : st_S) : Option (Int × st_S) :=
  if a1 < (0 : Int) then
    g_X8_isLine_J19 σ
  else
  if σ 156 3 ≤ a1 then
    g_X8_isLine_J19 σ
  else
  some ((1 : Int), σ)
set_option maxRecDepth 20000 in
theorem s_X8_isLine {a1 : Int} {σ : st_S} {q : Int × st_S} (hk : g_X8_isLine a1 σ = some q) : f_X8_isLine ((1 : Nat) : Int) a1 (mk_ σ) = some ((q.1, mk_ q.2)) := by
  unfold g_X8_isLine at hk
  unfold f_X8_isLine
  by_cases hc : a1 < (0 : Int)
  · have hk := ab_ifp hk hc
    refine mb_ifp hc ?_
    exact s_X8_isLine_J19  _ _ hk
  · have hk := ab_ifn hk hc
    refine mb_ifn hc ?_
    refine mb_getR 156 rfl rfl (by decide) ?_
    refine mb_get rfl rfl ?_
    by_cases hc : σ 156 3 ≤ a1
    · have hk := ab_ifp hk hc
      refine mb_ifp hc ?_
      exact s_X8_isLine_J19  _ _ hk
    · have hk := ab_ifn hk hc
      refine mb_ifn hc ?_
      obtain rfl := Option.some.inj hk
      rfl
noncomputable def g_X8_line (a1 : Int) (a2 : Int) (σ : st_S) : Option (Int × st_S) :=
  (g_X8_isLine a1 σ).bind fun q1 =>
  if q1.1 = (0 : Int) then
    some ((-2 : Int), q1.2)
  else
  (sa_ld q1.2 158 73 a1).bind fun t2 =>
  if a2 = (0 : Int) then
    some (t2, q1.2)
  else
  if a2 = (1 : Int) then
    (sa_ld q1.2 158 73 (ab_w32 (a1 + (1 : Int)))).bind fun t6 =>
    some (ab_w32 (t6 - t2), q1.2)
  else
  if a2 = (2 : Int) then
    (g_X6_stringsOfLine 156 a1 q1.2).bind fun q4 =>
    (g_J6_bitCount_0f7a4 q4.1 q4.2).bind fun q5 =>
    some (q5.1, q5.2)
  else
  if a2 = (3 : Int) then
    (sa_ld q1.2 157 72 t2).bind fun t3 =>
    (sa_en t3).bind fun e1 =>
    some (q1.2 e1 10, q1.2)
  else
  some ((-2 : Int), q1.2)
set_option maxRecDepth 20000 in
theorem s_X8_line {a1 : Int} {a2 : Int} {σ : st_S} {q : Int × st_S} (hk : g_X8_line a1 a2 σ = some q) : f_X8_line ((1 : Nat) : Int) a1 a2 (mk_ σ) = some ((q.1, mk_ q.2)) := by
  unfold g_X8_line at hk
  unfold f_X8_line
  obtain ⟨q1, hq1, hk⟩ := ab_bnd hk
  refine mb_on rfl (s_X8_isLine hq1) ?_
  by_cases hc : q1.1 = (0 : Int)
  · have hk := ab_ifp hk hc
    refine mb_ifp hc ?_
    obtain rfl := Option.some.inj hk
    rfl
  · have hk := ab_ifn hk hc
    refine mb_ifn hc ?_
    refine mb_getR 156 rfl rfl (by decide) ?_
    refine mb_getR 158 rfl rfl (by decide) ?_
    obtain ⟨t2, ht2, hk⟩ := ab_bnd hk
    refine mb_ald ⟨rfl, rfl, fun _ => rfl⟩ ht2 ?_
    by_cases hc : a2 = (0 : Int)
    · have hk := ab_ifp hk hc
      refine mb_ifp hc ?_
      obtain rfl := Option.some.inj hk
      rfl
    · have hk := ab_ifn hk hc
      refine mb_ifn hc ?_
      by_cases hc : a2 = (1 : Int)
      · have hk := ab_ifp hk hc
        refine mb_ifp hc ?_
        refine mb_getR 156 rfl rfl (by decide) ?_
        refine mb_getR 158 rfl rfl (by decide) ?_
        obtain ⟨t6, ht6, hk⟩ := ab_bnd hk
        refine mb_ald ⟨rfl, rfl, fun _ => rfl⟩ ht6 ?_
        obtain rfl := Option.some.inj hk
        rfl
      · have hk := ab_ifn hk hc
        refine mb_ifn hc ?_
        by_cases hc : a2 = (2 : Int)
        · have hk := ab_ifp hk hc
          refine mb_ifp hc ?_
          refine mb_getR 156 rfl rfl (by decide) ?_
          obtain ⟨q4, hq4, hk⟩ := ab_bnd hk
          refine mb_on rfl (s_X6_stringsOfLine (rfl : isTu 156 = true) hq4) ?_
          obtain ⟨q5, hq5, hk⟩ := ab_bnd hk
          refine mb_eq (s_J6_bitCount_0f7a4 hq5) ?_
          obtain rfl := Option.some.inj hk
          rfl
        · have hk := ab_ifn hk hc
          refine mb_ifn hc ?_
          by_cases hc : a2 = (3 : Int)
          · have hk := ab_ifp hk hc
            refine mb_ifp hc ?_
            refine mb_getR 156 rfl rfl (by decide) ?_
            refine mb_getR 157 rfl rfl (by decide) ?_
            obtain ⟨t3, ht3, hk⟩ := ab_bnd hk
            obtain ⟨e1, he1, hk⟩ := ab_bnd hk
            have pe1 : isEn e1 = true := en_of he1
            refine mb_aldE ⟨rfl, rfl, fun _ => rfl⟩ ht3 he1 ?_
            refine mb_get (en_ly pe1).1 ((en_ly pe1).2.1 _) ?_
            obtain rfl := Option.some.inj hk
            rfl
          · have hk := ab_ifn hk hc
            refine mb_ifn hc ?_
            obtain rfl := Option.some.inj hk
            rfl
noncomputable def g_X8_address_J87 (rec : Int → Int → Int → Int → Int → st_S → Option (Int × st_S)) (v1 : Int) (v2 : Int) (v3 : Int) (v4 : Int) (v5 : Int) (σ : st_S) : Option (Int × st_S) :=
  rec v1 v2 v3 v4 (ab_w32 (v5 + (1 : Int))) σ
set_option maxRecDepth 20000 in
theorem s_X8_address_J87 {rec : Int → Int → Int → Int → Int → st_S → Option (Int × st_S)} {recf : Int → Int → Int → Int → Int → Int → ab_H → Option (Int × ab_H)} (hrec : ∀ (v1 : Int) (v2 : Int) (v3 : Int) (v4 : Int) (v5 : Int) (σ : st_S) (q : Int × st_S), rec v1 v2 v3 v4 v5 σ = some q → recf ((1 : Nat) : Int) v1 v2 v3 v4 v5 (mk_ σ) = some ((q.1, mk_ q.2))) : ∀ (v1 : Int) (v2 : Int) (v3 : Int) (v4 : Int) (v5 : Int) (σ : st_S) (q : Int × st_S), g_X8_address_J87 rec v1 v2 v3 v4 v5 σ = some q → f_X8_address_J87 recf ((1 : Nat) : Int) v1 v2 v3 v4 v5 (mk_ σ) = some ((q.1, mk_ q.2)) := by
  intro v1 v2 v3 v4 v5 σ q hk
  unfold g_X8_address_J87 at hk
  unfold f_X8_address_J87
  exact hrec _ _ _ _ _  _ _ hk
noncomputable def g_X8_address_L31 : Nat → Int → Int → Int → Int → Int → st_S → Option (Int × st_S)
  | 0, _, _, _, _, _, _ => none
  | n + 1, v1, v2, v3, v4, v5, σ =>
    (sa_ld σ 158 73 (ab_w32 (v1 + (1 : Int)))).bind fun t1 =>
    if t1 ≤ v5 then
      some ((-1 : Int), σ)
    else
    (sa_ld σ 157 72 v5).bind fun t2 =>
    (sa_en t2).bind fun e1 =>
    if σ e1 1 = v4 then
      g_X8_address_J87 (g_X8_address_L31 n) v1 v2 v3 v4 v5 σ
    else
    if v3 = v2 then
      some (σ e1 1, σ)
    else
    g_X8_address_J87 (g_X8_address_L31 n) v1 v2 (ab_w32 (v3 + (1 : Int))) (σ e1 1) v5 σ
set_option maxRecDepth 20000 in
theorem s_X8_address_L31 : ∀ (n : Nat) (v1 : Int) (v2 : Int) (v3 : Int) (v4 : Int) (v5 : Int) (σ : st_S) (q : Int × st_S), g_X8_address_L31 n v1 v2 v3 v4 v5 σ = some q → f_X8_address_L31 n ((1 : Nat) : Int) v1 v2 v3 v4 v5 (mk_ σ) = some ((q.1, mk_ q.2)) := by
  intro n
  induction n with
  | zero => intro v1 v2 v3 v4 v5 σ q hk; cases hk
  | succ n ih =>
    intro v1 v2 v3 v4 v5 σ q hk
    unfold g_X8_address_L31 at hk
    unfold f_X8_address_L31
    refine mb_getR 156 rfl rfl (by decide) ?_
    refine mb_getR 158 rfl rfl (by decide) ?_
    obtain ⟨t1, ht1, hk⟩ := ab_bnd hk
    refine mb_ald ⟨rfl, rfl, fun _ => rfl⟩ ht1 ?_
    by_cases hc : t1 ≤ v5
    · have hk := ab_ifp hk hc
      refine mb_ifp hc ?_
      obtain rfl := Option.some.inj hk
      rfl
    · have hk := ab_ifn hk hc
      refine mb_ifn hc ?_
      refine mb_getR 156 rfl rfl (by decide) ?_
      refine mb_getR 157 rfl rfl (by decide) ?_
      obtain ⟨t2, ht2, hk⟩ := ab_bnd hk
      obtain ⟨e1, he1, hk⟩ := ab_bnd hk
      have pe1 : isEn e1 = true := en_of he1
      refine mb_aldE ⟨rfl, rfl, fun _ => rfl⟩ ht2 he1 ?_
      refine mb_get (en_ly pe1).1 ((en_ly pe1).2.1 _) ?_
      by_cases hc : σ e1 1 = v4
      · have hk := ab_ifp hk hc
        refine mb_ifp hc ?_
        exact s_X8_address_J87 ih _ _ _ _ _  _ _ hk
      · have hk := ab_ifn hk hc
        refine mb_ifn hc ?_
        by_cases hc : v3 = v2
        · have hk := ab_ifp hk hc
          refine mb_ifp hc ?_
          obtain rfl := Option.some.inj hk
          rfl
        · have hk := ab_ifn hk hc
          refine mb_ifn hc ?_
          exact s_X8_address_J87 ih _ _ _ _ _  _ _ hk
noncomputable def g_X8_address (a1 : Int) (a2 : Int) (σ : st_S) : Option (Int × st_S) :=
  (g_X8_isLine a1 σ).bind fun q1 =>
  if q1.1 = (0 : Int) then
    some ((-2 : Int), q1.2)
  else
  if (0 : Int) ≤ a2 then
    (sa_ld q1.2 158 73 a1).bind fun t2 =>
    g_X8_address_L31 ab_FU a1 a2 (0 : Int) (-1 : Int) t2 q1.2
  else
  some ((-2 : Int), q1.2)
set_option maxRecDepth 20000 in
theorem s_X8_address {a1 : Int} {a2 : Int} {σ : st_S} {q : Int × st_S} (hk : g_X8_address a1 a2 σ = some q) : f_X8_address ((1 : Nat) : Int) a1 a2 (mk_ σ) = some ((q.1, mk_ q.2)) := by
  unfold g_X8_address at hk
  unfold f_X8_address
  obtain ⟨q1, hq1, hk⟩ := ab_bnd hk
  refine mb_on rfl (s_X8_isLine hq1) ?_
  by_cases hc : q1.1 = (0 : Int)
  · have hk := ab_ifp hk hc
    refine mb_ifp hc ?_
    obtain rfl := Option.some.inj hk
    rfl
  · have hk := ab_ifn hk hc
    refine mb_ifn hc ?_
    by_cases hc : (0 : Int) ≤ a2
    · have hk := ab_ifp hk hc
      refine mb_ifp hc ?_
      refine mb_getR 156 rfl rfl (by decide) ?_
      refine mb_getR 158 rfl rfl (by decide) ?_
      obtain ⟨t2, ht2, hk⟩ := ab_bnd hk
      refine mb_ald ⟨rfl, rfl, fun _ => rfl⟩ ht2 ?_
      refine s_X8_address_L31 _ _ _ _ _ _  _ _ hk
    · have hk := ab_ifn hk hc
      refine mb_ifn hc ?_
      obtain rfl := Option.some.inj hk
      rfl
noncomputable def g_X8_isHead_J19 (σ : st_S) : Option (Int × st_S) :=
  some ((0 : Int), σ)
set_option maxRecDepth 20000 in
theorem s_X8_isHead_J19 : ∀ (σ : st_S) (q : Int × st_S), g_X8_isHead_J19 σ = some q → f_X8_isHead_J19 (mk_ σ) = some ((q.1, mk_ q.2)) := by
  intro σ q hk
  unfold g_X8_isHead_J19 at hk
  unfold f_X8_isHead_J19
  obtain rfl := Option.some.inj hk
  rfl
noncomputable def g_X8_isHead (a1 : Int) (σ : st_S) : Option (Int × st_S) :=
  if a1 < (0 : Int) then
    g_X8_isHead_J19 σ
  else
  if σ 156 5 ≤ a1 then
    g_X8_isHead_J19 σ
  else
  some ((1 : Int), σ)
set_option maxRecDepth 20000 in
theorem s_X8_isHead {a1 : Int} {σ : st_S} {q : Int × st_S} (hk : g_X8_isHead a1 σ = some q) : f_X8_isHead ((1 : Nat) : Int) a1 (mk_ σ) = some ((q.1, mk_ q.2)) := by
  unfold g_X8_isHead at hk
  unfold f_X8_isHead
  by_cases hc : a1 < (0 : Int)
  · have hk := ab_ifp hk hc
    refine mb_ifp hc ?_
    exact s_X8_isHead_J19  _ _ hk
  · have hk := ab_ifn hk hc
    refine mb_ifn hc ?_
    refine mb_getR 156 rfl rfl (by decide) ?_
    refine mb_get rfl rfl ?_
    by_cases hc : σ 156 5 ≤ a1
    · have hk := ab_ifp hk hc
      refine mb_ifp hc ?_
      exact s_X8_isHead_J19  _ _ hk
    · have hk := ab_ifn hk hc
      refine mb_ifn hc ?_
      obtain rfl := Option.some.inj hk
      rfl
noncomputable def g_X8_head (a1 : Int) (a2 : Int) (σ : st_S) : Option (Int × st_S) :=
  (g_X8_isHead a1 σ).bind fun q1 =>
  if q1.1 = (0 : Int) then
    some ((-2 : Int), q1.2)
  else
  (sa_ld q1.2 159 73 a1).bind fun t2 =>
  (sa_ld q1.2 159 73 (ab_w32 (a1 + (1 : Int)))).bind fun t3 =>
  if a2 = (0 : Int) then
    (sa_ld q1.2 157 72 t2).bind fun t8 =>
    (sa_en t8).bind fun e3 =>
    some (q1.2 e3 3, q1.2)
  else
  if a2 = (1 : Int) then
    (sa_ld q1.2 157 72 (ab_w32 (t3 - (1 : Int)))).bind fun t6 =>
    (sa_en t6).bind fun e1 =>
    (sa_ld q1.2 157 72 t2).bind fun t7 =>
    (sa_en t7).bind fun e2 =>
    some (ab_w32 ((ab_w32 ((q1.2 e1 9) - (q1.2 e2 9))) + (1 : Int)), q1.2)
  else
  if a2 = (2 : Int) then
    some (ab_w32 ((ab_w32 ((ab_w32 (t3 - (1 : Int))) - t2)) + (1 : Int)), q1.2)
  else
  if a2 = (3 : Int) then
    (g_X6_stringsOfHead 156 a1 q1.2).bind fun q4 =>
    (g_J6_bitCount_0f7a4 q4.1 q4.2).bind fun q5 =>
    some (q5.1, q5.2)
  else
  some ((-2 : Int), q1.2)
set_option maxRecDepth 20000 in
theorem s_X8_head {a1 : Int} {a2 : Int} {σ : st_S} {q : Int × st_S} (hk : g_X8_head a1 a2 σ = some q) : f_X8_head ((1 : Nat) : Int) a1 a2 (mk_ σ) = some ((q.1, mk_ q.2)) := by
  unfold g_X8_head at hk
  unfold f_X8_head
  obtain ⟨q1, hq1, hk⟩ := ab_bnd hk
  refine mb_on rfl (s_X8_isHead hq1) ?_
  by_cases hc : q1.1 = (0 : Int)
  · have hk := ab_ifp hk hc
    refine mb_ifp hc ?_
    obtain rfl := Option.some.inj hk
    rfl
  · have hk := ab_ifn hk hc
    refine mb_ifn hc ?_
    refine mb_getR 156 rfl rfl (by decide) ?_
    refine mb_getR 159 rfl rfl (by decide) ?_
    obtain ⟨t2, ht2, hk⟩ := ab_bnd hk
    refine mb_ald ⟨rfl, rfl, fun _ => rfl⟩ ht2 ?_
    refine mb_getR 156 rfl rfl (by decide) ?_
    refine mb_getR 159 rfl rfl (by decide) ?_
    obtain ⟨t3, ht3, hk⟩ := ab_bnd hk
    refine mb_ald ⟨rfl, rfl, fun _ => rfl⟩ ht3 ?_
    by_cases hc : a2 = (0 : Int)
    · have hk := ab_ifp hk hc
      refine mb_ifp hc ?_
      refine mb_getR 156 rfl rfl (by decide) ?_
      refine mb_getR 157 rfl rfl (by decide) ?_
      obtain ⟨t8, ht8, hk⟩ := ab_bnd hk
      obtain ⟨e3, he3, hk⟩ := ab_bnd hk
      have pe3 : isEn e3 = true := en_of he3
      refine mb_aldE ⟨rfl, rfl, fun _ => rfl⟩ ht8 he3 ?_
      refine mb_get (en_ly pe3).1 ((en_ly pe3).2.1 _) ?_
      obtain rfl := Option.some.inj hk
      rfl
    · have hk := ab_ifn hk hc
      refine mb_ifn hc ?_
      by_cases hc : a2 = (1 : Int)
      · have hk := ab_ifp hk hc
        refine mb_ifp hc ?_
        refine mb_getR 156 rfl rfl (by decide) ?_
        refine mb_getR 157 rfl rfl (by decide) ?_
        obtain ⟨t6, ht6, hk⟩ := ab_bnd hk
        obtain ⟨e1, he1, hk⟩ := ab_bnd hk
        have pe1 : isEn e1 = true := en_of he1
        refine mb_aldE ⟨rfl, rfl, fun _ => rfl⟩ ht6 he1 ?_
        refine mb_get (en_ly pe1).1 ((en_ly pe1).2.1 _) ?_
        refine mb_getR 156 rfl rfl (by decide) ?_
        refine mb_getR 157 rfl rfl (by decide) ?_
        obtain ⟨t7, ht7, hk⟩ := ab_bnd hk
        obtain ⟨e2, he2, hk⟩ := ab_bnd hk
        have pe2 : isEn e2 = true := en_of he2
        refine mb_aldE ⟨rfl, rfl, fun _ => rfl⟩ ht7 he2 ?_
        refine mb_get (en_ly pe2).1 ((en_ly pe2).2.1 _) ?_
        obtain rfl := Option.some.inj hk
        rfl
      · have hk := ab_ifn hk hc
        refine mb_ifn hc ?_
        by_cases hc : a2 = (2 : Int)
        · have hk := ab_ifp hk hc
          refine mb_ifp hc ?_
          obtain rfl := Option.some.inj hk
          rfl
        · have hk := ab_ifn hk hc
          refine mb_ifn hc ?_
          by_cases hc : a2 = (3 : Int)
          · have hk := ab_ifp hk hc
            refine mb_ifp hc ?_
            refine mb_getR 156 rfl rfl (by decide) ?_
            obtain ⟨q4, hq4, hk⟩ := ab_bnd hk
            refine mb_on rfl (s_X6_stringsOfHead (rfl : isTu 156 = true) hq4) ?_
            obtain ⟨q5, hq5, hk⟩ := ab_bnd hk
            refine mb_eq (s_J6_bitCount_0f7a4 hq5) ?_
            obtain rfl := Option.some.inj hk
            rfl
          · have hk := ab_ifn hk hc
            refine mb_ifn hc ?_
            obtain rfl := Option.some.inj hk
            rfl
noncomputable def g_X8_rebuilt_L42 : Nat → Int → Int → st_S → Option (Int × st_S)
  | 0, _, _, _ => none
  | n + 1, v2, v3, σ =>
    if σ 13 0 ≤ v3 then
      some ((-1 : Int), σ)
    else
    (g_X8_hasBit v2 v3 σ).bind fun q1 =>
    if q1.1 = (0 : Int) then
      g_X8_rebuilt_L42 n v2 (ab_w32 (v3 + (1 : Int))) q1.2
    else
    some (v3, q1.2)
set_option maxRecDepth 20000 in
theorem s_X8_rebuilt_L42 : ∀ (n : Nat) (v2 : Int) (v3 : Int) (σ : st_S) (q : Int × st_S), g_X8_rebuilt_L42 n v2 v3 σ = some q → f_X8_rebuilt_L42 n ((1 : Nat) : Int) v2 v3 (mk_ σ) = some ((q.1, mk_ q.2)) := by
  intro n
  induction n with
  | zero => intro v2 v3 σ q hk; cases hk
  | succ n ih =>
    intro v2 v3 σ q hk
    unfold g_X8_rebuilt_L42 at hk
    unfold f_X8_rebuilt_L42
    refine mb_getR 13 rfl rfl (by decide) ?_
    refine mb_get rfl rfl ?_
    by_cases hc : σ 13 0 ≤ v3
    · have hk := ab_ifp hk hc
      refine mb_ifp hc ?_
      obtain rfl := Option.some.inj hk
      rfl
    · have hk := ab_ifn hk hc
      refine mb_ifn hc ?_
      obtain ⟨q1, hq1, hk⟩ := ab_bnd hk
      refine mb_eq (s_X8_hasBit hq1) ?_
      by_cases hc : q1.1 = (0 : Int)
      · have hk := ab_ifp hk hc
        refine mb_ifp hc ?_
        exact ih _ _  _ _ hk
      · have hk := ab_ifn hk hc
        refine mb_ifn hc ?_
        obtain rfl := Option.some.inj hk
        rfl
noncomputable def g_X8_rebuilt (a1 : Int) (σ : st_S) : Option (Int × st_S) :=
  if (0 : Int) ≤ a1 then
    if a1 < σ 156 1 then
      (sa_ld σ 157 72 a1).bind fun t1 =>
      (sa_en t1).bind fun e1 =>
      (g_X6_stringsOfLine 156 (σ e1 9) σ).bind fun q2 =>
      g_X8_rebuilt_L42 ab_FU q2.1 (0 : Int) q2.2
    else
    some ((-1 : Int), σ)
  else
  some ((-2 : Int), σ)
set_option maxRecDepth 20000 in
theorem s_X8_rebuilt {a1 : Int} {σ : st_S} {q : Int × st_S} (hk : g_X8_rebuilt a1 σ = some q) : f_X8_rebuilt ((1 : Nat) : Int) a1 (mk_ σ) = some ((q.1, mk_ q.2)) := by
  unfold g_X8_rebuilt at hk
  unfold f_X8_rebuilt
  by_cases hc : (0 : Int) ≤ a1
  · have hk := ab_ifp hk hc
    refine mb_ifp hc ?_
    refine mb_getR 156 rfl rfl (by decide) ?_
    refine mb_get rfl rfl ?_
    by_cases hc : a1 < σ 156 1
    · have hk := ab_ifp hk hc
      refine mb_ifp hc ?_
      refine mb_getR 156 rfl rfl (by decide) ?_
      refine mb_getR 156 rfl rfl (by decide) ?_
      refine mb_getR 157 rfl rfl (by decide) ?_
      obtain ⟨t1, ht1, hk⟩ := ab_bnd hk
      obtain ⟨e1, he1, hk⟩ := ab_bnd hk
      have pe1 : isEn e1 = true := en_of he1
      refine mb_aldE ⟨rfl, rfl, fun _ => rfl⟩ ht1 he1 ?_
      refine mb_get (en_ly pe1).1 ((en_ly pe1).2.1 _) ?_
      obtain ⟨q2, hq2, hk⟩ := ab_bnd hk
      refine mb_on rfl (s_X6_stringsOfLine (rfl : isTu 156 = true) hq2) ?_
      refine s_X8_rebuilt_L42 _ _ _  _ _ hk
    · have hk := ab_ifn hk hc
      refine mb_ifn hc ?_
      obtain rfl := Option.some.inj hk
      rfl
  · have hk := ab_ifn hk hc
    refine mb_ifn hc ?_
    obtain rfl := Option.some.inj hk
    rfl
noncomputable def g_X8_lost (a1 : Int) (σ : st_S) : Option (Int × st_S) :=
  if (0 : Int) ≤ a1 then
    if σ 156 1 ≤ a1 then
      some ((-1 : Int), σ)
    else
    (sa_ld σ 157 72 a1).bind fun t1 =>
    (sa_en t1).bind fun e1 =>
    some (σ e1 8, σ)
  else
  some ((-2 : Int), σ)
set_option maxRecDepth 20000 in
theorem s_X8_lost {a1 : Int} {σ : st_S} {q : Int × st_S} (hk : g_X8_lost a1 σ = some q) : f_X8_lost ((1 : Nat) : Int) a1 (mk_ σ) = some ((q.1, mk_ q.2)) := by
  unfold g_X8_lost at hk
  unfold f_X8_lost
  by_cases hc : (0 : Int) ≤ a1
  · have hk := ab_ifp hk hc
    refine mb_ifp hc ?_
    refine mb_getR 156 rfl rfl (by decide) ?_
    refine mb_get rfl rfl ?_
    by_cases hc : σ 156 1 ≤ a1
    · have hk := ab_ifp hk hc
      refine mb_ifp hc ?_
      obtain rfl := Option.some.inj hk
      rfl
    · have hk := ab_ifn hk hc
      refine mb_ifn hc ?_
      refine mb_getR 156 rfl rfl (by decide) ?_
      refine mb_getR 157 rfl rfl (by decide) ?_
      obtain ⟨t1, ht1, hk⟩ := ab_bnd hk
      obtain ⟨e1, he1, hk⟩ := ab_bnd hk
      have pe1 : isEn e1 = true := en_of he1
      refine mb_aldE ⟨rfl, rfl, fun _ => rfl⟩ ht1 he1 ?_
      refine mb_get (en_ly pe1).1 ((en_ly pe1).2.1 _) ?_
      obtain rfl := Option.some.inj hk
      rfl
  · have hk := ab_ifn hk hc
    refine mb_ifn hc ?_
    obtain rfl := Option.some.inj hk
    rfl
noncomputable def g_X8_shown_J66 (rec : Int → Int → Int → Int → st_S → Option (Int × st_S)) (v1 : Int) (v2 : Int) (v3 : Int) (v4 : Int) (σ : st_S) : Option (Int × st_S) :=
  rec v1 v2 v3 (ab_w32 (v4 + (1 : Int))) σ
set_option maxRecDepth 20000 in
theorem s_X8_shown_J66 {rec : Int → Int → Int → Int → st_S → Option (Int × st_S)} {recf : Int → Int → Int → Int → Int → ab_H → Option (Int × ab_H)} (hrec : ∀ (v1 : Int) (v2 : Int) (v3 : Int) (v4 : Int) (σ : st_S) (q : Int × st_S), rec v1 v2 v3 v4 σ = some q → recf ((1 : Nat) : Int) v1 v2 v3 v4 (mk_ σ) = some ((q.1, mk_ q.2))) : ∀ (v1 : Int) (v2 : Int) (v3 : Int) (v4 : Int) (σ : st_S) (q : Int × st_S), g_X8_shown_J66 rec v1 v2 v3 v4 σ = some q → f_X8_shown_J66 recf ((1 : Nat) : Int) v1 v2 v3 v4 (mk_ σ) = some ((q.1, mk_ q.2)) := by
  intro v1 v2 v3 v4 σ q hk
  unfold g_X8_shown_J66 at hk
  unfold f_X8_shown_J66
  exact hrec _ _ _ _  _ _ hk
noncomputable def g_X8_shown_L25 : Nat → Int → Int → Int → Int → st_S → Option (Int × st_S)
  | 0, _, _, _, _, _ => none
  | n + 1, v1, v2, v3, v4, σ =>
    if σ 156 3 ≤ v4 then
      some (v3, σ)
    else
    (sa_ld σ 158 73 v4).bind fun t1 =>
    (sa_ld σ 157 72 t1).bind fun t2 =>
    (sa_en t2).bind fun e1 =>
    (g_X2_shows e1 v1 v2 σ).bind fun q3 =>
    if q3.1 = (0 : Int) then
      g_X8_shown_J66 (g_X8_shown_L25 n) v1 v2 v3 v4 q3.2
    else
    g_X8_shown_J66 (g_X8_shown_L25 n) v1 v2 (ab_w32 (v3 + (1 : Int))) v4 q3.2
set_option maxRecDepth 20000 in
theorem s_X8_shown_L25 : ∀ (n : Nat) (v1 : Int) (v2 : Int) (v3 : Int) (v4 : Int) (σ : st_S) (q : Int × st_S), g_X8_shown_L25 n v1 v2 v3 v4 σ = some q → f_X8_shown_L25 n ((1 : Nat) : Int) v1 v2 v3 v4 (mk_ σ) = some ((q.1, mk_ q.2)) := by
  intro n
  induction n with
  | zero => intro v1 v2 v3 v4 σ q hk; cases hk
  | succ n ih =>
    intro v1 v2 v3 v4 σ q hk
    unfold g_X8_shown_L25 at hk
    unfold f_X8_shown_L25
    refine mb_getR 156 rfl rfl (by decide) ?_
    refine mb_get rfl rfl ?_
    by_cases hc : σ 156 3 ≤ v4
    · have hk := ab_ifp hk hc
      refine mb_ifp hc ?_
      obtain rfl := Option.some.inj hk
      rfl
    · have hk := ab_ifn hk hc
      refine mb_ifn hc ?_
      refine mb_getR 156 rfl rfl (by decide) ?_
      refine mb_getR 157 rfl rfl (by decide) ?_
      refine mb_getR 156 rfl rfl (by decide) ?_
      refine mb_getR 158 rfl rfl (by decide) ?_
      obtain ⟨t1, ht1, hk⟩ := ab_bnd hk
      refine mb_ald ⟨rfl, rfl, fun _ => rfl⟩ ht1 ?_
      obtain ⟨t2, ht2, hk⟩ := ab_bnd hk
      obtain ⟨e1, he1, hk⟩ := ab_bnd hk
      have pe1 : isEn e1 = true := en_of he1
      refine mb_aldE ⟨rfl, rfl, fun _ => rfl⟩ ht2 he1 ?_
      obtain ⟨q3, hq3, hk⟩ := ab_bnd hk
      refine mb_on (en_ly pe1).1 (s_X2_shows pe1 hq3) ?_
      by_cases hc : q3.1 = (0 : Int)
      · have hk := ab_ifp hk hc
        refine mb_ifp hc ?_
        exact s_X8_shown_J66 ih _ _ _ _  _ _ hk
      · have hk := ab_ifn hk hc
        refine mb_ifn hc ?_
        exact s_X8_shown_J66 ih _ _ _ _  _ _ hk
noncomputable def g_X8_shown (a1 : Int) (a2 : Int) (σ : st_S) : Option (Int × st_S) :=
  (g_X8_isWord a1 σ).bind fun q1 =>
  if q1.1 = (0 : Int) then
    some ((-2 : Int), q1.2)
  else
  if a2 < (0 : Int) then
    some ((-2 : Int), q1.2)
  else
  if a2 ≤ (2 : Int) then
    g_X8_shown_L25 ab_FU a1 a2 (0 : Int) (0 : Int) q1.2
  else
  some ((-2 : Int), q1.2)
set_option maxRecDepth 20000 in
theorem s_X8_shown {a1 : Int} {a2 : Int} {σ : st_S} {q : Int × st_S} (hk : g_X8_shown a1 a2 σ = some q) : f_X8_shown ((1 : Nat) : Int) a1 a2 (mk_ σ) = some ((q.1, mk_ q.2)) := by
  unfold g_X8_shown at hk
  unfold f_X8_shown
  obtain ⟨q1, hq1, hk⟩ := ab_bnd hk
  refine mb_on rfl (s_X8_isWord hq1) ?_
  by_cases hc : q1.1 = (0 : Int)
  · have hk := ab_ifp hk hc
    refine mb_ifp hc ?_
    obtain rfl := Option.some.inj hk
    rfl
  · have hk := ab_ifn hk hc
    refine mb_ifn hc ?_
    by_cases hc : a2 < (0 : Int)
    · have hk := ab_ifp hk hc
      refine mb_ifp hc ?_
      obtain rfl := Option.some.inj hk
      rfl
    · have hk := ab_ifn hk hc
      refine mb_ifn hc ?_
      by_cases hc : a2 ≤ (2 : Int)
      · have hk := ab_ifp hk hc
        refine mb_ifp hc ?_
        refine s_X8_shown_L25 _ _ _ _ _  _ _ hk
      · have hk := ab_ifn hk hc
        refine mb_ifn hc ?_
        obtain rfl := Option.some.inj hk
        rfl
noncomputable def g_X8_twins_J50 (rec : Int → Int → Int → st_S → Option (Int × st_S)) (k56 : Int → Int → st_S → Option (Int × st_S)) (v1 : Int) (v2 : Int) (v3 : Int) (σ : st_S) : Option (Int × st_S) :=
  rec v1 v2 (ab_w32 (v3 + (1 : Int))) σ
set_option maxRecDepth 20000 in
theorem s_X8_twins_J50 {rec : Int → Int → Int → st_S → Option (Int × st_S)} {recf : Int → Int → Int → Int → ab_H → Option (Int × ab_H)} {k56 : Int → Int → st_S → Option (Int × st_S)} {kf56 : Int → Int → ab_H → Option (Int × ab_H)} (hrec : ∀ (v1 : Int) (v2 : Int) (v3 : Int) (σ : st_S) (q : Int × st_S), rec v1 v2 v3 σ = some q → recf ((1 : Nat) : Int) v1 v2 v3 (mk_ σ) = some ((q.1, mk_ q.2))) (hk56 : ∀ (v1 : Int) (v2 : Int) (σ : st_S) (q : Int × st_S), k56 v1 v2 σ = some q → kf56 v1 v2 (mk_ σ) = some ((q.1, mk_ q.2))) : ∀ (v1 : Int) (v2 : Int) (v3 : Int) (σ : st_S) (q : Int × st_S), g_X8_twins_J50 rec k56 v1 v2 v3 σ = some q → f_X8_twins_J50 recf kf56 ((1 : Nat) : Int) v1 v2 v3 (mk_ σ) = some ((q.1, mk_ q.2)) := by
  intro v1 v2 v3 σ q hk
  unfold g_X8_twins_J50 at hk
  unfold f_X8_twins_J50
  exact hrec _ _ _  _ _ hk
noncomputable def g_X8_twins_L15 (k56 : Int → Int → st_S → Option (Int × st_S)) : Nat → Int → Int → Int → st_S → Option (Int × st_S)
  | 0, _, _, _, _ => none
  | n + 1, v1, v2, v3, σ =>
    if σ 156 3 ≤ v3 then
      k56 v1 v2 σ
    else
    (g_X6_stringsOfLine 156 v3 σ).bind fun q1 =>
    (g_X8_hasBit q1.1 v1 q1.2).bind fun q2 =>
    if q2.1 = (0 : Int) then
      g_X8_twins_J50 (g_X8_twins_L15 k56 n) k56 v1 v2 v3 q2.2
    else
    g_X8_twins_J50 (g_X8_twins_L15 k56 n) k56 v1 (ab_or v2 q1.1) v3 q2.2
set_option maxRecDepth 20000 in
theorem s_X8_twins_L15 {k56 : Int → Int → st_S → Option (Int × st_S)} {kf56 : Int → Int → ab_H → Option (Int × ab_H)} (hk56 : ∀ (v1 : Int) (v2 : Int) (σ : st_S) (q : Int × st_S), k56 v1 v2 σ = some q → kf56 v1 v2 (mk_ σ) = some ((q.1, mk_ q.2))) : ∀ (n : Nat) (v1 : Int) (v2 : Int) (v3 : Int) (σ : st_S) (q : Int × st_S), g_X8_twins_L15 k56 n v1 v2 v3 σ = some q → f_X8_twins_L15 kf56 n ((1 : Nat) : Int) v1 v2 v3 (mk_ σ) = some ((q.1, mk_ q.2)) := by
  intro n
  induction n with
  | zero => intro v1 v2 v3 σ q hk; cases hk
  | succ n ih =>
    intro v1 v2 v3 σ q hk
    unfold g_X8_twins_L15 at hk
    unfold f_X8_twins_L15
    refine mb_getR 156 rfl rfl (by decide) ?_
    refine mb_get rfl rfl ?_
    by_cases hc : σ 156 3 ≤ v3
    · have hk := ab_ifp hk hc
      refine mb_ifp hc ?_
      exact hk56 _ _  _ _ hk
    · have hk := ab_ifn hk hc
      refine mb_ifn hc ?_
      refine mb_getR 156 rfl rfl (by decide) ?_
      obtain ⟨q1, hq1, hk⟩ := ab_bnd hk
      refine mb_on rfl (s_X6_stringsOfLine (rfl : isTu 156 = true) hq1) ?_
      obtain ⟨q2, hq2, hk⟩ := ab_bnd hk
      refine mb_eq (s_X8_hasBit hq2) ?_
      by_cases hc : q2.1 = (0 : Int)
      · have hk := ab_ifp hk hc
        refine mb_ifp hc ?_
        exact s_X8_twins_J50 ih hk56 _ _ _  _ _ hk
      · have hk := ab_ifn hk hc
        refine mb_ifn hc ?_
        exact s_X8_twins_J50 ih hk56 _ _ _  _ _ hk
noncomputable def g_X8_twins (a1 : Int) (σ : st_S) : Option (Int × st_S) :=
  (g_X8_isString a1 σ).bind fun q1 =>
  if q1.1 = (0 : Int) then
    some ((-2 : Int), q1.2)
  else
  g_X8_twins_L15 (fun w56_1 w56_2 σx56 =>
    some (ab_and w56_2 (ab_xor (ab_shl (1 : Int) w56_1) (-1 : Int)), σx56)) ab_FU a1 (0 : Int) (0 : Int) q1.2
set_option maxRecDepth 20000 in
theorem s_X8_twins {a1 : Int} {σ : st_S} {q : Int × st_S} (hk : g_X8_twins a1 σ = some q) : f_X8_twins ((1 : Nat) : Int) a1 (mk_ σ) = some ((q.1, mk_ q.2)) := by
  unfold g_X8_twins at hk
  unfold f_X8_twins
  obtain ⟨q1, hq1, hk⟩ := ab_bnd hk
  refine mb_on rfl (s_X8_isString hq1) ?_
  by_cases hc : q1.1 = (0 : Int)
  · have hk := ab_ifp hk hc
    refine mb_ifp hc ?_
    obtain rfl := Option.some.inj hk
    rfl
  · have hk := ab_ifn hk hc
    refine mb_ifn hc ?_
    refine s_X8_twins_L15 (fun w56_1 w56_2 σx56 q hk => ?_) _ _ _ _  _ _ hk
    · skip
      obtain rfl := Option.some.inj hk
      rfl
noncomputable def g_X8_crossed (a1 : Int) (a2 : Int) (σ : st_S) : Option (Int × st_S) :=
  (g_X8_isHead a1 σ).bind fun q1 =>
  if q1.1 = (0 : Int) then
    some ((-2 : Int), q1.2)
  else
  (g_X8_isHead a2 q1.2).bind fun q2 =>
  if q2.1 = (0 : Int) then
    some ((-2 : Int), q2.2)
  else
  (g_X6_stringsOfHead 156 a1 q2.2).bind fun q3 =>
  (g_X6_stringsOfHead 156 a2 q3.2).bind fun q4 =>
  some (ab_and q3.1 q4.1, q4.2)
set_option maxRecDepth 20000 in
theorem s_X8_crossed {a1 : Int} {a2 : Int} {σ : st_S} {q : Int × st_S} (hk : g_X8_crossed a1 a2 σ = some q) : f_X8_crossed ((1 : Nat) : Int) a1 a2 (mk_ σ) = some ((q.1, mk_ q.2)) := by
  unfold g_X8_crossed at hk
  unfold f_X8_crossed
  obtain ⟨q1, hq1, hk⟩ := ab_bnd hk
  refine mb_on rfl (s_X8_isHead hq1) ?_
  by_cases hc : q1.1 = (0 : Int)
  · have hk := ab_ifp hk hc
    refine mb_ifp hc ?_
    obtain rfl := Option.some.inj hk
    rfl
  · have hk := ab_ifn hk hc
    refine mb_ifn hc ?_
    obtain ⟨q2, hq2, hk⟩ := ab_bnd hk
    refine mb_on rfl (s_X8_isHead hq2) ?_
    by_cases hc : q2.1 = (0 : Int)
    · have hk := ab_ifp hk hc
      refine mb_ifp hc ?_
      obtain rfl := Option.some.inj hk
      rfl
    · have hk := ab_ifn hk hc
      refine mb_ifn hc ?_
      refine mb_getR 156 rfl rfl (by decide) ?_
      obtain ⟨q3, hq3, hk⟩ := ab_bnd hk
      refine mb_on rfl (s_X6_stringsOfHead (rfl : isTu 156 = true) hq3) ?_
      refine mb_getR 156 rfl rfl (by decide) ?_
      obtain ⟨q4, hq4, hk⟩ := ab_bnd hk
      refine mb_on rfl (s_X6_stringsOfHead (rfl : isTu 156 = true) hq4) ?_
      obtain rfl := Option.some.inj hk
      rfl
noncomputable def g_X8_would (a1 : Int) (a2 : Int) (a3 : Int) (σ : st_S) : Option (Int × st_S) :=
  (g_X8_isRole a1 σ).bind fun q1 =>
  if q1.1 = (0 : Int) then
    some ((-2 : Int), q1.2)
  else
  (g_X8_isWay a2 q1.2).bind fun q2 =>
  if q2.1 = (0 : Int) then
    some ((-2 : Int), q2.2)
  else
  if a3 < (0 : Int) then
    some ((-2 : Int), q2.2)
  else
  if a3 ≤ (2 : Int) then
    (g_X0_copyFrom 24 13 q2.2).bind fun q3 =>
    (sa_st q3 32 6 a1 a2).bind fun σ1 =>
    (g_X6_turnAll 376 24 σ1).bind fun q4 =>
    if a3 = (0 : Int) then
      some (q4 376 1, q4)
    else
    if a3 = (1 : Int) then
      some (q4 376 3, q4)
    else
    (g_X6_doublesOfAll 376 q4).bind fun q5 =>
    some (q5.1, q5.2)
  else
  some ((-2 : Int), q2.2)
set_option maxRecDepth 20000 in
theorem s_X8_would {a1 : Int} {a2 : Int} {a3 : Int} {σ : st_S} {q : Int × st_S} (hk : g_X8_would a1 a2 a3 σ = some q) : f_X8_would ((1 : Nat) : Int) a1 a2 a3 (mk_ σ) = some ((q.1, mk_ q.2)) := by
  unfold g_X8_would at hk
  unfold f_X8_would
  obtain ⟨q1, hq1, hk⟩ := ab_bnd hk
  refine mb_eq (s_X8_isRole hq1) ?_
  by_cases hc : q1.1 = (0 : Int)
  · have hk := ab_ifp hk hc
    refine mb_ifp hc ?_
    obtain rfl := Option.some.inj hk
    rfl
  · have hk := ab_ifn hk hc
    refine mb_ifn hc ?_
    obtain ⟨q2, hq2, hk⟩ := ab_bnd hk
    refine mb_eq (s_X8_isWay hq2) ?_
    by_cases hc : q2.1 = (0 : Int)
    · have hk := ab_ifp hk hc
      refine mb_ifp hc ?_
      obtain rfl := Option.some.inj hk
      rfl
    · have hk := ab_ifn hk hc
      refine mb_ifn hc ?_
      by_cases hc : a3 < (0 : Int)
      · have hk := ab_ifp hk hc
        refine mb_ifp hc ?_
        obtain rfl := Option.some.inj hk
        rfl
      · have hk := ab_ifn hk hc
        refine mb_ifn hc ?_
        by_cases hc : a3 ≤ (2 : Int)
        · have hk := ab_ifp hk hc
          refine mb_ifp hc ?_
          refine mb_getR 24 rfl rfl (by decide) ?_
          refine mb_getR 13 rfl rfl (by decide) ?_
          obtain ⟨q3, hq3, hk⟩ := ab_bnd hk
          refine mb_on rfl (s_X0_copyFrom (rfl : isBk 24 = true) (rfl : isBk 13 = true) hq3) ?_
          refine mb_getR 24 rfl rfl (by decide) ?_
          refine mb_getR 32 rfl rfl (by decide) ?_
          obtain ⟨σ1, hσ1, hk⟩ := ab_bnd hk
          refine mb_ast ⟨rfl, rfl, fun _ => rfl⟩ hσ1 ?_
          refine mb_getR 376 rfl rfl (by decide) ?_
          refine mb_getR 24 rfl rfl (by decide) ?_
          refine mb_getR 150 rfl rfl (by decide) ?_
          obtain ⟨q4, hq4, hk⟩ := ab_bnd hk
          refine mb_on rfl (s_X6_turnAll (rfl : isTu 376 = true) (rfl : isBk 24 = true) hq4) ?_
          by_cases hc : a3 = (0 : Int)
          · have hk := ab_ifp hk hc
            refine mb_ifp hc ?_
            refine mb_getR 376 rfl rfl (by decide) ?_
            refine mb_get rfl rfl ?_
            obtain rfl := Option.some.inj hk
            rfl
          · have hk := ab_ifn hk hc
            refine mb_ifn hc ?_
            by_cases hc : a3 = (1 : Int)
            · have hk := ab_ifp hk hc
              refine mb_ifp hc ?_
              refine mb_getR 376 rfl rfl (by decide) ?_
              refine mb_get rfl rfl ?_
              obtain rfl := Option.some.inj hk
              rfl
            · have hk := ab_ifn hk hc
              refine mb_ifn hc ?_
              refine mb_getR 376 rfl rfl (by decide) ?_
              obtain ⟨q5, hq5, hk⟩ := ab_bnd hk
              refine mb_on rfl (s_X6_doublesOfAll (rfl : isTu 376 = true) hq5) ?_
              obtain rfl := Option.some.inj hk
              rfl
        · have hk := ab_ifn hk hc
          refine mb_ifn hc ?_
          obtain rfl := Option.some.inj hk
          rfl
noncomputable def g_X8_print (a1 : Int) (σ : st_S) : Option (Int × st_S) :=
  (g_X8_isLine a1 σ).bind fun q1 =>
  if q1.1 = (0 : Int) then
    some ((-2 : Int), q1.2)
  else
  (some (up2 q1.2 4 1 (0 : Int))).bind fun σ1 =>
  (g_X6_printLine 156 a1 4 σ1).bind fun q2 =>
  some (q2 4 1, q2)
set_option maxRecDepth 20000 in
theorem s_X8_print {a1 : Int} {σ : st_S} {q : Int × st_S} (hk : g_X8_print a1 σ = some q) : f_X8_print ((1 : Nat) : Int) a1 (mk_ σ) = some ((q.1, mk_ q.2)) := by
  unfold g_X8_print at hk
  unfold f_X8_print
  obtain ⟨q1, hq1, hk⟩ := ab_bnd hk
  refine mb_on rfl (s_X8_isLine hq1) ?_
  by_cases hc : q1.1 = (0 : Int)
  · have hk := ab_ifp hk hc
    refine mb_ifp hc ?_
    obtain rfl := Option.some.inj hk
    rfl
  · have hk := ab_ifn hk hc
    refine mb_ifn hc ?_
    refine mb_getR 4 rfl rfl (by decide) ?_
    obtain ⟨σ1, hσ1, hk⟩ := ab_bnd hk
    refine mb_put rfl rfl hσ1 ?_
    refine mb_getR 156 rfl rfl (by decide) ?_
    refine mb_getR 147 rfl rfl (by decide) ?_
    refine mb_getR 150 rfl rfl (by decide) ?_
    refine mb_getR 4 rfl rfl (by decide) ?_
    obtain ⟨q2, hq2, hk⟩ := ab_bnd hk
    refine mb_on rfl (s_X6_printLine (rfl : isTu 156 = true) (rfl : isBy 4 = true) hq2) ?_
    refine mb_getR 4 rfl rfl (by decide) ?_
    refine mb_get rfl rfl ?_
    obtain rfl := Option.some.inj hk
    rfl
noncomputable def g_X8_printedSize (a1 : Int) (σ : st_S) : Option (Int × st_S) :=
  (some (up2 σ 6 1 (0 : Int))).bind fun σ1 =>
  (g_X6_printLine 156 a1 6 σ1).bind fun q1 =>
  some (q1 6 1, q1)
set_option maxRecDepth 20000 in
theorem s_X8_printedSize {a1 : Int} {σ : st_S} {q : Int × st_S} (hk : g_X8_printedSize a1 σ = some q) : f_X8_printedSize ((1 : Nat) : Int) a1 (mk_ σ) = some ((q.1, mk_ q.2)) := by
  unfold g_X8_printedSize at hk
  unfold f_X8_printedSize
  refine mb_getR 6 rfl rfl (by decide) ?_
  obtain ⟨σ1, hσ1, hk⟩ := ab_bnd hk
  refine mb_put rfl rfl hσ1 ?_
  refine mb_getR 156 rfl rfl (by decide) ?_
  refine mb_getR 147 rfl rfl (by decide) ?_
  refine mb_getR 150 rfl rfl (by decide) ?_
  refine mb_getR 6 rfl rfl (by decide) ?_
  obtain ⟨q1, hq1, hk⟩ := ab_bnd hk
  refine mb_on rfl (s_X6_printLine (rfl : isTu 156 = true) (rfl : isBy 6 = true) hq1) ?_
  refine mb_getR 6 rfl rfl (by decide) ?_
  refine mb_get rfl rfl ?_
  obtain rfl := Option.some.inj hk
  rfl
noncomputable def g_X8_printAll_L10 : Nat → Int → st_S → Option (Int × st_S)
  | 0, _, _ => none
  | n + 1, v1, σ =>
    if σ 156 3 ≤ v1 then
      some (σ 156 3, σ)
    else
    (g_X8_printedSize v1 σ).bind fun q1 =>
    if ab_w32 ((ab_w32 ((σ 4 1) + q1.1)) + (1 : Int)) ≤ (2000 : Int) then
      (g_X1_putAll 4 6 q1.2).bind fun q2 =>
      (g_X1_put 4 (10 : Int) q2).bind fun q3 =>
      g_X8_printAll_L10 n (ab_w32 (v1 + (1 : Int))) q3
    else
    some (v1, q1.2)
set_option maxRecDepth 20000 in
theorem s_X8_printAll_L10 : ∀ (n : Nat) (v1 : Int) (σ : st_S) (q : Int × st_S), g_X8_printAll_L10 n v1 σ = some q → f_X8_printAll_L10 n ((1 : Nat) : Int) v1 (mk_ σ) = some ((q.1, mk_ q.2)) := by
  intro n
  induction n with
  | zero => intro v1 σ q hk; cases hk
  | succ n ih =>
    intro v1 σ q hk
    unfold g_X8_printAll_L10 at hk
    unfold f_X8_printAll_L10
    refine mb_getR 156 rfl rfl (by decide) ?_
    refine mb_get rfl rfl ?_
    by_cases hc : σ 156 3 ≤ v1
    · have hk := ab_ifp hk hc
      refine mb_ifp hc ?_
      refine mb_getR 156 rfl rfl (by decide) ?_
      refine mb_get rfl rfl ?_
      obtain rfl := Option.some.inj hk
      rfl
    · have hk := ab_ifn hk hc
      refine mb_ifn hc ?_
      refine mb_getR 4 rfl rfl (by decide) ?_
      refine mb_get rfl rfl ?_
      obtain ⟨q1, hq1, hk⟩ := ab_bnd hk
      refine mb_on rfl (s_X8_printedSize hq1) ?_
      by_cases hc : ab_w32 ((ab_w32 ((σ 4 1) + q1.1)) + (1 : Int)) ≤ (2000 : Int)
      · have hk := ab_ifp hk hc
        refine mb_ifp hc ?_
        refine mb_getR 4 rfl rfl (by decide) ?_
        refine mb_getR 6 rfl rfl (by decide) ?_
        obtain ⟨q2, hq2, hk⟩ := ab_bnd hk
        refine mb_on rfl (s_X1_putAll (rfl : isBy 4 = true) (rfl : isBy 6 = true) hq2) ?_
        refine mb_getR 4 rfl rfl (by decide) ?_
        obtain ⟨q3, hq3, hk⟩ := ab_bnd hk
        refine mb_on rfl (s_X1_put (rfl : isBy 4 = true) hq3) ?_
        exact ih _  _ _ hk
      · have hk := ab_ifn hk hc
        refine mb_ifn hc ?_
        obtain rfl := Option.some.inj hk
        rfl
noncomputable def g_X8_printAll (σ : st_S) : Option (Int × st_S) :=
  (some (up2 σ 4 1 (0 : Int))).bind fun σ1 =>
  g_X8_printAll_L10 ab_FU (0 : Int) σ1
set_option maxRecDepth 20000 in
theorem s_X8_printAll {σ : st_S} {q : Int × st_S} (hk : g_X8_printAll σ = some q) : f_X8_printAll ((1 : Nat) : Int) (mk_ σ) = some ((q.1, mk_ q.2)) := by
  unfold g_X8_printAll at hk
  unfold f_X8_printAll
  refine mb_getR 4 rfl rfl (by decide) ?_
  obtain ⟨σ1, hσ1, hk⟩ := ab_bnd hk
  refine mb_put rfl rfl hσ1 ?_
  refine s_X8_printAll_L10 _ _  _ _ hk
noncomputable def g_X8_octet_J27 (σ : st_S) : Option (Int × st_S) :=
  some ((-1 : Int), σ)
set_option maxRecDepth 20000 in
theorem s_X8_octet_J27 : ∀ (σ : st_S) (q : Int × st_S), g_X8_octet_J27 σ = some q → f_X8_octet_J27 (mk_ σ) = some ((q.1, mk_ q.2)) := by
  intro σ q hk
  unfold g_X8_octet_J27 at hk
  unfold f_X8_octet_J27
  obtain rfl := Option.some.inj hk
  rfl
noncomputable def g_X8_octet (a1 : Int) (σ : st_S) : Option (Int × st_S) :=
  if a1 < (0 : Int) then
    g_X8_octet_J27 σ
  else
  if σ 4 1 ≤ a1 then
    g_X8_octet_J27 σ
  else
  (sa_ld σ 5 2000 a1).bind fun t1 =>
  some (t1, σ)
set_option maxRecDepth 20000 in
theorem s_X8_octet {a1 : Int} {σ : st_S} {q : Int × st_S} (hk : g_X8_octet a1 σ = some q) : f_X8_octet ((1 : Nat) : Int) a1 (mk_ σ) = some ((q.1, mk_ q.2)) := by
  unfold g_X8_octet at hk
  unfold f_X8_octet
  by_cases hc : a1 < (0 : Int)
  · have hk := ab_ifp hk hc
    refine mb_ifp hc ?_
    exact s_X8_octet_J27  _ _ hk
  · have hk := ab_ifn hk hc
    refine mb_ifn hc ?_
    refine mb_getR 4 rfl rfl (by decide) ?_
    refine mb_get rfl rfl ?_
    by_cases hc : σ 4 1 ≤ a1
    · have hk := ab_ifp hk hc
      refine mb_ifp hc ?_
      exact s_X8_octet_J27  _ _ hk
    · have hk := ab_ifn hk hc
      refine mb_ifn hc ?_
      refine mb_getR 4 rfl rfl (by decide) ?_
      refine mb_getR 5 rfl rfl (by decide) ?_
      obtain ⟨t1, ht1, hk⟩ := ab_bnd hk
      refine mb_ald ⟨rfl, rfl, fun _ => rfl⟩ ht1 ?_
      obtain rfl := Option.some.inj hk
      rfl
noncomputable def g_X8_longest_J35 (rec : Int → Int → Int → st_S → Option (Int × st_S)) (v1 : Int) (v2 : Int) (v3 : Int) (σ : st_S) : Option (Int × st_S) :=
  rec v1 v2 (ab_w32 (v3 + (1 : Int))) σ
set_option maxRecDepth 20000 in
theorem s_X8_longest_J35 {rec : Int → Int → Int → st_S → Option (Int × st_S)} {recf : Int → Int → Int → Int → ab_H → Option (Int × ab_H)} (hrec : ∀ (v1 : Int) (v2 : Int) (v3 : Int) (σ : st_S) (q : Int × st_S), rec v1 v2 v3 σ = some q → recf ((1 : Nat) : Int) v1 v2 v3 (mk_ σ) = some ((q.1, mk_ q.2))) : ∀ (v1 : Int) (v2 : Int) (v3 : Int) (σ : st_S) (q : Int × st_S), g_X8_longest_J35 rec v1 v2 v3 σ = some q → f_X8_longest_J35 recf ((1 : Nat) : Int) v1 v2 v3 (mk_ σ) = some ((q.1, mk_ q.2)) := by
  intro v1 v2 v3 σ q hk
  unfold g_X8_longest_J35 at hk
  unfold f_X8_longest_J35
  exact hrec _ _ _  _ _ hk
noncomputable def g_X8_longest_L6 : Nat → Int → Int → Int → st_S → Option (Int × st_S)
  | 0, _, _, _, _ => none
  | n + 1, v1, v2, v3, σ =>
    if σ 156 3 ≤ v3 then
      some (v1, σ)
    else
    (g_X8_printedSize v3 σ).bind fun q1 =>
    if q1.1 ≤ v2 then
      g_X8_longest_J35 (g_X8_longest_L6 n) v1 v2 v3 q1.2
    else
    g_X8_longest_J35 (g_X8_longest_L6 n) v3 q1.1 v3 q1.2
set_option maxRecDepth 20000 in
theorem s_X8_longest_L6 : ∀ (n : Nat) (v1 : Int) (v2 : Int) (v3 : Int) (σ : st_S) (q : Int × st_S), g_X8_longest_L6 n v1 v2 v3 σ = some q → f_X8_longest_L6 n ((1 : Nat) : Int) v1 v2 v3 (mk_ σ) = some ((q.1, mk_ q.2)) := by
  intro n
  induction n with
  | zero => intro v1 v2 v3 σ q hk; cases hk
  | succ n ih =>
    intro v1 v2 v3 σ q hk
    unfold g_X8_longest_L6 at hk
    unfold f_X8_longest_L6
    refine mb_getR 156 rfl rfl (by decide) ?_
    refine mb_get rfl rfl ?_
    by_cases hc : σ 156 3 ≤ v3
    · have hk := ab_ifp hk hc
      refine mb_ifp hc ?_
      obtain rfl := Option.some.inj hk
      rfl
    · have hk := ab_ifn hk hc
      refine mb_ifn hc ?_
      obtain ⟨q1, hq1, hk⟩ := ab_bnd hk
      refine mb_on rfl (s_X8_printedSize hq1) ?_
      by_cases hc : q1.1 ≤ v2
      · have hk := ab_ifp hk hc
        refine mb_ifp hc ?_
        exact s_X8_longest_J35 ih _ _ _  _ _ hk
      · have hk := ab_ifn hk hc
        refine mb_ifn hc ?_
        exact s_X8_longest_J35 ih _ _ _  _ _ hk
noncomputable def g_X8_longest (σ : st_S) : Option (Int × st_S) :=
  g_X8_longest_L6 ab_FU (-1 : Int) (0 : Int) (0 : Int) σ
set_option maxRecDepth 20000 in
theorem s_X8_longest {σ : st_S} {q : Int × st_S} (hk : g_X8_longest σ = some q) : f_X8_longest ((1 : Nat) : Int) (mk_ σ) = some ((q.1, mk_ q.2)) := by
  unfold g_X8_longest at hk
  unfold f_X8_longest
  refine s_X8_longest_L6 _ _ _ _  _ _ hk
noncomputable def g_X8_begins_J116 (rec : Int → Int → Int → Int → Int → st_S → Option (Int × st_S)) (k122 : Int → Int → st_S → Option (Int × st_S)) (v1 : Int) (v2 : Int) (v4 : Int) (v5 : Int) (v6 : Int) (σ : st_S) : Option (Int × st_S) :=
  rec v1 v2 v4 v5 (ab_w32 (v6 + (1 : Int))) σ
set_option maxRecDepth 20000 in
theorem s_X8_begins_J116 {rec : Int → Int → Int → Int → Int → st_S → Option (Int × st_S)} {recf : Int → Int → Int → Int → Int → Int → ab_H → Option (Int × ab_H)} {k122 : Int → Int → st_S → Option (Int × st_S)} {kf122 : Int → Int → ab_H → Option (Int × ab_H)} (hrec : ∀ (v1 : Int) (v2 : Int) (v4 : Int) (v5 : Int) (v6 : Int) (σ : st_S) (q : Int × st_S), rec v1 v2 v4 v5 v6 σ = some q → recf ((1 : Nat) : Int) v1 v2 v4 v5 v6 (mk_ σ) = some ((q.1, mk_ q.2))) (hk122 : ∀ (v1 : Int) (v5 : Int) (σ : st_S) (q : Int × st_S), k122 v1 v5 σ = some q → kf122 v1 v5 (mk_ σ) = some ((q.1, mk_ q.2))) : ∀ (v1 : Int) (v2 : Int) (v4 : Int) (v5 : Int) (v6 : Int) (σ : st_S) (q : Int × st_S), g_X8_begins_J116 rec k122 v1 v2 v4 v5 v6 σ = some q → f_X8_begins_J116 recf kf122 ((1 : Nat) : Int) v1 v2 v4 v5 v6 (mk_ σ) = some ((q.1, mk_ q.2)) := by
  intro v1 v2 v4 v5 v6 σ q hk
  unfold g_X8_begins_J116 at hk
  unfold f_X8_begins_J116
  exact hrec _ _ _ _ _  _ _ hk
noncomputable def g_X8_begins_L47 (k122 : Int → Int → st_S → Option (Int × st_S)) : Nat → Int → Int → Int → Int → Int → st_S → Option (Int × st_S)
  | 0, _, _, _, _, _, _ => none
  | n + 1, v1, v2, v4, v5, v6, σ =>
    if σ 156 5 ≤ v6 then
      k122 v1 v5 σ
    else
    (sa_ld σ 159 73 v6).bind fun t1 =>
    (sa_ld σ 157 72 t1).bind fun t2 =>
    (sa_en t2).bind fun e1 =>
    (sa_ld σ 148 72 (σ e1 3)).bind fun t3 =>
    (g_X8_beginsWith t3 v2 v4 σ).bind fun q4 =>
    if q4.1 = (0 : Int) then
      g_X8_begins_J116 (g_X8_begins_L47 k122 n) k122 v1 v2 v4 v5 v6 q4.2
    else
    if v5 = v1 then
      some (v6, q4.2)
    else
    g_X8_begins_J116 (g_X8_begins_L47 k122 n) k122 v1 v2 v4 (ab_w32 (v5 + (1 : Int))) v6 q4.2
set_option maxRecDepth 20000 in
theorem s_X8_begins_L47 {k122 : Int → Int → st_S → Option (Int × st_S)} {kf122 : Int → Int → ab_H → Option (Int × ab_H)} (hk122 : ∀ (v1 : Int) (v5 : Int) (σ : st_S) (q : Int × st_S), k122 v1 v5 σ = some q → kf122 v1 v5 (mk_ σ) = some ((q.1, mk_ q.2))) : ∀ (n : Nat) (v1 : Int) (v2 : Int) (v4 : Int) (v5 : Int) (v6 : Int) (σ : st_S) (q : Int × st_S), g_X8_begins_L47 k122 n v1 v2 v4 v5 v6 σ = some q → f_X8_begins_L47 kf122 n ((1 : Nat) : Int) v1 v2 v4 v5 v6 (mk_ σ) = some ((q.1, mk_ q.2)) := by
  intro n
  induction n with
  | zero => intro v1 v2 v4 v5 v6 σ q hk; cases hk
  | succ n ih =>
    intro v1 v2 v4 v5 v6 σ q hk
    unfold g_X8_begins_L47 at hk
    unfold f_X8_begins_L47
    refine mb_getR 156 rfl rfl (by decide) ?_
    refine mb_get rfl rfl ?_
    by_cases hc : σ 156 5 ≤ v6
    · have hk := ab_ifp hk hc
      refine mb_ifp hc ?_
      exact hk122 _ _  _ _ hk
    · have hk := ab_ifn hk hc
      refine mb_ifn hc ?_
      refine mb_getR 147 rfl rfl (by decide) ?_
      refine mb_getR 148 rfl rfl (by decide) ?_
      refine mb_getR 156 rfl rfl (by decide) ?_
      refine mb_getR 157 rfl rfl (by decide) ?_
      refine mb_getR 156 rfl rfl (by decide) ?_
      refine mb_getR 159 rfl rfl (by decide) ?_
      obtain ⟨t1, ht1, hk⟩ := ab_bnd hk
      refine mb_ald ⟨rfl, rfl, fun _ => rfl⟩ ht1 ?_
      obtain ⟨t2, ht2, hk⟩ := ab_bnd hk
      obtain ⟨e1, he1, hk⟩ := ab_bnd hk
      have pe1 : isEn e1 = true := en_of he1
      refine mb_aldE ⟨rfl, rfl, fun _ => rfl⟩ ht2 he1 ?_
      refine mb_get (en_ly pe1).1 ((en_ly pe1).2.1 _) ?_
      obtain ⟨t3, ht3, hk⟩ := ab_bnd hk
      refine mb_ald ⟨rfl, rfl, fun _ => rfl⟩ ht3 ?_
      obtain ⟨q4, hq4, hk⟩ := ab_bnd hk
      refine mb_eq (s_X8_beginsWith hq4) ?_
      by_cases hc : q4.1 = (0 : Int)
      · have hk := ab_ifp hk hc
        refine mb_ifp hc ?_
        exact s_X8_begins_J116 ih hk122 _ _ _ _ _  _ _ hk
      · have hk := ab_ifn hk hc
        refine mb_ifn hc ?_
        by_cases hc : v5 = v1
        · have hk := ab_ifp hk hc
          refine mb_ifp hc ?_
          obtain rfl := Option.some.inj hk
          rfl
        · have hk := ab_ifn hk hc
          refine mb_ifn hc ?_
          exact s_X8_begins_J116 ih hk122 _ _ _ _ _  _ _ hk
noncomputable def g_X8_begins (a1 : Int) (σ : st_S) : Option (Int × st_S) :=
  (g_X1_asName 2 σ).bind fun q1 =>
  (some (up2 q1.2 2 1 (0 : Int))).bind fun σ1 =>
  if a1 < (-1 : Int) then
    some ((-2 : Int), σ1)
  else
  if ab_cmp q1.1 (-1 : Int) = (0 : Int) then
    some ((-2 : Int), σ1)
  else
  g_X8_begins_L47 (fun w122_1 w122_5 σx122 =>
    if w122_1 = (-1 : Int) then
      some (w122_5, σx122)
    else
    some ((-1 : Int), σx122)) ab_FU a1 q1.1 (q1.2 2 1) (0 : Int) (0 : Int) σ1
set_option maxRecDepth 20000 in
theorem s_X8_begins {a1 : Int} {σ : st_S} {q : Int × st_S} (hk : g_X8_begins a1 σ = some q) : f_X8_begins ((1 : Nat) : Int) a1 (mk_ σ) = some ((q.1, mk_ q.2)) := by
  unfold g_X8_begins at hk
  unfold f_X8_begins
  refine mb_getR 2 rfl rfl (by decide) ?_
  obtain ⟨q1, hq1, hk⟩ := ab_bnd hk
  refine mb_on rfl (s_X1_asName (rfl : isBy 2 = true) hq1) ?_
  refine mb_getR 2 rfl rfl (by decide) ?_
  refine mb_get rfl rfl ?_
  refine mb_getR 2 rfl rfl (by decide) ?_
  obtain ⟨σ1, hσ1, hk⟩ := ab_bnd hk
  refine mb_put rfl rfl hσ1 ?_
  by_cases hc : a1 < (-1 : Int)
  · have hk := ab_ifp hk hc
    refine mb_ifp hc ?_
    obtain rfl := Option.some.inj hk
    rfl
  · have hk := ab_ifn hk hc
    refine mb_ifn hc ?_
    by_cases hc : ab_cmp q1.1 (-1 : Int) = (0 : Int)
    · have hk := ab_ifp hk hc
      refine mb_ifp hc ?_
      obtain rfl := Option.some.inj hk
      rfl
    · have hk := ab_ifn hk hc
      refine mb_ifn hc ?_
      refine s_X8_begins_L47 (fun w122_1 w122_5 σx122 q hk => ?_) _ _ _ _ _ _  _ _ hk
      · skip
        by_cases hc : w122_1 = (-1 : Int)
        · have hk := ab_ifp hk hc
          refine mb_ifp hc ?_
          obtain rfl := Option.some.inj hk
          rfl
        · have hk := ab_ifn hk hc
          refine mb_ifn hc ?_
          obtain rfl := Option.some.inj hk
          rfl
noncomputable def g_X8_having_J23 (v1 : Int) (v2 : Int) (σ : st_S) : Option (Int × st_S) :=
  if v2 = (-1 : Int) then
    (sa_ld σ 149 72 v1).bind fun t2 =>
    some (t2, σ)
  else
  (g_X5_stringsWith v2 v1 σ).bind fun q1 =>
  some (q1.1, q1.2)
set_option maxRecDepth 20000 in
theorem s_X8_having_J23 : ∀ (v1 : Int) (v2 : Int) (σ : st_S) (q : Int × st_S), g_X8_having_J23 v1 v2 σ = some q → f_X8_having_J23 ((1 : Nat) : Int) v1 v2 (mk_ σ) = some ((q.1, mk_ q.2)) := by
  intro v1 v2 σ q hk
  unfold g_X8_having_J23 at hk
  unfold f_X8_having_J23
  by_cases hc : v2 = (-1 : Int)
  · have hk := ab_ifp hk hc
    refine mb_ifp hc ?_
    refine mb_getR 147 rfl rfl (by decide) ?_
    refine mb_getR 149 rfl rfl (by decide) ?_
    obtain ⟨t2, ht2, hk⟩ := ab_bnd hk
    refine mb_ald ⟨rfl, rfl, fun _ => rfl⟩ ht2 ?_
    obtain rfl := Option.some.inj hk
    rfl
  · have hk := ab_ifn hk hc
    refine mb_ifn hc ?_
    refine mb_getR 150 rfl rfl (by decide) ?_
    obtain ⟨q1, hq1, hk⟩ := ab_bnd hk
    refine mb_on rfl (s_X5_stringsWith hq1) ?_
    obtain rfl := Option.some.inj hk
    rfl
noncomputable def g_X8_having (a1 : Int) (a2 : Int) (σ : st_S) : Option (Int × st_S) :=
  (g_X8_isWord a1 σ).bind fun q1 =>
  if q1.1 = (0 : Int) then
    some ((-2 : Int), q1.2)
  else
  if a2 = (-1 : Int) then
    g_X8_having_J23 a1 a2 q1.2
  else
  (g_X8_isRole a2 q1.2).bind fun q2 =>
  if q2.1 = (0 : Int) then
    some ((-2 : Int), q2.2)
  else
  g_X8_having_J23 a1 a2 q2.2
set_option maxRecDepth 20000 in
theorem s_X8_having {a1 : Int} {a2 : Int} {σ : st_S} {q : Int × st_S} (hk : g_X8_having a1 a2 σ = some q) : f_X8_having ((1 : Nat) : Int) a1 a2 (mk_ σ) = some ((q.1, mk_ q.2)) := by
  unfold g_X8_having at hk
  unfold f_X8_having
  obtain ⟨q1, hq1, hk⟩ := ab_bnd hk
  refine mb_on rfl (s_X8_isWord hq1) ?_
  by_cases hc : q1.1 = (0 : Int)
  · have hk := ab_ifp hk hc
    refine mb_ifp hc ?_
    obtain rfl := Option.some.inj hk
    rfl
  · have hk := ab_ifn hk hc
    refine mb_ifn hc ?_
    by_cases hc : a2 = (-1 : Int)
    · have hk := ab_ifp hk hc
      refine mb_ifp hc ?_
      exact s_X8_having_J23 _ _  _ _ hk
    · have hk := ab_ifn hk hc
      refine mb_ifn hc ?_
      obtain ⟨q2, hq2, hk⟩ := ab_bnd hk
      refine mb_eq (s_X8_isRole hq2) ?_
      by_cases hc : q2.1 = (0 : Int)
      · have hk := ab_ifp hk hc
        refine mb_ifp hc ?_
        obtain rfl := Option.some.inj hk
        rfl
      · have hk := ab_ifn hk hc
        refine mb_ifn hc ?_
        exact s_X8_having_J23 _ _  _ _ hk
noncomputable def g_X8_stringsSharing_J64 (rec : Int → Int → Int → Int → st_S → Option (Int × st_S)) (v1 : Int) (v2 : Int) (v3 : Int) (v4 : Int) (σ : st_S) : Option (Int × st_S) :=
  rec v1 v2 v3 (ab_w32 (v4 + (1 : Int))) σ
set_option maxRecDepth 20000 in
theorem s_X8_stringsSharing_J64 {rec : Int → Int → Int → Int → st_S → Option (Int × st_S)} {recf : Int → Int → Int → Int → Int → ab_H → Option (Int × ab_H)} (hrec : ∀ (v1 : Int) (v2 : Int) (v3 : Int) (v4 : Int) (σ : st_S) (q : Int × st_S), rec v1 v2 v3 v4 σ = some q → recf ((1 : Nat) : Int) v1 v2 v3 v4 (mk_ σ) = some ((q.1, mk_ q.2))) : ∀ (v1 : Int) (v2 : Int) (v3 : Int) (v4 : Int) (σ : st_S) (q : Int × st_S), g_X8_stringsSharing_J64 rec v1 v2 v3 v4 σ = some q → f_X8_stringsSharing_J64 recf ((1 : Nat) : Int) v1 v2 v3 v4 (mk_ σ) = some ((q.1, mk_ q.2)) := by
  intro v1 v2 v3 v4 σ q hk
  unfold g_X8_stringsSharing_J64 at hk
  unfold f_X8_stringsSharing_J64
  exact hrec _ _ _ _  _ _ hk
noncomputable def g_X8_stringsSharing_L15 : Nat → Int → Int → Int → Int → st_S → Option (Int × st_S)
  | 0, _, _, _, _, _ => none
  | n + 1, v1, v2, v3, v4, σ =>
    (sa_ld σ 15 12 v1).bind fun t1 =>
    if t1 ≤ v4 then
      some (v3, σ)
    else
    (g_X8_hasBit v2 v4 σ).bind fun q2 =>
    if q2.1 = (0 : Int) then
      g_X8_stringsSharing_J64 (g_X8_stringsSharing_L15 n) v1 v2 v3 v4 q2.2
    else
    (sa_ld q2.2 153 72 (ab_w32 ((ab_w32 (v1 * (6 : Int))) + v4))).bind fun t3 =>
    (sa_ld q2.2 149 72 t3).bind fun t4 =>
    g_X8_stringsSharing_J64 (g_X8_stringsSharing_L15 n) v1 v2 (ab_and v3 t4) v4 q2.2
set_option maxRecDepth 20000 in
theorem s_X8_stringsSharing_L15 : ∀ (n : Nat) (v1 : Int) (v2 : Int) (v3 : Int) (v4 : Int) (σ : st_S) (q : Int × st_S), g_X8_stringsSharing_L15 n v1 v2 v3 v4 σ = some q → f_X8_stringsSharing_L15 n ((1 : Nat) : Int) v1 v2 v3 v4 (mk_ σ) = some ((q.1, mk_ q.2)) := by
  intro n
  induction n with
  | zero => intro v1 v2 v3 v4 σ q hk; cases hk
  | succ n ih =>
    intro v1 v2 v3 v4 σ q hk
    unfold g_X8_stringsSharing_L15 at hk
    unfold f_X8_stringsSharing_L15
    refine mb_getR 13 rfl rfl (by decide) ?_
    refine mb_getR 15 rfl rfl (by decide) ?_
    obtain ⟨t1, ht1, hk⟩ := ab_bnd hk
    refine mb_ald ⟨rfl, rfl, fun _ => rfl⟩ ht1 ?_
    by_cases hc : t1 ≤ v4
    · have hk := ab_ifp hk hc
      refine mb_ifp hc ?_
      obtain rfl := Option.some.inj hk
      rfl
    · have hk := ab_ifn hk hc
      refine mb_ifn hc ?_
      obtain ⟨q2, hq2, hk⟩ := ab_bnd hk
      refine mb_eq (s_X8_hasBit hq2) ?_
      by_cases hc : q2.1 = (0 : Int)
      · have hk := ab_ifp hk hc
        refine mb_ifp hc ?_
        exact s_X8_stringsSharing_J64 ih _ _ _ _  _ _ hk
      · have hk := ab_ifn hk hc
        refine mb_ifn hc ?_
        refine mb_getR 147 rfl rfl (by decide) ?_
        refine mb_getR 149 rfl rfl (by decide) ?_
        refine mb_getR 150 rfl rfl (by decide) ?_
        refine mb_getR 153 rfl rfl (by decide) ?_
        obtain ⟨t3, ht3, hk⟩ := ab_bnd hk
        refine mb_ald ⟨rfl, rfl, fun _ => rfl⟩ ht3 ?_
        obtain ⟨t4, ht4, hk⟩ := ab_bnd hk
        refine mb_ald ⟨rfl, rfl, fun _ => rfl⟩ ht4 ?_
        exact s_X8_stringsSharing_J64 ih _ _ _ _  _ _ hk
noncomputable def g_X8_stringsSharing (a1 : Int) (a2 : Int) (σ : st_S) : Option (Int × st_S) :=
  g_X8_stringsSharing_L15 ab_FU a1 a2 (ab_w32 ((ab_shl (1 : Int) (σ 13 0)) - (1 : Int))) (0 : Int) σ
set_option maxRecDepth 20000 in
theorem s_X8_stringsSharing {a1 : Int} {a2 : Int} {σ : st_S} {q : Int × st_S} (hk : g_X8_stringsSharing a1 a2 σ = some q) : f_X8_stringsSharing ((1 : Nat) : Int) a1 a2 (mk_ σ) = some ((q.1, mk_ q.2)) := by
  unfold g_X8_stringsSharing at hk
  unfold f_X8_stringsSharing
  refine mb_getR 13 rfl rfl (by decide) ?_
  refine mb_get rfl rfl ?_
  refine s_X8_stringsSharing_L15 _ _ _ _ _  _ _ hk
noncomputable def g_X8_sharing (a1 : Int) (a2 : Int) (σ : st_S) : Option (Int × st_S) :=
  (g_X8_isString a1 σ).bind fun q1 =>
  if q1.1 = (0 : Int) then
    some ((-2 : Int), q1.2)
  else
  if a2 < (0 : Int) then
    some ((-2 : Int), q1.2)
  else
  (sa_ld q1.2 15 12 a1).bind fun t2 =>
  if a2 < ab_shl (1 : Int) t2 then
    (g_X8_stringsSharing a1 a2 q1.2).bind fun q3 =>
    some (q3.1, q3.2)
  else
  some ((-2 : Int), q1.2)
set_option maxRecDepth 20000 in
theorem s_X8_sharing {a1 : Int} {a2 : Int} {σ : st_S} {q : Int × st_S} (hk : g_X8_sharing a1 a2 σ = some q) : f_X8_sharing ((1 : Nat) : Int) a1 a2 (mk_ σ) = some ((q.1, mk_ q.2)) := by
  unfold g_X8_sharing at hk
  unfold f_X8_sharing
  obtain ⟨q1, hq1, hk⟩ := ab_bnd hk
  refine mb_on rfl (s_X8_isString hq1) ?_
  by_cases hc : q1.1 = (0 : Int)
  · have hk := ab_ifp hk hc
    refine mb_ifp hc ?_
    obtain rfl := Option.some.inj hk
    rfl
  · have hk := ab_ifn hk hc
    refine mb_ifn hc ?_
    by_cases hc : a2 < (0 : Int)
    · have hk := ab_ifp hk hc
      refine mb_ifp hc ?_
      obtain rfl := Option.some.inj hk
      rfl
    · have hk := ab_ifn hk hc
      refine mb_ifn hc ?_
      refine mb_getR 13 rfl rfl (by decide) ?_
      refine mb_getR 15 rfl rfl (by decide) ?_
      obtain ⟨t2, ht2, hk⟩ := ab_bnd hk
      refine mb_ald ⟨rfl, rfl, fun _ => rfl⟩ ht2 ?_
      by_cases hc : a2 < ab_shl (1 : Int) t2
      · have hk := ab_ifp hk hc
        refine mb_ifp hc ?_
        obtain ⟨q3, hq3, hk⟩ := ab_bnd hk
        refine mb_on rfl (s_X8_stringsSharing hq3) ?_
        obtain rfl := Option.some.inj hk
        rfl
      · have hk := ab_ifn hk hc
        refine mb_ifn hc ?_
        obtain rfl := Option.some.inj hk
        rfl
noncomputable def g_X8_often (a1 : Int) (σ : st_S) : Option (Int × st_S) :=
  (g_X8_isWord a1 σ).bind fun q1 =>
  if q1.1 = (0 : Int) then
    some ((-2 : Int), q1.2)
  else
  (g_X7_stringCount a1 q1.2).bind fun q2 =>
  some (q2.1, q2.2)
set_option maxRecDepth 20000 in
theorem s_X8_often {a1 : Int} {σ : st_S} {q : Int × st_S} (hk : g_X8_often a1 σ = some q) : f_X8_often ((1 : Nat) : Int) a1 (mk_ σ) = some ((q.1, mk_ q.2)) := by
  unfold g_X8_often at hk
  unfold f_X8_often
  obtain ⟨q1, hq1, hk⟩ := ab_bnd hk
  refine mb_on rfl (s_X8_isWord hq1) ?_
  by_cases hc : q1.1 = (0 : Int)
  · have hk := ab_ifp hk hc
    refine mb_ifp hc ?_
    obtain rfl := Option.some.inj hk
    rfl
  · have hk := ab_ifn hk hc
    refine mb_ifn hc ?_
    refine mb_getR 147 rfl rfl (by decide) ?_
    obtain ⟨q2, hq2, hk⟩ := ab_bnd hk
    refine mb_on rfl (s_X7_stringCount hq2) ?_
    obtain rfl := Option.some.inj hk
    rfl
noncomputable def g_X8_most_L9 : Nat → Int → Int → st_S → Option (Int × st_S)
  | 0, _, _, _ => none
  | n + 1, v1, v2, σ =>
    if σ 147 0 ≤ v2 then
      some ((-1 : Int), σ)
    else
    (g_X7_rankOf v2 σ).bind fun q1 =>
    if q1.1 = v1 then
      some (v2, q1.2)
    else
    g_X8_most_L9 n v1 (ab_w32 (v2 + (1 : Int))) q1.2
set_option maxRecDepth 20000 in
theorem s_X8_most_L9 : ∀ (n : Nat) (v1 : Int) (v2 : Int) (σ : st_S) (q : Int × st_S), g_X8_most_L9 n v1 v2 σ = some q → f_X8_most_L9 n ((1 : Nat) : Int) v1 v2 (mk_ σ) = some ((q.1, mk_ q.2)) := by
  intro n
  induction n with
  | zero => intro v1 v2 σ q hk; cases hk
  | succ n ih =>
    intro v1 v2 σ q hk
    unfold g_X8_most_L9 at hk
    unfold f_X8_most_L9
    refine mb_getR 147 rfl rfl (by decide) ?_
    refine mb_get rfl rfl ?_
    by_cases hc : σ 147 0 ≤ v2
    · have hk := ab_ifp hk hc
      refine mb_ifp hc ?_
      obtain rfl := Option.some.inj hk
      rfl
    · have hk := ab_ifn hk hc
      refine mb_ifn hc ?_
      refine mb_getR 147 rfl rfl (by decide) ?_
      obtain ⟨q1, hq1, hk⟩ := ab_bnd hk
      refine mb_on rfl (s_X7_rankOf hq1) ?_
      by_cases hc : q1.1 = v1
      · have hk := ab_ifp hk hc
        refine mb_ifp hc ?_
        obtain rfl := Option.some.inj hk
        rfl
      · have hk := ab_ifn hk hc
        refine mb_ifn hc ?_
        exact ih _ _  _ _ hk
noncomputable def g_X8_most (a1 : Int) (σ : st_S) : Option (Int × st_S) :=
  if (0 : Int) ≤ a1 then
    g_X8_most_L9 ab_FU a1 (0 : Int) σ
  else
  some ((-2 : Int), σ)
set_option maxRecDepth 20000 in
theorem s_X8_most {a1 : Int} {σ : st_S} {q : Int × st_S} (hk : g_X8_most a1 σ = some q) : f_X8_most ((1 : Nat) : Int) a1 (mk_ σ) = some ((q.1, mk_ q.2)) := by
  unfold g_X8_most at hk
  unfold f_X8_most
  by_cases hc : (0 : Int) ≤ a1
  · have hk := ab_ifp hk hc
    refine mb_ifp hc ?_
    refine s_X8_most_L9 _ _ _  _ _ hk
  · have hk := ab_ifn hk hc
    refine mb_ifn hc ?_
    obtain rfl := Option.some.inj hk
    rfl
noncomputable def g_X8_rarest_J69 (rec : Int → Int → Int → Int → st_S → Option (Int × st_S)) (v1 : Int) (v2 : Int) (v3 : Int) (v4 : Int) (σ : st_S) : Option (Int × st_S) :=
  rec v1 v2 v3 (ab_w32 (v4 + (1 : Int))) σ
set_option maxRecDepth 20000 in
theorem s_X8_rarest_J69 {rec : Int → Int → Int → Int → st_S → Option (Int × st_S)} {recf : Int → Int → Int → Int → Int → ab_H → Option (Int × ab_H)} (hrec : ∀ (v1 : Int) (v2 : Int) (v3 : Int) (v4 : Int) (σ : st_S) (q : Int × st_S), rec v1 v2 v3 v4 σ = some q → recf ((1 : Nat) : Int) v1 v2 v3 v4 (mk_ σ) = some ((q.1, mk_ q.2))) : ∀ (v1 : Int) (v2 : Int) (v3 : Int) (v4 : Int) (σ : st_S) (q : Int × st_S), g_X8_rarest_J69 rec v1 v2 v3 v4 σ = some q → f_X8_rarest_J69 recf ((1 : Nat) : Int) v1 v2 v3 v4 (mk_ σ) = some ((q.1, mk_ q.2)) := by
  intro v1 v2 v3 v4 σ q hk
  unfold g_X8_rarest_J69 at hk
  unfold f_X8_rarest_J69
  exact hrec _ _ _ _  _ _ hk
noncomputable def g_X8_rarest_L19 : Nat → Int → Int → Int → Int → st_S → Option (Int × st_S)
  | 0, _, _, _, _, _ => none
  | n + 1, v1, v2, v3, v4, σ =>
    (sa_ld σ 15 12 v1).bind fun t1 =>
    if t1 ≤ v4 then
      some (v2, σ)
    else
    (sa_ld σ 153 72 (ab_w32 ((ab_w32 (v1 * (6 : Int))) + v4))).bind fun t2 =>
    (g_X7_stringCount t2 σ).bind fun q3 =>
    if v3 ≤ q3.1 then
      g_X8_rarest_J69 (g_X8_rarest_L19 n) v1 v2 v3 v4 q3.2
    else
    g_X8_rarest_J69 (g_X8_rarest_L19 n) v1 v4 q3.1 v4 q3.2
set_option maxRecDepth 20000 in
theorem s_X8_rarest_L19 : ∀ (n : Nat) (v1 : Int) (v2 : Int) (v3 : Int) (v4 : Int) (σ : st_S) (q : Int × st_S), g_X8_rarest_L19 n v1 v2 v3 v4 σ = some q → f_X8_rarest_L19 n ((1 : Nat) : Int) v1 v2 v3 v4 (mk_ σ) = some ((q.1, mk_ q.2)) := by
  intro n
  induction n with
  | zero => intro v1 v2 v3 v4 σ q hk; cases hk
  | succ n ih =>
    intro v1 v2 v3 v4 σ q hk
    unfold g_X8_rarest_L19 at hk
    unfold f_X8_rarest_L19
    refine mb_getR 13 rfl rfl (by decide) ?_
    refine mb_getR 15 rfl rfl (by decide) ?_
    obtain ⟨t1, ht1, hk⟩ := ab_bnd hk
    refine mb_ald ⟨rfl, rfl, fun _ => rfl⟩ ht1 ?_
    by_cases hc : t1 ≤ v4
    · have hk := ab_ifp hk hc
      refine mb_ifp hc ?_
      obtain rfl := Option.some.inj hk
      rfl
    · have hk := ab_ifn hk hc
      refine mb_ifn hc ?_
      refine mb_getR 147 rfl rfl (by decide) ?_
      refine mb_getR 150 rfl rfl (by decide) ?_
      refine mb_getR 153 rfl rfl (by decide) ?_
      obtain ⟨t2, ht2, hk⟩ := ab_bnd hk
      refine mb_ald ⟨rfl, rfl, fun _ => rfl⟩ ht2 ?_
      obtain ⟨q3, hq3, hk⟩ := ab_bnd hk
      refine mb_on rfl (s_X7_stringCount hq3) ?_
      by_cases hc : v3 ≤ q3.1
      · have hk := ab_ifp hk hc
        refine mb_ifp hc ?_
        exact s_X8_rarest_J69 ih _ _ _ _  _ _ hk
      · have hk := ab_ifn hk hc
        refine mb_ifn hc ?_
        exact s_X8_rarest_J69 ih _ _ _ _  _ _ hk
noncomputable def g_X8_rarest (a1 : Int) (σ : st_S) : Option (Int × st_S) :=
  (g_X8_isString a1 σ).bind fun q1 =>
  if q1.1 = (0 : Int) then
    some ((-2 : Int), q1.2)
  else
  g_X8_rarest_L19 ab_FU a1 (-1 : Int) (13 : Int) (0 : Int) q1.2
set_option maxRecDepth 20000 in
theorem s_X8_rarest {a1 : Int} {σ : st_S} {q : Int × st_S} (hk : g_X8_rarest a1 σ = some q) : f_X8_rarest ((1 : Nat) : Int) a1 (mk_ σ) = some ((q.1, mk_ q.2)) := by
  unfold g_X8_rarest at hk
  unfold f_X8_rarest
  obtain ⟨q1, hq1, hk⟩ := ab_bnd hk
  refine mb_on rfl (s_X8_isString hq1) ?_
  by_cases hc : q1.1 = (0 : Int)
  · have hk := ab_ifp hk hc
    refine mb_ifp hc ?_
    obtain rfl := Option.some.inj hk
    rfl
  · have hk := ab_ifn hk hc
    refine mb_ifn hc ?_
    refine s_X8_rarest_L19 _ _ _ _ _  _ _ hk
noncomputable def g_X8_gather_J59 (rec : Int → Int → Int → Int → st_S → Option (Int × st_S)) (k65 : Int → Int → st_S → Option (Int × st_S)) (v1 : Int) (v2 : Int) (v3 : Int) (v4 : Int) (σ : st_S) : Option (Int × st_S) :=
  rec v1 v2 v3 (ab_w32 (v4 + (1 : Int))) σ
set_option maxRecDepth 20000 in
theorem s_X8_gather_J59 {rec : Int → Int → Int → Int → st_S → Option (Int × st_S)} {recf : Int → Int → Int → Int → Int → ab_H → Option (Int × ab_H)} {k65 : Int → Int → st_S → Option (Int × st_S)} {kf65 : Int → Int → ab_H → Option (Int × ab_H)} (hrec : ∀ (v1 : Int) (v2 : Int) (v3 : Int) (v4 : Int) (σ : st_S) (q : Int × st_S), rec v1 v2 v3 v4 σ = some q → recf ((1 : Nat) : Int) v1 v2 v3 v4 (mk_ σ) = some ((q.1, mk_ q.2))) (hk65 : ∀ (v2 : Int) (v3 : Int) (σ : st_S) (q : Int × st_S), k65 v2 v3 σ = some q → kf65 v2 v3 (mk_ σ) = some ((q.1, mk_ q.2))) : ∀ (v1 : Int) (v2 : Int) (v3 : Int) (v4 : Int) (σ : st_S) (q : Int × st_S), g_X8_gather_J59 rec k65 v1 v2 v3 v4 σ = some q → f_X8_gather_J59 recf kf65 ((1 : Nat) : Int) v1 v2 v3 v4 (mk_ σ) = some ((q.1, mk_ q.2)) := by
  intro v1 v2 v3 v4 σ q hk
  unfold g_X8_gather_J59 at hk
  unfold f_X8_gather_J59
  exact hrec _ _ _ _  _ _ hk
noncomputable def g_X8_gather_L20 (k65 : Int → Int → st_S → Option (Int × st_S)) : Nat → Int → Int → Int → Int → st_S → Option (Int × st_S)
  | 0, _, _, _, _, _ => none
  | n + 1, v1, v2, v3, v4, σ =>
    if σ 147 0 ≤ v4 then
      k65 v2 v3 σ
    else
    (g_X5_stringsWith v1 v4 σ).bind fun q1 =>
    if q1.1 = (0 : Int) then
      g_X8_gather_J59 (g_X8_gather_L20 k65 n) k65 v1 v2 v3 v4 q1.2
    else
    if v3 = v2 then
      some (v4, q1.2)
    else
    g_X8_gather_J59 (g_X8_gather_L20 k65 n) k65 v1 v2 (ab_w32 (v3 + (1 : Int))) v4 q1.2
set_option maxRecDepth 20000 in
theorem s_X8_gather_L20 {k65 : Int → Int → st_S → Option (Int × st_S)} {kf65 : Int → Int → ab_H → Option (Int × ab_H)} (hk65 : ∀ (v2 : Int) (v3 : Int) (σ : st_S) (q : Int × st_S), k65 v2 v3 σ = some q → kf65 v2 v3 (mk_ σ) = some ((q.1, mk_ q.2))) : ∀ (n : Nat) (v1 : Int) (v2 : Int) (v3 : Int) (v4 : Int) (σ : st_S) (q : Int × st_S), g_X8_gather_L20 k65 n v1 v2 v3 v4 σ = some q → f_X8_gather_L20 kf65 n ((1 : Nat) : Int) v1 v2 v3 v4 (mk_ σ) = some ((q.1, mk_ q.2)) := by
  intro n
  induction n with
  | zero => intro v1 v2 v3 v4 σ q hk; cases hk
  | succ n ih =>
    intro v1 v2 v3 v4 σ q hk
    unfold g_X8_gather_L20 at hk
    unfold f_X8_gather_L20
    refine mb_getR 147 rfl rfl (by decide) ?_
    refine mb_get rfl rfl ?_
    by_cases hc : σ 147 0 ≤ v4
    · have hk := ab_ifp hk hc
      refine mb_ifp hc ?_
      exact hk65 _ _  _ _ hk
    · have hk := ab_ifn hk hc
      refine mb_ifn hc ?_
      refine mb_getR 150 rfl rfl (by decide) ?_
      obtain ⟨q1, hq1, hk⟩ := ab_bnd hk
      refine mb_on rfl (s_X5_stringsWith hq1) ?_
      by_cases hc : q1.1 = (0 : Int)
      · have hk := ab_ifp hk hc
        refine mb_ifp hc ?_
        exact s_X8_gather_J59 ih hk65 _ _ _ _  _ _ hk
      · have hk := ab_ifn hk hc
        refine mb_ifn hc ?_
        by_cases hc : v3 = v2
        · have hk := ab_ifp hk hc
          refine mb_ifp hc ?_
          obtain rfl := Option.some.inj hk
          rfl
        · have hk := ab_ifn hk hc
          refine mb_ifn hc ?_
          exact s_X8_gather_J59 ih hk65 _ _ _ _  _ _ hk
noncomputable def g_X8_gather (a1 : Int) (a2 : Int) (σ : st_S) : Option (Int × st_S) :=
  (g_X8_isRole a1 σ).bind fun q1 =>
  if q1.1 = (0 : Int) then
    some ((-2 : Int), q1.2)
  else
  if (-1 : Int) ≤ a2 then
    g_X8_gather_L20 (fun w65_2 w65_3 σx65 =>
      if w65_2 = (-1 : Int) then
        some (w65_3, σx65)
      else
      some ((-1 : Int), σx65)) ab_FU a1 a2 (0 : Int) (0 : Int) q1.2
  else
  some ((-2 : Int), q1.2)
set_option maxRecDepth 20000 in
theorem s_X8_gather {a1 : Int} {a2 : Int} {σ : st_S} {q : Int × st_S} (hk : g_X8_gather a1 a2 σ = some q) : f_X8_gather ((1 : Nat) : Int) a1 a2 (mk_ σ) = some ((q.1, mk_ q.2)) := by
  unfold g_X8_gather at hk
  unfold f_X8_gather
  obtain ⟨q1, hq1, hk⟩ := ab_bnd hk
  refine mb_eq (s_X8_isRole hq1) ?_
  by_cases hc : q1.1 = (0 : Int)
  · have hk := ab_ifp hk hc
    refine mb_ifp hc ?_
    obtain rfl := Option.some.inj hk
    rfl
  · have hk := ab_ifn hk hc
    refine mb_ifn hc ?_
    by_cases hc : (-1 : Int) ≤ a2
    · have hk := ab_ifp hk hc
      refine mb_ifp hc ?_
      refine s_X8_gather_L20 (fun w65_2 w65_3 σx65 q hk => ?_) _ _ _ _ _  _ _ hk
      · skip
        by_cases hc : w65_2 = (-1 : Int)
        · have hk := ab_ifp hk hc
          refine mb_ifp hc ?_
          obtain rfl := Option.some.inj hk
          rfl
        · have hk := ab_ifn hk hc
          refine mb_ifn hc ?_
          obtain rfl := Option.some.inj hk
          rfl
    · have hk := ab_ifn hk hc
      refine mb_ifn hc ?_
      obtain rfl := Option.some.inj hk
      rfl
noncomputable def g_X8_shared_J52 (rec : Int → Int → Int → st_S → Option (Int × st_S)) (v1 : Int) (v2 : Int) (v3 : Int) (σ : st_S) : Option (Int × st_S) :=
  rec v1 v2 (ab_w32 (v3 + (1 : Int))) σ
set_option maxRecDepth 20000 in
theorem s_X8_shared_J52 {rec : Int → Int → Int → st_S → Option (Int × st_S)} {recf : Int → Int → Int → Int → ab_H → Option (Int × ab_H)} (hrec : ∀ (v1 : Int) (v2 : Int) (v3 : Int) (σ : st_S) (q : Int × st_S), rec v1 v2 v3 σ = some q → recf ((1 : Nat) : Int) v1 v2 v3 (mk_ σ) = some ((q.1, mk_ q.2))) : ∀ (v1 : Int) (v2 : Int) (v3 : Int) (σ : st_S) (q : Int × st_S), g_X8_shared_J52 rec v1 v2 v3 σ = some q → f_X8_shared_J52 recf ((1 : Nat) : Int) v1 v2 v3 (mk_ σ) = some ((q.1, mk_ q.2)) := by
  intro v1 v2 v3 σ q hk
  unfold g_X8_shared_J52 at hk
  unfold f_X8_shared_J52
  exact hrec _ _ _  _ _ hk
noncomputable def g_X8_shared_L14 : Nat → Int → Int → Int → st_S → Option (Int × st_S)
  | 0, _, _, _, _ => none
  | n + 1, v1, v2, v3, σ =>
    if σ 147 0 ≤ v3 then
      some (v2, σ)
    else
    (g_X7_stringCount v3 σ).bind fun q1 =>
    if q1.1 < (2 : Int) then
      g_X8_shared_J52 (g_X8_shared_L14 n) v1 v2 v3 q1.2
    else
    (g_X5_stringsWith v1 v3 q1.2).bind fun q2 =>
    if q2.1 = (0 : Int) then
      g_X8_shared_J52 (g_X8_shared_L14 n) v1 v2 v3 q2.2
    else
    g_X8_shared_J52 (g_X8_shared_L14 n) v1 (ab_w32 (v2 + (1 : Int))) v3 q2.2
set_option maxRecDepth 20000 in
theorem s_X8_shared_L14 : ∀ (n : Nat) (v1 : Int) (v2 : Int) (v3 : Int) (σ : st_S) (q : Int × st_S), g_X8_shared_L14 n v1 v2 v3 σ = some q → f_X8_shared_L14 n ((1 : Nat) : Int) v1 v2 v3 (mk_ σ) = some ((q.1, mk_ q.2)) := by
  intro n
  induction n with
  | zero => intro v1 v2 v3 σ q hk; cases hk
  | succ n ih =>
    intro v1 v2 v3 σ q hk
    unfold g_X8_shared_L14 at hk
    unfold f_X8_shared_L14
    refine mb_getR 147 rfl rfl (by decide) ?_
    refine mb_get rfl rfl ?_
    by_cases hc : σ 147 0 ≤ v3
    · have hk := ab_ifp hk hc
      refine mb_ifp hc ?_
      obtain rfl := Option.some.inj hk
      rfl
    · have hk := ab_ifn hk hc
      refine mb_ifn hc ?_
      refine mb_getR 147 rfl rfl (by decide) ?_
      obtain ⟨q1, hq1, hk⟩ := ab_bnd hk
      refine mb_on rfl (s_X7_stringCount hq1) ?_
      by_cases hc : q1.1 < (2 : Int)
      · have hk := ab_ifp hk hc
        refine mb_ifp hc ?_
        exact s_X8_shared_J52 ih _ _ _  _ _ hk
      · have hk := ab_ifn hk hc
        refine mb_ifn hc ?_
        refine mb_getR 150 rfl rfl (by decide) ?_
        obtain ⟨q2, hq2, hk⟩ := ab_bnd hk
        refine mb_on rfl (s_X5_stringsWith hq2) ?_
        by_cases hc : q2.1 = (0 : Int)
        · have hk := ab_ifp hk hc
          refine mb_ifp hc ?_
          exact s_X8_shared_J52 ih _ _ _  _ _ hk
        · have hk := ab_ifn hk hc
          refine mb_ifn hc ?_
          exact s_X8_shared_J52 ih _ _ _  _ _ hk
noncomputable def g_X8_shared (a1 : Int) (σ : st_S) : Option (Int × st_S) :=
  (g_X8_isRole a1 σ).bind fun q1 =>
  if q1.1 = (0 : Int) then
    some ((-2 : Int), q1.2)
  else
  g_X8_shared_L14 ab_FU a1 (0 : Int) (0 : Int) q1.2
set_option maxRecDepth 20000 in
theorem s_X8_shared {a1 : Int} {σ : st_S} {q : Int × st_S} (hk : g_X8_shared a1 σ = some q) : f_X8_shared ((1 : Nat) : Int) a1 (mk_ σ) = some ((q.1, mk_ q.2)) := by
  unfold g_X8_shared at hk
  unfold f_X8_shared
  obtain ⟨q1, hq1, hk⟩ := ab_bnd hk
  refine mb_eq (s_X8_isRole hq1) ?_
  by_cases hc : q1.1 = (0 : Int)
  · have hk := ab_ifp hk hc
    refine mb_ifp hc ?_
    obtain rfl := Option.some.inj hk
    rfl
  · have hk := ab_ifn hk hc
    refine mb_ifn hc ?_
    refine s_X8_shared_L14 _ _ _ _  _ _ hk
noncomputable def g_X8_beside_J92 (rec : Int → Int → Int → Int → Int → st_S → Option (Int × st_S)) (k98 : Int → Int → st_S → Option (Int × st_S)) (v1 : Int) (v2 : Int) (v3 : Int) (v4 : Int) (v5 : Int) (σ : st_S) : Option (Int × st_S) :=
  rec v1 v2 v3 v4 (ab_w32 (v5 + (1 : Int))) σ
set_option maxRecDepth 20000 in
theorem s_X8_beside_J92 {rec : Int → Int → Int → Int → Int → st_S → Option (Int × st_S)} {recf : Int → Int → Int → Int → Int → Int → ab_H → Option (Int × ab_H)} {k98 : Int → Int → st_S → Option (Int × st_S)} {kf98 : Int → Int → ab_H → Option (Int × ab_H)} (hrec : ∀ (v1 : Int) (v2 : Int) (v3 : Int) (v4 : Int) (v5 : Int) (σ : st_S) (q : Int × st_S), rec v1 v2 v3 v4 v5 σ = some q → recf ((1 : Nat) : Int) v1 v2 v3 v4 v5 (mk_ σ) = some ((q.1, mk_ q.2))) (hk98 : ∀ (v3 : Int) (v4 : Int) (σ : st_S) (q : Int × st_S), k98 v3 v4 σ = some q → kf98 v3 v4 (mk_ σ) = some ((q.1, mk_ q.2))) : ∀ (v1 : Int) (v2 : Int) (v3 : Int) (v4 : Int) (v5 : Int) (σ : st_S) (q : Int × st_S), g_X8_beside_J92 rec k98 v1 v2 v3 v4 v5 σ = some q → f_X8_beside_J92 recf kf98 ((1 : Nat) : Int) v1 v2 v3 v4 v5 (mk_ σ) = some ((q.1, mk_ q.2)) := by
  intro v1 v2 v3 v4 v5 σ q hk
  unfold g_X8_beside_J92 at hk
  unfold f_X8_beside_J92
  exact hrec _ _ _ _ _  _ _ hk
noncomputable def g_X8_beside_J70 (rec : Int → Int → Int → Int → Int → st_S → Option (Int × st_S)) (k98 : Int → Int → st_S → Option (Int × st_S)) (v1 : Int) (v2 : Int) (v3 : Int) (v4 : Int) (v5 : Int) (s0 : Int) (σ : st_S) : Option (Int × st_S) :=
  if s0 = (0 : Int) then
    g_X8_beside_J92 rec k98 v1 v2 v3 v4 v5 σ
  else
  if v4 = v3 then
    some (v5, σ)
  else
  g_X8_beside_J92 rec k98 v1 v2 v3 (ab_w32 (v4 + (1 : Int))) v5 σ
set_option maxRecDepth 20000 in
theorem s_X8_beside_J70 {rec : Int → Int → Int → Int → Int → st_S → Option (Int × st_S)} {recf : Int → Int → Int → Int → Int → Int → ab_H → Option (Int × ab_H)} {k98 : Int → Int → st_S → Option (Int × st_S)} {kf98 : Int → Int → ab_H → Option (Int × ab_H)} (hrec : ∀ (v1 : Int) (v2 : Int) (v3 : Int) (v4 : Int) (v5 : Int) (σ : st_S) (q : Int × st_S), rec v1 v2 v3 v4 v5 σ = some q → recf ((1 : Nat) : Int) v1 v2 v3 v4 v5 (mk_ σ) = some ((q.1, mk_ q.2))) (hk98 : ∀ (v3 : Int) (v4 : Int) (σ : st_S) (q : Int × st_S), k98 v3 v4 σ = some q → kf98 v3 v4 (mk_ σ) = some ((q.1, mk_ q.2))) : ∀ (v1 : Int) (v2 : Int) (v3 : Int) (v4 : Int) (v5 : Int) (s0 : Int) (σ : st_S) (q : Int × st_S), g_X8_beside_J70 rec k98 v1 v2 v3 v4 v5 s0 σ = some q → f_X8_beside_J70 recf kf98 ((1 : Nat) : Int) v1 v2 v3 v4 v5 s0 (mk_ σ) = some ((q.1, mk_ q.2)) := by
  intro v1 v2 v3 v4 v5 s0 σ q hk
  unfold g_X8_beside_J70 at hk
  unfold f_X8_beside_J70
  by_cases hc : s0 = (0 : Int)
  · have hk := ab_ifp hk hc
    refine mb_ifp hc ?_
    exact s_X8_beside_J92 hrec hk98 _ _ _ _ _  _ _ hk
  · have hk := ab_ifn hk hc
    refine mb_ifn hc ?_
    by_cases hc : v4 = v3
    · have hk := ab_ifp hk hc
      refine mb_ifp hc ?_
      obtain rfl := Option.some.inj hk
      rfl
    · have hk := ab_ifn hk hc
      refine mb_ifn hc ?_
      exact s_X8_beside_J92 hrec hk98 _ _ _ _ _  _ _ hk
noncomputable def g_X8_beside_L31 (k98 : Int → Int → st_S → Option (Int × st_S)) : Nat → Int → Int → Int → Int → Int → st_S → Option (Int × st_S)
  | 0, _, _, _, _, _, _ => none
  | n + 1, v1, v2, v3, v4, v5, σ =>
    if σ 147 0 ≤ v5 then
      k98 v3 v4 σ
    else
    if v2 = (0 : Int) then
      (g_X5_follow v5 v1 σ).bind fun q2 =>
      g_X8_beside_J70 (g_X8_beside_L31 k98 n) k98 v1 v2 v3 v4 v5 q2.1 q2.2
    else
    (g_X5_follow v1 v5 σ).bind fun q1 =>
    g_X8_beside_J70 (g_X8_beside_L31 k98 n) k98 v1 v2 v3 v4 v5 q1.1 q1.2
set_option maxRecDepth 20000 in
theorem s_X8_beside_L31 {k98 : Int → Int → st_S → Option (Int × st_S)} {kf98 : Int → Int → ab_H → Option (Int × ab_H)} (hk98 : ∀ (v3 : Int) (v4 : Int) (σ : st_S) (q : Int × st_S), k98 v3 v4 σ = some q → kf98 v3 v4 (mk_ σ) = some ((q.1, mk_ q.2))) : ∀ (n : Nat) (v1 : Int) (v2 : Int) (v3 : Int) (v4 : Int) (v5 : Int) (σ : st_S) (q : Int × st_S), g_X8_beside_L31 k98 n v1 v2 v3 v4 v5 σ = some q → f_X8_beside_L31 kf98 n ((1 : Nat) : Int) v1 v2 v3 v4 v5 (mk_ σ) = some ((q.1, mk_ q.2)) := by
  intro n
  induction n with
  | zero => intro v1 v2 v3 v4 v5 σ q hk; cases hk
  | succ n ih =>
    intro v1 v2 v3 v4 v5 σ q hk
    unfold g_X8_beside_L31 at hk
    unfold f_X8_beside_L31
    refine mb_getR 147 rfl rfl (by decide) ?_
    refine mb_get rfl rfl ?_
    by_cases hc : σ 147 0 ≤ v5
    · have hk := ab_ifp hk hc
      refine mb_ifp hc ?_
      exact hk98 _ _  _ _ hk
    · have hk := ab_ifn hk hc
      refine mb_ifn hc ?_
      by_cases hc : v2 = (0 : Int)
      · have hk := ab_ifp hk hc
        refine mb_ifp hc ?_
        refine mb_getR 150 rfl rfl (by decide) ?_
        obtain ⟨q2, hq2, hk⟩ := ab_bnd hk
        refine mb_on rfl (s_X5_follow hq2) ?_
        exact s_X8_beside_J70 ih hk98 _ _ _ _ _ _  _ _ hk
      · have hk := ab_ifn hk hc
        refine mb_ifn hc ?_
        refine mb_getR 150 rfl rfl (by decide) ?_
        obtain ⟨q1, hq1, hk⟩ := ab_bnd hk
        refine mb_on rfl (s_X5_follow hq1) ?_
        exact s_X8_beside_J70 ih hk98 _ _ _ _ _ _  _ _ hk
noncomputable def g_X8_beside (a1 : Int) (a2 : Int) (a3 : Int) (σ : st_S) : Option (Int × st_S) :=
  (g_X8_isWord a1 σ).bind fun q1 =>
  if q1.1 = (0 : Int) then
    some ((-2 : Int), q1.2)
  else
  if a2 < (0 : Int) then
    some ((-2 : Int), q1.2)
  else
  if (1 : Int) < a2 then
    some ((-2 : Int), q1.2)
  else
  if (-1 : Int) ≤ a3 then
    g_X8_beside_L31 (fun w98_3 w98_4 σx98 =>
      if w98_3 = (-1 : Int) then
        some (w98_4, σx98)
      else
      some ((-1 : Int), σx98)) ab_FU a1 a2 a3 (0 : Int) (0 : Int) q1.2
  else
  some ((-2 : Int), q1.2)
set_option maxRecDepth 20000 in
theorem s_X8_beside {a1 : Int} {a2 : Int} {a3 : Int} {σ : st_S} {q : Int × st_S} (hk : g_X8_beside a1 a2 a3 σ = some q) : f_X8_beside ((1 : Nat) : Int) a1 a2 a3 (mk_ σ) = some ((q.1, mk_ q.2)) := by
  unfold g_X8_beside at hk
  unfold f_X8_beside
  obtain ⟨q1, hq1, hk⟩ := ab_bnd hk
  refine mb_on rfl (s_X8_isWord hq1) ?_
  by_cases hc : q1.1 = (0 : Int)
  · have hk := ab_ifp hk hc
    refine mb_ifp hc ?_
    obtain rfl := Option.some.inj hk
    rfl
  · have hk := ab_ifn hk hc
    refine mb_ifn hc ?_
    by_cases hc : a2 < (0 : Int)
    · have hk := ab_ifp hk hc
      refine mb_ifp hc ?_
      obtain rfl := Option.some.inj hk
      rfl
    · have hk := ab_ifn hk hc
      refine mb_ifn hc ?_
      by_cases hc : (1 : Int) < a2
      · have hk := ab_ifp hk hc
        refine mb_ifp hc ?_
        obtain rfl := Option.some.inj hk
        rfl
      · have hk := ab_ifn hk hc
        refine mb_ifn hc ?_
        by_cases hc : (-1 : Int) ≤ a3
        · have hk := ab_ifp hk hc
          refine mb_ifp hc ?_
          refine s_X8_beside_L31 (fun w98_3 w98_4 σx98 q hk => ?_) _ _ _ _ _ _  _ _ hk
          · skip
            by_cases hc : w98_3 = (-1 : Int)
            · have hk := ab_ifp hk hc
              refine mb_ifp hc ?_
              obtain rfl := Option.some.inj hk
              rfl
            · have hk := ab_ifn hk hc
              refine mb_ifn hc ?_
              obtain rfl := Option.some.inj hk
              rfl
        · have hk := ab_ifn hk hc
          refine mb_ifn hc ?_
          obtain rfl := Option.some.inj hk
          rfl
noncomputable def g_X8_chain (a1 : Int) (a2 : Int) (σ : st_S) : Option (Int × st_S) :=
  (g_X8_isWord a1 σ).bind fun q1 =>
  if q1.1 = (0 : Int) then
    some ((-2 : Int), q1.2)
  else
  (g_X8_isWord a2 q1.2).bind fun q2 =>
  if q2.1 = (0 : Int) then
    some ((-2 : Int), q2.2)
  else
  if a1 = a2 then
    some ((0 : Int), q2.2)
  else
  (g_X7_stepsBetween a1 a2 q2.2).bind fun q3 =>
  some (q3.1, q3.2)
set_option maxRecDepth 20000 in
theorem s_X8_chain {a1 : Int} {a2 : Int} {σ : st_S} {q : Int × st_S} (hk : g_X8_chain a1 a2 σ = some q) : f_X8_chain ((1 : Nat) : Int) a1 a2 (mk_ σ) = some ((q.1, mk_ q.2)) := by
  unfold g_X8_chain at hk
  unfold f_X8_chain
  obtain ⟨q1, hq1, hk⟩ := ab_bnd hk
  refine mb_on rfl (s_X8_isWord hq1) ?_
  by_cases hc : q1.1 = (0 : Int)
  · have hk := ab_ifp hk hc
    refine mb_ifp hc ?_
    obtain rfl := Option.some.inj hk
    rfl
  · have hk := ab_ifn hk hc
    refine mb_ifn hc ?_
    obtain ⟨q2, hq2, hk⟩ := ab_bnd hk
    refine mb_on rfl (s_X8_isWord hq2) ?_
    by_cases hc : q2.1 = (0 : Int)
    · have hk := ab_ifp hk hc
      refine mb_ifp hc ?_
      obtain rfl := Option.some.inj hk
      rfl
    · have hk := ab_ifn hk hc
      refine mb_ifn hc ?_
      by_cases hc : a1 = a2
      · have hk := ab_ifp hk hc
        refine mb_ifp hc ?_
        obtain rfl := Option.some.inj hk
        rfl
      · have hk := ab_ifn hk hc
        refine mb_ifn hc ?_
        refine mb_getR 147 rfl rfl (by decide) ?_
        obtain ⟨q3, hq3, hk⟩ := ab_bnd hk
        refine mb_on rfl (s_X7_stepsBetween hq3) ?_
        obtain rfl := Option.some.inj hk
        rfl
noncomputable def g_X8_groups_J48 (rec : Int → Int → Int → st_S → Option (Int × st_S)) (v1 : Int) (v2 : Int) (v3 : Int) (σ : st_S) : Option (Int × st_S) :=
  rec v1 v2 (ab_w32 (v3 + (1 : Int))) σ
set_option maxRecDepth 20000 in
theorem s_X8_groups_J48 {rec : Int → Int → Int → st_S → Option (Int × st_S)} {recf : Int → Int → Int → Int → ab_H → Option (Int × ab_H)} (hrec : ∀ (v1 : Int) (v2 : Int) (v3 : Int) (σ : st_S) (q : Int × st_S), rec v1 v2 v3 σ = some q → recf ((1 : Nat) : Int) v1 v2 v3 (mk_ σ) = some ((q.1, mk_ q.2))) : ∀ (v1 : Int) (v2 : Int) (v3 : Int) (σ : st_S) (q : Int × st_S), g_X8_groups_J48 rec v1 v2 v3 σ = some q → f_X8_groups_J48 recf ((1 : Nat) : Int) v1 v2 v3 (mk_ σ) = some ((q.1, mk_ q.2)) := by
  intro v1 v2 v3 σ q hk
  unfold g_X8_groups_J48 at hk
  unfold f_X8_groups_J48
  exact hrec _ _ _  _ _ hk
noncomputable def g_X8_groups_L6 : Nat → Int → Int → Int → st_S → Option (Int × st_S)
  | 0, _, _, _, _ => none
  | n + 1, v1, v2, v3, σ =>
    if σ 147 0 ≤ v3 then
      some (v1, σ)
    else
    (sa_ld σ 149 72 v3).bind fun t1 =>
    if ab_and t1 v2 = (0 : Int) then
      (g_X7_groupOf v3 σ).bind fun q2 =>
      g_X8_groups_J48 (g_X8_groups_L6 n) (ab_w32 (v1 + (1 : Int))) (ab_or v2 q2.1) v3 q2.2
    else
    g_X8_groups_J48 (g_X8_groups_L6 n) v1 v2 v3 σ
set_option maxRecDepth 20000 in
theorem s_X8_groups_L6 : ∀ (n : Nat) (v1 : Int) (v2 : Int) (v3 : Int) (σ : st_S) (q : Int × st_S), g_X8_groups_L6 n v1 v2 v3 σ = some q → f_X8_groups_L6 n ((1 : Nat) : Int) v1 v2 v3 (mk_ σ) = some ((q.1, mk_ q.2)) := by
  intro n
  induction n with
  | zero => intro v1 v2 v3 σ q hk; cases hk
  | succ n ih =>
    intro v1 v2 v3 σ q hk
    unfold g_X8_groups_L6 at hk
    unfold f_X8_groups_L6
    refine mb_getR 147 rfl rfl (by decide) ?_
    refine mb_get rfl rfl ?_
    by_cases hc : σ 147 0 ≤ v3
    · have hk := ab_ifp hk hc
      refine mb_ifp hc ?_
      obtain rfl := Option.some.inj hk
      rfl
    · have hk := ab_ifn hk hc
      refine mb_ifn hc ?_
      refine mb_getR 147 rfl rfl (by decide) ?_
      refine mb_getR 149 rfl rfl (by decide) ?_
      obtain ⟨t1, ht1, hk⟩ := ab_bnd hk
      refine mb_ald ⟨rfl, rfl, fun _ => rfl⟩ ht1 ?_
      by_cases hc : ab_and t1 v2 = (0 : Int)
      · have hk := ab_ifp hk hc
        refine mb_ifp hc ?_
        refine mb_getR 147 rfl rfl (by decide) ?_
        obtain ⟨q2, hq2, hk⟩ := ab_bnd hk
        refine mb_on rfl (s_X7_groupOf hq2) ?_
        exact s_X8_groups_J48 ih _ _ _  _ _ hk
      · have hk := ab_ifn hk hc
        refine mb_ifn hc ?_
        exact s_X8_groups_J48 ih _ _ _  _ _ hk
noncomputable def g_X8_groups (σ : st_S) : Option (Int × st_S) :=
  g_X8_groups_L6 ab_FU (0 : Int) (0 : Int) (0 : Int) σ
set_option maxRecDepth 20000 in
theorem s_X8_groups {σ : st_S} {q : Int × st_S} (hk : g_X8_groups σ = some q) : f_X8_groups ((1 : Nat) : Int) (mk_ σ) = some ((q.1, mk_ q.2)) := by
  unfold g_X8_groups at hk
  unfold f_X8_groups
  refine s_X8_groups_L6 _ _ _ _  _ _ hk
noncomputable def g_X8_cover_J63 (rec : Int → Int → st_S → Option (Int × st_S)) (v1 : Int) (v2 : Int) (σ : st_S) : Option (Int × st_S) :=
  rec v1 (ab_w32 (v2 + (1 : Int))) σ
set_option maxRecDepth 20000 in
theorem s_X8_cover_J63 {rec : Int → Int → st_S → Option (Int × st_S)} {recf : Int → Int → Int → ab_H → Option (Int × ab_H)} (hrec : ∀ (v1 : Int) (v2 : Int) (σ : st_S) (q : Int × st_S), rec v1 v2 σ = some q → recf ((1 : Nat) : Int) v1 v2 (mk_ σ) = some ((q.1, mk_ q.2))) : ∀ (v1 : Int) (v2 : Int) (σ : st_S) (q : Int × st_S), g_X8_cover_J63 rec v1 v2 σ = some q → f_X8_cover_J63 recf ((1 : Nat) : Int) v1 v2 (mk_ σ) = some ((q.1, mk_ q.2)) := by
  intro v1 v2 σ q hk
  unfold g_X8_cover_J63 at hk
  unfold f_X8_cover_J63
  exact hrec _ _  _ _ hk
noncomputable def g_X8_cover_L26 : Nat → Int → Int → st_S → Option (Int × st_S)
  | 0, _, _, _ => none
  | n + 1, v1, v2, σ =>
    if ab_shl (1 : Int) (σ 13 0) ≤ v2 then
      some (v1, σ)
    else
    (g_J6_bitCount_0f7a4 v2 σ).bind fun q1 =>
    (g_J6_bitCount_0f7a4 v1 q1.2).bind fun q2 =>
    if q2.1 ≤ q1.1 then
      g_X8_cover_J63 (g_X8_cover_L26 n) v1 v2 q2.2
    else
    (g_X7_areAllIn v2 q2.2).bind fun q3 =>
    if q3.1 = (0 : Int) then
      g_X8_cover_J63 (g_X8_cover_L26 n) v1 v2 q3.2
    else
    g_X8_cover_J63 (g_X8_cover_L26 n) v2 v2 q3.2
set_option maxRecDepth 20000 in
theorem s_X8_cover_L26 : ∀ (n : Nat) (v1 : Int) (v2 : Int) (σ : st_S) (q : Int × st_S), g_X8_cover_L26 n v1 v2 σ = some q → f_X8_cover_L26 n ((1 : Nat) : Int) v1 v2 (mk_ σ) = some ((q.1, mk_ q.2)) := by
  intro n
  induction n with
  | zero => intro v1 v2 σ q hk; cases hk
  | succ n ih =>
    intro v1 v2 σ q hk
    unfold g_X8_cover_L26 at hk
    unfold f_X8_cover_L26
    refine mb_getR 13 rfl rfl (by decide) ?_
    refine mb_get rfl rfl ?_
    by_cases hc : ab_shl (1 : Int) (σ 13 0) ≤ v2
    · have hk := ab_ifp hk hc
      refine mb_ifp hc ?_
      obtain rfl := Option.some.inj hk
      rfl
    · have hk := ab_ifn hk hc
      refine mb_ifn hc ?_
      obtain ⟨q1, hq1, hk⟩ := ab_bnd hk
      refine mb_eq (s_J6_bitCount_0f7a4 hq1) ?_
      obtain ⟨q2, hq2, hk⟩ := ab_bnd hk
      refine mb_eq (s_J6_bitCount_0f7a4 hq2) ?_
      by_cases hc : q2.1 ≤ q1.1
      · have hk := ab_ifp hk hc
        refine mb_ifp hc ?_
        exact s_X8_cover_J63 ih _ _  _ _ hk
      · have hk := ab_ifn hk hc
        refine mb_ifn hc ?_
        refine mb_getR 147 rfl rfl (by decide) ?_
        obtain ⟨q3, hq3, hk⟩ := ab_bnd hk
        refine mb_on rfl (s_X7_areAllIn hq3) ?_
        by_cases hc : q3.1 = (0 : Int)
        · have hk := ab_ifp hk hc
          refine mb_ifp hc ?_
          exact s_X8_cover_J63 ih _ _  _ _ hk
        · have hk := ab_ifn hk hc
          refine mb_ifn hc ?_
          exact s_X8_cover_J63 ih _ _  _ _ hk
noncomputable def g_X8_cover (σ : st_S) : Option (Int × st_S) :=
  if σ 147 0 = (0 : Int) then
    some ((-1 : Int), σ)
  else
  g_X8_cover_L26 ab_FU (ab_w32 ((ab_shl (1 : Int) (σ 13 0)) - (1 : Int))) (1 : Int) σ
set_option maxRecDepth 20000 in
theorem s_X8_cover {σ : st_S} {q : Int × st_S} (hk : g_X8_cover σ = some q) : f_X8_cover ((1 : Nat) : Int) (mk_ σ) = some ((q.1, mk_ q.2)) := by
  unfold g_X8_cover at hk
  unfold f_X8_cover
  refine mb_getR 147 rfl rfl (by decide) ?_
  refine mb_get rfl rfl ?_
  by_cases hc : σ 147 0 = (0 : Int)
  · have hk := ab_ifp hk hc
    refine mb_ifp hc ?_
    obtain rfl := Option.some.inj hk
    rfl
  · have hk := ab_ifn hk hc
    refine mb_ifn hc ?_
    refine mb_getR 13 rfl rfl (by decide) ?_
    refine mb_get rfl rfl ?_
    refine s_X8_cover_L26 _ _ _  _ _ hk
noncomputable def g_X8_alike (a1 : Int) (a2 : Int) (σ : st_S) : Option (Int × st_S) :=
  (g_X8_isString a1 σ).bind fun q1 =>
  if q1.1 = (0 : Int) then
    some ((-2 : Int), q1.2)
  else
  (g_X8_isString a2 q1.2).bind fun q2 =>
  if q2.1 = (0 : Int) then
    some ((-2 : Int), q2.2)
  else
  (g_X5_areSame a1 a2 q2.2).bind fun q3 =>
  if q3.1 = (0 : Int) then
    (g_X5_areOfOneSense a1 a2 q3.2).bind fun q4 =>
    if q4.1 = (0 : Int) then
      some ((0 : Int), q4.2)
    else
    some ((1 : Int), q4.2)
  else
  some ((2 : Int), q3.2)
set_option maxRecDepth 20000 in
theorem s_X8_alike {a1 : Int} {a2 : Int} {σ : st_S} {q : Int × st_S} (hk : g_X8_alike a1 a2 σ = some q) : f_X8_alike ((1 : Nat) : Int) a1 a2 (mk_ σ) = some ((q.1, mk_ q.2)) := by
  unfold g_X8_alike at hk
  unfold f_X8_alike
  obtain ⟨q1, hq1, hk⟩ := ab_bnd hk
  refine mb_on rfl (s_X8_isString hq1) ?_
  by_cases hc : q1.1 = (0 : Int)
  · have hk := ab_ifp hk hc
    refine mb_ifp hc ?_
    obtain rfl := Option.some.inj hk
    rfl
  · have hk := ab_ifn hk hc
    refine mb_ifn hc ?_
    obtain ⟨q2, hq2, hk⟩ := ab_bnd hk
    refine mb_on rfl (s_X8_isString hq2) ?_
    by_cases hc : q2.1 = (0 : Int)
    · have hk := ab_ifp hk hc
      refine mb_ifp hc ?_
      obtain rfl := Option.some.inj hk
      rfl
    · have hk := ab_ifn hk hc
      refine mb_ifn hc ?_
      refine mb_getR 150 rfl rfl (by decide) ?_
      obtain ⟨q3, hq3, hk⟩ := ab_bnd hk
      refine mb_on rfl (s_X5_areSame hq3) ?_
      by_cases hc : q3.1 = (0 : Int)
      · have hk := ab_ifp hk hc
        refine mb_ifp hc ?_
        refine mb_getR 150 rfl rfl (by decide) ?_
        obtain ⟨q4, hq4, hk⟩ := ab_bnd hk
        refine mb_on rfl (s_X5_areOfOneSense hq4) ?_
        by_cases hc : q4.1 = (0 : Int)
        · have hk := ab_ifp hk hc
          refine mb_ifp hc ?_
          obtain rfl := Option.some.inj hk
          rfl
        · have hk := ab_ifn hk hc
          refine mb_ifn hc ?_
          obtain rfl := Option.some.inj hk
          rfl
      · have hk := ab_ifn hk hc
        refine mb_ifn hc ?_
        obtain rfl := Option.some.inj hk
        rfl
noncomputable def g_X8_common (a1 : Int) (a2 : Int) (a3 : Int) (σ : st_S) : Option (Int × st_S) :=
  (g_X8_isString a1 σ).bind fun q1 =>
  if q1.1 = (0 : Int) then
    some ((-2 : Int), q1.2)
  else
  (g_X8_isString a2 q1.2).bind fun q2 =>
  if q2.1 = (0 : Int) then
    some ((-2 : Int), q2.2)
  else
  if a3 < (0 : Int) then
    some ((-2 : Int), q2.2)
  else
  if a3 ≤ (1 : Int) then
    (g_X5_inBoth a1 a2 q2.2).bind fun q3 =>
    if a3 = (0 : Int) then
      some (q3.1, q3.2)
    else
    (g_X5_senseSize a1 q3.2).bind fun q4 =>
    (g_X5_senseSize a2 q4.2).bind fun q5 =>
    some (ab_w32 ((ab_w32 (q4.1 + q5.1)) - q3.1), q5.2)
  else
  some ((-2 : Int), q2.2)
set_option maxRecDepth 20000 in
theorem s_X8_common {a1 : Int} {a2 : Int} {a3 : Int} {σ : st_S} {q : Int × st_S} (hk : g_X8_common a1 a2 a3 σ = some q) : f_X8_common ((1 : Nat) : Int) a1 a2 a3 (mk_ σ) = some ((q.1, mk_ q.2)) := by
  unfold g_X8_common at hk
  unfold f_X8_common
  obtain ⟨q1, hq1, hk⟩ := ab_bnd hk
  refine mb_on rfl (s_X8_isString hq1) ?_
  by_cases hc : q1.1 = (0 : Int)
  · have hk := ab_ifp hk hc
    refine mb_ifp hc ?_
    obtain rfl := Option.some.inj hk
    rfl
  · have hk := ab_ifn hk hc
    refine mb_ifn hc ?_
    obtain ⟨q2, hq2, hk⟩ := ab_bnd hk
    refine mb_on rfl (s_X8_isString hq2) ?_
    by_cases hc : q2.1 = (0 : Int)
    · have hk := ab_ifp hk hc
      refine mb_ifp hc ?_
      obtain rfl := Option.some.inj hk
      rfl
    · have hk := ab_ifn hk hc
      refine mb_ifn hc ?_
      by_cases hc : a3 < (0 : Int)
      · have hk := ab_ifp hk hc
        refine mb_ifp hc ?_
        obtain rfl := Option.some.inj hk
        rfl
      · have hk := ab_ifn hk hc
        refine mb_ifn hc ?_
        by_cases hc : a3 ≤ (1 : Int)
        · have hk := ab_ifp hk hc
          refine mb_ifp hc ?_
          refine mb_getR 150 rfl rfl (by decide) ?_
          obtain ⟨q3, hq3, hk⟩ := ab_bnd hk
          refine mb_on rfl (s_X5_inBoth hq3) ?_
          by_cases hc : a3 = (0 : Int)
          · have hk := ab_ifp hk hc
            refine mb_ifp hc ?_
            obtain rfl := Option.some.inj hk
            rfl
          · have hk := ab_ifn hk hc
            refine mb_ifn hc ?_
            refine mb_getR 150 rfl rfl (by decide) ?_
            obtain ⟨q4, hq4, hk⟩ := ab_bnd hk
            refine mb_on rfl (s_X5_senseSize hq4) ?_
            refine mb_getR 150 rfl rfl (by decide) ?_
            obtain ⟨q5, hq5, hk⟩ := ab_bnd hk
            refine mb_on rfl (s_X5_senseSize hq5) ?_
            obtain rfl := Option.some.inj hk
            rfl
        · have hk := ab_ifn hk hc
          refine mb_ifn hc ?_
          obtain rfl := Option.some.inj hk
          rfl
noncomputable def g_X8_nearest_J64 (rec : Int → Int → Int → Int → st_S → Option (Int × st_S)) (v1 : Int) (v2 : Int) (v3 : Int) (v4 : Int) (σ : st_S) : Option (Int × st_S) :=
  rec v1 v2 v3 (ab_w32 (v4 + (1 : Int))) σ
set_option maxRecDepth 20000 in
theorem s_X8_nearest_J64 {rec : Int → Int → Int → Int → st_S → Option (Int × st_S)} {recf : Int → Int → Int → Int → Int → ab_H → Option (Int × ab_H)} (hrec : ∀ (v1 : Int) (v2 : Int) (v3 : Int) (v4 : Int) (σ : st_S) (q : Int × st_S), rec v1 v2 v3 v4 σ = some q → recf ((1 : Nat) : Int) v1 v2 v3 v4 (mk_ σ) = some ((q.1, mk_ q.2))) : ∀ (v1 : Int) (v2 : Int) (v3 : Int) (v4 : Int) (σ : st_S) (q : Int × st_S), g_X8_nearest_J64 rec v1 v2 v3 v4 σ = some q → f_X8_nearest_J64 recf ((1 : Nat) : Int) v1 v2 v3 v4 (mk_ σ) = some ((q.1, mk_ q.2)) := by
  intro v1 v2 v3 v4 σ q hk
  unfold g_X8_nearest_J64 at hk
  unfold f_X8_nearest_J64
  exact hrec _ _ _ _  _ _ hk
noncomputable def g_X8_nearest_J50 (rec : Int → Int → Int → Int → st_S → Option (Int × st_S)) (v1 : Int) (v2 : Int) (v3 : Int) (v4 : Int) (s0 : Int) (σ : st_S) : Option (Int × st_S) :=
  if s0 ≤ v3 then
    g_X8_nearest_J64 rec v1 v2 v3 v4 σ
  else
  g_X8_nearest_J64 rec v1 v4 s0 v4 σ
set_option maxRecDepth 20000 in
theorem s_X8_nearest_J50 {rec : Int → Int → Int → Int → st_S → Option (Int × st_S)} {recf : Int → Int → Int → Int → Int → ab_H → Option (Int × ab_H)} (hrec : ∀ (v1 : Int) (v2 : Int) (v3 : Int) (v4 : Int) (σ : st_S) (q : Int × st_S), rec v1 v2 v3 v4 σ = some q → recf ((1 : Nat) : Int) v1 v2 v3 v4 (mk_ σ) = some ((q.1, mk_ q.2))) : ∀ (v1 : Int) (v2 : Int) (v3 : Int) (v4 : Int) (s0 : Int) (σ : st_S) (q : Int × st_S), g_X8_nearest_J50 rec v1 v2 v3 v4 s0 σ = some q → f_X8_nearest_J50 recf ((1 : Nat) : Int) v1 v2 v3 v4 s0 (mk_ σ) = some ((q.1, mk_ q.2)) := by
  intro v1 v2 v3 v4 s0 σ q hk
  unfold g_X8_nearest_J50 at hk
  unfold f_X8_nearest_J50
  by_cases hc : s0 ≤ v3
  · have hk := ab_ifp hk hc
    refine mb_ifp hc ?_
    exact s_X8_nearest_J64 hrec _ _ _ _  _ _ hk
  · have hk := ab_ifn hk hc
    refine mb_ifn hc ?_
    exact s_X8_nearest_J64 hrec _ _ _ _  _ _ hk
noncomputable def g_X8_nearest_L18 : Nat → Int → Int → Int → Int → st_S → Option (Int × st_S)
  | 0, _, _, _, _, _ => none
  | n + 1, v1, v2, v3, v4, σ =>
    if σ 13 0 ≤ v4 then
      some (v2, σ)
    else
    if v4 = v1 then
      g_X8_nearest_J50 (g_X8_nearest_L18 n) v1 v2 v3 v4 (0 : Int) σ
    else
    (g_X5_inBoth v1 v4 σ).bind fun q1 =>
    g_X8_nearest_J50 (g_X8_nearest_L18 n) v1 v2 v3 v4 q1.1 q1.2
set_option maxRecDepth 20000 in
theorem s_X8_nearest_L18 : ∀ (n : Nat) (v1 : Int) (v2 : Int) (v3 : Int) (v4 : Int) (σ : st_S) (q : Int × st_S), g_X8_nearest_L18 n v1 v2 v3 v4 σ = some q → f_X8_nearest_L18 n ((1 : Nat) : Int) v1 v2 v3 v4 (mk_ σ) = some ((q.1, mk_ q.2)) := by
  intro n
  induction n with
  | zero => intro v1 v2 v3 v4 σ q hk; cases hk
  | succ n ih =>
    intro v1 v2 v3 v4 σ q hk
    unfold g_X8_nearest_L18 at hk
    unfold f_X8_nearest_L18
    refine mb_getR 13 rfl rfl (by decide) ?_
    refine mb_get rfl rfl ?_
    by_cases hc : σ 13 0 ≤ v4
    · have hk := ab_ifp hk hc
      refine mb_ifp hc ?_
      obtain rfl := Option.some.inj hk
      rfl
    · have hk := ab_ifn hk hc
      refine mb_ifn hc ?_
      by_cases hc : v4 = v1
      · have hk := ab_ifp hk hc
        refine mb_ifp hc ?_
        exact s_X8_nearest_J50 ih _ _ _ _ _  _ _ hk
      · have hk := ab_ifn hk hc
        refine mb_ifn hc ?_
        refine mb_getR 150 rfl rfl (by decide) ?_
        obtain ⟨q1, hq1, hk⟩ := ab_bnd hk
        refine mb_on rfl (s_X5_inBoth hq1) ?_
        exact s_X8_nearest_J50 ih _ _ _ _ _  _ _ hk
noncomputable def g_X8_nearest (a1 : Int) (σ : st_S) : Option (Int × st_S) :=
  (g_X8_isString a1 σ).bind fun q1 =>
  if q1.1 = (0 : Int) then
    some ((-2 : Int), q1.2)
  else
  g_X8_nearest_L18 ab_FU a1 (-1 : Int) (0 : Int) (0 : Int) q1.2
set_option maxRecDepth 20000 in
theorem s_X8_nearest {a1 : Int} {σ : st_S} {q : Int × st_S} (hk : g_X8_nearest a1 σ = some q) : f_X8_nearest ((1 : Nat) : Int) a1 (mk_ σ) = some ((q.1, mk_ q.2)) := by
  unfold g_X8_nearest at hk
  unfold f_X8_nearest
  obtain ⟨q1, hq1, hk⟩ := ab_bnd hk
  refine mb_on rfl (s_X8_isString hq1) ?_
  by_cases hc : q1.1 = (0 : Int)
  · have hk := ab_ifp hk hc
    refine mb_ifp hc ?_
    obtain rfl := Option.some.inj hk
    rfl
  · have hk := ab_ifn hk hc
    refine mb_ifn hc ?_
    refine s_X8_nearest_L18 _ _ _ _ _  _ _ hk
noncomputable def g_X8_senses_J29 (rec : Int → Int → st_S → Option (Int × st_S)) (v1 : Int) (v2 : Int) (σ : st_S) : Option (Int × st_S) :=
  rec v1 (ab_w32 (v2 + (1 : Int))) σ
set_option maxRecDepth 20000 in
theorem s_X8_senses_J29 {rec : Int → Int → st_S → Option (Int × st_S)} {recf : Int → Int → Int → ab_H → Option (Int × ab_H)} (hrec : ∀ (v1 : Int) (v2 : Int) (σ : st_S) (q : Int × st_S), rec v1 v2 σ = some q → recf ((1 : Nat) : Int) v1 v2 (mk_ σ) = some ((q.1, mk_ q.2))) : ∀ (v1 : Int) (v2 : Int) (σ : st_S) (q : Int × st_S), g_X8_senses_J29 rec v1 v2 σ = some q → f_X8_senses_J29 recf ((1 : Nat) : Int) v1 v2 (mk_ σ) = some ((q.1, mk_ q.2)) := by
  intro v1 v2 σ q hk
  unfold g_X8_senses_J29 at hk
  unfold f_X8_senses_J29
  exact hrec _ _  _ _ hk
noncomputable def g_X8_senses_L4 : Nat → Int → Int → st_S → Option (Int × st_S)
  | 0, _, _, _ => none
  | n + 1, v1, v2, σ =>
    if σ 13 0 ≤ v2 then
      some (v1, σ)
    else
    (g_X5_isFirstOfSense v2 σ).bind fun q1 =>
    if q1.1 = (0 : Int) then
      g_X8_senses_J29 (g_X8_senses_L4 n) v1 v2 q1.2
    else
    g_X8_senses_J29 (g_X8_senses_L4 n) (ab_w32 (v1 + (1 : Int))) v2 q1.2
set_option maxRecDepth 20000 in
theorem s_X8_senses_L4 : ∀ (n : Nat) (v1 : Int) (v2 : Int) (σ : st_S) (q : Int × st_S), g_X8_senses_L4 n v1 v2 σ = some q → f_X8_senses_L4 n ((1 : Nat) : Int) v1 v2 (mk_ σ) = some ((q.1, mk_ q.2)) := by
  intro n
  induction n with
  | zero => intro v1 v2 σ q hk; cases hk
  | succ n ih =>
    intro v1 v2 σ q hk
    unfold g_X8_senses_L4 at hk
    unfold f_X8_senses_L4
    refine mb_getR 13 rfl rfl (by decide) ?_
    refine mb_get rfl rfl ?_
    by_cases hc : σ 13 0 ≤ v2
    · have hk := ab_ifp hk hc
      refine mb_ifp hc ?_
      obtain rfl := Option.some.inj hk
      rfl
    · have hk := ab_ifn hk hc
      refine mb_ifn hc ?_
      refine mb_getR 150 rfl rfl (by decide) ?_
      obtain ⟨q1, hq1, hk⟩ := ab_bnd hk
      refine mb_on rfl (s_X5_isFirstOfSense hq1) ?_
      by_cases hc : q1.1 = (0 : Int)
      · have hk := ab_ifp hk hc
        refine mb_ifp hc ?_
        exact s_X8_senses_J29 ih _ _  _ _ hk
      · have hk := ab_ifn hk hc
        refine mb_ifn hc ?_
        exact s_X8_senses_J29 ih _ _  _ _ hk
noncomputable def g_X8_senses (σ : st_S) : Option (Int × st_S) :=
  g_X8_senses_L4 ab_FU (0 : Int) (0 : Int) σ
set_option maxRecDepth 20000 in
theorem s_X8_senses {σ : st_S} {q : Int × st_S} (hk : g_X8_senses σ = some q) : f_X8_senses ((1 : Nat) : Int) (mk_ σ) = some ((q.1, mk_ q.2)) := by
  unfold g_X8_senses at hk
  unfold f_X8_senses
  refine s_X8_senses_L4 _ _ _  _ _ hk
noncomputable def g_X8_apart_J72 (rec : Int → Int → Int → st_S → Option (Int × st_S)) (v1 : Int) (v2 : Int) (v3 : Int) (σ : st_S) : Option (Int × st_S) :=
  rec v1 v2 (ab_w32 (v3 + (1 : Int))) σ
set_option maxRecDepth 20000 in
theorem s_X8_apart_J72 {rec : Int → Int → Int → st_S → Option (Int × st_S)} {recf : Int → Int → Int → Int → ab_H → Option (Int × ab_H)} (hrec : ∀ (v1 : Int) (v2 : Int) (v3 : Int) (σ : st_S) (q : Int × st_S), rec v1 v2 v3 σ = some q → recf ((1 : Nat) : Int) v1 v2 v3 (mk_ σ) = some ((q.1, mk_ q.2))) : ∀ (v1 : Int) (v2 : Int) (v3 : Int) (σ : st_S) (q : Int × st_S), g_X8_apart_J72 rec v1 v2 v3 σ = some q → f_X8_apart_J72 recf ((1 : Nat) : Int) v1 v2 v3 (mk_ σ) = some ((q.1, mk_ q.2)) := by
  intro v1 v2 v3 σ q hk
  unfold g_X8_apart_J72 at hk
  unfold f_X8_apart_J72
  exact hrec _ _ _  _ _ hk
noncomputable def g_X8_apart_J51 (rec : Int → Int → Int → st_S → Option (Int × st_S)) (v1 : Int) (v2 : Int) (v3 : Int) (s0 : Int) (σ : st_S) : Option (Int × st_S) :=
  if s0 = (0 : Int) then
    g_X8_apart_J72 rec v1 v2 v3 σ
  else
  (g_X8_stringsSharing v1 v3 σ).bind fun q1 =>
  if q1.1 = ab_shl (1 : Int) v1 then
    g_X8_apart_J72 rec v1 v3 v3 q1.2
  else
  g_X8_apart_J72 rec v1 v2 v3 q1.2
set_option maxRecDepth 20000 in
theorem s_X8_apart_J51 {rec : Int → Int → Int → st_S → Option (Int × st_S)} {recf : Int → Int → Int → Int → ab_H → Option (Int × ab_H)} (hrec : ∀ (v1 : Int) (v2 : Int) (v3 : Int) (σ : st_S) (q : Int × st_S), rec v1 v2 v3 σ = some q → recf ((1 : Nat) : Int) v1 v2 v3 (mk_ σ) = some ((q.1, mk_ q.2))) : ∀ (v1 : Int) (v2 : Int) (v3 : Int) (s0 : Int) (σ : st_S) (q : Int × st_S), g_X8_apart_J51 rec v1 v2 v3 s0 σ = some q → f_X8_apart_J51 recf ((1 : Nat) : Int) v1 v2 v3 s0 (mk_ σ) = some ((q.1, mk_ q.2)) := by
  intro v1 v2 v3 s0 σ q hk
  unfold g_X8_apart_J51 at hk
  unfold f_X8_apart_J51
  by_cases hc : s0 = (0 : Int)
  · have hk := ab_ifp hk hc
    refine mb_ifp hc ?_
    exact s_X8_apart_J72 hrec _ _ _  _ _ hk
  · have hk := ab_ifn hk hc
    refine mb_ifn hc ?_
    obtain ⟨q1, hq1, hk⟩ := ab_bnd hk
    refine mb_on rfl (s_X8_stringsSharing hq1) ?_
    by_cases hc : q1.1 = ab_shl (1 : Int) v1
    · have hk := ab_ifp hk hc
      refine mb_ifp hc ?_
      exact s_X8_apart_J72 hrec _ _ _  _ _ hk
    · have hk := ab_ifn hk hc
      refine mb_ifn hc ?_
      exact s_X8_apart_J72 hrec _ _ _  _ _ hk
noncomputable def g_X8_apart_J46 (rec : Int → Int → Int → st_S → Option (Int × st_S)) (v1 : Int) (v2 : Int) (v3 : Int) (σ : st_S) : Option (Int × st_S) :=
  g_X8_apart_J51 rec v1 v2 v3 (1 : Int) σ
set_option maxRecDepth 20000 in
theorem s_X8_apart_J46 {rec : Int → Int → Int → st_S → Option (Int × st_S)} {recf : Int → Int → Int → Int → ab_H → Option (Int × ab_H)} (hrec : ∀ (v1 : Int) (v2 : Int) (v3 : Int) (σ : st_S) (q : Int × st_S), rec v1 v2 v3 σ = some q → recf ((1 : Nat) : Int) v1 v2 v3 (mk_ σ) = some ((q.1, mk_ q.2))) : ∀ (v1 : Int) (v2 : Int) (v3 : Int) (σ : st_S) (q : Int × st_S), g_X8_apart_J46 rec v1 v2 v3 σ = some q → f_X8_apart_J46 recf ((1 : Nat) : Int) v1 v2 v3 (mk_ σ) = some ((q.1, mk_ q.2)) := by
  intro v1 v2 v3 σ q hk
  unfold g_X8_apart_J46 at hk
  unfold f_X8_apart_J46
  exact s_X8_apart_J51 hrec _ _ _ _  _ _ hk
noncomputable def g_X8_apart_L15 : Nat → Int → Int → Int → st_S → Option (Int × st_S)
  | 0, _, _, _, _ => none
  | n + 1, v1, v2, v3, σ =>
    (sa_ld σ 15 12 v1).bind fun t1 =>
    if ab_shl (1 : Int) t1 ≤ v3 then
      some (v2, σ)
    else
    if v2 = (-1 : Int) then
      g_X8_apart_J46 (g_X8_apart_L15 n) v1 v2 v3 σ
    else
    (g_J6_bitCount_0f7a4 v3 σ).bind fun q2 =>
    (g_J6_bitCount_0f7a4 v2 q2.2).bind fun q3 =>
    if q3.1 ≤ q2.1 then
      g_X8_apart_J51 (g_X8_apart_L15 n) v1 v2 v3 (0 : Int) q3.2
    else
    g_X8_apart_J46 (g_X8_apart_L15 n) v1 v2 v3 q3.2
set_option maxRecDepth 20000 in
theorem s_X8_apart_L15 : ∀ (n : Nat) (v1 : Int) (v2 : Int) (v3 : Int) (σ : st_S) (q : Int × st_S), g_X8_apart_L15 n v1 v2 v3 σ = some q → f_X8_apart_L15 n ((1 : Nat) : Int) v1 v2 v3 (mk_ σ) = some ((q.1, mk_ q.2)) := by
  intro n
  induction n with
  | zero => intro v1 v2 v3 σ q hk; cases hk
  | succ n ih =>
    intro v1 v2 v3 σ q hk
    unfold g_X8_apart_L15 at hk
    unfold f_X8_apart_L15
    refine mb_getR 13 rfl rfl (by decide) ?_
    refine mb_getR 15 rfl rfl (by decide) ?_
    obtain ⟨t1, ht1, hk⟩ := ab_bnd hk
    refine mb_ald ⟨rfl, rfl, fun _ => rfl⟩ ht1 ?_
    by_cases hc : ab_shl (1 : Int) t1 ≤ v3
    · have hk := ab_ifp hk hc
      refine mb_ifp hc ?_
      obtain rfl := Option.some.inj hk
      rfl
    · have hk := ab_ifn hk hc
      refine mb_ifn hc ?_
      by_cases hc : v2 = (-1 : Int)
      · have hk := ab_ifp hk hc
        refine mb_ifp hc ?_
        exact s_X8_apart_J46 ih _ _ _  _ _ hk
      · have hk := ab_ifn hk hc
        refine mb_ifn hc ?_
        obtain ⟨q2, hq2, hk⟩ := ab_bnd hk
        refine mb_eq (s_J6_bitCount_0f7a4 hq2) ?_
        obtain ⟨q3, hq3, hk⟩ := ab_bnd hk
        refine mb_eq (s_J6_bitCount_0f7a4 hq3) ?_
        by_cases hc : q3.1 ≤ q2.1
        · have hk := ab_ifp hk hc
          refine mb_ifp hc ?_
          exact s_X8_apart_J51 ih _ _ _ _  _ _ hk
        · have hk := ab_ifn hk hc
          refine mb_ifn hc ?_
          exact s_X8_apart_J46 ih _ _ _  _ _ hk
noncomputable def g_X8_apart (a1 : Int) (σ : st_S) : Option (Int × st_S) :=
  (g_X8_isString a1 σ).bind fun q1 =>
  if q1.1 = (0 : Int) then
    some ((-2 : Int), q1.2)
  else
  g_X8_apart_L15 ab_FU a1 (-1 : Int) (0 : Int) q1.2
set_option maxRecDepth 20000 in
theorem s_X8_apart {a1 : Int} {σ : st_S} {q : Int × st_S} (hk : g_X8_apart a1 σ = some q) : f_X8_apart ((1 : Nat) : Int) a1 (mk_ σ) = some ((q.1, mk_ q.2)) := by
  unfold g_X8_apart at hk
  unfold f_X8_apart
  obtain ⟨q1, hq1, hk⟩ := ab_bnd hk
  refine mb_on rfl (s_X8_isString hq1) ?_
  by_cases hc : q1.1 = (0 : Int)
  · have hk := ab_ifp hk hc
    refine mb_ifp hc ?_
    obtain rfl := Option.some.inj hk
    rfl
  · have hk := ab_ifn hk hc
    refine mb_ifn hc ?_
    refine s_X8_apart_L15 _ _ _ _  _ _ hk
noncomputable def g_X8_adds (σ : st_S) : Option (Int × st_S) :=
  if σ 13 0 < (12 : Int) then
    (g_X0_copyFrom 24 13 σ).bind fun q1 =>
    (g_X4_readAdded 2 24 q1).bind fun q2 =>
    (some (up2 q2.2 2 1 (0 : Int))).bind fun σ1 =>
    if q2.1 = (0 : Int) then
      some ((-4 : Int), σ1)
    else
    (g_X3_keep 13 σ1).bind fun q3 =>
    (g_X0_copyFrom 13 24 q3).bind fun q4 =>
    (g_X8_renew q4).bind fun q5 =>
    some (ab_w32 ((q5 13 0) - (1 : Int)), q5)
  else
  some ((-5 : Int), σ)
set_option maxRecDepth 20000 in
theorem s_X8_adds {σ : st_S} {q : Int × st_S} (hk : g_X8_adds σ = some q) : f_X8_adds ((1 : Nat) : Int) (mk_ σ) = some ((q.1, mk_ q.2)) := by
  unfold g_X8_adds at hk
  unfold f_X8_adds
  refine mb_getR 13 rfl rfl (by decide) ?_
  refine mb_get rfl rfl ?_
  by_cases hc : σ 13 0 < (12 : Int)
  · have hk := ab_ifp hk hc
    refine mb_ifp hc ?_
    refine mb_getR 24 rfl rfl (by decide) ?_
    refine mb_getR 13 rfl rfl (by decide) ?_
    obtain ⟨q1, hq1, hk⟩ := ab_bnd hk
    refine mb_on rfl (s_X0_copyFrom (rfl : isBk 24 = true) (rfl : isBk 13 = true) hq1) ?_
    refine mb_getR 8 rfl rfl (by decide) ?_
    refine mb_getR 2 rfl rfl (by decide) ?_
    refine mb_getR 24 rfl rfl (by decide) ?_
    obtain ⟨q2, hq2, hk⟩ := ab_bnd hk
    refine mb_on rfl (s_X4_readAdded (rfl : isBy 2 = true) (rfl : isBk 24 = true) hq2) ?_
    refine mb_getR 2 rfl rfl (by decide) ?_
    obtain ⟨σ1, hσ1, hk⟩ := ab_bnd hk
    refine mb_put rfl rfl hσ1 ?_
    by_cases hc : q2.1 = (0 : Int)
    · have hk := ab_ifp hk hc
      refine mb_ifp hc ?_
      obtain rfl := Option.some.inj hk
      rfl
    · have hk := ab_ifn hk hc
      refine mb_ifn hc ?_
      refine mb_getR 35 rfl rfl (by decide) ?_
      refine mb_getR 13 rfl rfl (by decide) ?_
      obtain ⟨q3, hq3, hk⟩ := ab_bnd hk
      refine mb_on rfl (s_X3_keep (rfl : isBk 13 = true) hq3) ?_
      refine mb_getR 13 rfl rfl (by decide) ?_
      refine mb_getR 24 rfl rfl (by decide) ?_
      obtain ⟨q4, hq4, hk⟩ := ab_bnd hk
      refine mb_on rfl (s_X0_copyFrom (rfl : isBk 13 = true) (rfl : isBk 24 = true) hq4) ?_
      obtain ⟨q5, hq5, hk⟩ := ab_bnd hk
      refine mb_on rfl (s_X8_renew hq5) ?_
      refine mb_getR 13 rfl rfl (by decide) ?_
      refine mb_get rfl rfl ?_
      obtain rfl := Option.some.inj hk
      rfl
  · have hk := ab_ifn hk hc
    refine mb_ifn hc ?_
    obtain rfl := Option.some.inj hk
    rfl
noncomputable def g_X8_drops (a1 : Int) (σ : st_S) : Option (Int × st_S) :=
  (g_X8_isString a1 σ).bind fun q1 =>
  if q1.1 = (0 : Int) then
    some ((-2 : Int), q1.2)
  else
  (g_X3_keep 13 q1.2).bind fun q2 =>
  (g_X0_dropString 13 a1 q2).bind fun q3 =>
  (g_X8_renew q3).bind fun q4 =>
  some (q4 13 0, q4)
set_option maxRecDepth 20000 in
theorem s_X8_drops {a1 : Int} {σ : st_S} {q : Int × st_S} (hk : g_X8_drops a1 σ = some q) : f_X8_drops ((1 : Nat) : Int) a1 (mk_ σ) = some ((q.1, mk_ q.2)) := by
  unfold g_X8_drops at hk
  unfold f_X8_drops
  obtain ⟨q1, hq1, hk⟩ := ab_bnd hk
  refine mb_on rfl (s_X8_isString hq1) ?_
  by_cases hc : q1.1 = (0 : Int)
  · have hk := ab_ifp hk hc
    refine mb_ifp hc ?_
    obtain rfl := Option.some.inj hk
    rfl
  · have hk := ab_ifn hk hc
    refine mb_ifn hc ?_
    refine mb_getR 35 rfl rfl (by decide) ?_
    refine mb_getR 13 rfl rfl (by decide) ?_
    obtain ⟨q2, hq2, hk⟩ := ab_bnd hk
    refine mb_on rfl (s_X3_keep (rfl : isBk 13 = true) hq2) ?_
    refine mb_getR 13 rfl rfl (by decide) ?_
    obtain ⟨q3, hq3, hk⟩ := ab_bnd hk
    refine mb_on rfl (s_X0_dropString (rfl : isBk 13 = true) hq3) ?_
    obtain ⟨q4, hq4, hk⟩ := ab_bnd hk
    refine mb_on rfl (s_X8_renew hq4) ?_
    refine mb_getR 13 rfl rfl (by decide) ?_
    refine mb_get rfl rfl ?_
    obtain rfl := Option.some.inj hk
    rfl
noncomputable def g_X8_law (a1 : Int) (a2 : Int) (σ : st_S) : Option (Int × st_S) :=
  (g_X8_isRole a1 σ).bind fun q1 =>
  if q1.1 = (0 : Int) then
    some ((-2 : Int), q1.2)
  else
  (g_X8_isWay a2 q1.2).bind fun q2 =>
  if q2.1 = (0 : Int) then
    some ((-2 : Int), q2.2)
  else
  (sa_ld q2.2 21 6 a1).bind fun t3 =>
  if t3 = a2 then
    some (t3, q2.2)
  else
  (g_X3_keep 13 q2.2).bind fun q4 =>
  (sa_st q4 21 6 a1 a2).bind fun σ1 =>
  (g_X8_renew σ1).bind fun q5 =>
  some (t3, q5)
set_option maxRecDepth 20000 in
theorem s_X8_law {a1 : Int} {a2 : Int} {σ : st_S} {q : Int × st_S} (hk : g_X8_law a1 a2 σ = some q) : f_X8_law ((1 : Nat) : Int) a1 a2 (mk_ σ) = some ((q.1, mk_ q.2)) := by
  unfold g_X8_law at hk
  unfold f_X8_law
  obtain ⟨q1, hq1, hk⟩ := ab_bnd hk
  refine mb_eq (s_X8_isRole hq1) ?_
  by_cases hc : q1.1 = (0 : Int)
  · have hk := ab_ifp hk hc
    refine mb_ifp hc ?_
    obtain rfl := Option.some.inj hk
    rfl
  · have hk := ab_ifn hk hc
    refine mb_ifn hc ?_
    obtain ⟨q2, hq2, hk⟩ := ab_bnd hk
    refine mb_eq (s_X8_isWay hq2) ?_
    by_cases hc : q2.1 = (0 : Int)
    · have hk := ab_ifp hk hc
      refine mb_ifp hc ?_
      obtain rfl := Option.some.inj hk
      rfl
    · have hk := ab_ifn hk hc
      refine mb_ifn hc ?_
      refine mb_getR 13 rfl rfl (by decide) ?_
      refine mb_getR 21 rfl rfl (by decide) ?_
      obtain ⟨t3, ht3, hk⟩ := ab_bnd hk
      refine mb_ald ⟨rfl, rfl, fun _ => rfl⟩ ht3 ?_
      by_cases hc : t3 = a2
      · have hk := ab_ifp hk hc
        refine mb_ifp hc ?_
        obtain rfl := Option.some.inj hk
        rfl
      · have hk := ab_ifn hk hc
        refine mb_ifn hc ?_
        refine mb_getR 35 rfl rfl (by decide) ?_
        refine mb_getR 13 rfl rfl (by decide) ?_
        obtain ⟨q4, hq4, hk⟩ := ab_bnd hk
        refine mb_on rfl (s_X3_keep (rfl : isBk 13 = true) hq4) ?_
        refine mb_getR 13 rfl rfl (by decide) ?_
        refine mb_getR 21 rfl rfl (by decide) ?_
        obtain ⟨σ1, hσ1, hk⟩ := ab_bnd hk
        refine mb_ast ⟨rfl, rfl, fun _ => rfl⟩ hσ1 ?_
        obtain ⟨q5, hq5, hk⟩ := ab_bnd hk
        refine mb_on rfl (s_X8_renew hq5) ?_
        obtain rfl := Option.some.inj hk
        rfl
noncomputable def g_X8_lead (a1 : Int) (a2 : Int) (a3 : Int) (σ : st_S) : Option (Int × st_S) :=
  (g_X8_isTerm a1 a2 σ).bind fun q1 =>
  if q1.1 = (0 : Int) then
    some ((-2 : Int), q1.2)
  else
  if a3 < (0 : Int) then
    some ((-2 : Int), q1.2)
  else
  if a3 ≤ (1 : Int) then
    (sa_ld q1.2 17 72 (ab_w32 ((ab_w32 (a1 * (6 : Int))) + a2))).bind fun t2 =>
    if t2 = a3 then
      some (t2, q1.2)
    else
    (g_X3_keep 13 q1.2).bind fun q3 =>
    (sa_st q3 17 72 (ab_w32 ((ab_w32 (a1 * (6 : Int))) + a2)) a3).bind fun σ1 =>
    (g_X8_renew σ1).bind fun q4 =>
    some (t2, q4)
  else
  some ((-2 : Int), q1.2)
set_option maxRecDepth 20000 in
theorem s_X8_lead {a1 : Int} {a2 : Int} {a3 : Int} {σ : st_S} {q : Int × st_S} (hk : g_X8_lead a1 a2 a3 σ = some q) : f_X8_lead ((1 : Nat) : Int) a1 a2 a3 (mk_ σ) = some ((q.1, mk_ q.2)) := by
  unfold g_X8_lead at hk
  unfold f_X8_lead
  obtain ⟨q1, hq1, hk⟩ := ab_bnd hk
  refine mb_on rfl (s_X8_isTerm hq1) ?_
  by_cases hc : q1.1 = (0 : Int)
  · have hk := ab_ifp hk hc
    refine mb_ifp hc ?_
    obtain rfl := Option.some.inj hk
    rfl
  · have hk := ab_ifn hk hc
    refine mb_ifn hc ?_
    by_cases hc : a3 < (0 : Int)
    · have hk := ab_ifp hk hc
      refine mb_ifp hc ?_
      obtain rfl := Option.some.inj hk
      rfl
    · have hk := ab_ifn hk hc
      refine mb_ifn hc ?_
      by_cases hc : a3 ≤ (1 : Int)
      · have hk := ab_ifp hk hc
        refine mb_ifp hc ?_
        refine mb_getR 13 rfl rfl (by decide) ?_
        refine mb_getR 17 rfl rfl (by decide) ?_
        obtain ⟨t2, ht2, hk⟩ := ab_bnd hk
        refine mb_ald ⟨rfl, rfl, fun _ => rfl⟩ ht2 ?_
        by_cases hc : t2 = a3
        · have hk := ab_ifp hk hc
          refine mb_ifp hc ?_
          obtain rfl := Option.some.inj hk
          rfl
        · have hk := ab_ifn hk hc
          refine mb_ifn hc ?_
          refine mb_getR 35 rfl rfl (by decide) ?_
          refine mb_getR 13 rfl rfl (by decide) ?_
          obtain ⟨q3, hq3, hk⟩ := ab_bnd hk
          refine mb_on rfl (s_X3_keep (rfl : isBk 13 = true) hq3) ?_
          refine mb_getR 13 rfl rfl (by decide) ?_
          refine mb_getR 17 rfl rfl (by decide) ?_
          obtain ⟨σ1, hσ1, hk⟩ := ab_bnd hk
          refine mb_ast ⟨rfl, rfl, fun _ => rfl⟩ hσ1 ?_
          obtain ⟨q4, hq4, hk⟩ := ab_bnd hk
          refine mb_on rfl (s_X8_renew hq4) ?_
          obtain rfl := Option.some.inj hk
          rfl
      · have hk := ab_ifn hk hc
        refine mb_ifn hc ?_
        obtain rfl := Option.some.inj hk
        rfl
noncomputable def g_X8_swaps (a1 : Int) (a2 : Int) (a3 : Int) (σ : st_S) : Option (Int × st_S) :=
  (g_X8_isTerm a1 a2 σ).bind fun q1 =>
  if q1.1 = (0 : Int) then
    some ((-2 : Int), q1.2)
  else
  (g_X8_isTerm a1 a3 q1.2).bind fun q2 =>
  if q2.1 = (0 : Int) then
    some ((-2 : Int), q2.2)
  else
  if a2 = a3 then
    some ((-2 : Int), q2.2)
  else
  (sa_ld q2.2 16 72 (ab_w32 ((ab_w32 (a1 * (6 : Int))) + a2))).bind fun t3 =>
  (sa_ld q2.2 16 72 (ab_w32 ((ab_w32 (a1 * (6 : Int))) + a3))).bind fun t4 =>
  if t3 = t4 then
    (g_X3_keep 13 q2.2).bind fun q5 =>
    (g_X0_exchange 13 (ab_w32 ((ab_w32 (a1 * (6 : Int))) + a2)) (ab_w32 ((ab_w32 (a1 * (6 : Int))) + a3)) q5).bind fun q6 =>
    (g_X8_renew q6).bind fun q7 =>
    some ((1 : Int), q7)
  else
  some ((-6 : Int), q2.2)
set_option maxRecDepth 20000 in
theorem s_X8_swaps {a1 : Int} {a2 : Int} {a3 : Int} {σ : st_S} {q : Int × st_S} (hk : g_X8_swaps a1 a2 a3 σ = some q) : f_X8_swaps ((1 : Nat) : Int) a1 a2 a3 (mk_ σ) = some ((q.1, mk_ q.2)) := by
  unfold g_X8_swaps at hk
  unfold f_X8_swaps
  obtain ⟨q1, hq1, hk⟩ := ab_bnd hk
  refine mb_on rfl (s_X8_isTerm hq1) ?_
  by_cases hc : q1.1 = (0 : Int)
  · have hk := ab_ifp hk hc
    refine mb_ifp hc ?_
    obtain rfl := Option.some.inj hk
    rfl
  · have hk := ab_ifn hk hc
    refine mb_ifn hc ?_
    obtain ⟨q2, hq2, hk⟩ := ab_bnd hk
    refine mb_on rfl (s_X8_isTerm hq2) ?_
    by_cases hc : q2.1 = (0 : Int)
    · have hk := ab_ifp hk hc
      refine mb_ifp hc ?_
      obtain rfl := Option.some.inj hk
      rfl
    · have hk := ab_ifn hk hc
      refine mb_ifn hc ?_
      by_cases hc : a2 = a3
      · have hk := ab_ifp hk hc
        refine mb_ifp hc ?_
        obtain rfl := Option.some.inj hk
        rfl
      · have hk := ab_ifn hk hc
        refine mb_ifn hc ?_
        refine mb_getR 13 rfl rfl (by decide) ?_
        refine mb_getR 16 rfl rfl (by decide) ?_
        obtain ⟨t3, ht3, hk⟩ := ab_bnd hk
        refine mb_ald ⟨rfl, rfl, fun _ => rfl⟩ ht3 ?_
        refine mb_getR 13 rfl rfl (by decide) ?_
        refine mb_getR 16 rfl rfl (by decide) ?_
        obtain ⟨t4, ht4, hk⟩ := ab_bnd hk
        refine mb_ald ⟨rfl, rfl, fun _ => rfl⟩ ht4 ?_
        by_cases hc : t3 = t4
        · have hk := ab_ifp hk hc
          refine mb_ifp hc ?_
          refine mb_getR 35 rfl rfl (by decide) ?_
          refine mb_getR 13 rfl rfl (by decide) ?_
          obtain ⟨q5, hq5, hk⟩ := ab_bnd hk
          refine mb_on rfl (s_X3_keep (rfl : isBk 13 = true) hq5) ?_
          refine mb_getR 13 rfl rfl (by decide) ?_
          obtain ⟨q6, hq6, hk⟩ := ab_bnd hk
          refine mb_on rfl (s_X0_exchange (rfl : isBk 13 = true) hq6) ?_
          obtain ⟨q7, hq7, hk⟩ := ab_bnd hk
          refine mb_on rfl (s_X8_renew hq7) ?_
          obtain rfl := Option.some.inj hk
          rfl
        · have hk := ab_ifn hk hc
          refine mb_ifn hc ?_
          obtain rfl := Option.some.inj hk
          rfl
noncomputable def g_X8_see (a1 : Int) (a2 : Int) (σ : st_S) : Option (Int × st_S) :=
  (g_X8_isWord a1 σ).bind fun q1 =>
  if q1.1 = (0 : Int) then
    some ((-2 : Int), q1.2)
  else
  (g_X8_isWord a2 q1.2).bind fun q2 =>
  if q2.1 = (0 : Int) then
    some ((-2 : Int), q2.2)
  else
  if q2.2 13 9 < (12 : Int) then
    if a1 = a2 then
      some ((-6 : Int), q2.2)
    else
    (g_X3_keep 13 q2.2).bind fun q3 =>
    (sa_ld q3 148 72 a1).bind fun t4 =>
    (sa_ld q3 148 72 a2).bind fun t5 =>
    (g_X0_addSee 13 t4 t5 q3).bind fun q6 =>
    (g_X8_renew q6).bind fun q7 =>
    some (q7 13 9, q7)
  else
  some ((-5 : Int), q2.2)
set_option maxRecDepth 20000 in
theorem s_X8_see {a1 : Int} {a2 : Int} {σ : st_S} {q : Int × st_S} (hk : g_X8_see a1 a2 σ = some q) : f_X8_see ((1 : Nat) : Int) a1 a2 (mk_ σ) = some ((q.1, mk_ q.2)) := by
  unfold g_X8_see at hk
  unfold f_X8_see
  obtain ⟨q1, hq1, hk⟩ := ab_bnd hk
  refine mb_on rfl (s_X8_isWord hq1) ?_
  by_cases hc : q1.1 = (0 : Int)
  · have hk := ab_ifp hk hc
    refine mb_ifp hc ?_
    obtain rfl := Option.some.inj hk
    rfl
  · have hk := ab_ifn hk hc
    refine mb_ifn hc ?_
    obtain ⟨q2, hq2, hk⟩ := ab_bnd hk
    refine mb_on rfl (s_X8_isWord hq2) ?_
    by_cases hc : q2.1 = (0 : Int)
    · have hk := ab_ifp hk hc
      refine mb_ifp hc ?_
      obtain rfl := Option.some.inj hk
      rfl
    · have hk := ab_ifn hk hc
      refine mb_ifn hc ?_
      refine mb_getR 13 rfl rfl (by decide) ?_
      refine mb_get rfl rfl ?_
      by_cases hc : q2.2 13 9 < (12 : Int)
      · have hk := ab_ifp hk hc
        refine mb_ifp hc ?_
        by_cases hc : a1 = a2
        · have hk := ab_ifp hk hc
          refine mb_ifp hc ?_
          obtain rfl := Option.some.inj hk
          rfl
        · have hk := ab_ifn hk hc
          refine mb_ifn hc ?_
          refine mb_getR 35 rfl rfl (by decide) ?_
          refine mb_getR 13 rfl rfl (by decide) ?_
          obtain ⟨q3, hq3, hk⟩ := ab_bnd hk
          refine mb_on rfl (s_X3_keep (rfl : isBk 13 = true) hq3) ?_
          refine mb_getR 13 rfl rfl (by decide) ?_
          refine mb_getR 147 rfl rfl (by decide) ?_
          refine mb_getR 148 rfl rfl (by decide) ?_
          obtain ⟨t4, ht4, hk⟩ := ab_bnd hk
          refine mb_ald ⟨rfl, rfl, fun _ => rfl⟩ ht4 ?_
          refine mb_getR 147 rfl rfl (by decide) ?_
          refine mb_getR 148 rfl rfl (by decide) ?_
          obtain ⟨t5, ht5, hk⟩ := ab_bnd hk
          refine mb_ald ⟨rfl, rfl, fun _ => rfl⟩ ht5 ?_
          obtain ⟨q6, hq6, hk⟩ := ab_bnd hk
          refine mb_on rfl (s_X0_addSee (rfl : isBk 13 = true) hq6) ?_
          obtain ⟨q7, hq7, hk⟩ := ab_bnd hk
          refine mb_on rfl (s_X8_renew hq7) ?_
          refine mb_getR 13 rfl rfl (by decide) ?_
          refine mb_get rfl rfl ?_
          obtain rfl := Option.some.inj hk
          rfl
      · have hk := ab_ifn hk hc
        refine mb_ifn hc ?_
        obtain rfl := Option.some.inj hk
        rfl
noncomputable def g_X8_forget (a1 : Int) (σ : st_S) : Option (Int × st_S) :=
  if (0 : Int) ≤ a1 then
    if a1 < σ 13 9 then
      (g_X3_keep 13 σ).bind fun q1 =>
      (g_X0_dropSee 13 a1 q1).bind fun q2 =>
      (g_X8_renew q2).bind fun q3 =>
      some (q3 13 9, q3)
    else
    some ((-1 : Int), σ)
  else
  some ((-2 : Int), σ)
set_option maxRecDepth 20000 in
theorem s_X8_forget {a1 : Int} {σ : st_S} {q : Int × st_S} (hk : g_X8_forget a1 σ = some q) : f_X8_forget ((1 : Nat) : Int) a1 (mk_ σ) = some ((q.1, mk_ q.2)) := by
  unfold g_X8_forget at hk
  unfold f_X8_forget
  by_cases hc : (0 : Int) ≤ a1
  · have hk := ab_ifp hk hc
    refine mb_ifp hc ?_
    refine mb_getR 13 rfl rfl (by decide) ?_
    refine mb_get rfl rfl ?_
    by_cases hc : a1 < σ 13 9
    · have hk := ab_ifp hk hc
      refine mb_ifp hc ?_
      refine mb_getR 35 rfl rfl (by decide) ?_
      refine mb_getR 13 rfl rfl (by decide) ?_
      obtain ⟨q1, hq1, hk⟩ := ab_bnd hk
      refine mb_on rfl (s_X3_keep (rfl : isBk 13 = true) hq1) ?_
      refine mb_getR 13 rfl rfl (by decide) ?_
      obtain ⟨q2, hq2, hk⟩ := ab_bnd hk
      refine mb_on rfl (s_X0_dropSee (rfl : isBk 13 = true) hq2) ?_
      obtain ⟨q3, hq3, hk⟩ := ab_bnd hk
      refine mb_on rfl (s_X8_renew hq3) ?_
      refine mb_getR 13 rfl rfl (by decide) ?_
      refine mb_get rfl rfl ?_
      obtain rfl := Option.some.inj hk
      rfl
    · have hk := ab_ifn hk hc
      refine mb_ifn hc ?_
      obtain rfl := Option.some.inj hk
      rfl
  · have hk := ab_ifn hk hc
    refine mb_ifn hc ?_
    obtain rfl := Option.some.inj hk
    rfl
noncomputable def g_X8_moves (a1 : Int) (a2 : Int) (σ : st_S) : Option (Int × st_S) :=
  (g_X8_isString a1 σ).bind fun q1 =>
  if q1.1 = (0 : Int) then
    some ((-2 : Int), q1.2)
  else
  (g_X8_isAddress a2 q1.2).bind fun q2 =>
  if q2.1 = (0 : Int) then
    some ((-2 : Int), q2.2)
  else
  (sa_ld q2.2 14 12 a1).bind fun t3 =>
  if t3 = a2 then
    some (t3, q2.2)
  else
  (g_X0_stringAt 13 a2 q2.2).bind fun q4 =>
  if q4.1 = (-1 : Int) then
    (g_X3_keep 13 q4.2).bind fun q5 =>
    (sa_st q5 14 12 a1 a2).bind fun σ1 =>
    (g_X8_renew σ1).bind fun q6 =>
    some (t3, q6)
  else
  some ((-6 : Int), q4.2)
set_option maxRecDepth 20000 in
theorem s_X8_moves {a1 : Int} {a2 : Int} {σ : st_S} {q : Int × st_S} (hk : g_X8_moves a1 a2 σ = some q) : f_X8_moves ((1 : Nat) : Int) a1 a2 (mk_ σ) = some ((q.1, mk_ q.2)) := by
  unfold g_X8_moves at hk
  unfold f_X8_moves
  obtain ⟨q1, hq1, hk⟩ := ab_bnd hk
  refine mb_on rfl (s_X8_isString hq1) ?_
  by_cases hc : q1.1 = (0 : Int)
  · have hk := ab_ifp hk hc
    refine mb_ifp hc ?_
    obtain rfl := Option.some.inj hk
    rfl
  · have hk := ab_ifn hk hc
    refine mb_ifn hc ?_
    obtain ⟨q2, hq2, hk⟩ := ab_bnd hk
    refine mb_eq (s_X8_isAddress hq2) ?_
    by_cases hc : q2.1 = (0 : Int)
    · have hk := ab_ifp hk hc
      refine mb_ifp hc ?_
      obtain rfl := Option.some.inj hk
      rfl
    · have hk := ab_ifn hk hc
      refine mb_ifn hc ?_
      refine mb_getR 13 rfl rfl (by decide) ?_
      refine mb_getR 14 rfl rfl (by decide) ?_
      obtain ⟨t3, ht3, hk⟩ := ab_bnd hk
      refine mb_ald ⟨rfl, rfl, fun _ => rfl⟩ ht3 ?_
      by_cases hc : t3 = a2
      · have hk := ab_ifp hk hc
        refine mb_ifp hc ?_
        obtain rfl := Option.some.inj hk
        rfl
      · have hk := ab_ifn hk hc
        refine mb_ifn hc ?_
        refine mb_getR 13 rfl rfl (by decide) ?_
        obtain ⟨q4, hq4, hk⟩ := ab_bnd hk
        refine mb_on rfl (s_X0_stringAt (rfl : isBk 13 = true) hq4) ?_
        by_cases hc : q4.1 = (-1 : Int)
        · have hk := ab_ifp hk hc
          refine mb_ifp hc ?_
          refine mb_getR 35 rfl rfl (by decide) ?_
          refine mb_getR 13 rfl rfl (by decide) ?_
          obtain ⟨q5, hq5, hk⟩ := ab_bnd hk
          refine mb_on rfl (s_X3_keep (rfl : isBk 13 = true) hq5) ?_
          refine mb_getR 13 rfl rfl (by decide) ?_
          refine mb_getR 14 rfl rfl (by decide) ?_
          obtain ⟨σ1, hσ1, hk⟩ := ab_bnd hk
          refine mb_ast ⟨rfl, rfl, fun _ => rfl⟩ hσ1 ?_
          obtain ⟨q6, hq6, hk⟩ := ab_bnd hk
          refine mb_on rfl (s_X8_renew hq6) ?_
          obtain rfl := Option.some.inj hk
          rfl
        · have hk := ab_ifn hk hc
          refine mb_ifn hc ?_
          obtain rfl := Option.some.inj hk
          rfl
noncomputable def g_X8_undo (σ : st_S) : Option (Int × st_S) :=
  if σ 35 2 = (0 : Int) then
    some ((-1 : Int), σ)
  else
  (g_X3_takeBack 13 σ).bind fun q1 =>
  (g_X8_renew q1).bind fun q2 =>
  some (q2 35 2, q2)
set_option maxRecDepth 20000 in
theorem s_X8_undo {σ : st_S} {q : Int × st_S} (hk : g_X8_undo σ = some q) : f_X8_undo ((1 : Nat) : Int) (mk_ σ) = some ((q.1, mk_ q.2)) := by
  unfold g_X8_undo at hk
  unfold f_X8_undo
  refine mb_getR 35 rfl rfl (by decide) ?_
  refine mb_get rfl rfl ?_
  by_cases hc : σ 35 2 = (0 : Int)
  · have hk := ab_ifp hk hc
    refine mb_ifp hc ?_
    obtain rfl := Option.some.inj hk
    rfl
  · have hk := ab_ifn hk hc
    refine mb_ifn hc ?_
    refine mb_getR 35 rfl rfl (by decide) ?_
    refine mb_getR 13 rfl rfl (by decide) ?_
    obtain ⟨q1, hq1, hk⟩ := ab_bnd hk
    refine mb_on rfl (s_X3_takeBack (rfl : isBk 13 = true) hq1) ?_
    obtain ⟨q2, hq2, hk⟩ := ab_bnd hk
    refine mb_on rfl (s_X8_renew hq2) ?_
    refine mb_getR 35 rfl rfl (by decide) ?_
    refine mb_get rfl rfl ?_
    obtain rfl := Option.some.inj hk
    rfl
