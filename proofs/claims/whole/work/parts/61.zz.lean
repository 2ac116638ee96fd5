/-! cells beyond the end -/
def ZZ (h : ab_H) : Prop := (h.2.2 0) = (0, 0, ab_zero) ∧ ∀ a, h.1 < a → h.2.2 a = (0, 0, ab_zero)
theorem zz_mkO {h h2 : ab_H} {ci : Nat} (e : ab_mkO h ci = some h2) (z : ZZ h) : ZZ h2 := by
  cases e
  refine ⟨?_, fun a ha => ?_⟩
  · simp only [ab_push]; rw [if_neg (by omega)]; exact z.1
  · simp only [ab_push] at ha ⊢; rw [if_neg (by omega)]; exact z.2 a (by omega)
theorem zz_mkA {h h2 : ab_H} {kd : Nat} {n : Int} (e : ab_mkA h kd n = some h2) (z : ZZ h) : ZZ h2 := by
  unfold ab_mkA at e; split at e
  · cases e
    refine ⟨?_, fun a ha => ?_⟩
    · simp only [ab_push]; rw [if_neg (by omega)]; exact z.1
    · simp only [ab_push] at ha ⊢; rw [if_neg (by omega)]; exact z.2 a (by omega)
  · cases e
theorem zz_set {h : ab_H} {a kd : Nat} {c : ab_C} (hk : (h.2.2 a).1 = kd + 1) (z : ZZ h) : ZZ (ab_set h a c) := by
  have h0 : a ≠ 0 := fun q => by rw [q, z.1] at hk; cases hk
  have h1 : a ≤ h.1 := by
    rcases Nat.lt_or_ge h.1 a with q | q
    · rw [z.2 a q] at hk; cases hk
    · exact q
  refine ⟨?_, fun b hb => ?_⟩
  · simp only [ab_set]; rw [if_neg (by omega)]; exact z.1
  · simp only [ab_set] at hb ⊢; rw [if_neg (by omega)]; exact z.2 b hb
theorem zz_put {h h2 : ab_H} {kd k : Nat} {r x : Int} (e : ab_put h (kd + 1) k r x = some h2) (z : ZZ h) : ZZ h2 := by
  unfold ab_put at e; split at e
  · next hc => cases e; exact zz_set hc z
  · cases e
theorem zz_putR {h h2 : ab_H} {kd k : Nat} {r x : Int} (e : ab_putR h (kd + 1) k r x = some h2) (z : ZZ h) : ZZ h2 := by
  unfold ab_putR at e; split at e
  · exact zz_put e z
  · cases e
theorem zz_ast {h h2 : ab_H} {kd : Nat} {r i x : Int} (e : ab_ast h (kd + 1) r i x = some h2) (z : ZZ h) : ZZ h2 := by
  unfold ab_ast at e; split at e
  · next hc => cases e; exact zz_set hc.1 z
  · cases e
theorem zz_astR {h h2 : ab_H} {kd ko : Nat} {r i x : Int} (e : ab_astR h (kd + 1) ko r i x = some h2) (z : ZZ h) : ZZ h2 := by
  unfold ab_astR at e; split at e
  · exact zz_ast e z
  · cases e
theorem zz_X1_init {a0 a1 : Int} {h : ab_H} {q : ab_H} (hk : f_X1_init a0 a1 h = some q) (z : ZZ h) : ZZ q := by
  unfold f_X1_init at hk
  obtain ⟨hg, hk⟩ := ab_if_some hk
  obtain ⟨h1, hh1, hk⟩ := ab_bnd hk
  have zh1 := zz_mkA hh1 z
  obtain ⟨h2, hh2, hk⟩ := ab_bnd hk
  have zh2 := zz_putR hh2 zh1
  obtain rfl := Option.some.inj hk
  exact zh2
theorem zz_X8_isLetter_J16 : ∀ (h : ab_H) (q : Int × ab_H), f_X8_isLetter_J16  h = some q → ZZ h → ZZ q.2 := by
  intro  h q hk z
  unfold f_X8_isLetter_J16 at hk
  obtain rfl := Option.some.inj hk
  exact z
theorem zz_X8_isLetter {a0 : Int} {h : ab_H} {q : Int × ab_H} (hk : f_X8_isLetter a0 h = some q) (z : ZZ h) : ZZ q.2 := by
  unfold f_X8_isLetter at hk
  by_cases hc : a0 < (97 : Int)
  · have hk := ab_ifp hk hc
    exact zz_X8_isLetter_J16  _ _ hk z
  · have hk := ab_ifn hk hc
    by_cases hc : (122 : Int) < a0
    · have hk := ab_ifp hk hc
      exact zz_X8_isLetter_J16  _ _ hk z
    · have hk := ab_ifn hk hc
      obtain rfl := Option.some.inj hk
      exact z
theorem zz_X8_grown {a0 a2 : Int} {h : ab_H} {q : Int × ab_H} (hk : f_X8_grown a0 a2 h = some q) (z : ZZ h) : ZZ q.2 := by
  unfold f_X8_grown at hk
  obtain rfl := Option.some.inj hk
  exact z
theorem zz_X8_aligned_J24 {rec : Int → Int → ab_H → Option (Int × ab_H)} (hrec : ∀ (v2 : Int) (v4 : Int) (h : ab_H) (q : Int × ab_H), rec v2 v4 h = some q → ZZ h → ZZ q.2) : ∀ (v2 : Int) (v4 : Int) (h : ab_H) (q : Int × ab_H), f_X8_aligned_J24 rec v2 v4 h = some q → ZZ h → ZZ q.2 := by
  intro v2 v4 h q hk z
  unfold f_X8_aligned_J24 at hk
  exact hrec _ _ _ _ hk z
theorem zz_X8_aligned_L5 : ∀ (n : Nat) (v2 : Int) (v4 : Int) (h : ab_H) (q : Int × ab_H), f_X8_aligned_L5 n v2 v4 h = some q → ZZ h → ZZ q.2 := by
  intro n
  induction n with
  | zero => intro v2 v4 h q hk; cases hk
  | succ n ih =>
    intro v2 v4 h q hk z
    unfold f_X8_aligned_L5 at hk
    by_cases hc : (7 : Int) ≤ v4
    · have hk := ab_ifp hk hc
      obtain rfl := Option.some.inj hk
      exact z
    · have hk := ab_ifn hk hc
      by_cases hc : (0 : Int) ≤ ab_cmp v2 (1073741824 : Int)
      · have hk := ab_ifp hk hc
        exact zz_X8_aligned_J24 ih _ _ _ _ hk z
      · have hk := ab_ifn hk hc
        exact zz_X8_aligned_J24 ih _ _ _ _ hk z
theorem zz_X8_aligned {a0 : Int} {h : ab_H} {q : Int × ab_H} (hk : f_X8_aligned a0 h = some q) (z : ZZ h) : ZZ q.2 := by
  unfold f_X8_aligned at hk
  refine zz_X8_aligned_L5 _ _ _ _ _ hk z
theorem zz_X4_init_J110 {rec : Int → Int → Int → Int → ab_H → Option ab_H} (hrec : ∀ (v0 : Int) (v1 : Int) (v2 : Int) (v4 : Int) (h : ab_H) (q : ab_H), rec v0 v1 v2 v4 h = some q → ZZ h → ZZ q) : ∀ (v0 : Int) (v1 : Int) (v2 : Int) (v4 : Int) (h : ab_H) (q : ab_H), f_X4_init_J110 rec v0 v1 v2 v4 h = some q → ZZ h → ZZ q := by
  intro v0 v1 v2 v4 h q hk z
  unfold f_X4_init_J110 at hk
  exact hrec _ _ _ _ _ _ hk z
theorem zz_X4_init_L51 : ∀ (n : Nat) (v0 : Int) (v1 : Int) (v2 : Int) (v4 : Int) (h : ab_H) (q : ab_H), f_X4_init_L51 n v0 v1 v2 v4 h = some q → ZZ h → ZZ q := by
  intro n
  induction n with
  | zero => intro v0 v1 v2 v4 h q hk; cases hk
  | succ n ih =>
    intro v0 v1 v2 v4 h q hk z
    unfold f_X4_init_L51 at hk
    obtain ⟨t1, ht1, hk⟩ := ab_bnd hk
    by_cases hc : t1 ≤ v4
    · have hk := ab_ifp hk hc
      obtain rfl := Option.some.inj hk
      exact z
    · have hk := ab_ifn hk hc
      by_cases hc : (15 : Int) ≤ v1
      · have hk := ab_ifp hk hc
        obtain rfl := Option.some.inj hk
        exact z
      · have hk := ab_ifn hk hc
        obtain ⟨t2, ht2, hk⟩ := ab_bnd hk
        obtain ⟨q3, hq3, hk⟩ := ab_bnd hk
        have zq3 := zz_X8_isLetter hq3 z
        by_cases hc : q3.1 = (0 : Int)
        · have hk := ab_ifp hk hc
          obtain ⟨t4, ht4, hk⟩ := ab_bnd hk
          obtain ⟨q5, hq5, hk⟩ := ab_bnd hk
          have zq5 := zz_X8_aligned hq5 zq3
          obtain ⟨h1, hh1, hk⟩ := ab_bnd hk
          have zh1 := zz_ast hh1 zq5
          exact zz_X4_init_J110 ih _ _ _ _ _ _ hk zh1
        · have hk := ab_ifn hk hc
          obtain ⟨t6, ht6, hk⟩ := ab_bnd hk
          obtain ⟨q7, hq7, hk⟩ := ab_bnd hk
          have zq7 := zz_X8_grown hq7 zq3
          exact zz_X4_init_J110 ih _ _ _ _ _ _ hk zq7
theorem zz_X4_init {a0 : Int} {h : ab_H} {q : ab_H} (hk : f_X4_init a0 h = some q) (z : ZZ h) : ZZ q := by
  unfold f_X4_init at hk
  obtain ⟨hg, hk⟩ := ab_if_some hk
  obtain ⟨h1, hh1, hk⟩ := ab_bnd hk
  have zh1 := zz_mkA hh1 z
  obtain ⟨h2, hh2, hk⟩ := ab_bnd hk
  have zh2 := zz_putR hh2 zh1
  obtain ⟨h3, hh3, hk⟩ := ab_bnd hk
  have zh3 := zz_mkA hh3 zh2
  obtain ⟨h4, hh4, hk⟩ := ab_bnd hk
  have zh4 := zz_putR hh4 zh3
  obtain ⟨h5, hh5, hk⟩ := ab_bnd hk
  have zh5 := zz_mkA hh5 zh4
  obtain ⟨h6, hh6, hk⟩ := ab_bnd hk
  have zh6 := zz_putR hh6 zh5
  obtain ⟨h7, hh7, hk⟩ := ab_bnd hk
  have zh7 := zz_mkA hh7 zh6
  obtain ⟨h8, hh8, hk⟩ := ab_bnd hk
  have zh8 := zz_putR hh8 zh7
  obtain ⟨h9, hh9, hk⟩ := ab_bnd hk
  have zh9 := zz_put hh9 zh8
  refine zz_X4_init_L51 _ _ _ _ _ _ _ hk zh9
theorem zz_X0_init {a0 : Int} {h : ab_H} {q : ab_H} (hk : f_X0_init a0 h = some q) (z : ZZ h) : ZZ q := by
  unfold f_X0_init at hk
  obtain ⟨hg, hk⟩ := ab_if_some hk
  obtain ⟨h1, hh1, hk⟩ := ab_bnd hk
  have zh1 := zz_mkA hh1 z
  obtain ⟨h2, hh2, hk⟩ := ab_bnd hk
  have zh2 := zz_putR hh2 zh1
  obtain ⟨h3, hh3, hk⟩ := ab_bnd hk
  have zh3 := zz_mkA hh3 zh2
  obtain ⟨h4, hh4, hk⟩ := ab_bnd hk
  have zh4 := zz_putR hh4 zh3
  obtain ⟨h5, hh5, hk⟩ := ab_bnd hk
  have zh5 := zz_mkA hh5 zh4
  obtain ⟨h6, hh6, hk⟩ := ab_bnd hk
  have zh6 := zz_putR hh6 zh5
  obtain ⟨h7, hh7, hk⟩ := ab_bnd hk
  have zh7 := zz_mkA hh7 zh6
  obtain ⟨h8, hh8, hk⟩ := ab_bnd hk
  have zh8 := zz_putR hh8 zh7
  obtain ⟨h9, hh9, hk⟩ := ab_bnd hk
  have zh9 := zz_mkA hh9 zh8
  obtain ⟨h10, hh10, hk⟩ := ab_bnd hk
  have zh10 := zz_putR hh10 zh9
  obtain ⟨h11, hh11, hk⟩ := ab_bnd hk
  have zh11 := zz_mkA hh11 zh10
  obtain ⟨h12, hh12, hk⟩ := ab_bnd hk
  have zh12 := zz_putR hh12 zh11
  obtain ⟨h13, hh13, hk⟩ := ab_bnd hk
  have zh13 := zz_mkA hh13 zh12
  obtain ⟨h14, hh14, hk⟩ := ab_bnd hk
  have zh14 := zz_putR hh14 zh13
  obtain ⟨h15, hh15, hk⟩ := ab_bnd hk
  have zh15 := zz_mkA hh15 zh14
  obtain ⟨h16, hh16, hk⟩ := ab_bnd hk
  have zh16 := zz_putR hh16 zh15
  obtain ⟨h17, hh17, hk⟩ := ab_bnd hk
  have zh17 := zz_mkA hh17 zh16
  obtain ⟨h18, hh18, hk⟩ := ab_bnd hk
  have zh18 := zz_putR hh18 zh17
  obtain ⟨h19, hh19, hk⟩ := ab_bnd hk
  have zh19 := zz_mkA hh19 zh18
  obtain ⟨h20, hh20, hk⟩ := ab_bnd hk
  have zh20 := zz_putR hh20 zh19
  obtain rfl := Option.some.inj hk
  exact zh20
theorem zz_X3_init_L15 : ∀ (n : Nat) (v0 : Int) (v1 : Int) (h : ab_H) (q : ab_H), f_X3_init_L15 n v0 v1 h = some q → ZZ h → ZZ q := by
  intro n
  induction n with
  | zero => intro v0 v1 h q hk; cases hk
  | succ n ih =>
    intro v0 v1 h q hk z
    unfold f_X3_init_L15 at hk
    by_cases hc : (10 : Int) ≤ v1
    · have hk := ab_ifp hk hc
      obtain rfl := Option.some.inj hk
      exact z
    · have hk := ab_ifn hk hc
      obtain ⟨t1, ht1, hk⟩ := ab_bnd hk
      obtain ⟨h1, hh1, hk⟩ := ab_bnd hk
      have zh1 := zz_mkO hh1 z
      obtain ⟨q2, hq2, hk⟩ := ab_bnd hk
      obtain ⟨hb, hq2⟩ := ab_if_some hq2
      have zq2 := zz_X0_init hq2 zh1
      obtain ⟨h2, hh2, hk⟩ := ab_bnd hk
      have zh2 := zz_astR hh2 zq2
      exact ih _ _ _ _ hk zh2
theorem zz_X3_init {a0 : Int} {h : ab_H} {q : ab_H} (hk : f_X3_init a0 h = some q) (z : ZZ h) : ZZ q := by
  unfold f_X3_init at hk
  obtain ⟨hg, hk⟩ := ab_if_some hk
  obtain ⟨h1, hh1, hk⟩ := ab_bnd hk
  have zh1 := zz_mkA hh1 z
  obtain ⟨h2, hh2, hk⟩ := ab_bnd hk
  have zh2 := zz_putR hh2 zh1
  refine zz_X3_init_L15 _ _ _ _ _ hk zh2
theorem zz_X7_init {a0 : Int} {h : ab_H} {q : ab_H} (hk : f_X7_init a0 h = some q) (z : ZZ h) : ZZ q := by
  unfold f_X7_init at hk
  obtain ⟨hg, hk⟩ := ab_if_some hk
  obtain ⟨h1, hh1, hk⟩ := ab_bnd hk
  have zh1 := zz_mkA hh1 z
  obtain ⟨h2, hh2, hk⟩ := ab_bnd hk
  have zh2 := zz_putR hh2 zh1
  obtain ⟨h3, hh3, hk⟩ := ab_bnd hk
  have zh3 := zz_mkA hh3 zh2
  obtain ⟨h4, hh4, hk⟩ := ab_bnd hk
  have zh4 := zz_putR hh4 zh3
  obtain rfl := Option.some.inj hk
  exact zh4
theorem zz_X5_init {a0 : Int} {h : ab_H} {q : ab_H} (hk : f_X5_init a0 h = some q) (z : ZZ h) : ZZ q := by
  unfold f_X5_init at hk
  obtain ⟨hg, hk⟩ := ab_if_some hk
  obtain ⟨h1, hh1, hk⟩ := ab_bnd hk
  have zh1 := zz_mkA hh1 z
  obtain ⟨h2, hh2, hk⟩ := ab_bnd hk
  have zh2 := zz_putR hh2 zh1
  obtain ⟨h3, hh3, hk⟩ := ab_bnd hk
  have zh3 := zz_mkA hh3 zh2
  obtain ⟨h4, hh4, hk⟩ := ab_bnd hk
  have zh4 := zz_putR hh4 zh3
  obtain ⟨h5, hh5, hk⟩ := ab_bnd hk
  have zh5 := zz_mkA hh5 zh4
  obtain ⟨h6, hh6, hk⟩ := ab_bnd hk
  have zh6 := zz_putR hh6 zh5
  obtain ⟨h7, hh7, hk⟩ := ab_bnd hk
  have zh7 := zz_mkA hh7 zh6
  obtain ⟨h8, hh8, hk⟩ := ab_bnd hk
  have zh8 := zz_putR hh8 zh7
  obtain ⟨h9, hh9, hk⟩ := ab_bnd hk
  have zh9 := zz_mkA hh9 zh8
  obtain ⟨h10, hh10, hk⟩ := ab_bnd hk
  have zh10 := zz_putR hh10 zh9
  obtain rfl := Option.some.inj hk
  exact zh10
theorem zz_X2_init {a0 : Int} {h : ab_H} {q : ab_H} (hk : f_X2_init a0 h = some q) (z : ZZ h) : ZZ q := by
  unfold f_X2_init at hk
  obtain ⟨hg, hk⟩ := ab_if_some hk
  obtain ⟨h1, hh1, hk⟩ := ab_bnd hk
  have zh1 := zz_mkA hh1 z
  obtain ⟨h2, hh2, hk⟩ := ab_bnd hk
  have zh2 := zz_putR hh2 zh1
  obtain ⟨h3, hh3, hk⟩ := ab_bnd hk
  have zh3 := zz_mkA hh3 zh2
  obtain ⟨h4, hh4, hk⟩ := ab_bnd hk
  have zh4 := zz_putR hh4 zh3
  obtain rfl := Option.some.inj hk
  exact zh4
theorem zz_X6_init_L31 : ∀ (n : Nat) (v0 : Int) (v1 : Int) (h : ab_H) (q : ab_H), f_X6_init_L31 n v0 v1 h = some q → ZZ h → ZZ q := by
  intro n
  induction n with
  | zero => intro v0 v1 h q hk; cases hk
  | succ n ih =>
    intro v0 v1 h q hk z
    unfold f_X6_init_L31 at hk
    by_cases hc : (72 : Int) ≤ v1
    · have hk := ab_ifp hk hc
      obtain rfl := Option.some.inj hk
      exact z
    · have hk := ab_ifn hk hc
      obtain ⟨t1, ht1, hk⟩ := ab_bnd hk
      obtain ⟨h1, hh1, hk⟩ := ab_bnd hk
      have zh1 := zz_mkO hh1 z
      obtain ⟨q2, hq2, hk⟩ := ab_bnd hk
      obtain ⟨hb, hq2⟩ := ab_if_some hq2
      have zq2 := zz_X2_init hq2 zh1
      obtain ⟨h2, hh2, hk⟩ := ab_bnd hk
      have zh2 := zz_astR hh2 zq2
      exact ih _ _ _ _ hk zh2
theorem zz_X6_init {a0 : Int} {h : ab_H} {q : ab_H} (hk : f_X6_init a0 h = some q) (z : ZZ h) : ZZ q := by
  unfold f_X6_init at hk
  obtain ⟨hg, hk⟩ := ab_if_some hk
  obtain ⟨h1, hh1, hk⟩ := ab_bnd hk
  have zh1 := zz_mkA hh1 z
  obtain ⟨h2, hh2, hk⟩ := ab_bnd hk
  have zh2 := zz_putR hh2 zh1
  obtain ⟨h3, hh3, hk⟩ := ab_bnd hk
  have zh3 := zz_mkA hh3 zh2
  obtain ⟨h4, hh4, hk⟩ := ab_bnd hk
  have zh4 := zz_putR hh4 zh3
  obtain ⟨h5, hh5, hk⟩ := ab_bnd hk
  have zh5 := zz_mkA hh5 zh4
  obtain ⟨h6, hh6, hk⟩ := ab_bnd hk
  have zh6 := zz_putR hh6 zh5
  refine zz_X6_init_L31 _ _ _ _ _ hk zh6
theorem zz_X8_init {a0 : Int} {h : ab_H} {q : ab_H} (hk : f_X8_init a0 h = some q) (z : ZZ h) : ZZ q := by
  unfold f_X8_init at hk
  obtain ⟨hg, hk⟩ := ab_if_some hk
  obtain ⟨h1, hh1, hk⟩ := ab_bnd hk
  have zh1 := zz_mkO hh1 z
  obtain ⟨q1, hq1, hk⟩ := ab_bnd hk
  obtain ⟨hb, hq1⟩ := ab_if_some hq1
  have zq1 := zz_X1_init hq1 zh1
  obtain ⟨h2, hh2, hk⟩ := ab_bnd hk
  have zh2 := zz_putR hh2 zq1
  obtain ⟨h3, hh3, hk⟩ := ab_bnd hk
  have zh3 := zz_mkO hh3 zh2
  obtain ⟨q2, hq2, hk⟩ := ab_bnd hk
  obtain ⟨hb, hq2⟩ := ab_if_some hq2
  have zq2 := zz_X1_init hq2 zh3
  obtain ⟨h4, hh4, hk⟩ := ab_bnd hk
  have zh4 := zz_putR hh4 zq2
  obtain ⟨h5, hh5, hk⟩ := ab_bnd hk
  have zh5 := zz_mkO hh5 zh4
  obtain ⟨q3, hq3, hk⟩ := ab_bnd hk
  obtain ⟨hb, hq3⟩ := ab_if_some hq3
  have zq3 := zz_X1_init hq3 zh5
  obtain ⟨h6, hh6, hk⟩ := ab_bnd hk
  have zh6 := zz_putR hh6 zq3
  obtain ⟨h7, hh7, hk⟩ := ab_bnd hk
  have zh7 := zz_mkO hh7 zh6
  obtain ⟨q4, hq4, hk⟩ := ab_bnd hk
  obtain ⟨hb, hq4⟩ := ab_if_some hq4
  have zq4 := zz_X4_init hq4 zh7
  obtain ⟨h8, hh8, hk⟩ := ab_bnd hk
  have zh8 := zz_putR hh8 zq4
  obtain ⟨h9, hh9, hk⟩ := ab_bnd hk
  have zh9 := zz_mkO hh9 zh8
  obtain ⟨q5, hq5, hk⟩ := ab_bnd hk
  obtain ⟨hb, hq5⟩ := ab_if_some hq5
  have zq5 := zz_X0_init hq5 zh9
  obtain ⟨h10, hh10, hk⟩ := ab_bnd hk
  have zh10 := zz_putR hh10 zq5
  obtain ⟨h11, hh11, hk⟩ := ab_bnd hk
  have zh11 := zz_mkO hh11 zh10
  obtain ⟨q6, hq6, hk⟩ := ab_bnd hk
  obtain ⟨hb, hq6⟩ := ab_if_some hq6
  have zq6 := zz_X0_init hq6 zh11
  obtain ⟨h12, hh12, hk⟩ := ab_bnd hk
  have zh12 := zz_putR hh12 zq6
  obtain ⟨h13, hh13, hk⟩ := ab_bnd hk
  have zh13 := zz_mkO hh13 zh12
  obtain ⟨q7, hq7, hk⟩ := ab_bnd hk
  obtain ⟨hb, hq7⟩ := ab_if_some hq7
  have zq7 := zz_X3_init hq7 zh13
  obtain ⟨h14, hh14, hk⟩ := ab_bnd hk
  have zh14 := zz_putR hh14 zq7
  obtain ⟨h15, hh15, hk⟩ := ab_bnd hk
  have zh15 := zz_mkO hh15 zh14
  obtain ⟨q8, hq8, hk⟩ := ab_bnd hk
  obtain ⟨hb, hq8⟩ := ab_if_some hq8
  have zq8 := zz_X7_init hq8 zh15
  obtain ⟨h16, hh16, hk⟩ := ab_bnd hk
  have zh16 := zz_putR hh16 zq8
  obtain ⟨h17, hh17, hk⟩ := ab_bnd hk
  have zh17 := zz_mkO hh17 zh16
  obtain ⟨q9, hq9, hk⟩ := ab_bnd hk
  obtain ⟨hb, hq9⟩ := ab_if_some hq9
  have zq9 := zz_X5_init hq9 zh17
  obtain ⟨h18, hh18, hk⟩ := ab_bnd hk
  have zh18 := zz_putR hh18 zq9
  obtain ⟨h19, hh19, hk⟩ := ab_bnd hk
  have zh19 := zz_mkO hh19 zh18
  obtain ⟨q10, hq10, hk⟩ := ab_bnd hk
  obtain ⟨hb, hq10⟩ := ab_if_some hq10
  have zq10 := zz_X6_init hq10 zh19
  obtain ⟨h20, hh20, hk⟩ := ab_bnd hk
  have zh20 := zz_putR hh20 zq10
  obtain ⟨h21, hh21, hk⟩ := ab_bnd hk
  have zh21 := zz_mkO hh21 zh20
  obtain ⟨q11, hq11, hk⟩ := ab_bnd hk
  obtain ⟨hb, hq11⟩ := ab_if_some hq11
  have zq11 := zz_X6_init hq11 zh21
  obtain ⟨h22, hh22, hk⟩ := ab_bnd hk
  have zh22 := zz_putR hh22 zq11
  obtain rfl := Option.some.inj hk
  exact zh22
theorem zz_X9_init {a0 : Int} {h : ab_H} {q : ab_H} (hk : f_X9_init a0 h = some q) (z : ZZ h) : ZZ q := by
  unfold f_X9_init at hk
  obtain ⟨hg, hk⟩ := ab_if_some hk
  obtain ⟨h1, hh1, hk⟩ := ab_bnd hk
  have zh1 := zz_mkA hh1 z
  obtain ⟨h2, hh2, hk⟩ := ab_bnd hk
  have zh2 := zz_putR hh2 zh1
  obtain ⟨h3, hh3, hk⟩ := ab_bnd hk
  have zh3 := zz_mkA hh3 zh2
  obtain ⟨h4, hh4, hk⟩ := ab_bnd hk
  have zh4 := zz_putR hh4 zh3
  obtain ⟨h5, hh5, hk⟩ := ab_bnd hk
  have zh5 := zz_mkA hh5 zh4
  obtain ⟨h6, hh6, hk⟩ := ab_bnd hk
  have zh6 := zz_putR hh6 zh5
  obtain ⟨h7, hh7, hk⟩ := ab_bnd hk
  have zh7 := zz_put hh7 zh6
  obtain ⟨h8, hh8, hk⟩ := ab_bnd hk
  have zh8 := zz_mkA hh8 zh7
  obtain ⟨h9, hh9, hk⟩ := ab_bnd hk
  have zh9 := zz_putR hh9 zh8
  obtain ⟨h10, hh10, hk⟩ := ab_bnd hk
  have zh10 := zz_mkA hh10 zh9
  obtain ⟨h11, hh11, hk⟩ := ab_bnd hk
  have zh11 := zz_putR hh11 zh10
  obtain ⟨h12, hh12, hk⟩ := ab_bnd hk
  have zh12 := zz_mkA hh12 zh11
  obtain ⟨h13, hh13, hk⟩ := ab_bnd hk
  have zh13 := zz_putR hh13 zh12
  obtain ⟨h14, hh14, hk⟩ := ab_bnd hk
  have zh14 := zz_mkA hh14 zh13
  obtain ⟨h15, hh15, hk⟩ := ab_bnd hk
  have zh15 := zz_putR hh15 zh14
  obtain ⟨h16, hh16, hk⟩ := ab_bnd hk
  have zh16 := zz_mkA hh16 zh15
  obtain ⟨h17, hh17, hk⟩ := ab_bnd hk
  have zh17 := zz_putR hh17 zh16
  obtain ⟨h18, hh18, hk⟩ := ab_bnd hk
  have zh18 := zz_mkA hh18 zh17
  obtain ⟨h19, hh19, hk⟩ := ab_bnd hk
  have zh19 := zz_putR hh19 zh18
  obtain ⟨h20, hh20, hk⟩ := ab_bnd hk
  have zh20 := zz_mkA hh20 zh19
  obtain ⟨h21, hh21, hk⟩ := ab_bnd hk
  have zh21 := zz_putR hh21 zh20
  obtain ⟨h22, hh22, hk⟩ := ab_bnd hk
  have zh22 := zz_mkA hh22 zh21
  obtain ⟨h23, hh23, hk⟩ := ab_bnd hk
  have zh23 := zz_putR hh23 zh22
  obtain ⟨h24, hh24, hk⟩ := ab_bnd hk
  have zh24 := zz_mkA hh24 zh23
  obtain ⟨h25, hh25, hk⟩ := ab_bnd hk
  have zh25 := zz_putR hh25 zh24
  obtain ⟨h26, hh26, hk⟩ := ab_bnd hk
  have zh26 := zz_mkA hh26 zh25
  obtain ⟨h27, hh27, hk⟩ := ab_bnd hk
  have zh27 := zz_putR hh27 zh26
  obtain ⟨h28, hh28, hk⟩ := ab_bnd hk
  have zh28 := zz_mkA hh28 zh27
  obtain ⟨h29, hh29, hk⟩ := ab_bnd hk
  have zh29 := zz_putR hh29 zh28
  obtain ⟨h30, hh30, hk⟩ := ab_bnd hk
  have zh30 := zz_mkA hh30 zh29
  obtain ⟨h31, hh31, hk⟩ := ab_bnd hk
  have zh31 := zz_putR hh31 zh30
  obtain ⟨h32, hh32, hk⟩ := ab_bnd hk
  have zh32 := zz_mkA hh32 zh31
  obtain ⟨h33, hh33, hk⟩ := ab_bnd hk
  have zh33 := zz_putR hh33 zh32
  obtain ⟨h34, hh34, hk⟩ := ab_bnd hk
  have zh34 := zz_mkA hh34 zh33
  obtain ⟨h35, hh35, hk⟩ := ab_bnd hk
  have zh35 := zz_putR hh35 zh34
  obtain ⟨h36, hh36, hk⟩ := ab_bnd hk
  have zh36 := zz_mkA hh36 zh35
  obtain ⟨h37, hh37, hk⟩ := ab_bnd hk
  have zh37 := zz_putR hh37 zh36
  obtain rfl := Option.some.inj hk
  exact zh37
theorem in_zz {h : ab_H} (e : in_h = some h) : ZZ h := by
  unfold in_h at e
  have z0 : ZZ ab_h0 := ⟨rfl, fun _ _ => rfl⟩
  obtain ⟨h1, hh1, hk⟩ := ab_bnd e
  have z1 := zz_mkO hh1 z0
  obtain ⟨q1, hq1, hk⟩ := ab_bnd hk
  obtain ⟨-, hq1⟩ := ab_if_some hq1
  have z2 := zz_X8_init hq1 z1
  obtain ⟨h2, hh2, hk⟩ := ab_bnd hk
  have z3 := zz_mkO hh2 z2
  obtain ⟨-, hk⟩ := ab_if_some hk
  exact zz_X9_init hk z3
theorem iz_ {c : Prop} [Decidable c] {x y : Nat} (h1 : x = 0) (h2 : y = 0) : (if c then x else y) = 0 := by split <;> assumption
theorem in_bk : ∀ a, a < 615 → ∀ f, 40 ≤ f → ly_r a f = 0 := by
  intro a ha f hf
  have gd : ∀ l : List Nat, l.length ≤ 40 → l.getD f 0 = 0 := fun l hl => by
    rw [List.getD_eq_getElem?_getD, List.getElem?_eq_none (by omega)]; rfl
  have rb : ly_rb a f = 0 := by unfold ly_rb; rw [if_neg (by omega), if_neg (by omega), if_neg (by omega)]
  have re : ly_re a f = 0 := by unfold ly_re; rw [if_neg (by omega), if_neg (by omega)]
  unfold ly_r
  exact iz_ (gd _ (by decide)) (iz_ (if_neg (by omega)) (iz_ (if_neg (by omega)) (iz_ rb (iz_ (if_neg (by omega)) (iz_ (if_neg (by omega)) (iz_ (iz_ rb rfl) (iz_ (if_neg (by omega)) (iz_ (if_neg (by omega)) (iz_ (by rw [if_neg (by omega), if_neg (by omega), if_neg (by omega)]) (iz_ (iz_ re rfl) (iz_ (iz_ re rfl) (iz_ (gd _ (by decide)) rfl))))))))))))
/-- behind the constructors: a store, as they leave it -/
theorem in_mk : ∃ σ : st_S, in_h = some (mk_ σ) ∧ (∀ a, a < 615 → ∀ f, f < 40 → ly_r a f = 0 → σ a f = in_v a f) ∧ ∀ f, f < 72 → σ 157 f = in_v 157 f ∧ σ 377 f = in_v 377 f := by
  have hn := in_n
  split at hn
  case h_2 => cases hn
  case h_1 h e =>
    have z := in_zz e
    unfold in_ok at hn
    simp only [Bool.and_eq_true, beq_iff_eq, List.all_eq_true, List.mem_range] at hn
    obtain ⟨⟨⟨h1, h2⟩, h3⟩, h4⟩ := hn
    refine ⟨fun a f => (h.2.2 a).2.2 f, ?_, fun a ha f hf hr => ?_, fun f hf => ⟨(h4 f hf).1, (h4 f hf).2⟩⟩
    · rw [e]
      refine congrArg some ?_
      refine Prod.ext h1 (Prod.ext h2 (funext fun a => ?_))
      show h.2.2 a = ((ly a).1, (ly a).2, fun f => if ly_r a f = 0 then (h.2.2 a).2.2 f else (ly_r a f : Int))
      by_cases ha : a < 615
      · obtain ⟨⟨g1, g2⟩, g3⟩ := h3 a ha
        refine Prod.ext g1 (Prod.ext g2 (funext fun f => ?_))
        show (h.2.2 a).2.2 f = if ly_r a f = 0 then (h.2.2 a).2.2 f else (ly_r a f : Int)
        by_cases hr : ly_r a f = 0
        · rw [if_pos hr]
        · rw [if_neg hr]
          by_cases hf : f < 40
          · have := g3 f hf; rw [if_neg hr] at this; exact this
          · exact absurd (in_bk a ha f (by omega)) hr
      · have e1 : ly a = (0, 0) := by
          unfold ly
          rw [if_neg (by omega), if_neg (by omega), if_neg (by omega), if_neg (by omega), if_neg (by omega), if_neg (by omega), if_neg (by omega), if_neg (by omega), if_neg (by omega), if_neg (by omega), if_neg (by omega)]
        have e2 : ∀ f, ly_r a f = 0 := by
          intro f; unfold ly_r
          rw [if_neg (by omega), if_neg (by omega), if_neg (by omega), if_neg (by omega), if_neg (by omega), if_neg (by omega), if_neg (by omega), if_neg (by omega), if_neg (by omega), if_neg (by omega), if_neg (by omega), if_neg (by omega), if_neg (by omega)]
        rw [z.2 a (by rw [h1]; omega), e1]
        refine Prod.ext rfl (Prod.ext rfl (funext fun f => ?_))
        show _ = if ly_r a f = 0 then _ else _
        rw [if_pos (e2 f)]
    · have := ((h3 a ha).2) f hf
      rw [if_pos hr] at this
      exact this
