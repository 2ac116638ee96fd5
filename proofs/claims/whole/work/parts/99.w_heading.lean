/-! a heading (a string of terms) is read: first what a term holds -/
section HD
variable {T : Nat → Int} {L N : Nat}
theorem nx_ge {j : Nat} : j ≤ nxJ N j := by unfold nxJ; split <;> omega
theorem chc_in {q : Nat} {a c : Int} (h : chc T L q a c ≠ -1) : 0 ≤ chc T L q a c ∧ chc T L q a c < c := by
  unfold chc at h ⊢
  by_cases e : k8 T L q = 1 ∧ a ≤ v8 T L q ∧ v8 T L q < a + c
  · rw [if_pos e]; omega
  · rw [if_neg e] at h; exact absurd rfl h
theorem nm0 : isNm 0 := by unfold isNm; omega
theorem jn_ok {key : Int} {j : Nat} (hj : j ≤ N) {x : Int} {j' : Nat} (h : jn T L N key j = .inr (x, j')) : j ≤ j' ∧ j' ≤ N ∧ isNm x := by
  have g1 := nx_ge (N := N) (j := j)
  have g2 := nx_ge (N := N) (j := nxJ N j)
  have l1 := nx_le hj
  have l2 := nx_le l1
  unfold jn at h
  by_cases e : k8 T L (sJ T L j) = 1 ∧ v8 T L (sJ T L j) = key
  · rw [if_pos e] at h
    by_cases e2 : k8 T L (sJ T L (nxJ N j)) = 2
    · rw [if_pos e2] at h
      injection h with h
      injection h with h1 h2
      subst h1; subst h2
      exact ⟨by omega, l2, (v8_name e2).2.1⟩
    · rw [if_neg e2] at h; cases h
  · rw [if_neg e] at h
    injection h with h
    injection h with h1 h2
    subst h1; subst h2
    exact ⟨by omega, hj, nm0⟩
theorem tm2_ok {j : Nat} (hj : j ≤ N) {j' : Nat} {nm vi bk : Int} (h : tm2 T L N j = .inr (j', nm, vi, bk)) : j ≤ j' ∧ j' ≤ N ∧ (isNm nm ∧ nm ≠ 0) ∧ isNm vi ∧ isNm bk := by
  have g1 := nx_ge (N := N) (j := j)
  have l1 := nx_le hj
  unfold tm2 at h
  by_cases e2 : k8 T L (sJ T L j) = 2
  · rw [if_pos e2] at h
    rcases h1 : jn T L N 13 (nxJ N j) with e | ⟨via, j3⟩
    · rw [h1] at h; cases h
    · rw [h1] at h
      have o1 := jn_ok l1 h1
      rcases h2 : jn T L N 14 j3 with e | ⟨back, j4⟩
      · dsimp only at h; rw [h2] at h; cases h
      · dsimp only at h
        rw [h2] at h
        have o2 := jn_ok o1.2.1 h2
        injection h with h
        injection h with a1 h
        injection h with a2 h
        injection h with a3 a4
        subst a1; subst a2; subst a3; subst a4
        exact ⟨by omega, o2.2.1, (v8_name e2).2, o1.2.2, o2.2.2⟩
  · rw [if_neg e2] at h; cases h
theorem tmS_ok {j i : Nat} {pr : Int} (hj : j ≤ N) {j' : Nat} {ro ld nm vi bk : Int} (h : tmS T L N j i pr = .inr (j', ro, ld, nm, vi, bk)) :
    i < 6 ∧ j ≤ j' ∧ j' ≤ N ∧ pr ≤ ro ∧ (0 ≤ ro ∧ ro ≤ 5) ∧ (ld = 0 ∨ ld = 1) ∧ (isNm nm ∧ nm ≠ 0) ∧ isNm vi ∧ isNm bk := by
  rw [tmS_eq] at h
  by_cases c1 : ¬ isNot T L j ∧ chc T L (sJ T L j) 3 6 = -1
  · rw [if_pos c1] at h; cases h
  · rw [if_neg c1] at h
    by_cases c2 : ¬ i < 6
    · rw [if_pos c2] at h; cases h
    · rw [if_neg c2] at h
      have hk : ∃ k : Nat, (if isNot T L j then nxJ N j else j) = k ∧ j ≤ k ∧ k ≤ N := by
        by_cases z : isNot T L j
        · rw [if_pos z]; exact ⟨_, rfl, nx_ge, nx_le hj⟩
        · rw [if_neg z]; exact ⟨_, rfl, Nat.le_refl _, hj⟩
      obtain ⟨k, e, k1, k2⟩ := hk
      rw [e] at h
      by_cases c3 : chc T L (sJ T L k) 3 6 = -1
      · rw [if_pos c3] at h; cases h
      · rw [if_neg c3] at h
        by_cases c4 : chc T L (sJ T L k) 3 6 < pr
        · rw [if_pos c4] at h; cases h
        · rw [if_neg c4] at h
          have ci := chc_in c3
          have g1 := nx_ge (N := N) (j := k)
          have l1 := nx_le k2
          rcases h2 : tm2 T L N (nxJ N k) with e | ⟨j4, nm', vi', bk'⟩
          · rw [h2] at h; cases h
          · rw [h2] at h
            have o := tm2_ok l1 h2
            injection h with h
            injection h with a1 h
            injection h with a2 h
            injection h with a3 h
            injection h with a4 h
            injection h with a5 a6
            subst a1; subst a2; subst a4; subst a5; subst a6
            refine ⟨by omega, by omega, o.2.1, by omega, by omega, ?_, o.2.2⟩
            rw [← a3]
            split
            · exact Or.inl rfl
            · exact Or.inr rfl
theorem tmS_6 {j : Nat} {pr : Int} (hj : j ≤ N) : ∃ e, tmS T L N j 6 pr = .inl e := by
  rcases h : tmS T L N j 6 pr with e | ⟨j', ro, ld, nm, vi, bk⟩
  · exact ⟨e, rfl⟩
  · have := tmS_ok hj h; omega
end HD
