/-! the reference reads a term -/
section TN
variable {T : Nat → Int} {L N j : Nat} {σ : st_S}
theorem jn_le {key : Int} (hj : j ≤ N) {x : Int} {j' : Nat} (h : jn T L N key j = .inr (x, j')) : j' ≤ N := by
  unfold jn at h
  by_cases e : k8 T L (sJ T L j) = 1 ∧ v8 T L (sJ T L j) = key
  · rw [if_pos e] at h
    by_cases e2 : k8 T L (sJ T L (nxJ N j)) = 2
    · rw [if_pos e2] at h
      injection h with h
      injection h with _ h
      rw [← h]; exact nx_le (nx_le hj)
    · rw [if_neg e2] at h; injection h
  · rw [if_neg e] at h
    injection h with h
    injection h with _ h
    omega
end TN
