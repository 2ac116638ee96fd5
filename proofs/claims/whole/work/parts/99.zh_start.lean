/-! the store behind the constructors; all steps; the start -/
theorem S_all : StpAll (InvD DR) :=
  ⟨S_feed dr_in, S_end dr_in, S_text, S_fault dr_in, S_count, S_string, S_term, S_letter, S_way dr_in, S_find, S_at dr_in, S_entry, S_row, S_line, S_address, S_head, S_print, S_printAll, S_octet dr_in, S_rebuilt, S_begins, S_having, S_sharing, S_alike, S_common, S_nearest, S_senses, S_beside, S_often, S_most, S_apart, S_cover, S_would, S_adds, S_drops, S_law, S_lead, S_swaps, S_see, S_forget, S_moves, S_undo, S_gather, S_lost, S_chain, S_groups, S_longest, S_shown, S_twins, S_rarest, S_crossed, S_shared⟩
def S0 : SV := ((0, fun _ => 0), (0, fun _ => 0), (0, -1), bE, (0, fun _ => bE))
theorem I_start (σ : st_S) (i1 : ∀ a, a < 615 → ∀ f, f < 40 → ly_r a f = 0 → σ a f = in_v a f) (i2 : ∀ f, f < 72 → σ 157 f = in_v 157 f ∧ σ 377 f = in_v 377 f) : InvD DR σ := by
  have z : ∀ a f, a < 615 → f < 40 → ly_r a f = 0 → in_v a f = 0 → σ a f = 0 := fun a f ha hf hr hv => by rw [i1 a ha f hf hr, hv]
  have w21 : ∀ r, r < 6 → ly_r 21 r = 0 ∧ in_v 21 r = 0 := by decide
  have w597 : ∀ r, r < 6 → ly_r 597 (0 + 2 + r) = 0 ∧ in_v 597 (0 + 2 + r) = 0 := by decide
  have w9 : ∀ k, k < 15 → ly_r 9 k = 0 ∧ in_v 9 k = in_keys.getD k 0 := by decide
  have sl1 : SL σ 156 (fun k => 160 + 3 * k) := by
    refine ⟨fun k hk => ⟨?_, ?_⟩, fun j k _ _ e => by have e : 160 + 3 * j = 160 + 3 * k := e; omega⟩
    · have := (i2 k hk).1
      show σ 157 k = ((160 + 3 * k : Nat) : Int)
      rw [this]
      unfold in_v
      rw [if_neg (by omega), if_neg (by omega), if_pos ⟨rfl, hk⟩]; omega
    · unfold OkR; show 156 + 4 ≤ 160 + 3 * k ∧ 160 + 3 * k ≤ 156 + 217 ∧ (160 + 3 * k - (156 + 4)) % 3 = 0; omega
  have sl2 : SL σ 376 (fun k => 380 + 3 * k) := by
    refine ⟨fun k hk => ⟨?_, ?_⟩, fun j k _ _ e => by have e : 380 + 3 * j = 380 + 3 * k := e; omega⟩
    · have := (i2 k hk).2
      show σ 377 k = ((380 + 3 * k : Nat) : Int)
      rw [this]
      unfold in_v
      rw [if_neg (by omega), if_neg (by omega), if_neg (by omega), if_pos ⟨rfl, hk⟩]; omega
    · unfold OkR; show 376 + 4 ≤ 380 + 3 * k ∧ 380 + 3 * k ≤ 376 + 217 ∧ (380 + 3 * k - (376 + 4)) % 3 = 0; omega
  refine ⟨S0, ?_, ?_, ⟨Nat.zero_le _, fun i hi => absurd hi (Nat.not_lt_zero _), Nat.zero_le _, fun i hi => absurd hi (Nat.not_lt_zero _), bE_ok, Nat.zero_le _, fun j hj => absurd hj (Nat.not_lt_zero _)⟩⟩
  · refine ⟨⟨z 2 1 (by decide) (by decide) (by decide) (by decide), fun i hi => absurd hi (Nat.not_lt_zero _)⟩, ⟨z 4 1 (by decide) (by decide) (by decide) (by decide), fun i hi => absurd hi (Nat.not_lt_zero _)⟩, ⟨z 8 9 (by decide) (by decide) (by decide) (by decide), (i1 8 (by decide) 10 (by decide) (by decide)).trans (by decide)⟩, ⟨z 13 0 (by decide) (by decide) (by decide) (by decide), fun s hs => absurd hs (Nat.not_lt_zero _), fun s hs => absurd hs (Nat.not_lt_zero _), fun r hr => z 21 r (by decide) (by omega) (w21 r hr).1 (w21 r hr).2, z 13 9 (by decide) (by decide) (by decide) (by decide), fun k hk => absurd hk (Nat.not_lt_zero _)⟩, ⟨z 35 2 (by decide) (by decide) (by decide) (by decide), by rw [z 35 1 (by decide) (by decide) (by decide) (by decide)]; decide, fun j hj => absurd hj (Nat.not_lt_zero _)⟩, fun k hk => (i1 9 (by decide) k (by omega) (w9 k hk).1).trans (w9 k hk).2, ?_⟩
    refine ⟨⟨fun _ => 0, ⟨z 147 0 (by decide) (by decide) (by decide) (by decide), fun j hj => absurd hj (Nat.not_lt_zero _)⟩, fun j hj => absurd hj (Nat.not_lt_zero _)⟩, ⟨z 150 0 (by decide) (by decide) (by decide) (by decide), fun s hs => absurd hs (Nat.not_lt_zero _)⟩, ⟨fun k => 160 + 3 * k, ⟨z 156 1 (by decide) (by decide) (by decide) (by decide), sl1, fun k hk => absurd hk (Nat.not_lt_zero _)⟩, z 156 3 (by decide) (by decide) (by decide) (by decide), z 156 5 (by decide) (by decide) (by decide) (by decide), fun l hl => ?_, fun l hl => ?_, fun j hj => absurd hj (Nat.not_lt_zero _)⟩, ⟨_, sl2⟩, Nat.zero_le _⟩
    · have e : l = 0 := Nat.le_zero.mp hl
      subst e
      exact z 158 0 (by decide) (by decide) (by decide) (by decide)
    · have e : l = 0 := Nat.le_zero.mp hl
      subst e
      exact z 159 0 (by decide) (by decide) (by decide) (by decide)
  · exact ⟨⟨z 596 4 (by decide) (by decide) (by decide) (by decide), fun i hi => absurd hi (Nat.not_lt_zero _)⟩, ⟨z 596 28 (by decide) (by decide) (by decide) (by decide), fun i hi => absurd hi (Nat.not_lt_zero _)⟩, ⟨z 596 10 (by decide) (by decide) (by decide) (by decide), (i1 596 (by decide) 11 (by decide) (by decide)).trans (by decide)⟩, ⟨z 597 0 (by decide) (by decide) (by decide) (by decide), fun s hs => absurd hs (Nat.not_lt_zero _), fun s hs => absurd hs (Nat.not_lt_zero _), fun r hr => z 597 (0 + 2 + r) (by decide) (by omega) (w597 r hr).1 (w597 r hr).2, z 597 (0 + 1) (by decide) (by decide) (by decide) (by decide), fun k hk => absurd hk (Nat.not_lt_zero _)⟩, z 596 34 (by decide) (by decide) (by decide) (by decide), fun j hj => absurd hj (Nat.not_lt_zero _)⟩
