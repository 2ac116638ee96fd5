/-! the law over stores: what is owed of each method, and the loop out of it -/
def Stp0 (Inv : st_S → Prop) (c m : st_S → Option (Int × st_S)) : Prop := ∀ (σ : st_S), Inv σ → ∃ (r : Int) (σ1 σ2 : st_S), c σ = some (r, σ1) ∧ m σ1 = some (r, σ2) ∧ Inv σ2
def Stp1 (Inv : st_S → Prop) (c m : Int → st_S → Option (Int × st_S)) : Prop := ∀ (x1 : Int) (σ : st_S), ab_i32 x1 → Inv σ → ∃ (r : Int) (σ1 σ2 : st_S), c x1 σ = some (r, σ1) ∧ m x1 σ1 = some (r, σ2) ∧ Inv σ2
def Stp2 (Inv : st_S → Prop) (c m : Int → Int → st_S → Option (Int × st_S)) : Prop := ∀ (x1 : Int) (x2 : Int) (σ : st_S), ab_i32 x1 → ab_i32 x2 → Inv σ → ∃ (r : Int) (σ1 σ2 : st_S), c x1 x2 σ = some (r, σ1) ∧ m x1 x2 σ1 = some (r, σ2) ∧ Inv σ2
def Stp3 (Inv : st_S → Prop) (c m : Int → Int → Int → st_S → Option (Int × st_S)) : Prop := ∀ (x1 : Int) (x2 : Int) (x3 : Int) (σ : st_S), ab_i32 x1 → ab_i32 x2 → ab_i32 x3 → Inv σ → ∃ (r : Int) (σ1 σ2 : st_S), c x1 x2 x3 σ = some (r, σ1) ∧ m x1 x2 x3 σ1 = some (r, σ2) ∧ Inv σ2
def Stp5 (Inv : st_S → Prop) (c m : Int → Int → Int → Int → Int → st_S → Option (Int × st_S)) : Prop := ∀ (x1 : Int) (x2 : Int) (x3 : Int) (x4 : Int) (x5 : Int) (σ : st_S), ab_i32 x1 → ab_i32 x2 → ab_i32 x3 → ab_i32 x4 → ab_i32 x5 → Inv σ → ∃ (r : Int) (σ1 σ2 : st_S), c x1 x2 x3 x4 x5 σ = some (r, σ1) ∧ m x1 x2 x3 x4 x5 σ1 = some (r, σ2) ∧ Inv σ2
def StpAll (Inv : st_S → Prop) : Prop :=
  Stp5 Inv g_X8_feed g_X9_feed ∧
  Stp1 Inv g_X8_end g_X9_end ∧
  Stp0 Inv g_X8_text g_X9_text ∧
  Stp1 Inv g_X8_fault g_X9_fault ∧
  Stp1 Inv g_X8_count g_X9_count ∧
  Stp2 Inv g_X8_string g_X9_string ∧
  Stp3 Inv g_X8_term g_X9_term ∧
  Stp2 Inv g_X8_letter g_X9_letter ∧
  Stp1 Inv g_X8_way g_X9_way ∧
  Stp0 Inv g_X8_find g_X9_find ∧
  Stp1 Inv g_X8_at g_X9_at ∧
  Stp2 Inv g_X8_entry g_X9_entry ∧
  Stp3 Inv g_X8_row g_X9_row ∧
  Stp2 Inv g_X8_line g_X9_line ∧
  Stp2 Inv g_X8_address g_X9_address ∧
  Stp2 Inv g_X8_head g_X9_head ∧
  Stp1 Inv g_X8_print g_X9_print ∧
  Stp0 Inv g_X8_printAll g_X9_printAll ∧
  Stp1 Inv g_X8_octet g_X9_octet ∧
  Stp1 Inv g_X8_rebuilt g_X9_rebuilt ∧
  Stp1 Inv g_X8_begins g_X9_begins ∧
  Stp2 Inv g_X8_having g_X9_having ∧
  Stp2 Inv g_X8_sharing g_X9_sharing ∧
  Stp2 Inv g_X8_alike g_X9_alike ∧
  Stp3 Inv g_X8_common g_X9_common ∧
  Stp1 Inv g_X8_nearest g_X9_nearest ∧
  Stp0 Inv g_X8_senses g_X9_senses ∧
  Stp3 Inv g_X8_beside g_X9_beside ∧
  Stp1 Inv g_X8_often g_X9_often ∧
  Stp1 Inv g_X8_most g_X9_most ∧
  Stp1 Inv g_X8_apart g_X9_apart ∧
  Stp0 Inv g_X8_cover g_X9_cover ∧
  Stp3 Inv g_X8_would g_X9_would ∧
  Stp0 Inv g_X8_adds g_X9_adds ∧
  Stp1 Inv g_X8_drops g_X9_drops ∧
  Stp2 Inv g_X8_law g_X9_law ∧
  Stp3 Inv g_X8_lead g_X9_lead ∧
  Stp3 Inv g_X8_swaps g_X9_swaps ∧
  Stp2 Inv g_X8_see g_X9_see ∧
  Stp1 Inv g_X8_forget g_X9_forget ∧
  Stp2 Inv g_X8_moves g_X9_moves ∧
  Stp0 Inv g_X8_undo g_X9_undo ∧
  Stp2 Inv g_X8_gather g_X9_gather ∧
  Stp1 Inv g_X8_lost g_X9_lost ∧
  Stp2 Inv g_X8_chain g_X9_chain ∧
  Stp0 Inv g_X8_groups g_X9_groups ∧
  Stp0 Inv g_X8_longest g_X9_longest ∧
  Stp2 Inv g_X8_shown g_X9_shown ∧
  Stp1 Inv g_X8_twins g_X9_twins ∧
  Stp1 Inv g_X8_rarest g_X9_rarest ∧
  Stp2 Inv g_X8_crossed g_X9_crossed ∧
  Stp1 Inv g_X8_shared g_X9_shared
section LWS
variable {Inv : st_S → Prop} {sN : Nat} {sX : Nat → Int}
theorem lw_scl (h : sN ≤ 3072) {i j : Nat} (hj : j < 6) (hi : 6 * i + 6 ≤ sN) : ab_scl sN sX (-1000) (ab_w32 (((6 * i : Nat) : Int) + ((j : Nat) : Int))) = some (sX (6 * i + j)) := by
  rw [w32i (by omega) (by omega)]
  unfold ab_scl
  rw [if_pos ⟨rfl, by omega, by omega⟩]
  congr 2
set_option maxHeartbeats 4000000 in
set_option maxRecDepth 20000 in
theorem lw_loop (hL : sN ≤ 3072) (hX : ∀ i, ab_i32 (sX i)) (S : StpAll Inv) : ∀ (n i : Nat) (σ : st_S), Inv σ → 6 * i ≤ sN → sN - 6 * i < n → ∃ σ' : st_S, f_L_law_L18 sN sX n (-1000) ((1 : Nat) : Int) ((596 : Nat) : Int) ((6 * i : Nat) : Int) (mk_ σ) = some (1, mk_ σ') := by
  obtain ⟨S0, S1, S2, S3, S4, S5, S6, S7, S8, S9, S10, S11, S12, S13, S14, S15, S16, S17, S18, S19, S20, S21, S22, S23, S24, S25, S26, S27, S28, S29, S30, S31, S32, S33, S34, S35, S36, S37, S38, S39, S40, S41, S42, S43, S44, S45, S46, S47, S48, S49, S50, S51⟩ := S
  intro n
  induction n with
  | zero => intro i σ _ _ h; omega
  | succ n ih =>
    intro i σ hI hi hn
    unfold f_L_law_L18
    have e0 : ab_scn sN (-1000) = some (sN : Int) := rfl
    by_cases hend : ab_w32 ((sN : Int) - 6) < ((6 * i : Nat) : Int)
    · exact ⟨σ, mb_eq e0 (mb_ifp hend rfl)⟩
    have hle : 6 * i + 6 ≤ sN := by rw [w32i (by omega) (by omega)] at hend; omega
    have next : ∀ σ2, Inv σ2 → ∃ σ' : st_S, f_L_law_J1702 sN sX (f_L_law_L18 sN sX n) (-1000) ((1 : Nat) : Int) ((596 : Nat) : Int) ((6 * i : Nat) : Int) (mk_ σ2) = some (1, mk_ σ') := by
      intro σ2 h2
      obtain ⟨σ', h'⟩ := ih (i + 1) σ2 h2 (by omega) (by omega)
      refine ⟨σ', ?_⟩
      unfold f_L_law_J1702
      rw [w32i (by omega) (by omega), show ((6 * i : Nat) : Int) + 6 = ((6 * (i + 1) : Nat) : Int) by omega]
      exact h'
    have c0 : ab_scl sN sX (-1000) ((6 * i : Nat) : Int) = some (sX (6 * i)) := by
      unfold ab_scl
      rw [if_pos ⟨rfl, by omega, by omega⟩]
      congr 2
    have c1 : ab_scl sN sX (-1000) (ab_w32 (((6 * i : Nat) : Int) + (1 : Int))) = some (sX (6 * i + 1)) := lw_scl (j := 1) hL (by decide) hle
    have c2 : ab_scl sN sX (-1000) (ab_w32 (((6 * i : Nat) : Int) + (2 : Int))) = some (sX (6 * i + 2)) := lw_scl (j := 2) hL (by decide) hle
    have c3 : ab_scl sN sX (-1000) (ab_w32 (((6 * i : Nat) : Int) + (3 : Int))) = some (sX (6 * i + 3)) := lw_scl (j := 3) hL (by decide) hle
    have c4 : ab_scl sN sX (-1000) (ab_w32 (((6 * i : Nat) : Int) + (4 : Int))) = some (sX (6 * i + 4)) := lw_scl (j := 4) hL (by decide) hle
    have c5 : ab_scl sN sX (-1000) (ab_w32 (((6 * i : Nat) : Int) + (5 : Int))) = some (sX (6 * i + 5)) := lw_scl (j := 5) hL (by decide) hle
    by_cases hc0 : ab_and (sX (6 * i)) 63 = (0 : Int)
    · obtain ⟨r, σ1, σ2, e1, e2, i2⟩ := S0 _ _ _ _ _ σ (hX _) (hX _) (hX _) (hX _) (hX _) hI
      obtain ⟨σ', h'⟩ := next σ2 i2
      refine ⟨σ', mb_eq e0 (mb_ifn hend (mb_eq c0 ?_))⟩
      refine mb_ifp hc0 ?_
      refine mb_eq c1 ?_
      refine mb_eq c2 ?_
      refine mb_eq c3 ?_
      refine mb_eq c4 ?_
      refine mb_eq c5 ?_
      refine mb_on rfl (s_X8_feed e1) ?_
      refine mb_eq c1 ?_
      refine mb_eq c2 ?_
      refine mb_eq c3 ?_
      refine mb_eq c4 ?_
      refine mb_eq c5 ?_
      refine mb_on rfl (s_X9_feed e2) ?_
      refine mb_ifp rfl ?_
      exact h'
    by_cases hc1 : ab_and (sX (6 * i)) 63 = (1 : Int)
    · obtain ⟨r, σ1, σ2, e1, e2, i2⟩ := S1 _ σ (hX _) hI
      obtain ⟨σ', h'⟩ := next σ2 i2
      refine ⟨σ', mb_eq e0 (mb_ifn hend (mb_eq c0 ?_))⟩
      refine mb_ifn hc0 ?_
      refine mb_ifp hc1 ?_
      refine mb_eq c1 ?_
      refine mb_on rfl (s_X8_end e1) ?_
      refine mb_eq c1 ?_
      refine mb_on rfl (s_X9_end e2) ?_
      refine mb_ifp rfl ?_
      exact h'
    by_cases hc2 : ab_and (sX (6 * i)) 63 = (2 : Int)
    · obtain ⟨r, σ1, σ2, e1, e2, i2⟩ := S2  σ  hI
      obtain ⟨σ', h'⟩ := next σ2 i2
      refine ⟨σ', mb_eq e0 (mb_ifn hend (mb_eq c0 ?_))⟩
      refine mb_ifn hc0 ?_
      refine mb_ifn hc1 ?_
      refine mb_ifp hc2 ?_
      refine mb_on rfl (s_X8_text e1) ?_
      refine mb_on rfl (s_X9_text e2) ?_
      refine mb_ifp rfl ?_
      exact h'
    by_cases hc3 : ab_and (sX (6 * i)) 63 = (3 : Int)
    · obtain ⟨r, σ1, σ2, e1, e2, i2⟩ := S3 _ σ (hX _) hI
      obtain ⟨σ', h'⟩ := next σ2 i2
      refine ⟨σ', mb_eq e0 (mb_ifn hend (mb_eq c0 ?_))⟩
      refine mb_ifn hc0 ?_
      refine mb_ifn hc1 ?_
      refine mb_ifn hc2 ?_
      refine mb_ifp hc3 ?_
      refine mb_eq c1 ?_
      refine mb_on rfl (s_X8_fault e1) ?_
      refine mb_eq c1 ?_
      refine mb_on rfl (s_X9_fault e2) ?_
      refine mb_ifp rfl ?_
      exact h'
    by_cases hc4 : ab_and (sX (6 * i)) 63 = (4 : Int)
    · obtain ⟨r, σ1, σ2, e1, e2, i2⟩ := S4 _ σ (hX _) hI
      obtain ⟨σ', h'⟩ := next σ2 i2
      refine ⟨σ', mb_eq e0 (mb_ifn hend (mb_eq c0 ?_))⟩
      refine mb_ifn hc0 ?_
      refine mb_ifn hc1 ?_
      refine mb_ifn hc2 ?_
      refine mb_ifn hc3 ?_
      refine mb_ifp hc4 ?_
      refine mb_eq c1 ?_
      refine mb_on rfl (s_X8_count e1) ?_
      refine mb_eq c1 ?_
      refine mb_on rfl (s_X9_count e2) ?_
      refine mb_ifp rfl ?_
      exact h'
    by_cases hc5 : ab_and (sX (6 * i)) 63 = (5 : Int)
    · obtain ⟨r, σ1, σ2, e1, e2, i2⟩ := S5 _ _ σ (hX _) (hX _) hI
      obtain ⟨σ', h'⟩ := next σ2 i2
      refine ⟨σ', mb_eq e0 (mb_ifn hend (mb_eq c0 ?_))⟩
      refine mb_ifn hc0 ?_
      refine mb_ifn hc1 ?_
      refine mb_ifn hc2 ?_
      refine mb_ifn hc3 ?_
      refine mb_ifn hc4 ?_
      refine mb_ifp hc5 ?_
      refine mb_eq c1 ?_
      refine mb_eq c2 ?_
      refine mb_on rfl (s_X8_string e1) ?_
      refine mb_eq c1 ?_
      refine mb_eq c2 ?_
      refine mb_on rfl (s_X9_string e2) ?_
      refine mb_ifp rfl ?_
      exact h'
    by_cases hc6 : ab_and (sX (6 * i)) 63 = (6 : Int)
    · obtain ⟨r, σ1, σ2, e1, e2, i2⟩ := S6 _ _ _ σ (hX _) (hX _) (hX _) hI
      obtain ⟨σ', h'⟩ := next σ2 i2
      refine ⟨σ', mb_eq e0 (mb_ifn hend (mb_eq c0 ?_))⟩
      refine mb_ifn hc0 ?_
      refine mb_ifn hc1 ?_
      refine mb_ifn hc2 ?_
      refine mb_ifn hc3 ?_
      refine mb_ifn hc4 ?_
      refine mb_ifn hc5 ?_
      refine mb_ifp hc6 ?_
      refine mb_eq c1 ?_
      refine mb_eq c2 ?_
      refine mb_eq c3 ?_
      refine mb_on rfl (s_X8_term e1) ?_
      refine mb_eq c1 ?_
      refine mb_eq c2 ?_
      refine mb_eq c3 ?_
      refine mb_on rfl (s_X9_term e2) ?_
      refine mb_ifp rfl ?_
      exact h'
    by_cases hc7 : ab_and (sX (6 * i)) 63 = (7 : Int)
    · obtain ⟨r, σ1, σ2, e1, e2, i2⟩ := S7 _ _ σ (hX _) (hX _) hI
      obtain ⟨σ', h'⟩ := next σ2 i2
      refine ⟨σ', mb_eq e0 (mb_ifn hend (mb_eq c0 ?_))⟩
      refine mb_ifn hc0 ?_
      refine mb_ifn hc1 ?_
      refine mb_ifn hc2 ?_
      refine mb_ifn hc3 ?_
      refine mb_ifn hc4 ?_
      refine mb_ifn hc5 ?_
      refine mb_ifn hc6 ?_
      refine mb_ifp hc7 ?_
      refine mb_eq c1 ?_
      refine mb_eq c2 ?_
      refine mb_on rfl (s_X8_letter e1) ?_
      refine mb_eq c1 ?_
      refine mb_eq c2 ?_
      refine mb_on rfl (s_X9_letter e2) ?_
      refine mb_ifp rfl ?_
      exact h'
    by_cases hc8 : ab_and (sX (6 * i)) 63 = (8 : Int)
    · obtain ⟨r, σ1, σ2, e1, e2, i2⟩ := S8 _ σ (hX _) hI
      obtain ⟨σ', h'⟩ := next σ2 i2
      refine ⟨σ', mb_eq e0 (mb_ifn hend (mb_eq c0 ?_))⟩
      refine mb_ifn hc0 ?_
      refine mb_ifn hc1 ?_
      refine mb_ifn hc2 ?_
      refine mb_ifn hc3 ?_
      refine mb_ifn hc4 ?_
      refine mb_ifn hc5 ?_
      refine mb_ifn hc6 ?_
      refine mb_ifn hc7 ?_
      refine mb_ifp hc8 ?_
      refine mb_eq c1 ?_
      refine mb_on rfl (s_X8_way e1) ?_
      refine mb_eq c1 ?_
      refine mb_on rfl (s_X9_way e2) ?_
      refine mb_ifp rfl ?_
      exact h'
    by_cases hc9 : ab_and (sX (6 * i)) 63 = (9 : Int)
    · obtain ⟨r, σ1, σ2, e1, e2, i2⟩ := S9  σ  hI
      obtain ⟨σ', h'⟩ := next σ2 i2
      refine ⟨σ', mb_eq e0 (mb_ifn hend (mb_eq c0 ?_))⟩
      refine mb_ifn hc0 ?_
      refine mb_ifn hc1 ?_
      refine mb_ifn hc2 ?_
      refine mb_ifn hc3 ?_
      refine mb_ifn hc4 ?_
      refine mb_ifn hc5 ?_
      refine mb_ifn hc6 ?_
      refine mb_ifn hc7 ?_
      refine mb_ifn hc8 ?_
      refine mb_ifp hc9 ?_
      refine mb_on rfl (s_X8_find e1) ?_
      refine mb_on rfl (s_X9_find e2) ?_
      refine mb_ifp rfl ?_
      exact h'
    by_cases hc10 : ab_and (sX (6 * i)) 63 = (10 : Int)
    · obtain ⟨r, σ1, σ2, e1, e2, i2⟩ := S10 _ σ (hX _) hI
      obtain ⟨σ', h'⟩ := next σ2 i2
      refine ⟨σ', mb_eq e0 (mb_ifn hend (mb_eq c0 ?_))⟩
      refine mb_ifn hc0 ?_
      refine mb_ifn hc1 ?_
      refine mb_ifn hc2 ?_
      refine mb_ifn hc3 ?_
      refine mb_ifn hc4 ?_
      refine mb_ifn hc5 ?_
      refine mb_ifn hc6 ?_
      refine mb_ifn hc7 ?_
      refine mb_ifn hc8 ?_
      refine mb_ifn hc9 ?_
      refine mb_ifp hc10 ?_
      refine mb_eq c1 ?_
      refine mb_on rfl (s_X8_at e1) ?_
      refine mb_eq c1 ?_
      refine mb_on rfl (s_X9_at e2) ?_
      refine mb_ifp rfl ?_
      exact h'
    by_cases hc11 : ab_and (sX (6 * i)) 63 = (11 : Int)
    · obtain ⟨r, σ1, σ2, e1, e2, i2⟩ := S11 _ _ σ (hX _) (hX _) hI
      obtain ⟨σ', h'⟩ := next σ2 i2
      refine ⟨σ', mb_eq e0 (mb_ifn hend (mb_eq c0 ?_))⟩
      refine mb_ifn hc0 ?_
      refine mb_ifn hc1 ?_
      refine mb_ifn hc2 ?_
      refine mb_ifn hc3 ?_
      refine mb_ifn hc4 ?_
      refine mb_ifn hc5 ?_
      refine mb_ifn hc6 ?_
      refine mb_ifn hc7 ?_
      refine mb_ifn hc8 ?_
      refine mb_ifn hc9 ?_
      refine mb_ifn hc10 ?_
      refine mb_ifp hc11 ?_
      refine mb_eq c1 ?_
      refine mb_eq c2 ?_
      refine mb_on rfl (s_X8_entry e1) ?_
      refine mb_eq c1 ?_
      refine mb_eq c2 ?_
      refine mb_on rfl (s_X9_entry e2) ?_
      refine mb_ifp rfl ?_
      exact h'
    by_cases hc12 : ab_and (sX (6 * i)) 63 = (12 : Int)
    · obtain ⟨r, σ1, σ2, e1, e2, i2⟩ := S12 _ _ _ σ (hX _) (hX _) (hX _) hI
      obtain ⟨σ', h'⟩ := next σ2 i2
      refine ⟨σ', mb_eq e0 (mb_ifn hend (mb_eq c0 ?_))⟩
      refine mb_ifn hc0 ?_
      refine mb_ifn hc1 ?_
      refine mb_ifn hc2 ?_
      refine mb_ifn hc3 ?_
      refine mb_ifn hc4 ?_
      refine mb_ifn hc5 ?_
      refine mb_ifn hc6 ?_
      refine mb_ifn hc7 ?_
      refine mb_ifn hc8 ?_
      refine mb_ifn hc9 ?_
      refine mb_ifn hc10 ?_
      refine mb_ifn hc11 ?_
      refine mb_ifp hc12 ?_
      refine mb_eq c1 ?_
      refine mb_eq c2 ?_
      refine mb_eq c3 ?_
      refine mb_on rfl (s_X8_row e1) ?_
      refine mb_eq c1 ?_
      refine mb_eq c2 ?_
      refine mb_eq c3 ?_
      refine mb_on rfl (s_X9_row e2) ?_
      refine mb_ifp rfl ?_
      exact h'
    by_cases hc13 : ab_and (sX (6 * i)) 63 = (13 : Int)
    · obtain ⟨r, σ1, σ2, e1, e2, i2⟩ := S13 _ _ σ (hX _) (hX _) hI
      obtain ⟨σ', h'⟩ := next σ2 i2
      refine ⟨σ', mb_eq e0 (mb_ifn hend (mb_eq c0 ?_))⟩
      refine mb_ifn hc0 ?_
      refine mb_ifn hc1 ?_
      refine mb_ifn hc2 ?_
      refine mb_ifn hc3 ?_
      refine mb_ifn hc4 ?_
      refine mb_ifn hc5 ?_
      refine mb_ifn hc6 ?_
      refine mb_ifn hc7 ?_
      refine mb_ifn hc8 ?_
      refine mb_ifn hc9 ?_
      refine mb_ifn hc10 ?_
      refine mb_ifn hc11 ?_
      refine mb_ifn hc12 ?_
      refine mb_ifp hc13 ?_
      refine mb_eq c1 ?_
      refine mb_eq c2 ?_
      refine mb_on rfl (s_X8_line e1) ?_
      refine mb_eq c1 ?_
      refine mb_eq c2 ?_
      refine mb_on rfl (s_X9_line e2) ?_
      refine mb_ifp rfl ?_
      exact h'
    by_cases hc14 : ab_and (sX (6 * i)) 63 = (14 : Int)
    · obtain ⟨r, σ1, σ2, e1, e2, i2⟩ := S14 _ _ σ (hX _) (hX _) hI
      obtain ⟨σ', h'⟩ := next σ2 i2
      refine ⟨σ', mb_eq e0 (mb_ifn hend (mb_eq c0 ?_))⟩
      refine mb_ifn hc0 ?_
      refine mb_ifn hc1 ?_
      refine mb_ifn hc2 ?_
      refine mb_ifn hc3 ?_
      refine mb_ifn hc4 ?_
      refine mb_ifn hc5 ?_
      refine mb_ifn hc6 ?_
      refine mb_ifn hc7 ?_
      refine mb_ifn hc8 ?_
      refine mb_ifn hc9 ?_
      refine mb_ifn hc10 ?_
      refine mb_ifn hc11 ?_
      refine mb_ifn hc12 ?_
      refine mb_ifn hc13 ?_
      refine mb_ifp hc14 ?_
      refine mb_eq c1 ?_
      refine mb_eq c2 ?_
      refine mb_on rfl (s_X8_address e1) ?_
      refine mb_eq c1 ?_
      refine mb_eq c2 ?_
      refine mb_on rfl (s_X9_address e2) ?_
      refine mb_ifp rfl ?_
      exact h'
    by_cases hc15 : ab_and (sX (6 * i)) 63 = (15 : Int)
    · obtain ⟨r, σ1, σ2, e1, e2, i2⟩ := S15 _ _ σ (hX _) (hX _) hI
      obtain ⟨σ', h'⟩ := next σ2 i2
      refine ⟨σ', mb_eq e0 (mb_ifn hend (mb_eq c0 ?_))⟩
      refine mb_ifn hc0 ?_
      refine mb_ifn hc1 ?_
      refine mb_ifn hc2 ?_
      refine mb_ifn hc3 ?_
      refine mb_ifn hc4 ?_
      refine mb_ifn hc5 ?_
      refine mb_ifn hc6 ?_
      refine mb_ifn hc7 ?_
      refine mb_ifn hc8 ?_
      refine mb_ifn hc9 ?_
      refine mb_ifn hc10 ?_
      refine mb_ifn hc11 ?_
      refine mb_ifn hc12 ?_
      refine mb_ifn hc13 ?_
      refine mb_ifn hc14 ?_
      refine mb_ifp hc15 ?_
      refine mb_eq c1 ?_
      refine mb_eq c2 ?_
      refine mb_on rfl (s_X8_head e1) ?_
      refine mb_eq c1 ?_
      refine mb_eq c2 ?_
      refine mb_on rfl (s_X9_head e2) ?_
      refine mb_ifp rfl ?_
      exact h'
    by_cases hc16 : ab_and (sX (6 * i)) 63 = (16 : Int)
    · obtain ⟨r, σ1, σ2, e1, e2, i2⟩ := S16 _ σ (hX _) hI
      obtain ⟨σ', h'⟩ := next σ2 i2
      refine ⟨σ', mb_eq e0 (mb_ifn hend (mb_eq c0 ?_))⟩
      refine mb_ifn hc0 ?_
      refine mb_ifn hc1 ?_
      refine mb_ifn hc2 ?_
      refine mb_ifn hc3 ?_
      refine mb_ifn hc4 ?_
      refine mb_ifn hc5 ?_
      refine mb_ifn hc6 ?_
      refine mb_ifn hc7 ?_
      refine mb_ifn hc8 ?_
      refine mb_ifn hc9 ?_
      refine mb_ifn hc10 ?_
      refine mb_ifn hc11 ?_
      refine mb_ifn hc12 ?_
      refine mb_ifn hc13 ?_
      refine mb_ifn hc14 ?_
      refine mb_ifn hc15 ?_
      refine mb_ifp hc16 ?_
      refine mb_eq c1 ?_
      refine mb_on rfl (s_X8_print e1) ?_
      refine mb_eq c1 ?_
      refine mb_on rfl (s_X9_print e2) ?_
      refine mb_ifp rfl ?_
      exact h'
    by_cases hc17 : ab_and (sX (6 * i)) 63 = (17 : Int)
    · obtain ⟨r, σ1, σ2, e1, e2, i2⟩ := S17  σ  hI
      obtain ⟨σ', h'⟩ := next σ2 i2
      refine ⟨σ', mb_eq e0 (mb_ifn hend (mb_eq c0 ?_))⟩
      refine mb_ifn hc0 ?_
      refine mb_ifn hc1 ?_
      refine mb_ifn hc2 ?_
      refine mb_ifn hc3 ?_
      refine mb_ifn hc4 ?_
      refine mb_ifn hc5 ?_
      refine mb_ifn hc6 ?_
      refine mb_ifn hc7 ?_
      refine mb_ifn hc8 ?_
      refine mb_ifn hc9 ?_
      refine mb_ifn hc10 ?_
      refine mb_ifn hc11 ?_
      refine mb_ifn hc12 ?_
      refine mb_ifn hc13 ?_
      refine mb_ifn hc14 ?_
      refine mb_ifn hc15 ?_
      refine mb_ifn hc16 ?_
      refine mb_ifp hc17 ?_
      refine mb_on rfl (s_X8_printAll e1) ?_
      refine mb_on rfl (s_X9_printAll e2) ?_
      refine mb_ifp rfl ?_
      exact h'
    by_cases hc18 : ab_and (sX (6 * i)) 63 = (18 : Int)
    · obtain ⟨r, σ1, σ2, e1, e2, i2⟩ := S18 _ σ (hX _) hI
      obtain ⟨σ', h'⟩ := next σ2 i2
      refine ⟨σ', mb_eq e0 (mb_ifn hend (mb_eq c0 ?_))⟩
      refine mb_ifn hc0 ?_
      refine mb_ifn hc1 ?_
      refine mb_ifn hc2 ?_
      refine mb_ifn hc3 ?_
      refine mb_ifn hc4 ?_
      refine mb_ifn hc5 ?_
      refine mb_ifn hc6 ?_
      refine mb_ifn hc7 ?_
      refine mb_ifn hc8 ?_
      refine mb_ifn hc9 ?_
      refine mb_ifn hc10 ?_
      refine mb_ifn hc11 ?_
      refine mb_ifn hc12 ?_
      refine mb_ifn hc13 ?_
      refine mb_ifn hc14 ?_
      refine mb_ifn hc15 ?_
      refine mb_ifn hc16 ?_
      refine mb_ifn hc17 ?_
      refine mb_ifp hc18 ?_
      refine mb_eq c1 ?_
      refine mb_on rfl (s_X8_octet e1) ?_
      refine mb_eq c1 ?_
      refine mb_on rfl (s_X9_octet e2) ?_
      refine mb_ifp rfl ?_
      exact h'
    by_cases hc19 : ab_and (sX (6 * i)) 63 = (19 : Int)
    · obtain ⟨r, σ1, σ2, e1, e2, i2⟩ := S19 _ σ (hX _) hI
      obtain ⟨σ', h'⟩ := next σ2 i2
      refine ⟨σ', mb_eq e0 (mb_ifn hend (mb_eq c0 ?_))⟩
      refine mb_ifn hc0 ?_
      refine mb_ifn hc1 ?_
      refine mb_ifn hc2 ?_
      refine mb_ifn hc3 ?_
      refine mb_ifn hc4 ?_
      refine mb_ifn hc5 ?_
      refine mb_ifn hc6 ?_
      refine mb_ifn hc7 ?_
      refine mb_ifn hc8 ?_
      refine mb_ifn hc9 ?_
      refine mb_ifn hc10 ?_
      refine mb_ifn hc11 ?_
      refine mb_ifn hc12 ?_
      refine mb_ifn hc13 ?_
      refine mb_ifn hc14 ?_
      refine mb_ifn hc15 ?_
      refine mb_ifn hc16 ?_
      refine mb_ifn hc17 ?_
      refine mb_ifn hc18 ?_
      refine mb_ifp hc19 ?_
      refine mb_eq c1 ?_
      refine mb_on rfl (s_X8_rebuilt e1) ?_
      refine mb_eq c1 ?_
      refine mb_on rfl (s_X9_rebuilt e2) ?_
      refine mb_ifp rfl ?_
      exact h'
    by_cases hc20 : ab_and (sX (6 * i)) 63 = (20 : Int)
    · obtain ⟨r, σ1, σ2, e1, e2, i2⟩ := S20 _ σ (hX _) hI
      obtain ⟨σ', h'⟩ := next σ2 i2
      refine ⟨σ', mb_eq e0 (mb_ifn hend (mb_eq c0 ?_))⟩
      refine mb_ifn hc0 ?_
      refine mb_ifn hc1 ?_
      refine mb_ifn hc2 ?_
      refine mb_ifn hc3 ?_
      refine mb_ifn hc4 ?_
      refine mb_ifn hc5 ?_
      refine mb_ifn hc6 ?_
      refine mb_ifn hc7 ?_
      refine mb_ifn hc8 ?_
      refine mb_ifn hc9 ?_
      refine mb_ifn hc10 ?_
      refine mb_ifn hc11 ?_
      refine mb_ifn hc12 ?_
      refine mb_ifn hc13 ?_
      refine mb_ifn hc14 ?_
      refine mb_ifn hc15 ?_
      refine mb_ifn hc16 ?_
      refine mb_ifn hc17 ?_
      refine mb_ifn hc18 ?_
      refine mb_ifn hc19 ?_
      refine mb_ifp hc20 ?_
      refine mb_eq c1 ?_
      refine mb_on rfl (s_X8_begins e1) ?_
      refine mb_eq c1 ?_
      refine mb_on rfl (s_X9_begins e2) ?_
      refine mb_ifp rfl ?_
      exact h'
    by_cases hc21 : ab_and (sX (6 * i)) 63 = (21 : Int)
    · obtain ⟨r, σ1, σ2, e1, e2, i2⟩ := S21 _ _ σ (hX _) (hX _) hI
      obtain ⟨σ', h'⟩ := next σ2 i2
      refine ⟨σ', mb_eq e0 (mb_ifn hend (mb_eq c0 ?_))⟩
      refine mb_ifn hc0 ?_
      refine mb_ifn hc1 ?_
      refine mb_ifn hc2 ?_
      refine mb_ifn hc3 ?_
      refine mb_ifn hc4 ?_
      refine mb_ifn hc5 ?_
      refine mb_ifn hc6 ?_
      refine mb_ifn hc7 ?_
      refine mb_ifn hc8 ?_
      refine mb_ifn hc9 ?_
      refine mb_ifn hc10 ?_
      refine mb_ifn hc11 ?_
      refine mb_ifn hc12 ?_
      refine mb_ifn hc13 ?_
      refine mb_ifn hc14 ?_
      refine mb_ifn hc15 ?_
      refine mb_ifn hc16 ?_
      refine mb_ifn hc17 ?_
      refine mb_ifn hc18 ?_
      refine mb_ifn hc19 ?_
      refine mb_ifn hc20 ?_
      refine mb_ifp hc21 ?_
      refine mb_eq c1 ?_
      refine mb_eq c2 ?_
      refine mb_on rfl (s_X8_having e1) ?_
      refine mb_eq c1 ?_
      refine mb_eq c2 ?_
      refine mb_on rfl (s_X9_having e2) ?_
      refine mb_ifp rfl ?_
      exact h'
    by_cases hc22 : ab_and (sX (6 * i)) 63 = (22 : Int)
    · obtain ⟨r, σ1, σ2, e1, e2, i2⟩ := S22 _ _ σ (hX _) (hX _) hI
      obtain ⟨σ', h'⟩ := next σ2 i2
      refine ⟨σ', mb_eq e0 (mb_ifn hend (mb_eq c0 ?_))⟩
      refine mb_ifn hc0 ?_
      refine mb_ifn hc1 ?_
      refine mb_ifn hc2 ?_
      refine mb_ifn hc3 ?_
      refine mb_ifn hc4 ?_
      refine mb_ifn hc5 ?_
      refine mb_ifn hc6 ?_
      refine mb_ifn hc7 ?_
      refine mb_ifn hc8 ?_
      refine mb_ifn hc9 ?_
      refine mb_ifn hc10 ?_
      refine mb_ifn hc11 ?_
      refine mb_ifn hc12 ?_
      refine mb_ifn hc13 ?_
      refine mb_ifn hc14 ?_
      refine mb_ifn hc15 ?_
      refine mb_ifn hc16 ?_
      refine mb_ifn hc17 ?_
      refine mb_ifn hc18 ?_
      refine mb_ifn hc19 ?_
      refine mb_ifn hc20 ?_
      refine mb_ifn hc21 ?_
      refine mb_ifp hc22 ?_
      refine mb_eq c1 ?_
      refine mb_eq c2 ?_
      refine mb_on rfl (s_X8_sharing e1) ?_
      refine mb_eq c1 ?_
      refine mb_eq c2 ?_
      refine mb_on rfl (s_X9_sharing e2) ?_
      refine mb_ifp rfl ?_
      exact h'
    by_cases hc23 : ab_and (sX (6 * i)) 63 = (23 : Int)
    · obtain ⟨r, σ1, σ2, e1, e2, i2⟩ := S23 _ _ σ (hX _) (hX _) hI
      obtain ⟨σ', h'⟩ := next σ2 i2
      refine ⟨σ', mb_eq e0 (mb_ifn hend (mb_eq c0 ?_))⟩
      refine mb_ifn hc0 ?_
      refine mb_ifn hc1 ?_
      refine mb_ifn hc2 ?_
      refine mb_ifn hc3 ?_
      refine mb_ifn hc4 ?_
      refine mb_ifn hc5 ?_
      refine mb_ifn hc6 ?_
      refine mb_ifn hc7 ?_
      refine mb_ifn hc8 ?_
      refine mb_ifn hc9 ?_
      refine mb_ifn hc10 ?_
      refine mb_ifn hc11 ?_
      refine mb_ifn hc12 ?_
      refine mb_ifn hc13 ?_
      refine mb_ifn hc14 ?_
      refine mb_ifn hc15 ?_
      refine mb_ifn hc16 ?_
      refine mb_ifn hc17 ?_
      refine mb_ifn hc18 ?_
      refine mb_ifn hc19 ?_
      refine mb_ifn hc20 ?_
      refine mb_ifn hc21 ?_
      refine mb_ifn hc22 ?_
      refine mb_ifp hc23 ?_
      refine mb_eq c1 ?_
      refine mb_eq c2 ?_
      refine mb_on rfl (s_X8_alike e1) ?_
      refine mb_eq c1 ?_
      refine mb_eq c2 ?_
      refine mb_on rfl (s_X9_alike e2) ?_
      refine mb_ifp rfl ?_
      exact h'
    by_cases hc24 : ab_and (sX (6 * i)) 63 = (24 : Int)
    · obtain ⟨r, σ1, σ2, e1, e2, i2⟩ := S24 _ _ _ σ (hX _) (hX _) (hX _) hI
      obtain ⟨σ', h'⟩ := next σ2 i2
      refine ⟨σ', mb_eq e0 (mb_ifn hend (mb_eq c0 ?_))⟩
      refine mb_ifn hc0 ?_
      refine mb_ifn hc1 ?_
      refine mb_ifn hc2 ?_
      refine mb_ifn hc3 ?_
      refine mb_ifn hc4 ?_
      refine mb_ifn hc5 ?_
      refine mb_ifn hc6 ?_
      refine mb_ifn hc7 ?_
      refine mb_ifn hc8 ?_
      refine mb_ifn hc9 ?_
      refine mb_ifn hc10 ?_
      refine mb_ifn hc11 ?_
      refine mb_ifn hc12 ?_
      refine mb_ifn hc13 ?_
      refine mb_ifn hc14 ?_
      refine mb_ifn hc15 ?_
      refine mb_ifn hc16 ?_
      refine mb_ifn hc17 ?_
      refine mb_ifn hc18 ?_
      refine mb_ifn hc19 ?_
      refine mb_ifn hc20 ?_
      refine mb_ifn hc21 ?_
      refine mb_ifn hc22 ?_
      refine mb_ifn hc23 ?_
      refine mb_ifp hc24 ?_
      refine mb_eq c1 ?_
      refine mb_eq c2 ?_
      refine mb_eq c3 ?_
      refine mb_on rfl (s_X8_common e1) ?_
      refine mb_eq c1 ?_
      refine mb_eq c2 ?_
      refine mb_eq c3 ?_
      refine mb_on rfl (s_X9_common e2) ?_
      refine mb_ifp rfl ?_
      exact h'
    by_cases hc25 : ab_and (sX (6 * i)) 63 = (25 : Int)
    · obtain ⟨r, σ1, σ2, e1, e2, i2⟩ := S25 _ σ (hX _) hI
      obtain ⟨σ', h'⟩ := next σ2 i2
      refine ⟨σ', mb_eq e0 (mb_ifn hend (mb_eq c0 ?_))⟩
      refine mb_ifn hc0 ?_
      refine mb_ifn hc1 ?_
      refine mb_ifn hc2 ?_
      refine mb_ifn hc3 ?_
      refine mb_ifn hc4 ?_
      refine mb_ifn hc5 ?_
      refine mb_ifn hc6 ?_
      refine mb_ifn hc7 ?_
      refine mb_ifn hc8 ?_
      refine mb_ifn hc9 ?_
      refine mb_ifn hc10 ?_
      refine mb_ifn hc11 ?_
      refine mb_ifn hc12 ?_
      refine mb_ifn hc13 ?_
      refine mb_ifn hc14 ?_
      refine mb_ifn hc15 ?_
      refine mb_ifn hc16 ?_
      refine mb_ifn hc17 ?_
      refine mb_ifn hc18 ?_
      refine mb_ifn hc19 ?_
      refine mb_ifn hc20 ?_
      refine mb_ifn hc21 ?_
      refine mb_ifn hc22 ?_
      refine mb_ifn hc23 ?_
      refine mb_ifn hc24 ?_
      refine mb_ifp hc25 ?_
      refine mb_eq c1 ?_
      refine mb_on rfl (s_X8_nearest e1) ?_
      refine mb_eq c1 ?_
      refine mb_on rfl (s_X9_nearest e2) ?_
      refine mb_ifp rfl ?_
      exact h'
    by_cases hc26 : ab_and (sX (6 * i)) 63 = (26 : Int)
    · obtain ⟨r, σ1, σ2, e1, e2, i2⟩ := S26  σ  hI
      obtain ⟨σ', h'⟩ := next σ2 i2
      refine ⟨σ', mb_eq e0 (mb_ifn hend (mb_eq c0 ?_))⟩
      refine mb_ifn hc0 ?_
      refine mb_ifn hc1 ?_
      refine mb_ifn hc2 ?_
      refine mb_ifn hc3 ?_
      refine mb_ifn hc4 ?_
      refine mb_ifn hc5 ?_
      refine mb_ifn hc6 ?_
      refine mb_ifn hc7 ?_
      refine mb_ifn hc8 ?_
      refine mb_ifn hc9 ?_
      refine mb_ifn hc10 ?_
      refine mb_ifn hc11 ?_
      refine mb_ifn hc12 ?_
      refine mb_ifn hc13 ?_
      refine mb_ifn hc14 ?_
      refine mb_ifn hc15 ?_
      refine mb_ifn hc16 ?_
      refine mb_ifn hc17 ?_
      refine mb_ifn hc18 ?_
      refine mb_ifn hc19 ?_
      refine mb_ifn hc20 ?_
      refine mb_ifn hc21 ?_
      refine mb_ifn hc22 ?_
      refine mb_ifn hc23 ?_
      refine mb_ifn hc24 ?_
      refine mb_ifn hc25 ?_
      refine mb_ifp hc26 ?_
      refine mb_on rfl (s_X8_senses e1) ?_
      refine mb_on rfl (s_X9_senses e2) ?_
      refine mb_ifp rfl ?_
      exact h'
    by_cases hc27 : ab_and (sX (6 * i)) 63 = (27 : Int)
    · obtain ⟨r, σ1, σ2, e1, e2, i2⟩ := S27 _ _ _ σ (hX _) (hX _) (hX _) hI
      obtain ⟨σ', h'⟩ := next σ2 i2
      refine ⟨σ', mb_eq e0 (mb_ifn hend (mb_eq c0 ?_))⟩
      refine mb_ifn hc0 ?_
      refine mb_ifn hc1 ?_
      refine mb_ifn hc2 ?_
      refine mb_ifn hc3 ?_
      refine mb_ifn hc4 ?_
      refine mb_ifn hc5 ?_
      refine mb_ifn hc6 ?_
      refine mb_ifn hc7 ?_
      refine mb_ifn hc8 ?_
      refine mb_ifn hc9 ?_
      refine mb_ifn hc10 ?_
      refine mb_ifn hc11 ?_
      refine mb_ifn hc12 ?_
      refine mb_ifn hc13 ?_
      refine mb_ifn hc14 ?_
      refine mb_ifn hc15 ?_
      refine mb_ifn hc16 ?_
      refine mb_ifn hc17 ?_
      refine mb_ifn hc18 ?_
      refine mb_ifn hc19 ?_
      refine mb_ifn hc20 ?_
      refine mb_ifn hc21 ?_
      refine mb_ifn hc22 ?_
      refine mb_ifn hc23 ?_
      refine mb_ifn hc24 ?_
      refine mb_ifn hc25 ?_
      refine mb_ifn hc26 ?_
      refine mb_ifp hc27 ?_
      refine mb_eq c1 ?_
      refine mb_eq c2 ?_
      refine mb_eq c3 ?_
      refine mb_on rfl (s_X8_beside e1) ?_
      refine mb_eq c1 ?_
      refine mb_eq c2 ?_
      refine mb_eq c3 ?_
      refine mb_on rfl (s_X9_beside e2) ?_
      refine mb_ifp rfl ?_
      exact h'
    by_cases hc28 : ab_and (sX (6 * i)) 63 = (28 : Int)
    · obtain ⟨r, σ1, σ2, e1, e2, i2⟩ := S28 _ σ (hX _) hI
      obtain ⟨σ', h'⟩ := next σ2 i2
      refine ⟨σ', mb_eq e0 (mb_ifn hend (mb_eq c0 ?_))⟩
      refine mb_ifn hc0 ?_
      refine mb_ifn hc1 ?_
      refine mb_ifn hc2 ?_
      refine mb_ifn hc3 ?_
      refine mb_ifn hc4 ?_
      refine mb_ifn hc5 ?_
      refine mb_ifn hc6 ?_
      refine mb_ifn hc7 ?_
      refine mb_ifn hc8 ?_
      refine mb_ifn hc9 ?_
      refine mb_ifn hc10 ?_
      refine mb_ifn hc11 ?_
      refine mb_ifn hc12 ?_
      refine mb_ifn hc13 ?_
      refine mb_ifn hc14 ?_
      refine mb_ifn hc15 ?_
      refine mb_ifn hc16 ?_
      refine mb_ifn hc17 ?_
      refine mb_ifn hc18 ?_
      refine mb_ifn hc19 ?_
      refine mb_ifn hc20 ?_
      refine mb_ifn hc21 ?_
      refine mb_ifn hc22 ?_
      refine mb_ifn hc23 ?_
      refine mb_ifn hc24 ?_
      refine mb_ifn hc25 ?_
      refine mb_ifn hc26 ?_
      refine mb_ifn hc27 ?_
      refine mb_ifp hc28 ?_
      refine mb_eq c1 ?_
      refine mb_on rfl (s_X8_often e1) ?_
      refine mb_eq c1 ?_
      refine mb_on rfl (s_X9_often e2) ?_
      refine mb_ifp rfl ?_
      exact h'
    by_cases hc29 : ab_and (sX (6 * i)) 63 = (29 : Int)
    · obtain ⟨r, σ1, σ2, e1, e2, i2⟩ := S29 _ σ (hX _) hI
      obtain ⟨σ', h'⟩ := next σ2 i2
      refine ⟨σ', mb_eq e0 (mb_ifn hend (mb_eq c0 ?_))⟩
      refine mb_ifn hc0 ?_
      refine mb_ifn hc1 ?_
      refine mb_ifn hc2 ?_
      refine mb_ifn hc3 ?_
      refine mb_ifn hc4 ?_
      refine mb_ifn hc5 ?_
      refine mb_ifn hc6 ?_
      refine mb_ifn hc7 ?_
      refine mb_ifn hc8 ?_
      refine mb_ifn hc9 ?_
      refine mb_ifn hc10 ?_
      refine mb_ifn hc11 ?_
      refine mb_ifn hc12 ?_
      refine mb_ifn hc13 ?_
      refine mb_ifn hc14 ?_
      refine mb_ifn hc15 ?_
      refine mb_ifn hc16 ?_
      refine mb_ifn hc17 ?_
      refine mb_ifn hc18 ?_
      refine mb_ifn hc19 ?_
      refine mb_ifn hc20 ?_
      refine mb_ifn hc21 ?_
      refine mb_ifn hc22 ?_
      refine mb_ifn hc23 ?_
      refine mb_ifn hc24 ?_
      refine mb_ifn hc25 ?_
      refine mb_ifn hc26 ?_
      refine mb_ifn hc27 ?_
      refine mb_ifn hc28 ?_
      refine mb_ifp hc29 ?_
      refine mb_eq c1 ?_
      refine mb_on rfl (s_X8_most e1) ?_
      refine mb_eq c1 ?_
      refine mb_on rfl (s_X9_most e2) ?_
      refine mb_ifp rfl ?_
      exact h'
    by_cases hc30 : ab_and (sX (6 * i)) 63 = (30 : Int)
    · obtain ⟨r, σ1, σ2, e1, e2, i2⟩ := S30 _ σ (hX _) hI
      obtain ⟨σ', h'⟩ := next σ2 i2
      refine ⟨σ', mb_eq e0 (mb_ifn hend (mb_eq c0 ?_))⟩
      refine mb_ifn hc0 ?_
      refine mb_ifn hc1 ?_
      refine mb_ifn hc2 ?_
      refine mb_ifn hc3 ?_
      refine mb_ifn hc4 ?_
      refine mb_ifn hc5 ?_
      refine mb_ifn hc6 ?_
      refine mb_ifn hc7 ?_
      refine mb_ifn hc8 ?_
      refine mb_ifn hc9 ?_
      refine mb_ifn hc10 ?_
      refine mb_ifn hc11 ?_
      refine mb_ifn hc12 ?_
      refine mb_ifn hc13 ?_
      refine mb_ifn hc14 ?_
      refine mb_ifn hc15 ?_
      refine mb_ifn hc16 ?_
      refine mb_ifn hc17 ?_
      refine mb_ifn hc18 ?_
      refine mb_ifn hc19 ?_
      refine mb_ifn hc20 ?_
      refine mb_ifn hc21 ?_
      refine mb_ifn hc22 ?_
      refine mb_ifn hc23 ?_
      refine mb_ifn hc24 ?_
      refine mb_ifn hc25 ?_
      refine mb_ifn hc26 ?_
      refine mb_ifn hc27 ?_
      refine mb_ifn hc28 ?_
      refine mb_ifn hc29 ?_
      refine mb_ifp hc30 ?_
      refine mb_eq c1 ?_
      refine mb_on rfl (s_X8_apart e1) ?_
      refine mb_eq c1 ?_
      refine mb_on rfl (s_X9_apart e2) ?_
      refine mb_ifp rfl ?_
      exact h'
    by_cases hc31 : ab_and (sX (6 * i)) 63 = (31 : Int)
    · obtain ⟨r, σ1, σ2, e1, e2, i2⟩ := S31  σ  hI
      obtain ⟨σ', h'⟩ := next σ2 i2
      refine ⟨σ', mb_eq e0 (mb_ifn hend (mb_eq c0 ?_))⟩
      refine mb_ifn hc0 ?_
      refine mb_ifn hc1 ?_
      refine mb_ifn hc2 ?_
      refine mb_ifn hc3 ?_
      refine mb_ifn hc4 ?_
      refine mb_ifn hc5 ?_
      refine mb_ifn hc6 ?_
      refine mb_ifn hc7 ?_
      refine mb_ifn hc8 ?_
      refine mb_ifn hc9 ?_
      refine mb_ifn hc10 ?_
      refine mb_ifn hc11 ?_
      refine mb_ifn hc12 ?_
      refine mb_ifn hc13 ?_
      refine mb_ifn hc14 ?_
      refine mb_ifn hc15 ?_
      refine mb_ifn hc16 ?_
      refine mb_ifn hc17 ?_
      refine mb_ifn hc18 ?_
      refine mb_ifn hc19 ?_
      refine mb_ifn hc20 ?_
      refine mb_ifn hc21 ?_
      refine mb_ifn hc22 ?_
      refine mb_ifn hc23 ?_
      refine mb_ifn hc24 ?_
      refine mb_ifn hc25 ?_
      refine mb_ifn hc26 ?_
      refine mb_ifn hc27 ?_
      refine mb_ifn hc28 ?_
      refine mb_ifn hc29 ?_
      refine mb_ifn hc30 ?_
      refine mb_ifp hc31 ?_
      refine mb_on rfl (s_X8_cover e1) ?_
      refine mb_on rfl (s_X9_cover e2) ?_
      refine mb_ifp rfl ?_
      exact h'
    by_cases hc32 : ab_and (sX (6 * i)) 63 = (32 : Int)
    · obtain ⟨r, σ1, σ2, e1, e2, i2⟩ := S32 _ _ _ σ (hX _) (hX _) (hX _) hI
      obtain ⟨σ', h'⟩ := next σ2 i2
      refine ⟨σ', mb_eq e0 (mb_ifn hend (mb_eq c0 ?_))⟩
      refine mb_ifn hc0 ?_
      refine mb_ifn hc1 ?_
      refine mb_ifn hc2 ?_
      refine mb_ifn hc3 ?_
      refine mb_ifn hc4 ?_
      refine mb_ifn hc5 ?_
      refine mb_ifn hc6 ?_
      refine mb_ifn hc7 ?_
      refine mb_ifn hc8 ?_
      refine mb_ifn hc9 ?_
      refine mb_ifn hc10 ?_
      refine mb_ifn hc11 ?_
      refine mb_ifn hc12 ?_
      refine mb_ifn hc13 ?_
      refine mb_ifn hc14 ?_
      refine mb_ifn hc15 ?_
      refine mb_ifn hc16 ?_
      refine mb_ifn hc17 ?_
      refine mb_ifn hc18 ?_
      refine mb_ifn hc19 ?_
      refine mb_ifn hc20 ?_
      refine mb_ifn hc21 ?_
      refine mb_ifn hc22 ?_
      refine mb_ifn hc23 ?_
      refine mb_ifn hc24 ?_
      refine mb_ifn hc25 ?_
      refine mb_ifn hc26 ?_
      refine mb_ifn hc27 ?_
      refine mb_ifn hc28 ?_
      refine mb_ifn hc29 ?_
      refine mb_ifn hc30 ?_
      refine mb_ifn hc31 ?_
      refine mb_ifp hc32 ?_
      refine mb_eq c1 ?_
      refine mb_eq c2 ?_
      refine mb_eq c3 ?_
      refine mb_on rfl (s_X8_would e1) ?_
      refine mb_eq c1 ?_
      refine mb_eq c2 ?_
      refine mb_eq c3 ?_
      refine mb_on rfl (s_X9_would e2) ?_
      refine mb_ifp rfl ?_
      exact h'
    by_cases hc33 : ab_and (sX (6 * i)) 63 = (33 : Int)
    · obtain ⟨r, σ1, σ2, e1, e2, i2⟩ := S33  σ  hI
      obtain ⟨σ', h'⟩ := next σ2 i2
      refine ⟨σ', mb_eq e0 (mb_ifn hend (mb_eq c0 ?_))⟩
      refine mb_ifn hc0 ?_
      refine mb_ifn hc1 ?_
      refine mb_ifn hc2 ?_
      refine mb_ifn hc3 ?_
      refine mb_ifn hc4 ?_
      refine mb_ifn hc5 ?_
      refine mb_ifn hc6 ?_
      refine mb_ifn hc7 ?_
      refine mb_ifn hc8 ?_
      refine mb_ifn hc9 ?_
      refine mb_ifn hc10 ?_
      refine mb_ifn hc11 ?_
      refine mb_ifn hc12 ?_
      refine mb_ifn hc13 ?_
      refine mb_ifn hc14 ?_
      refine mb_ifn hc15 ?_
      refine mb_ifn hc16 ?_
      refine mb_ifn hc17 ?_
      refine mb_ifn hc18 ?_
      refine mb_ifn hc19 ?_
      refine mb_ifn hc20 ?_
      refine mb_ifn hc21 ?_
      refine mb_ifn hc22 ?_
      refine mb_ifn hc23 ?_
      refine mb_ifn hc24 ?_
      refine mb_ifn hc25 ?_
      refine mb_ifn hc26 ?_
      refine mb_ifn hc27 ?_
      refine mb_ifn hc28 ?_
      refine mb_ifn hc29 ?_
      refine mb_ifn hc30 ?_
      refine mb_ifn hc31 ?_
      refine mb_ifn hc32 ?_
      refine mb_ifp hc33 ?_
      refine mb_on rfl (s_X8_adds e1) ?_
      refine mb_on rfl (s_X9_adds e2) ?_
      refine mb_ifp rfl ?_
      exact h'
    by_cases hc34 : ab_and (sX (6 * i)) 63 = (34 : Int)
    · obtain ⟨r, σ1, σ2, e1, e2, i2⟩ := S34 _ σ (hX _) hI
      obtain ⟨σ', h'⟩ := next σ2 i2
      refine ⟨σ', mb_eq e0 (mb_ifn hend (mb_eq c0 ?_))⟩
      refine mb_ifn hc0 ?_
      refine mb_ifn hc1 ?_
      refine mb_ifn hc2 ?_
      refine mb_ifn hc3 ?_
      refine mb_ifn hc4 ?_
      refine mb_ifn hc5 ?_
      refine mb_ifn hc6 ?_
      refine mb_ifn hc7 ?_
      refine mb_ifn hc8 ?_
      refine mb_ifn hc9 ?_
      refine mb_ifn hc10 ?_
      refine mb_ifn hc11 ?_
      refine mb_ifn hc12 ?_
      refine mb_ifn hc13 ?_
      refine mb_ifn hc14 ?_
      refine mb_ifn hc15 ?_
      refine mb_ifn hc16 ?_
      refine mb_ifn hc17 ?_
      refine mb_ifn hc18 ?_
      refine mb_ifn hc19 ?_
      refine mb_ifn hc20 ?_
      refine mb_ifn hc21 ?_
      refine mb_ifn hc22 ?_
      refine mb_ifn hc23 ?_
      refine mb_ifn hc24 ?_
      refine mb_ifn hc25 ?_
      refine mb_ifn hc26 ?_
      refine mb_ifn hc27 ?_
      refine mb_ifn hc28 ?_
      refine mb_ifn hc29 ?_
      refine mb_ifn hc30 ?_
      refine mb_ifn hc31 ?_
      refine mb_ifn hc32 ?_
      refine mb_ifn hc33 ?_
      refine mb_ifp hc34 ?_
      refine mb_eq c1 ?_
      refine mb_on rfl (s_X8_drops e1) ?_
      refine mb_eq c1 ?_
      refine mb_on rfl (s_X9_drops e2) ?_
      refine mb_ifp rfl ?_
      exact h'
    by_cases hc35 : ab_and (sX (6 * i)) 63 = (35 : Int)
    · obtain ⟨r, σ1, σ2, e1, e2, i2⟩ := S35 _ _ σ (hX _) (hX _) hI
      obtain ⟨σ', h'⟩ := next σ2 i2
      refine ⟨σ', mb_eq e0 (mb_ifn hend (mb_eq c0 ?_))⟩
      refine mb_ifn hc0 ?_
      refine mb_ifn hc1 ?_
      refine mb_ifn hc2 ?_
      refine mb_ifn hc3 ?_
      refine mb_ifn hc4 ?_
      refine mb_ifn hc5 ?_
      refine mb_ifn hc6 ?_
      refine mb_ifn hc7 ?_
      refine mb_ifn hc8 ?_
      refine mb_ifn hc9 ?_
      refine mb_ifn hc10 ?_
      refine mb_ifn hc11 ?_
      refine mb_ifn hc12 ?_
      refine mb_ifn hc13 ?_
      refine mb_ifn hc14 ?_
      refine mb_ifn hc15 ?_
      refine mb_ifn hc16 ?_
      refine mb_ifn hc17 ?_
      refine mb_ifn hc18 ?_
      refine mb_ifn hc19 ?_
      refine mb_ifn hc20 ?_
      refine mb_ifn hc21 ?_
      refine mb_ifn hc22 ?_
      refine mb_ifn hc23 ?_
      refine mb_ifn hc24 ?_
      refine mb_ifn hc25 ?_
      refine mb_ifn hc26 ?_
      refine mb_ifn hc27 ?_
      refine mb_ifn hc28 ?_
      refine mb_ifn hc29 ?_
      refine mb_ifn hc30 ?_
      refine mb_ifn hc31 ?_
      refine mb_ifn hc32 ?_
      refine mb_ifn hc33 ?_
      refine mb_ifn hc34 ?_
      refine mb_ifp hc35 ?_
      refine mb_eq c1 ?_
      refine mb_eq c2 ?_
      refine mb_on rfl (s_X8_law e1) ?_
      refine mb_eq c1 ?_
      refine mb_eq c2 ?_
      refine mb_on rfl (s_X9_law e2) ?_
      refine mb_ifp rfl ?_
      exact h'
    by_cases hc36 : ab_and (sX (6 * i)) 63 = (36 : Int)
    · obtain ⟨r, σ1, σ2, e1, e2, i2⟩ := S36 _ _ _ σ (hX _) (hX _) (hX _) hI
      obtain ⟨σ', h'⟩ := next σ2 i2
      refine ⟨σ', mb_eq e0 (mb_ifn hend (mb_eq c0 ?_))⟩
      refine mb_ifn hc0 ?_
      refine mb_ifn hc1 ?_
      refine mb_ifn hc2 ?_
      refine mb_ifn hc3 ?_
      refine mb_ifn hc4 ?_
      refine mb_ifn hc5 ?_
      refine mb_ifn hc6 ?_
      refine mb_ifn hc7 ?_
      refine mb_ifn hc8 ?_
      refine mb_ifn hc9 ?_
      refine mb_ifn hc10 ?_
      refine mb_ifn hc11 ?_
      refine mb_ifn hc12 ?_
      refine mb_ifn hc13 ?_
      refine mb_ifn hc14 ?_
      refine mb_ifn hc15 ?_
      refine mb_ifn hc16 ?_
      refine mb_ifn hc17 ?_
      refine mb_ifn hc18 ?_
      refine mb_ifn hc19 ?_
      refine mb_ifn hc20 ?_
      refine mb_ifn hc21 ?_
      refine mb_ifn hc22 ?_
      refine mb_ifn hc23 ?_
      refine mb_ifn hc24 ?_
      refine mb_ifn hc25 ?_
      refine mb_ifn hc26 ?_
      refine mb_ifn hc27 ?_
      refine mb_ifn hc28 ?_
      refine mb_ifn hc29 ?_
      refine mb_ifn hc30 ?_
      refine mb_ifn hc31 ?_
      refine mb_ifn hc32 ?_
      refine mb_ifn hc33 ?_
      refine mb_ifn hc34 ?_
      refine mb_ifn hc35 ?_
      refine mb_ifp hc36 ?_
      refine mb_eq c1 ?_
      refine mb_eq c2 ?_
      refine mb_eq c3 ?_
      refine mb_on rfl (s_X8_lead e1) ?_
      refine mb_eq c1 ?_
      refine mb_eq c2 ?_
      refine mb_eq c3 ?_
      refine mb_on rfl (s_X9_lead e2) ?_
      refine mb_ifp rfl ?_
      exact h'
    by_cases hc37 : ab_and (sX (6 * i)) 63 = (37 : Int)
    · obtain ⟨r, σ1, σ2, e1, e2, i2⟩ := S37 _ _ _ σ (hX _) (hX _) (hX _) hI
      obtain ⟨σ', h'⟩ := next σ2 i2
      refine ⟨σ', mb_eq e0 (mb_ifn hend (mb_eq c0 ?_))⟩
      refine mb_ifn hc0 ?_
      refine mb_ifn hc1 ?_
      refine mb_ifn hc2 ?_
      refine mb_ifn hc3 ?_
      refine mb_ifn hc4 ?_
      refine mb_ifn hc5 ?_
      refine mb_ifn hc6 ?_
      refine mb_ifn hc7 ?_
      refine mb_ifn hc8 ?_
      refine mb_ifn hc9 ?_
      refine mb_ifn hc10 ?_
      refine mb_ifn hc11 ?_
      refine mb_ifn hc12 ?_
      refine mb_ifn hc13 ?_
      refine mb_ifn hc14 ?_
      refine mb_ifn hc15 ?_
      refine mb_ifn hc16 ?_
      refine mb_ifn hc17 ?_
      refine mb_ifn hc18 ?_
      refine mb_ifn hc19 ?_
      refine mb_ifn hc20 ?_
      refine mb_ifn hc21 ?_
      refine mb_ifn hc22 ?_
      refine mb_ifn hc23 ?_
      refine mb_ifn hc24 ?_
      refine mb_ifn hc25 ?_
      refine mb_ifn hc26 ?_
      refine mb_ifn hc27 ?_
      refine mb_ifn hc28 ?_
      refine mb_ifn hc29 ?_
      refine mb_ifn hc30 ?_
      refine mb_ifn hc31 ?_
      refine mb_ifn hc32 ?_
      refine mb_ifn hc33 ?_
      refine mb_ifn hc34 ?_
      refine mb_ifn hc35 ?_
      refine mb_ifn hc36 ?_
      refine mb_ifp hc37 ?_
      refine mb_eq c1 ?_
      refine mb_eq c2 ?_
      refine mb_eq c3 ?_
      refine mb_on rfl (s_X8_swaps e1) ?_
      refine mb_eq c1 ?_
      refine mb_eq c2 ?_
      refine mb_eq c3 ?_
      refine mb_on rfl (s_X9_swaps e2) ?_
      refine mb_ifp rfl ?_
      exact h'
    by_cases hc38 : ab_and (sX (6 * i)) 63 = (38 : Int)
    · obtain ⟨r, σ1, σ2, e1, e2, i2⟩ := S38 _ _ σ (hX _) (hX _) hI
      obtain ⟨σ', h'⟩ := next σ2 i2
      refine ⟨σ', mb_eq e0 (mb_ifn hend (mb_eq c0 ?_))⟩
      refine mb_ifn hc0 ?_
      refine mb_ifn hc1 ?_
      refine mb_ifn hc2 ?_
      refine mb_ifn hc3 ?_
      refine mb_ifn hc4 ?_
      refine mb_ifn hc5 ?_
      refine mb_ifn hc6 ?_
      refine mb_ifn hc7 ?_
      refine mb_ifn hc8 ?_
      refine mb_ifn hc9 ?_
      refine mb_ifn hc10 ?_
      refine mb_ifn hc11 ?_
      refine mb_ifn hc12 ?_
      refine mb_ifn hc13 ?_
      refine mb_ifn hc14 ?_
      refine mb_ifn hc15 ?_
      refine mb_ifn hc16 ?_
      refine mb_ifn hc17 ?_
      refine mb_ifn hc18 ?_
      refine mb_ifn hc19 ?_
      refine mb_ifn hc20 ?_
      refine mb_ifn hc21 ?_
      refine mb_ifn hc22 ?_
      refine mb_ifn hc23 ?_
      refine mb_ifn hc24 ?_
      refine mb_ifn hc25 ?_
      refine mb_ifn hc26 ?_
      refine mb_ifn hc27 ?_
      refine mb_ifn hc28 ?_
      refine mb_ifn hc29 ?_
      refine mb_ifn hc30 ?_
      refine mb_ifn hc31 ?_
      refine mb_ifn hc32 ?_
      refine mb_ifn hc33 ?_
      refine mb_ifn hc34 ?_
      refine mb_ifn hc35 ?_
      refine mb_ifn hc36 ?_
      refine mb_ifn hc37 ?_
      refine mb_ifp hc38 ?_
      refine mb_eq c1 ?_
      refine mb_eq c2 ?_
      refine mb_on rfl (s_X8_see e1) ?_
      refine mb_eq c1 ?_
      refine mb_eq c2 ?_
      refine mb_on rfl (s_X9_see e2) ?_
      refine mb_ifp rfl ?_
      exact h'
    by_cases hc39 : ab_and (sX (6 * i)) 63 = (39 : Int)
    · obtain ⟨r, σ1, σ2, e1, e2, i2⟩ := S39 _ σ (hX _) hI
      obtain ⟨σ', h'⟩ := next σ2 i2
      refine ⟨σ', mb_eq e0 (mb_ifn hend (mb_eq c0 ?_))⟩
      refine mb_ifn hc0 ?_
      refine mb_ifn hc1 ?_
      refine mb_ifn hc2 ?_
      refine mb_ifn hc3 ?_
      refine mb_ifn hc4 ?_
      refine mb_ifn hc5 ?_
      refine mb_ifn hc6 ?_
      refine mb_ifn hc7 ?_
      refine mb_ifn hc8 ?_
      refine mb_ifn hc9 ?_
      refine mb_ifn hc10 ?_
      refine mb_ifn hc11 ?_
      refine mb_ifn hc12 ?_
      refine mb_ifn hc13 ?_
      refine mb_ifn hc14 ?_
      refine mb_ifn hc15 ?_
      refine mb_ifn hc16 ?_
      refine mb_ifn hc17 ?_
      refine mb_ifn hc18 ?_
      refine mb_ifn hc19 ?_
      refine mb_ifn hc20 ?_
      refine mb_ifn hc21 ?_
      refine mb_ifn hc22 ?_
      refine mb_ifn hc23 ?_
      refine mb_ifn hc24 ?_
      refine mb_ifn hc25 ?_
      refine mb_ifn hc26 ?_
      refine mb_ifn hc27 ?_
      refine mb_ifn hc28 ?_
      refine mb_ifn hc29 ?_
      refine mb_ifn hc30 ?_
      refine mb_ifn hc31 ?_
      refine mb_ifn hc32 ?_
      refine mb_ifn hc33 ?_
      refine mb_ifn hc34 ?_
      refine mb_ifn hc35 ?_
      refine mb_ifn hc36 ?_
      refine mb_ifn hc37 ?_
      refine mb_ifn hc38 ?_
      refine mb_ifp hc39 ?_
      refine mb_eq c1 ?_
      refine mb_on rfl (s_X8_forget e1) ?_
      refine mb_eq c1 ?_
      refine mb_on rfl (s_X9_forget e2) ?_
      refine mb_ifp rfl ?_
      exact h'
    by_cases hc40 : ab_and (sX (6 * i)) 63 = (40 : Int)
    · obtain ⟨r, σ1, σ2, e1, e2, i2⟩ := S40 _ _ σ (hX _) (hX _) hI
      obtain ⟨σ', h'⟩ := next σ2 i2
      refine ⟨σ', mb_eq e0 (mb_ifn hend (mb_eq c0 ?_))⟩
      refine mb_ifn hc0 ?_
      refine mb_ifn hc1 ?_
      refine mb_ifn hc2 ?_
      refine mb_ifn hc3 ?_
      refine mb_ifn hc4 ?_
      refine mb_ifn hc5 ?_
      refine mb_ifn hc6 ?_
      refine mb_ifn hc7 ?_
      refine mb_ifn hc8 ?_
      refine mb_ifn hc9 ?_
      refine mb_ifn hc10 ?_
      refine mb_ifn hc11 ?_
      refine mb_ifn hc12 ?_
      refine mb_ifn hc13 ?_
      refine mb_ifn hc14 ?_
      refine mb_ifn hc15 ?_
      refine mb_ifn hc16 ?_
      refine mb_ifn hc17 ?_
      refine mb_ifn hc18 ?_
      refine mb_ifn hc19 ?_
      refine mb_ifn hc20 ?_
      refine mb_ifn hc21 ?_
      refine mb_ifn hc22 ?_
      refine mb_ifn hc23 ?_
      refine mb_ifn hc24 ?_
      refine mb_ifn hc25 ?_
      refine mb_ifn hc26 ?_
      refine mb_ifn hc27 ?_
      refine mb_ifn hc28 ?_
      refine mb_ifn hc29 ?_
      refine mb_ifn hc30 ?_
      refine mb_ifn hc31 ?_
      refine mb_ifn hc32 ?_
      refine mb_ifn hc33 ?_
      refine mb_ifn hc34 ?_
      refine mb_ifn hc35 ?_
      refine mb_ifn hc36 ?_
      refine mb_ifn hc37 ?_
      refine mb_ifn hc38 ?_
      refine mb_ifn hc39 ?_
      refine mb_ifp hc40 ?_
      refine mb_eq c1 ?_
      refine mb_eq c2 ?_
      refine mb_on rfl (s_X8_moves e1) ?_
      refine mb_eq c1 ?_
      refine mb_eq c2 ?_
      refine mb_on rfl (s_X9_moves e2) ?_
      refine mb_ifp rfl ?_
      exact h'
    by_cases hc41 : ab_and (sX (6 * i)) 63 = (41 : Int)
    · obtain ⟨r, σ1, σ2, e1, e2, i2⟩ := S41  σ  hI
      obtain ⟨σ', h'⟩ := next σ2 i2
      refine ⟨σ', mb_eq e0 (mb_ifn hend (mb_eq c0 ?_))⟩
      refine mb_ifn hc0 ?_
      refine mb_ifn hc1 ?_
      refine mb_ifn hc2 ?_
      refine mb_ifn hc3 ?_
      refine mb_ifn hc4 ?_
      refine mb_ifn hc5 ?_
      refine mb_ifn hc6 ?_
      refine mb_ifn hc7 ?_
      refine mb_ifn hc8 ?_
      refine mb_ifn hc9 ?_
      refine mb_ifn hc10 ?_
      refine mb_ifn hc11 ?_
      refine mb_ifn hc12 ?_
      refine mb_ifn hc13 ?_
      refine mb_ifn hc14 ?_
      refine mb_ifn hc15 ?_
      refine mb_ifn hc16 ?_
      refine mb_ifn hc17 ?_
      refine mb_ifn hc18 ?_
      refine mb_ifn hc19 ?_
      refine mb_ifn hc20 ?_
      refine mb_ifn hc21 ?_
      refine mb_ifn hc22 ?_
      refine mb_ifn hc23 ?_
      refine mb_ifn hc24 ?_
      refine mb_ifn hc25 ?_
      refine mb_ifn hc26 ?_
      refine mb_ifn hc27 ?_
      refine mb_ifn hc28 ?_
      refine mb_ifn hc29 ?_
      refine mb_ifn hc30 ?_
      refine mb_ifn hc31 ?_
      refine mb_ifn hc32 ?_
      refine mb_ifn hc33 ?_
      refine mb_ifn hc34 ?_
      refine mb_ifn hc35 ?_
      refine mb_ifn hc36 ?_
      refine mb_ifn hc37 ?_
      refine mb_ifn hc38 ?_
      refine mb_ifn hc39 ?_
      refine mb_ifn hc40 ?_
      refine mb_ifp hc41 ?_
      refine mb_on rfl (s_X8_undo e1) ?_
      refine mb_on rfl (s_X9_undo e2) ?_
      refine mb_ifp rfl ?_
      exact h'
    by_cases hc42 : ab_and (sX (6 * i)) 63 = (42 : Int)
    · obtain ⟨r, σ1, σ2, e1, e2, i2⟩ := S42 _ _ σ (hX _) (hX _) hI
      obtain ⟨σ', h'⟩ := next σ2 i2
      refine ⟨σ', mb_eq e0 (mb_ifn hend (mb_eq c0 ?_))⟩
      refine mb_ifn hc0 ?_
      refine mb_ifn hc1 ?_
      refine mb_ifn hc2 ?_
      refine mb_ifn hc3 ?_
      refine mb_ifn hc4 ?_
      refine mb_ifn hc5 ?_
      refine mb_ifn hc6 ?_
      refine mb_ifn hc7 ?_
      refine mb_ifn hc8 ?_
      refine mb_ifn hc9 ?_
      refine mb_ifn hc10 ?_
      refine mb_ifn hc11 ?_
      refine mb_ifn hc12 ?_
      refine mb_ifn hc13 ?_
      refine mb_ifn hc14 ?_
      refine mb_ifn hc15 ?_
      refine mb_ifn hc16 ?_
      refine mb_ifn hc17 ?_
      refine mb_ifn hc18 ?_
      refine mb_ifn hc19 ?_
      refine mb_ifn hc20 ?_
      refine mb_ifn hc21 ?_
      refine mb_ifn hc22 ?_
      refine mb_ifn hc23 ?_
      refine mb_ifn hc24 ?_
      refine mb_ifn hc25 ?_
      refine mb_ifn hc26 ?_
      refine mb_ifn hc27 ?_
      refine mb_ifn hc28 ?_
      refine mb_ifn hc29 ?_
      refine mb_ifn hc30 ?_
      refine mb_ifn hc31 ?_
      refine mb_ifn hc32 ?_
      refine mb_ifn hc33 ?_
      refine mb_ifn hc34 ?_
      refine mb_ifn hc35 ?_
      refine mb_ifn hc36 ?_
      refine mb_ifn hc37 ?_
      refine mb_ifn hc38 ?_
      refine mb_ifn hc39 ?_
      refine mb_ifn hc40 ?_
      refine mb_ifn hc41 ?_
      refine mb_ifp hc42 ?_
      refine mb_eq c1 ?_
      refine mb_eq c2 ?_
      refine mb_on rfl (s_X8_gather e1) ?_
      refine mb_eq c1 ?_
      refine mb_eq c2 ?_
      refine mb_on rfl (s_X9_gather e2) ?_
      refine mb_ifp rfl ?_
      exact h'
    by_cases hc43 : ab_and (sX (6 * i)) 63 = (43 : Int)
    · obtain ⟨r, σ1, σ2, e1, e2, i2⟩ := S43 _ σ (hX _) hI
      obtain ⟨σ', h'⟩ := next σ2 i2
      refine ⟨σ', mb_eq e0 (mb_ifn hend (mb_eq c0 ?_))⟩
      refine mb_ifn hc0 ?_
      refine mb_ifn hc1 ?_
      refine mb_ifn hc2 ?_
      refine mb_ifn hc3 ?_
      refine mb_ifn hc4 ?_
      refine mb_ifn hc5 ?_
      refine mb_ifn hc6 ?_
      refine mb_ifn hc7 ?_
      refine mb_ifn hc8 ?_
      refine mb_ifn hc9 ?_
      refine mb_ifn hc10 ?_
      refine mb_ifn hc11 ?_
      refine mb_ifn hc12 ?_
      refine mb_ifn hc13 ?_
      refine mb_ifn hc14 ?_
      refine mb_ifn hc15 ?_
      refine mb_ifn hc16 ?_
      refine mb_ifn hc17 ?_
      refine mb_ifn hc18 ?_
      refine mb_ifn hc19 ?_
      refine mb_ifn hc20 ?_
      refine mb_ifn hc21 ?_
      refine mb_ifn hc22 ?_
      refine mb_ifn hc23 ?_
      refine mb_ifn hc24 ?_
      refine mb_ifn hc25 ?_
      refine mb_ifn hc26 ?_
      refine mb_ifn hc27 ?_
      refine mb_ifn hc28 ?_
      refine mb_ifn hc29 ?_
      refine mb_ifn hc30 ?_
      refine mb_ifn hc31 ?_
      refine mb_ifn hc32 ?_
      refine mb_ifn hc33 ?_
      refine mb_ifn hc34 ?_
      refine mb_ifn hc35 ?_
      refine mb_ifn hc36 ?_
      refine mb_ifn hc37 ?_
      refine mb_ifn hc38 ?_
      refine mb_ifn hc39 ?_
      refine mb_ifn hc40 ?_
      refine mb_ifn hc41 ?_
      refine mb_ifn hc42 ?_
      refine mb_ifp hc43 ?_
      refine mb_eq c1 ?_
      refine mb_on rfl (s_X8_lost e1) ?_
      refine mb_eq c1 ?_
      refine mb_on rfl (s_X9_lost e2) ?_
      refine mb_ifp rfl ?_
      exact h'
    by_cases hc44 : ab_and (sX (6 * i)) 63 = (44 : Int)
    · obtain ⟨r, σ1, σ2, e1, e2, i2⟩ := S44 _ _ σ (hX _) (hX _) hI
      obtain ⟨σ', h'⟩ := next σ2 i2
      refine ⟨σ', mb_eq e0 (mb_ifn hend (mb_eq c0 ?_))⟩
      refine mb_ifn hc0 ?_
      refine mb_ifn hc1 ?_
      refine mb_ifn hc2 ?_
      refine mb_ifn hc3 ?_
      refine mb_ifn hc4 ?_
      refine mb_ifn hc5 ?_
      refine mb_ifn hc6 ?_
      refine mb_ifn hc7 ?_
      refine mb_ifn hc8 ?_
      refine mb_ifn hc9 ?_
      refine mb_ifn hc10 ?_
      refine mb_ifn hc11 ?_
      refine mb_ifn hc12 ?_
      refine mb_ifn hc13 ?_
      refine mb_ifn hc14 ?_
      refine mb_ifn hc15 ?_
      refine mb_ifn hc16 ?_
      refine mb_ifn hc17 ?_
      refine mb_ifn hc18 ?_
      refine mb_ifn hc19 ?_
      refine mb_ifn hc20 ?_
      refine mb_ifn hc21 ?_
      refine mb_ifn hc22 ?_
      refine mb_ifn hc23 ?_
      refine mb_ifn hc24 ?_
      refine mb_ifn hc25 ?_
      refine mb_ifn hc26 ?_
      refine mb_ifn hc27 ?_
      refine mb_ifn hc28 ?_
      refine mb_ifn hc29 ?_
      refine mb_ifn hc30 ?_
      refine mb_ifn hc31 ?_
      refine mb_ifn hc32 ?_
      refine mb_ifn hc33 ?_
      refine mb_ifn hc34 ?_
      refine mb_ifn hc35 ?_
      refine mb_ifn hc36 ?_
      refine mb_ifn hc37 ?_
      refine mb_ifn hc38 ?_
      refine mb_ifn hc39 ?_
      refine mb_ifn hc40 ?_
      refine mb_ifn hc41 ?_
      refine mb_ifn hc42 ?_
      refine mb_ifn hc43 ?_
      refine mb_ifp hc44 ?_
      refine mb_eq c1 ?_
      refine mb_eq c2 ?_
      refine mb_on rfl (s_X8_chain e1) ?_
      refine mb_eq c1 ?_
      refine mb_eq c2 ?_
      refine mb_on rfl (s_X9_chain e2) ?_
      refine mb_ifp rfl ?_
      exact h'
    by_cases hc45 : ab_and (sX (6 * i)) 63 = (45 : Int)
    · obtain ⟨r, σ1, σ2, e1, e2, i2⟩ := S45  σ  hI
      obtain ⟨σ', h'⟩ := next σ2 i2
      refine ⟨σ', mb_eq e0 (mb_ifn hend (mb_eq c0 ?_))⟩
      refine mb_ifn hc0 ?_
      refine mb_ifn hc1 ?_
      refine mb_ifn hc2 ?_
      refine mb_ifn hc3 ?_
      refine mb_ifn hc4 ?_
      refine mb_ifn hc5 ?_
      refine mb_ifn hc6 ?_
      refine mb_ifn hc7 ?_
      refine mb_ifn hc8 ?_
      refine mb_ifn hc9 ?_
      refine mb_ifn hc10 ?_
      refine mb_ifn hc11 ?_
      refine mb_ifn hc12 ?_
      refine mb_ifn hc13 ?_
      refine mb_ifn hc14 ?_
      refine mb_ifn hc15 ?_
      refine mb_ifn hc16 ?_
      refine mb_ifn hc17 ?_
      refine mb_ifn hc18 ?_
      refine mb_ifn hc19 ?_
      refine mb_ifn hc20 ?_
      refine mb_ifn hc21 ?_
      refine mb_ifn hc22 ?_
      refine mb_ifn hc23 ?_
      refine mb_ifn hc24 ?_
      refine mb_ifn hc25 ?_
      refine mb_ifn hc26 ?_
      refine mb_ifn hc27 ?_
      refine mb_ifn hc28 ?_
      refine mb_ifn hc29 ?_
      refine mb_ifn hc30 ?_
      refine mb_ifn hc31 ?_
      refine mb_ifn hc32 ?_
      refine mb_ifn hc33 ?_
      refine mb_ifn hc34 ?_
      refine mb_ifn hc35 ?_
      refine mb_ifn hc36 ?_
      refine mb_ifn hc37 ?_
      refine mb_ifn hc38 ?_
      refine mb_ifn hc39 ?_
      refine mb_ifn hc40 ?_
      refine mb_ifn hc41 ?_
      refine mb_ifn hc42 ?_
      refine mb_ifn hc43 ?_
      refine mb_ifn hc44 ?_
      refine mb_ifp hc45 ?_
      refine mb_on rfl (s_X8_groups e1) ?_
      refine mb_on rfl (s_X9_groups e2) ?_
      refine mb_ifp rfl ?_
      exact h'
    by_cases hc46 : ab_and (sX (6 * i)) 63 = (46 : Int)
    · obtain ⟨r, σ1, σ2, e1, e2, i2⟩ := S46  σ  hI
      obtain ⟨σ', h'⟩ := next σ2 i2
      refine ⟨σ', mb_eq e0 (mb_ifn hend (mb_eq c0 ?_))⟩
      refine mb_ifn hc0 ?_
      refine mb_ifn hc1 ?_
      refine mb_ifn hc2 ?_
      refine mb_ifn hc3 ?_
      refine mb_ifn hc4 ?_
      refine mb_ifn hc5 ?_
      refine mb_ifn hc6 ?_
      refine mb_ifn hc7 ?_
      refine mb_ifn hc8 ?_
      refine mb_ifn hc9 ?_
      refine mb_ifn hc10 ?_
      refine mb_ifn hc11 ?_
      refine mb_ifn hc12 ?_
      refine mb_ifn hc13 ?_
      refine mb_ifn hc14 ?_
      refine mb_ifn hc15 ?_
      refine mb_ifn hc16 ?_
      refine mb_ifn hc17 ?_
      refine mb_ifn hc18 ?_
      refine mb_ifn hc19 ?_
      refine mb_ifn hc20 ?_
      refine mb_ifn hc21 ?_
      refine mb_ifn hc22 ?_
      refine mb_ifn hc23 ?_
      refine mb_ifn hc24 ?_
      refine mb_ifn hc25 ?_
      refine mb_ifn hc26 ?_
      refine mb_ifn hc27 ?_
      refine mb_ifn hc28 ?_
      refine mb_ifn hc29 ?_
      refine mb_ifn hc30 ?_
      refine mb_ifn hc31 ?_
      refine mb_ifn hc32 ?_
      refine mb_ifn hc33 ?_
      refine mb_ifn hc34 ?_
      refine mb_ifn hc35 ?_
      refine mb_ifn hc36 ?_
      refine mb_ifn hc37 ?_
      refine mb_ifn hc38 ?_
      refine mb_ifn hc39 ?_
      refine mb_ifn hc40 ?_
      refine mb_ifn hc41 ?_
      refine mb_ifn hc42 ?_
      refine mb_ifn hc43 ?_
      refine mb_ifn hc44 ?_
      refine mb_ifn hc45 ?_
      refine mb_ifp hc46 ?_
      refine mb_on rfl (s_X8_longest e1) ?_
      refine mb_on rfl (s_X9_longest e2) ?_
      refine mb_ifp rfl ?_
      exact h'
    by_cases hc47 : ab_and (sX (6 * i)) 63 = (47 : Int)
    · obtain ⟨r, σ1, σ2, e1, e2, i2⟩ := S47 _ _ σ (hX _) (hX _) hI
      obtain ⟨σ', h'⟩ := next σ2 i2
      refine ⟨σ', mb_eq e0 (mb_ifn hend (mb_eq c0 ?_))⟩
      refine mb_ifn hc0 ?_
      refine mb_ifn hc1 ?_
      refine mb_ifn hc2 ?_
      refine mb_ifn hc3 ?_
      refine mb_ifn hc4 ?_
      refine mb_ifn hc5 ?_
      refine mb_ifn hc6 ?_
      refine mb_ifn hc7 ?_
      refine mb_ifn hc8 ?_
      refine mb_ifn hc9 ?_
      refine mb_ifn hc10 ?_
      refine mb_ifn hc11 ?_
      refine mb_ifn hc12 ?_
      refine mb_ifn hc13 ?_
      refine mb_ifn hc14 ?_
      refine mb_ifn hc15 ?_
      refine mb_ifn hc16 ?_
      refine mb_ifn hc17 ?_
      refine mb_ifn hc18 ?_
      refine mb_ifn hc19 ?_
      refine mb_ifn hc20 ?_
      refine mb_ifn hc21 ?_
      refine mb_ifn hc22 ?_
      refine mb_ifn hc23 ?_
      refine mb_ifn hc24 ?_
      refine mb_ifn hc25 ?_
      refine mb_ifn hc26 ?_
      refine mb_ifn hc27 ?_
      refine mb_ifn hc28 ?_
      refine mb_ifn hc29 ?_
      refine mb_ifn hc30 ?_
      refine mb_ifn hc31 ?_
      refine mb_ifn hc32 ?_
      refine mb_ifn hc33 ?_
      refine mb_ifn hc34 ?_
      refine mb_ifn hc35 ?_
      refine mb_ifn hc36 ?_
      refine mb_ifn hc37 ?_
      refine mb_ifn hc38 ?_
      refine mb_ifn hc39 ?_
      refine mb_ifn hc40 ?_
      refine mb_ifn hc41 ?_
      refine mb_ifn hc42 ?_
      refine mb_ifn hc43 ?_
      refine mb_ifn hc44 ?_
      refine mb_ifn hc45 ?_
      refine mb_ifn hc46 ?_
      refine mb_ifp hc47 ?_
      refine mb_eq c1 ?_
      refine mb_eq c2 ?_
      refine mb_on rfl (s_X8_shown e1) ?_
      refine mb_eq c1 ?_
      refine mb_eq c2 ?_
      refine mb_on rfl (s_X9_shown e2) ?_
      refine mb_ifp rfl ?_
      exact h'
    by_cases hc48 : ab_and (sX (6 * i)) 63 = (48 : Int)
    · obtain ⟨r, σ1, σ2, e1, e2, i2⟩ := S48 _ σ (hX _) hI
      obtain ⟨σ', h'⟩ := next σ2 i2
      refine ⟨σ', mb_eq e0 (mb_ifn hend (mb_eq c0 ?_))⟩
      refine mb_ifn hc0 ?_
      refine mb_ifn hc1 ?_
      refine mb_ifn hc2 ?_
      refine mb_ifn hc3 ?_
      refine mb_ifn hc4 ?_
      refine mb_ifn hc5 ?_
      refine mb_ifn hc6 ?_
      refine mb_ifn hc7 ?_
      refine mb_ifn hc8 ?_
      refine mb_ifn hc9 ?_
      refine mb_ifn hc10 ?_
      refine mb_ifn hc11 ?_
      refine mb_ifn hc12 ?_
      refine mb_ifn hc13 ?_
      refine mb_ifn hc14 ?_
      refine mb_ifn hc15 ?_
      refine mb_ifn hc16 ?_
      refine mb_ifn hc17 ?_
      refine mb_ifn hc18 ?_
      refine mb_ifn hc19 ?_
      refine mb_ifn hc20 ?_
      refine mb_ifn hc21 ?_
      refine mb_ifn hc22 ?_
      refine mb_ifn hc23 ?_
      refine mb_ifn hc24 ?_
      refine mb_ifn hc25 ?_
      refine mb_ifn hc26 ?_
      refine mb_ifn hc27 ?_
      refine mb_ifn hc28 ?_
      refine mb_ifn hc29 ?_
      refine mb_ifn hc30 ?_
      refine mb_ifn hc31 ?_
      refine mb_ifn hc32 ?_
      refine mb_ifn hc33 ?_
      refine mb_ifn hc34 ?_
      refine mb_ifn hc35 ?_
      refine mb_ifn hc36 ?_
      refine mb_ifn hc37 ?_
      refine mb_ifn hc38 ?_
      refine mb_ifn hc39 ?_
      refine mb_ifn hc40 ?_
      refine mb_ifn hc41 ?_
      refine mb_ifn hc42 ?_
      refine mb_ifn hc43 ?_
      refine mb_ifn hc44 ?_
      refine mb_ifn hc45 ?_
      refine mb_ifn hc46 ?_
      refine mb_ifn hc47 ?_
      refine mb_ifp hc48 ?_
      refine mb_eq c1 ?_
      refine mb_on rfl (s_X8_twins e1) ?_
      refine mb_eq c1 ?_
      refine mb_on rfl (s_X9_twins e2) ?_
      refine mb_ifp rfl ?_
      exact h'
    by_cases hc49 : ab_and (sX (6 * i)) 63 = (49 : Int)
    · obtain ⟨r, σ1, σ2, e1, e2, i2⟩ := S49 _ σ (hX _) hI
      obtain ⟨σ', h'⟩ := next σ2 i2
      refine ⟨σ', mb_eq e0 (mb_ifn hend (mb_eq c0 ?_))⟩
      refine mb_ifn hc0 ?_
      refine mb_ifn hc1 ?_
      refine mb_ifn hc2 ?_
      refine mb_ifn hc3 ?_
      refine mb_ifn hc4 ?_
      refine mb_ifn hc5 ?_
      refine mb_ifn hc6 ?_
      refine mb_ifn hc7 ?_
      refine mb_ifn hc8 ?_
      refine mb_ifn hc9 ?_
      refine mb_ifn hc10 ?_
      refine mb_ifn hc11 ?_
      refine mb_ifn hc12 ?_
      refine mb_ifn hc13 ?_
      refine mb_ifn hc14 ?_
      refine mb_ifn hc15 ?_
      refine mb_ifn hc16 ?_
      refine mb_ifn hc17 ?_
      refine mb_ifn hc18 ?_
      refine mb_ifn hc19 ?_
      refine mb_ifn hc20 ?_
      refine mb_ifn hc21 ?_
      refine mb_ifn hc22 ?_
      refine mb_ifn hc23 ?_
      refine mb_ifn hc24 ?_
      refine mb_ifn hc25 ?_
      refine mb_ifn hc26 ?_
      refine mb_ifn hc27 ?_
      refine mb_ifn hc28 ?_
      refine mb_ifn hc29 ?_
      refine mb_ifn hc30 ?_
      refine mb_ifn hc31 ?_
      refine mb_ifn hc32 ?_
      refine mb_ifn hc33 ?_
      refine mb_ifn hc34 ?_
      refine mb_ifn hc35 ?_
      refine mb_ifn hc36 ?_
      refine mb_ifn hc37 ?_
      refine mb_ifn hc38 ?_
      refine mb_ifn hc39 ?_
      refine mb_ifn hc40 ?_
      refine mb_ifn hc41 ?_
      refine mb_ifn hc42 ?_
      refine mb_ifn hc43 ?_
      refine mb_ifn hc44 ?_
      refine mb_ifn hc45 ?_
      refine mb_ifn hc46 ?_
      refine mb_ifn hc47 ?_
      refine mb_ifn hc48 ?_
      refine mb_ifp hc49 ?_
      refine mb_eq c1 ?_
      refine mb_on rfl (s_X8_rarest e1) ?_
      refine mb_eq c1 ?_
      refine mb_on rfl (s_X9_rarest e2) ?_
      refine mb_ifp rfl ?_
      exact h'
    by_cases hc50 : ab_and (sX (6 * i)) 63 = (50 : Int)
    · obtain ⟨r, σ1, σ2, e1, e2, i2⟩ := S50 _ _ σ (hX _) (hX _) hI
      obtain ⟨σ', h'⟩ := next σ2 i2
      refine ⟨σ', mb_eq e0 (mb_ifn hend (mb_eq c0 ?_))⟩
      refine mb_ifn hc0 ?_
      refine mb_ifn hc1 ?_
      refine mb_ifn hc2 ?_
      refine mb_ifn hc3 ?_
      refine mb_ifn hc4 ?_
      refine mb_ifn hc5 ?_
      refine mb_ifn hc6 ?_
      refine mb_ifn hc7 ?_
      refine mb_ifn hc8 ?_
      refine mb_ifn hc9 ?_
      refine mb_ifn hc10 ?_
      refine mb_ifn hc11 ?_
      refine mb_ifn hc12 ?_
      refine mb_ifn hc13 ?_
      refine mb_ifn hc14 ?_
      refine mb_ifn hc15 ?_
      refine mb_ifn hc16 ?_
      refine mb_ifn hc17 ?_
      refine mb_ifn hc18 ?_
      refine mb_ifn hc19 ?_
      refine mb_ifn hc20 ?_
      refine mb_ifn hc21 ?_
      refine mb_ifn hc22 ?_
      refine mb_ifn hc23 ?_
      refine mb_ifn hc24 ?_
      refine mb_ifn hc25 ?_
      refine mb_ifn hc26 ?_
      refine mb_ifn hc27 ?_
      refine mb_ifn hc28 ?_
      refine mb_ifn hc29 ?_
      refine mb_ifn hc30 ?_
      refine mb_ifn hc31 ?_
      refine mb_ifn hc32 ?_
      refine mb_ifn hc33 ?_
      refine mb_ifn hc34 ?_
      refine mb_ifn hc35 ?_
      refine mb_ifn hc36 ?_
      refine mb_ifn hc37 ?_
      refine mb_ifn hc38 ?_
      refine mb_ifn hc39 ?_
      refine mb_ifn hc40 ?_
      refine mb_ifn hc41 ?_
      refine mb_ifn hc42 ?_
      refine mb_ifn hc43 ?_
      refine mb_ifn hc44 ?_
      refine mb_ifn hc45 ?_
      refine mb_ifn hc46 ?_
      refine mb_ifn hc47 ?_
      refine mb_ifn hc48 ?_
      refine mb_ifn hc49 ?_
      refine mb_ifp hc50 ?_
      refine mb_eq c1 ?_
      refine mb_eq c2 ?_
      refine mb_on rfl (s_X8_crossed e1) ?_
      refine mb_eq c1 ?_
      refine mb_eq c2 ?_
      refine mb_on rfl (s_X9_crossed e2) ?_
      refine mb_ifp rfl ?_
      exact h'
    by_cases hc51 : ab_and (sX (6 * i)) 63 = (51 : Int)
    · obtain ⟨r, σ1, σ2, e1, e2, i2⟩ := S51 _ σ (hX _) hI
      obtain ⟨σ', h'⟩ := next σ2 i2
      refine ⟨σ', mb_eq e0 (mb_ifn hend (mb_eq c0 ?_))⟩
      refine mb_ifn hc0 ?_
      refine mb_ifn hc1 ?_
      refine mb_ifn hc2 ?_
      refine mb_ifn hc3 ?_
      refine mb_ifn hc4 ?_
      refine mb_ifn hc5 ?_
      refine mb_ifn hc6 ?_
      refine mb_ifn hc7 ?_
      refine mb_ifn hc8 ?_
      refine mb_ifn hc9 ?_
      refine mb_ifn hc10 ?_
      refine mb_ifn hc11 ?_
      refine mb_ifn hc12 ?_
      refine mb_ifn hc13 ?_
      refine mb_ifn hc14 ?_
      refine mb_ifn hc15 ?_
      refine mb_ifn hc16 ?_
      refine mb_ifn hc17 ?_
      refine mb_ifn hc18 ?_
      refine mb_ifn hc19 ?_
      refine mb_ifn hc20 ?_
      refine mb_ifn hc21 ?_
      refine mb_ifn hc22 ?_
      refine mb_ifn hc23 ?_
      refine mb_ifn hc24 ?_
      refine mb_ifn hc25 ?_
      refine mb_ifn hc26 ?_
      refine mb_ifn hc27 ?_
      refine mb_ifn hc28 ?_
      refine mb_ifn hc29 ?_
      refine mb_ifn hc30 ?_
      refine mb_ifn hc31 ?_
      refine mb_ifn hc32 ?_
      refine mb_ifn hc33 ?_
      refine mb_ifn hc34 ?_
      refine mb_ifn hc35 ?_
      refine mb_ifn hc36 ?_
      refine mb_ifn hc37 ?_
      refine mb_ifn hc38 ?_
      refine mb_ifn hc39 ?_
      refine mb_ifn hc40 ?_
      refine mb_ifn hc41 ?_
      refine mb_ifn hc42 ?_
      refine mb_ifn hc43 ?_
      refine mb_ifn hc44 ?_
      refine mb_ifn hc45 ?_
      refine mb_ifn hc46 ?_
      refine mb_ifn hc47 ?_
      refine mb_ifn hc48 ?_
      refine mb_ifn hc49 ?_
      refine mb_ifn hc50 ?_
      refine mb_ifp hc51 ?_
      refine mb_eq c1 ?_
      refine mb_on rfl (s_X8_shared e1) ?_
      refine mb_eq c1 ?_
      refine mb_on rfl (s_X9_shared e2) ?_
      refine mb_ifp rfl ?_
      exact h'
    obtain ⟨σ', h'⟩ := next σ hI
    refine ⟨σ', mb_eq e0 (mb_ifn hend (mb_eq c0 ?_))⟩
    refine mb_ifn hc0 ?_
    refine mb_ifn hc1 ?_
    refine mb_ifn hc2 ?_
    refine mb_ifn hc3 ?_
    refine mb_ifn hc4 ?_
    refine mb_ifn hc5 ?_
    refine mb_ifn hc6 ?_
    refine mb_ifn hc7 ?_
    refine mb_ifn hc8 ?_
    refine mb_ifn hc9 ?_
    refine mb_ifn hc10 ?_
    refine mb_ifn hc11 ?_
    refine mb_ifn hc12 ?_
    refine mb_ifn hc13 ?_
    refine mb_ifn hc14 ?_
    refine mb_ifn hc15 ?_
    refine mb_ifn hc16 ?_
    refine mb_ifn hc17 ?_
    refine mb_ifn hc18 ?_
    refine mb_ifn hc19 ?_
    refine mb_ifn hc20 ?_
    refine mb_ifn hc21 ?_
    refine mb_ifn hc22 ?_
    refine mb_ifn hc23 ?_
    refine mb_ifn hc24 ?_
    refine mb_ifn hc25 ?_
    refine mb_ifn hc26 ?_
    refine mb_ifn hc27 ?_
    refine mb_ifn hc28 ?_
    refine mb_ifn hc29 ?_
    refine mb_ifn hc30 ?_
    refine mb_ifn hc31 ?_
    refine mb_ifn hc32 ?_
    refine mb_ifn hc33 ?_
    refine mb_ifn hc34 ?_
    refine mb_ifn hc35 ?_
    refine mb_ifn hc36 ?_
    refine mb_ifn hc37 ?_
    refine mb_ifn hc38 ?_
    refine mb_ifn hc39 ?_
    refine mb_ifn hc40 ?_
    refine mb_ifn hc41 ?_
    refine mb_ifn hc42 ?_
    refine mb_ifn hc43 ?_
    refine mb_ifn hc44 ?_
    refine mb_ifn hc45 ?_
    refine mb_ifn hc46 ?_
    refine mb_ifn hc47 ?_
    refine mb_ifn hc48 ?_
    refine mb_ifn hc49 ?_
    refine mb_ifn hc50 ?_
    refine mb_ifn hc51 ?_
    exact h'
end LWS
set_option maxRecDepth 100000 in
theorem in_596t : (match ((ab_mkO ab_h0 8).bind fun h1 => (ab_if (decide (0 < ab_nx ab_h0)) (f_X8_init (ab_nx ab_h0) h1))) with | some h => decide (ab_nx h = 596) | none => true) = true := by decide +kernel
theorem in_596 {h1 q1 : ab_H} (e1 : ab_mkO ab_h0 8 = some h1) (e2 : ab_if (decide (0 < ab_nx ab_h0)) (f_X8_init (ab_nx ab_h0) h1) = some q1) : ab_nx q1 = ((596 : Nat) : Int) := by
  have h := in_596t
  rw [e1, Option.bind_some, e2] at h
  exact of_decide_eq_true h
/-- the law, out of a store's invariant and one step a method -/
theorem law_pure {Inv : st_S → Prop} (S : StpAll Inv) (I0 : ∀ σ : st_S, (∀ a, a < 615 → ∀ f, f < 40 → ly_r a f = 0 → σ a f = in_v a f) → (∀ f, f < 72 → σ 157 f = in_v 157 f ∧ σ 377 f = in_v 377 f) → Inv σ) {L : Nat} (hL : L ≤ 3072) {xs : Nat → Int} (hX : ∀ i, ab_i32 (xs i)) :
    ∃ h' : ab_H, f_L_law L xs (-1000) ab_h0 = some (1, h') ∧ h'.1 ≤ 600000 ∧ h'.2.1 ≤ 7302249 := by
  obtain ⟨σ, e, i1, i2⟩ := in_mk
  obtain ⟨σ', h'⟩ := lw_loop hL hX S ab_FU 0 σ (I0 σ i1 i2) (by omega) (by show L - 6 * 0 < 100000; omega)
  refine ⟨mk_ σ', ?_, by show 614 ≤ 600000; decide, by show 26508 ≤ 7302249; decide⟩
  unfold in_h at e
  obtain ⟨h1, hh1, e⟩ := ab_bnd e
  obtain ⟨q1, hq1, e⟩ := ab_bnd e
  obtain ⟨h2, hh2, e⟩ := ab_bnd e
  have n1 : ab_nx q1 = ((596 : Nat) : Int) := by
    exact in_596 hh1 hq1
  unfold f_L_law
  refine mb_eq hh1 (mb_eq hq1 (mb_eq hh2 (mb_eq e ?_)))
  rw [n1]
  exact h'

