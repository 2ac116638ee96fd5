/-! a heading, case by case -/
def hdK8 : Nat → Int → Int → Int → st_S → Option (Int × st_S) := fun w122_1 w122_2 w122_3 w122_4 σx122 =>
  (sa_st σx122 (w122_1 + 1) 12 w122_2 w122_3).bind fun σ1 =>
  (sa_st σ1 (w122_1 + 2) 12 w122_2 (ab_w32 (w122_4 + (1 : Int)))).bind fun σ2 =>
  (some (up2 σ2 w122_1 0 (ab_w32 ((σ2 w122_1 0) + (1 : Int))))).bind fun σ3 =>
  some ((1 : Int), σ3)
def hdK9 : Int → Int → st_S → Option st_S := fun w170_1 w170_2 σx170 =>
  (sa_st σx170 598 416 (ab_w32 ((ab_w32 ((32 : Int) + (ab_w32 ((32 : Int) * w170_1)))) + (1 : Int))) w170_2).bind fun σ2 =>
  some σ2
section HZ
variable {T : Nat → Int} {L N : Nat} {σ : st_S} {j : Nat} {b : BV}
theorem p9_readTermb (hg : σ 596 10 ≠ 0) {s i : Nat} (hs : s < 12) (hi : i < 7) (pr : Int) : g_X9_readTerm (s : Int) (i : Int) pr σ = some σ := by
  unfold g_X9_readTerm
  rw [p9_termAt hs hi, Option.bind_some]
  dsimp only
  rw [p9_good0 hg, Option.bind_some]
  dsimp only
  rw [if_pos rfl, p9_J50b hg]
/-- the class behind an address that is good -/
theorem p4_hd (h : Cu8 σ T L N j) (hb : RB8 σ 24 b) (ok : OkB b) (hn : bn b < 12) : g_X4_readHeading 24 σ =
    if k8 T L (sJ T L j) = 4 then (if v8 T L (sJ T L j) ≤ 999 then (if fnd (fun s => decide (badr b s = v8 T L (sJ T L j))) (bn b) 0 = -1 then (g_X4_step σ).bind fun q5 => (g_X4_takeSign (58 : Int) q5).bind fun q6 => if q6.1 = (0 : Int) then some ((0 : Int), q6.2) else g_X4_readHeading_L93 hdK8 ab_FU 24 (bn b : Int) (v8 T L (sJ T L j)) (0 : Int) q6.2
      else some (0, e8 σ 3 (sJ T L j : Int))) else some (0, e8 σ 2 (sJ T L j : Int))) else some (0, e8 σ 1 (sJ T L j : Int)) := by
  unfold g_X4_readHeading
  rw [hb.1, if_pos (by omega), p4_kind h, Option.bind_some]
  by_cases e4 : k8 T L (sJ T L j) = 4
  · have nb := num8 e4
    rw [if_pos e4, if_pos e4, p4_val h (by rw [e4]; decide) (by rw [e4]; decide), Option.bind_some, w32i (x := v8 T L (sJ T L j)) (by omega) (by omega), p8_isAddress, Option.bind_some]
    by_cases e9 : v8 T L (sJ T L j) ≤ 999
    · rw [if_pos (show 0 ≤ v8 T L (sJ T L j) ∧ v8 T L (sJ T L j) ≤ 999 from ⟨nb.1, e9⟩), if_pos e9]
      dsimp only
      rw [if_neg one0, p0_stringAt hb ok, Option.bind_some]
      by_cases ef : fnd (fun s => decide (badr b s = v8 T L (sJ T L j))) (bn b) 0 = -1
      · rw [if_pos ef, if_pos ef]; rfl
      · rw [if_neg ef, if_neg ef, p4_fail h]; rfl
    · rw [if_neg (show ¬ (0 ≤ v8 T L (sJ T L j) ∧ v8 T L (sJ T L j) ≤ 999) from fun z => e9 z.2), if_neg e9]
      dsimp only
      rw [if_pos rfl, p4_fail h]; rfl
  · rw [if_neg e4, if_neg e4, p4_fail h]; rfl
theorem p9_hd (h : A9 σ T L j) (hg : σ 596 10 = 0) (hb : RB9 σ 598 0 b) (ok : OkB b) (hn : bn b < 12) : g_X9_readString σ =
    if k8 T L (sJ T L j) = 4 then (if v8 T L (sJ T L j) ≤ 999 then (if fnd (fun s => decide (badr b s = v8 T L (sJ T L j))) (bn b) 0 = -1 then (g_X9_advance (up2 σ 598 (32 + 32 * bn b) (v8 T L (sJ T L j)))).bind fun q2 => (g_X9_passesByte (58 : Int) q2).bind fun q3 => g_X9_readString_L129 hdK9 ab_FU (bn b : Int) (0 : Int) (0 : Int) q3
      else some (er σ 3 (sJ T L j : Int))) else some (er σ 2 (sJ T L j : Int))) else some (er σ 1 (sJ T L j : Int)) := by
  obtain ⟨h7, h6, h8, _⟩ := h.2
  have b1 : ∀ {c p : Int}, c ≠ 0 → er σ c p 596 10 ≠ 0 := fun {c p} hc => by rw [er10]; exact hc
  have h0 : sa_ld σ 598 416 0 = some (bn b : Int) := by rw [sa_ld_of (by decide) (by decide)]; exact congrArg some hb.1
  unfold g_X9_readString
  rw [h0, Option.bind_some, p9_good1 hg, Option.bind_some, w32i (x := (bn b : Int)) (by omega) (by omega)]
  dsimp only
  rw [if_neg one0]
  by_cases e4 : k8 T L (sJ T L j) = 4
  · have nb := num8 e4
    have kd := k8_4.mp e4
    obtain ⟨n1, n2⟩ := num9 h e4
    rw [if_pos (show σ 596 8 = 2 by rw [h8, kd]; rfl), if_pos e4]
    unfold g_X9_readString_J32
    rw [p9_good1 hg, Option.bind_some]
    dsimp only
    rw [if_neg one0]
    by_cases e9 : v8 T L (sJ T L j) ≤ 999
    · have n1 := n1 e9
      rw [if_pos e9, n1, p9_in1 (by omega) (by omega), Option.bind_some]
      dsimp only
      rw [if_neg one0]
      unfold g_X9_readString_J63
      rw [p9_good1 hg, Option.bind_some]
      dsimp only
      rw [if_neg one0, n1, p9_isAddr hb ok, Option.bind_some]
      by_cases ef : fnd (fun s => decide (badr b s = v8 T L (sJ T L j))) (bn b) 0 = -1
      · rw [if_pos ef, if_pos ef]
        dsimp only
        rw [if_pos rfl]
        unfold g_X9_readString_J90
        rw [p9_good1 hg, Option.bind_some]
        dsimp only
        rw [if_neg one0, n1, show ab_w32 (32 + ab_w32 (32 * (bn b : Int))) = ((32 + 32 * bn b : Nat) : Int) by rw [w32i (x := 32 * (bn b : Int)) (by omega) (by omega), w32i (by omega) (by omega)]; omega, sa_st_of (by omega) (by omega), Option.bind_some, Int.toNat_natCast]; rfl
      · rw [if_neg ef, if_neg ef]
        dsimp only
        rw [if_neg one0, p9_errs1 hg, Option.bind_some, h7, p9_rJ90b (b1 (by decide))]
    · have n2 := n2 e9
      rw [if_neg e9, p9_in0 (by omega), Option.bind_some]
      dsimp only
      rw [if_pos rfl, p9_errs1 hg, Option.bind_some, h7, p9_rJ63b (b1 (by decide))]
  · rw [if_neg (show ¬ σ 596 8 = 2 by rw [h8]; intro z; exact e4 (k8_4.mpr (by omega))), if_neg e4, p9_errs1 hg, Option.bind_some, h7, p9_rJ32b (b1 (by decide))]
theorem hd_both (ox : okX T L) (hN : sJ T L N = L) (ok : OkB b) (hn : bn b < 12) (hj : j ≤ N) : ∃ x : RS (Nat × BV), HG2 N j b x ∧
    (∀ σ, Cu8 σ T L N j → RB8 σ 24 b → ∃ r σ', g_X4_readHeading 24 σ = some (r, σ') ∧ FG8 σ σ' ∧ HD8 T L N σ σ' r x) ∧
    (∀ σ, A9 σ T L j → σ 596 10 = 0 → RB9 σ 598 0 b → ∃ σ', g_X9_readString σ = some σ' ∧ FG9 σ σ' ∧ HD9 T L b σ' x) := by
  by_cases e4 : k8 T L (sJ T L j) = 4
  · by_cases e9 : v8 T L (sJ T L j) ≤ 999
    · by_cases ef : fnd (fun s => decide (badr b s = v8 T L (sJ T L j))) (bn b) 0 = -1
      · have nb := num8 e4
        have hu : ∀ s, s < bn b → badr b s ≠ v8 T L (sJ T L j) := fun s hs => of_decide_eq_false (fnd_no _ _ ef s (by omega) (by omega))
        have l1 := nx_le hj
        have l2 := nx_le l1
        have g1 := nx_ge (N := N) (j := j)
        have g2 := nx_ge (N := N) (j := nxJ N j)
        by_cases e58 : k8 T L (sJ T L (nxJ N j)) = 5 ∧ v8 T L (sJ T L (nxJ N j)) = 58
        · obtain ⟨x, x1, x2, x3⟩ := hd_L ox hN hn 6 0 (nxJ N (nxJ N j)) 0 (fun _ _ => 0) (by omega) l2 ⟨fun i hi => by omega, fun i hi => by omega⟩ (Or.inl ⟨rfl, rfl⟩)
          refine ⟨match x with | .inl e => .inl e | .inr (j', m, tm) => .inr (j', bAdd b (v8 T L (sJ T L j)) m tm), ?_, fun σ h hb => ?_, fun σ h hg hb => ?_⟩
          · rcases x with e | ⟨j', m, tm⟩
            · exact True.intro
            · obtain ⟨y1, y2, y3, y4, y5⟩ := x1
              exact ⟨by omega, y2, bAdd_ok ok hn ⟨nb.1, e9⟩ hu ⟨y3, y4⟩ y5, rfl⟩
          · obtain ⟨s1, a1, a2, a3, a4⟩ := p4_step h
            rcases p4_takeSign a2 58 with ⟨_, _, s2, c1, c2, c3, c4⟩ | ⟨c1, _⟩
            · have st : g_X4_readHeading 24 σ = g_X4_readHeading_L93 hdK8 ab_FU 24 (bn b : Int) (v8 T L (sJ T L j)) ((0 : Nat) : Int) s2 := by
                rw [p4_hd h hb ok hn, if_pos e4, if_pos e9, if_pos ef, a1, Option.bind_some, c1, Option.bind_some]
                dsimp only
                rw [if_neg one0]; rfl
              have q := x2 s2 c2 (fun i' hi' => by omega) hdK8 ab_FU (v8 T L (sJ T L j)) (by show _ < 100000; omega)
              have fr : FH8 (bn b) σ s2 := (FH8.s5 a3 a4).trans (FH8.s5 c3 c4)
              rw [st]
              rcases x with ⟨cc, p⟩ | ⟨j', m, tm⟩
              · obtain ⟨w, w1, w2, w3, w4⟩ := q
                exact ⟨0, w, w1, (fr.trans w2).g, rfl, w3, w4⟩
              · obtain ⟨w, w1, w2, w3, w4, w5, w6⟩ := q
                obtain ⟨y1, y2, y3, y4, y5⟩ := x1
                have f2 := fr.trans w2
                have w0 : w 24 0 = (bn b : Int) := by rw [f2.1 24 (by decide) (by decide)]; exact hb.1
                refine ⟨1, _, ?_, (f2.g.trans (FG8.up (by omega) _)).trans ((FG8.up (by omega) _).trans (FG8.up (by omega) _)), rfl, ?_, rb8_add hb ok hn f2 w4, ?_, ?_⟩
                · rw [w1]
                  unfold hdK8
                  rw [sa_st_of (by omega) (by omega), Option.bind_some, Int.toNat_natCast, sa_st_of (by omega) (by omega), Option.bind_some, Int.toNat_natCast, Option.bind_some, up2_o _ _ (by decide), up2_o _ _ (by decide), w0, w32s (by omega), w32i (by omega) (by omega), Nat.sub_add_cancel y3]; rfl
                · exact w3.fr (fun c a b => by rw [up2_o _ _ (by omega), up2_o _ _ (by omega), up2_o _ _ (by omega)]) (by rw [up2_o _ _ (by decide), up2_o _ _ (by decide), up2_o _ _ (by decide)]) (by rw [up2_o _ _ (by decide), up2_o _ _ (by decide), up2_o _ _ (by decide)])
                · rw [up2_o _ _ (by decide), up2_o _ _ (by decide), up2_o _ _ (by decide), w5, c4 9 (by decide), a4 9 (by decide)]
                · rw [up2_o _ _ (by decide), up2_o _ _ (by decide), up2_o _ _ (by decide), w6, c4 10 (by decide), a4 10 (by decide)]
            · exact absurd e58 c1
          · obtain ⟨s1, a1, a2, a3⟩ := p9_goes ox hN hj (h.up (z := 32 + 32 * bn b) (v8 T L (sJ T L j)))
            have hg1 : s1 596 10 = 0 := by rw [a3.2 10 (by omega), up2_o _ _ (by decide)]; exact hg
            rcases p9_passes ox hN l1 a2 hg1 (a := 58) (by omega) with ⟨_, _, s2, c1, c2, c3⟩ | ⟨c1, _⟩
            · have hg2 : s2 596 10 = 0 := by rw [c3.2 10 (by omega)]; exact hg1
              have st : g_X9_readString σ = g_X9_readString_L129 hdK9 ab_FU (bn b : Int) ((0 : Nat) : Int) 0 s2 := by
                rw [p9_hd h hg hb ok hn, if_pos e4, if_pos e9, if_pos ef, a1, Option.bind_some, c1, Option.bind_some]; rfl
              have q := x3 s2 c2 hg2 (fun i' hi' => by omega) hdK9 ab_FU (by show _ < 100000; omega)
              have fr : FH9 (bn b) (up2 σ 598 (32 + 32 * bn b) (v8 T L (sJ T L j))) s2 := a3.h.trans c3.h
              have fg : FG9 σ s2 := (FG9.up _).trans fr.g
              rw [st]
              rcases x with ⟨cc, p⟩ | ⟨j', m, tm⟩
              · obtain ⟨w, w1, w2, w3⟩ := q
                exact ⟨w, w1, fg.trans w2.g, w3⟩
              · obtain ⟨w, w1, w2, w3, w4, w5⟩ := q
                obtain ⟨y1, y2, y3, y4, y5⟩ := x1
                have f2 := fr.trans w2
                have w0 : w 598 0 = (bn b : Int) := by rw [f2.2.1 0 (by omega), up2_ne _ _ (by omega)]; exact hb.1
                refine ⟨up2 w 598 (33 + 32 * bn b) (m : Int), ?_, (fg.trans w2.g).trans (FG9.up _), w3.up _, ?_, ?_, rb9_add hb ok (fun z z1 z2 z3 z4 => ?_) ?_ ?_ (up2_at _ _ _ _) (fun i hi f hf => ?_)⟩
                · rw [w1]
                  unfold hdK9
                  rw [show ab_w32 (ab_w32 (32 + ab_w32 (32 * (bn b : Int))) + 1) = ((33 + 32 * bn b : Nat) : Int) by rw [w32i (x := 32 * (bn b : Int)) (by omega) (by omega), w32i (x := 32 + 32 * (bn b : Int)) (by omega) (by omega), w32i (by omega) (by omega)]; omega, sa_st_of (by omega) (by omega), Option.bind_some, Int.toNat_natCast]
                · rw [up2_o _ _ (by decide)]; exact w4
                · rw [up2_ne _ _ (by omega)]; exact w0
                · rw [up2_ne _ _ (by omega), up2_ne _ _ (by omega), f2.2.1 z z1, up2_ne _ _ (by omega)]
                · rw [up2_ne _ _ (by omega), up2_ne _ _ (by omega), f2.2.1 _ (by omega), up2_at]
                · rw [up2_ne _ _ (by omega), up2_at]
                · rw [up2_ne _ _ (by omega), up2_ne _ _ (by omega)]; exact w5 i hi f hf
            · exact absurd e58 c1
        · refine ⟨.inl (1, (sJ T L (nxJ N j) : Int)), True.intro, fun σ h hb => ?_, fun σ h hg hb => ?_⟩
          · obtain ⟨s1, a1, a2, a3, a4⟩ := p4_step h
            rcases p4_takeSign a2 58 with ⟨c1, c2, _⟩ | ⟨_, c1⟩
            · exact absurd ⟨c1, c2⟩ e58
            · refine ⟨0, _, ?_, (Fd8.s5 a3 a4).g.trans (Fd8.fl _ _).g, rfl, (e89 _ _).1, (e89 _ _).2⟩
              rw [p4_hd h hb ok hn, if_pos e4, if_pos e9, if_pos ef, a1, Option.bind_some, c1, Option.bind_some]
              dsimp only
              rw [if_pos rfl]
          · obtain ⟨s1, a1, a2, a3⟩ := p9_goes ox hN hj (h.up (z := 32 + 32 * bn b) (v8 T L (sJ T L j)))
            have hg1 : s1 596 10 = 0 := by rw [a3.2 10 (by omega), up2_o _ _ (by decide)]; exact hg
            rcases p9_passes ox hN l1 a2 hg1 (a := 58) (by omega) with ⟨c1, c2, _⟩ | ⟨_, c1⟩
            · exact absurd ⟨c1, c2⟩ e58
            · have hb2 : er s1 1 (sJ T L (nxJ N j) : Int) 596 10 ≠ 0 := by rw [er10]; decide
              refine ⟨er s1 1 (sJ T L (nxJ N j) : Int), ?_, ((FG9.up _).trans a3.r.g).trans (F9r.fl _ _).g, er10 _ _, er11 _ _, by decide⟩
              rw [p9_hd h hg hb ok hn, if_pos e4, if_pos e9, if_pos ef, a1, Option.bind_some, c1, Option.bind_some, show ab_FU = 99999 + 1 from rfl, g_X9_readString_L129]
              have rt := p9_readTermb hb2 (s := bn b) (i := 0) hn (by decide) 0
              rw [show (0 : Int) = ((0 : Nat) : Int) from rfl]
              refine (congrArg (fun z => Option.bind z _) rt).trans ?_
              rw [Option.bind_some, p9_good0 hb2, Option.bind_some]; rfl
      · refine ⟨.inl (3, (sJ T L j : Int)), True.intro, fun σ h hb => ⟨0, _, by rw [p4_hd h hb ok hn, if_pos e4, if_pos e9, if_neg ef], (Fd8.fl _ _).g, rfl, (e89 _ _).1, (e89 _ _).2⟩, fun σ h hg hb => ⟨_, by rw [p9_hd h hg hb ok hn, if_pos e4, if_pos e9, if_neg ef], (F9r.fl _ _).g, er10 _ _, er11 _ _, by decide⟩⟩
    · refine ⟨.inl (2, (sJ T L j : Int)), True.intro, fun σ h hb => ⟨0, _, by rw [p4_hd h hb ok hn, if_pos e4, if_neg e9], (Fd8.fl _ _).g, rfl, (e89 _ _).1, (e89 _ _).2⟩, fun σ h hg hb => ⟨_, by rw [p9_hd h hg hb ok hn, if_pos e4, if_neg e9], (F9r.fl _ _).g, er10 _ _, er11 _ _, by decide⟩⟩
  · refine ⟨.inl (1, (sJ T L j : Int)), True.intro, fun σ h hb => ⟨0, _, by rw [p4_hd h hb ok hn, if_neg e4], (Fd8.fl _ _).g, rfl, (e89 _ _).1, (e89 _ _).2⟩, fun σ h hg hb => ⟨_, by rw [p9_hd h hg hb ok hn, if_neg e4], (F9r.fl _ _).g, er10 _ _, er11 _ _, by decide⟩⟩
end HZ
