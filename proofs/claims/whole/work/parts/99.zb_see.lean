/-! a see is read alike on both sides -/
theorem bSee_ok2 {b : BV} (ok : OkB b) {u v : Int} (hm : bm b < 12) (hu : isNm u ∧ u ≠ 0) (hv : isNm v ∧ v ≠ 0) (tu : sk b u = -1) (huv : us b v ≠ u) : OkB (bSee b u v) := by
  have ok' := ok
  obtain ⟨o1, o2, o3, o4, o5, o6, o7, o8, o9, o10⟩ := ok
  refine ⟨o1, o2, o3, o4, o5, o6, by show bm b + 1 ≤ 12; omega, fun k hk => ?_, fun j k hj hk e => ?_, fun x => ?_⟩
  · have hk : k < bm b + 1 := hk
    show (isNm (if k = bm b then u else bsf b k) ∧ (if k = bm b then u else bsf b k) ≠ 0) ∧ isNm (if k = bm b then v else bst b k) ∧ (if k = bm b then v else bst b k) ≠ 0
    by_cases z : k = bm b
    · rw [if_pos z, if_pos z]; exact ⟨hu, hv⟩
    · rw [if_neg z, if_neg z]; exact o8 k (by omega)
  · have hj : j < bm b + 1 := hj
    have hk : k < bm b + 1 := hk
    have e : (if j = bm b then u else bsf b j) = if k = bm b then u else bsf b k := e
    by_cases zj : j = bm b
    · by_cases zk : k = bm b
      · omega
      · rw [if_pos zj, if_neg zk] at e; exact absurd e.symm (sk_no tu k (by omega))
    · by_cases zk : k = bm b
      · rw [if_neg zj, if_pos zk] at e; exact absurd e (sk_no tu j (by omega))
      · rw [if_neg zj, if_neg zk] at e; exact o9 j k (by omega) (by omega) e
  · have path : ∀ (k : Nat) (x : Int), ∃ j, nxi (bSee b u v) j x = nxi b k x := by
      intro k
      induction k with
      | zero => intro x; exact ⟨0, rfl⟩
      | succ k ih =>
        intro x
        by_cases e : x = u
        · refine ⟨0, ?_⟩
          rw [e, nxi_term tu]; rfl
        · obtain ⟨j, hj⟩ := ih (nx b x)
          exact ⟨j + 1, by rw [nxi, nxi, bSee_nx ok' e, hj]⟩
    obtain ⟨j, hj⟩ := path 12 x
    have hj : nxi (bSee b u v) j x = us b x := hj
    have te := us_end ok' x
    by_cases e : us b x = u
    · obtain ⟨j2, hj2⟩ := path 12 v
      have hj2 : nxi (bSee b u v) j2 v = us b v := hj2
      refine ⟨j + 1 + j2, ?_⟩
      have : nxi (bSee b u v) (j + 1) x = v := by
        rw [nxi_add, hj, e]
        show nx (bSee b u v) u = v
        have e2 : sk (bSee b u v) u = (bm b : Int) := by
          refine fnd_hit (by omega) (by show bm b < 0 + (bm b + 1); omega) ?_ (fun l h5 h6 => ?_)
          · show decide ((if bm b = bm b then u else bsf b (bm b)) = u) = true
            rw [if_pos rfl]; exact decide_eq_true rfl
          · show decide ((if l = bm b then u else bsf b l) = u) = false
            rw [if_neg (by omega)]; exact decide_eq_false (sk_no tu l (by omega))
        unfold nx
        rw [e2, if_neg (by omega), Int.toNat_natCast]
        show (if bm b = bm b then v else bst b (bm b)) = v
        rw [if_pos rfl]
      rw [nxi_add, this, hj2]
      exact bSee_sk huv (us_end ok' v)
    · exact ⟨j, by rw [hj]; exact bSee_sk e te⟩
section SE
variable {T : Nat → Int} {L N : Nat} {j : Nat} {b : BV}
theorem p9_isSeen_L {σ : st_S} (h : RB9 σ 598 0 b) (ok : OkB b) (x : Int) : ∀ (c n i : Nat), i + c = bm b → c < n → g_X9_isSeen_L2 n x (i : Int) σ = some (if fnd (fun k => decide (bsf b k = x)) c i = -1 then 0 else 1, σ) := by
  have o1 := ok.2.2.2.2.2.2.1
  have h0 : sa_ld σ 598 416 1 = some (bm b : Int) := by rw [sa_ld_of (by decide) (by decide)]; exact congrArg some h.2.2.2.2.1
  intro c
  induction c with
  | zero =>
    intro n i hi hn
    obtain ⟨m, rfl⟩ : ∃ m, n = m + 1 := ⟨n - 1, by omega⟩
    rw [g_X9_isSeen_L2, h0, Option.bind_some, w32i (by omega) (by omega), if_pos (by omega), fnd, if_pos rfl]
  | succ c ih =>
    intro n i hi hn
    obtain ⟨m, rfl⟩ : ∃ m, n = m + 1 := ⟨n - 1, by omega⟩
    have e1 := (h.2.2.2.2.2 i (by omega)).1
    rw [g_X9_isSeen_L2, h0, Option.bind_some, w32i (x := (bm b : Int)) (by omega) (by omega), if_neg (by omega), show ab_w32 (8 + ab_w32 (2 * (i : Int))) = ((0 + 8 + 2 * i : Nat) : Int) by rw [w32i (x := 2 * (i : Int)) (by omega) (by omega), w32i (by omega) (by omega)]; omega, sa_ld_of (by omega) (by omega), Option.bind_some, Int.toNat_natCast, e1]
    by_cases e : bsf b i = x
    · have ef : fnd (fun k => decide (bsf b k = x)) (c + 1) i = (i : Int) := by rw [fnd, if_pos (decide_eq_true e)]
      rw [if_pos (cmp_eq.mpr e), ef, if_neg (show ¬ (i : Int) = -1 by omega)]
    · have ef : fnd (fun k => decide (bsf b k = x)) (c + 1) i = fnd (fun k => decide (bsf b k = x)) c (i + 1) := by rw [fnd, if_neg (by simpa using e)]
      rw [if_neg (fun z => e (cmp_eq.mp z)), ef, w32s (by omega)]
      exact ih m (i + 1) (by omega) (by omega)
theorem p9_isSeen {σ : st_S} (h : RB9 σ 598 0 b) (ok : OkB b) (x : Int) : g_X9_isSeen x σ = some (if sk b x = -1 then 0 else 1, σ) := by
  have o1 := ok.2.2.2.2.2.2.1
  exact p9_isSeen_L h ok x (bm b) ab_FU 0 (by omega) (by show _ < 100000; omega)
theorem rb8_see {σ : st_S} (h : RB8 σ 24 b) (u v : Int) : RB8 (up2 (up2 (up2 σ 33 (bm b) u) 34 (bm b) v) 24 9 ((bm b + 1 : Nat) : Int)) 24 (bSee b u v) := by
  obtain ⟨q0, q1, q2, q3, q4, q5⟩ := h
  refine ⟨?_, fun s hs => ?_, fun s hs i hi f hf => ?_, fun k hk => ?_, up2_at _ _ _ _, fun k hk => ?_⟩
  · rw [up2_ne _ _ (by decide), up2_o _ _ (by decide), up2_o _ _ (by decide)]; exact q0
  · rw [up2_o _ _ (by decide), up2_o _ _ (by decide), up2_o _ _ (by decide), up2_o _ _ (by decide), up2_o _ _ (by decide), up2_o _ _ (by decide)]; exact q1 s hs
  · rw [up2_o _ _ (by omega), up2_o _ _ (by omega), up2_o _ _ (by omega)]; exact q2 s hs i hi f hf
  · rw [up2_o _ _ (by decide), up2_o _ _ (by decide), up2_o _ _ (by decide)]; exact q3 k hk
  · have hk : k < bm b + 1 := hk
    show up2 (up2 (up2 σ 33 (bm b) u) 34 (bm b) v) 24 9 ((bm b + 1 : Nat) : Int) 33 k = (if k = bm b then u else bsf b k) ∧ up2 (up2 (up2 σ 33 (bm b) u) 34 (bm b) v) 24 9 ((bm b + 1 : Nat) : Int) 34 k = if k = bm b then v else bst b k
    by_cases z : k = bm b
    · rw [z, if_pos rfl, if_pos rfl]
      exact ⟨by rw [up2_o _ _ (by decide), up2_o _ _ (by decide), up2_at], by rw [up2_o _ _ (by decide), up2_at]⟩
    · rw [if_neg z, if_neg z]
      exact ⟨by rw [up2_o _ _ (by decide), up2_o _ _ (by decide), up2_ne _ _ (fun q => z q.2)]; exact (q5 k (by omega)).1, by rw [up2_o _ _ (by decide), up2_ne _ _ (fun q => z q.2), up2_o _ _ (by decide)]; exact (q5 k (by omega)).2⟩
theorem rb9_see {σ : st_S} (h : RB9 σ 598 0 b) (hm : bm b < 12) (u v : Int) : RB9 (up2 (up2 (up2 σ 598 (8 + 2 * bm b) u) 598 (9 + 2 * bm b) v) 598 1 ((bm b + 1 : Nat) : Int)) 598 0 (bSee b u v) := by
  obtain ⟨q0, q1, q2, q3, q4, q5⟩ := h
  have o : ∀ z, z ≠ 1 → z ≠ 8 + 2 * bm b → z ≠ 9 + 2 * bm b → up2 (up2 (up2 σ 598 (8 + 2 * bm b) u) 598 (9 + 2 * bm b) v) 598 1 ((bm b + 1 : Nat) : Int) 598 z = σ 598 z := fun z z1 z2 z3 => by rw [up2_ne _ _ (fun q => z1 q.2), up2_ne _ _ (fun q => z3 q.2), up2_ne _ _ (fun q => z2 q.2)]
  refine ⟨?_, fun s hs => ?_, fun s hs i hi f hf => ?_, fun k hk => ?_, up2_at _ _ _ _, fun k hk => ?_⟩
  · rw [o _ (by omega) (by omega) (by omega)]; exact q0
  · rw [o _ (by omega) (by omega) (by omega), o _ (by omega) (by omega) (by omega)]; exact q1 s hs
  · rw [o _ (by omega) (by omega) (by omega)]; exact q2 s hs i hi f hf
  · rw [o _ (by omega) (by omega) (by omega)]; exact q3 k hk
  · have hk : k < bm b + 1 := hk
    rw [Nat.zero_add, Nat.zero_add]
    show _ = (if k = bm b then u else bsf b k) ∧ _ = if k = bm b then v else bst b k
    by_cases z : k = bm b
    · rw [z, if_pos rfl, if_pos rfl, up2_ne _ _ (by omega), up2_ne _ _ (by omega), up2_at, up2_ne _ _ (by omega), up2_at]; exact ⟨rfl, rfl⟩
    · rw [if_neg z, if_neg z, o _ (by omega) (by omega) (by omega), o _ (by omega) (by omega) (by omega)]
      have := q5 k (by omega)
      rw [Nat.zero_add, Nat.zero_add] at this
      exact this
theorem p9_J74b {σ : st_S} (hg : σ 596 10 ≠ 0) (v w : Int) : g_X9_readSee_J74 v w σ = some σ := by
  unfold g_X9_readSee_J74
  rw [p9_good0 hg, Option.bind_some]
  dsimp only
  rw [if_pos rfl]
theorem p9_J40b {σ : st_S} (hg : σ 596 10 ≠ 0) (v : Int) : g_X9_readSee_J40 v σ = some σ := by
  unfold g_X9_readSee_J40
  rw [p9_wordHere0 hg, Option.bind_some]
  dsimp only
  rw [p9_good0 hg, Option.bind_some]
  dsimp only
  rw [if_pos rfl, p9_J74b hg]
theorem p9_J29b {σ : st_S} (hg : σ 596 10 ≠ 0) (v : Int) : g_X9_readSee_J29 v σ = some σ := by
  unfold g_X9_readSee_J29
  rw [p9_good0 hg, Option.bind_some]
  dsimp only
  rw [if_pos rfl, p9_J40b hg]
theorem se_both (ox : okX T L) (hN : sJ T L N = L) (ok : OkB b) (hm12 : bm b < 12) (hj : j ≤ N) (m : Int) : ∃ x : RS (Nat × BV × Int), GL N (nxJ N j) x ∧
    (∀ σ, Cu8 σ T L N j → RB8 σ 24 b → σ 8 6 = m → ∃ r σ', g_X4_readSee 24 σ = some (r, σ') ∧ FL8 σ σ' ∧ RL8 T L N σ σ' r x) ∧
    (∀ σ, A9 σ T L (nxJ N j) → σ 596 10 = 0 → RB9 σ 598 0 b → σ 596 12 = m → ∃ σ', g_X9_readSee σ = some σ' ∧ FL9 σ σ' ∧ RL9 T L σ' x) := by
  have l1 := nx_le hj
  have l2 := nx_le l1
  have l3 := nx_le l2
  have g2 := nx_ge (N := N) (j := nxJ N j)
  have g3 := nx_ge (N := N) (j := nxJ N (nxJ N j))
  by_cases c1 : k8 T L (sJ T L (nxJ N j)) = 2
  · have hu := (v8_name c1).2
    by_cases c2 : sk b (v8 T L (sJ T L (nxJ N j))) = -1
    · have st8 : ∀ {σ : st_S}, Cu8 σ T L N j → RB8 σ 24 b → ∃ s2, Cu8 s2 T L N (nxJ N (nxJ N j)) ∧ RB8 s2 24 b ∧ (∀ c, c ≠ 8 → s2 c = σ c) ∧ (∀ f, f ≠ 5 → s2 8 f = σ 8 f) ∧ g_X4_readSee 24 σ = if k8 T L (sJ T L (nxJ N (nxJ N j))) = 2 then (if us b (v8 T L (sJ T L (nxJ N (nxJ N j)))) = v8 T L (sJ T L (nxJ N j)) then some (0, e8 s2 3 (sJ T L (nxJ N (nxJ N j)) : Int)) else (g_X0_addSee 24 (v8 T L (sJ T L (nxJ N j))) (v8 T L (sJ T L (nxJ N (nxJ N j)))) s2).bind fun q9 => (g_X4_step q9).bind fun q10 => some ((1 : Int), q10)) else some (0, e8 s2 1 (sJ T L (nxJ N (nxJ N j)) : Int)) := by
        intro σ h hb
        obtain ⟨s1, a1, a2, a3, a4⟩ := p4_step h
        obtain ⟨s2, b1, b2, b3, b4⟩ := p4_step a2
        have hb1 : RB8 s1 24 b := hb.fr (fun k hk => a3 _ (by omega))
        have hb2 : RB8 s2 24 b := hb1.fr (fun k hk => b3 _ (by omega))
        have e9 : σ 24 9 = (bm b : Int) := hb.2.2.2.2.1
        refine ⟨s2, b2, hb2, fun c hc => by rw [b3 c hc, a3 c hc], fun f hf => by rw [b4 f hf, a4 f hf], ?_⟩
        unfold g_X4_readSee
        rw [e9, if_pos (by omega), a1, Option.bind_some, p4_kind a2, Option.bind_some, if_pos c1, p4_val a2 (by rw [c1]; decide) (by rw [c1]; decide), Option.bind_some, p0_seeOf hb1 ok, Option.bind_some]
        dsimp only
        rw [if_pos c2, b1, Option.bind_some, p4_kind b2, Option.bind_some]
        by_cases c3 : k8 T L (sJ T L (nxJ N (nxJ N j))) = 2
        · rw [if_pos c3, if_pos c3, p4_val b2 (by rw [c3]; decide) (by rw [c3]; decide), Option.bind_some, p0_used hb2 ok, Option.bind_some]
          dsimp only
          by_cases c4 : us b (v8 T L (sJ T L (nxJ N (nxJ N j)))) = v8 T L (sJ T L (nxJ N j))
          · rw [if_pos (cmp_eq.mpr c4), if_pos c4, p4_fail b2]; rfl
          · rw [if_neg (fun z => c4 (cmp_eq.mp z)), if_neg c4]
        · rw [if_neg c3, if_neg c3, p4_fail b2]; rfl
      have st9 : ∀ {σ : st_S}, A9 σ T L (nxJ N j) → σ 596 10 = 0 → RB9 σ 598 0 b → ∃ s2, A9 s2 T L (nxJ N (nxJ N j)) ∧ s2 596 10 = 0 ∧ RB9 s2 598 0 b ∧ F69 σ s2 ∧ g_X9_readSee σ = if k8 T L (sJ T L (nxJ N (nxJ N j))) = 2 then (if us b (v8 T L (sJ T L (nxJ N (nxJ N j)))) = v8 T L (sJ T L (nxJ N j)) then some (er s2 3 (sJ T L (nxJ N (nxJ N j)) : Int)) else g_X9_readSee_J74 (v8 T L (sJ T L (nxJ N j))) (v8 T L (sJ T L (nxJ N (nxJ N j)))) s2) else some (er s2 1 (sJ T L (nxJ N (nxJ N j)) : Int)) := by
        intro σ h hg hb
        obtain ⟨s2, b1, b2, b3⟩ := p9_goes ox hN l1 h
        have hg2 : s2 596 10 = 0 := by rw [b3.2 10 (by omega)]; exact hg
        have hb2 : RB9 s2 598 0 b := hb.fr (b3.1 598 (by decide))
        refine ⟨s2, b2, hg2, hb2, b3, ?_⟩
        have wh := p9_wordHere ox h hg
        rw [if_pos c1] at wh
        have wh2 := p9_wordHere ox b2 hg2
        unfold g_X9_readSee
        rw [wh, Option.bind_some]
        dsimp only
        rw [p9_good1 hg, Option.bind_some]
        dsimp only
        rw [if_neg one0, p9_isSeen hb ok, Option.bind_some, if_pos c2]
        dsimp only
        rw [if_pos rfl]
        unfold g_X9_readSee_J29
        rw [p9_good1 hg, Option.bind_some]
        dsimp only
        rw [if_neg one0, b1, Option.bind_some]
        unfold g_X9_readSee_J40
        rw [wh2]
        by_cases c3 : k8 T L (sJ T L (nxJ N (nxJ N j))) = 2
        · rw [if_pos c3, if_pos c3, Option.bind_some]
          dsimp only
          rw [p9_good1 hg2, Option.bind_some]
          dsimp only
          rw [if_neg one0, p9_usedOf hb2.s ok, Option.bind_some]
          dsimp only
          by_cases c4 : us b (v8 T L (sJ T L (nxJ N (nxJ N j)))) = v8 T L (sJ T L (nxJ N j))
          · rw [if_pos (cmp_eq.mpr c4), if_pos c4, p9_errs1 hg2, Option.bind_some, b2.2.1, p9_J74b (by rw [er10]; decide)]
          · rw [if_neg (fun z => c4 (cmp_eq.mp z)), if_neg c4]
        · rw [if_neg c3, if_neg c3, Option.bind_some]
          dsimp only
          rw [p9_good0 (by rw [er10]; decide), Option.bind_some]
          dsimp only
          rw [if_pos rfl, p9_J74b (by rw [er10]; decide)]
      by_cases c3 : k8 T L (sJ T L (nxJ N (nxJ N j))) = 2
      · have hv := (v8_name c3).2
        by_cases c4 : us b (v8 T L (sJ T L (nxJ N (nxJ N j)))) = v8 T L (sJ T L (nxJ N j))
        · refine ⟨.inl (3, (sJ T L (nxJ N (nxJ N j)) : Int)), True.intro, fun σ h hb hm => ?_, fun σ h hg hb hm => ?_⟩
          · obtain ⟨s2, a1, a2, a3, a4, a5⟩ := st8 h hb
            exact ⟨0, _, by rw [a5, if_pos c3, if_pos c4], (FL8.s5 a3 a4).trans (Fd8.fl _ _).g.l, rfl, (e89 _ _).1, (e89 _ _).2⟩
          · obtain ⟨s2, a1, a2, a3, a4, a5⟩ := st9 h hg hb
            exact ⟨_, by rw [a5, if_pos c3, if_pos c4], a4.r.g.l.trans (F9r.fl _ _).g.l, er10 _ _, er11 _ _, by decide⟩
        · refine ⟨.inr (nxJ N (nxJ N (nxJ N j)), bSee b (v8 T L (sJ T L (nxJ N j))) (v8 T L (sJ T L (nxJ N (nxJ N j)))), m), ⟨bSee_ok2 ok hm12 hu hv c2 c4, by omega, l3⟩, fun σ h hb hm => ?_, fun σ h hg hb hm => ?_⟩
          · obtain ⟨s2, a1, a2, a3, a4, a5⟩ := st8 h hb
            generalize v8 T L (sJ T L (nxJ N j)) = u at *
            generalize v8 T L (sJ T L (nxJ N (nxJ N j))) = v at *
            have e9 : s2 24 9 = (bm b : Int) := a2.2.2.2.2.1
            have hb3 := rb8_see a2 u v
            have a1' : Cu8 (up2 (up2 (up2 s2 33 (bm b) u) 34 (bm b) v) 24 9 ((bm b + 1 : Nat) : Int)) T L N (nxJ N (nxJ N j)) := a1.fr (fun c x y => by rw [up2_o _ _ (by omega), up2_o _ _ (by omega), up2_o _ _ (by omega)]) (by rw [up2_o _ _ (by decide), up2_o _ _ (by decide), up2_o _ _ (by decide)]) (by rw [up2_o _ _ (by decide), up2_o _ _ (by decide), up2_o _ _ (by decide)])
            obtain ⟨s3, b1, b2, b3, b4⟩ := p4_step a1'
            refine ⟨1, s3, ?_, ((FL8.s5 a3 a4).trans (((FL8.up (a := 33) (by omega) _).trans (FL8.up (a := 34) (by omega) _)).trans (FL8.up (a := 24) (by omega) _))).trans (FL8.s5 b3 b4), rfl, b2, hb3.fr (fun k hk => b3 _ (by omega)), ?_, ?_, ?_⟩
            · rw [a5, if_pos c3, if_neg c4]
              unfold g_X0_addSee
              rw [e9, if_pos (by omega), sa_st_of (by omega) (by omega), Option.bind_some, Int.toNat_natCast, up2_o _ _ (by decide), e9, sa_st_of (by omega) (by omega), Option.bind_some, Int.toNat_natCast, Option.bind_some, Option.bind_some, up2_o _ _ (by decide), up2_o _ _ (by decide), e9, w32s (by omega), b1]; rfl
            · rw [b4 6 (by decide), up2_o _ _ (by decide), up2_o _ _ (by decide), up2_o _ _ (by decide), a4 6 (by decide)]; exact hm
            · rw [b4 9 (by decide), up2_o _ _ (by decide), up2_o _ _ (by decide), up2_o _ _ (by decide)]; exact a4 9 (by decide)
            · rw [b4 10 (by decide), up2_o _ _ (by decide), up2_o _ _ (by decide), up2_o _ _ (by decide)]; exact a4 10 (by decide)
          · obtain ⟨s2, a1, a2, a3, a4, a5⟩ := st9 h hg hb
            generalize v8 T L (sJ T L (nxJ N j)) = u at *
            generalize v8 T L (sJ T L (nxJ N (nxJ N j))) = v at *
            obtain ⟨s3, b1, b2, b3⟩ := p9_goes ox hN l2 a1
            have hb3 : RB9 s3 598 0 b := a3.fr (b3.1 598 (by decide))
            have e1 : s3 598 1 = (bm b : Int) := hb3.2.2.2.2.1
            have hb4 := rb9_see hb3 hm12 u v
            refine ⟨_, ?_, (a4.r.g.l.trans b3.r.g.l).trans (((FL9.up (x := 8 + 2 * bm b) u).trans (FL9.up (x := 9 + 2 * bm b) v)).trans (FL9.up (x := 1) _)), ((b2.up _).up _).up _, ?_, hb4, ?_⟩
            · rw [a5, if_pos c3, if_neg c4]
              unfold g_X9_readSee_J74
              rw [p9_good1 a2, Option.bind_some]
              dsimp only
              rw [if_neg one0, b1, Option.bind_some, show (1 : Int) = ((1 : Nat) : Int) from rfl, sa_ld_of (by omega) (by omega), Option.bind_some, Int.toNat_natCast, e1, w32i (x := (bm b : Int)) (by omega) (by omega), show ab_w32 (8 + ab_w32 (2 * (bm b : Int))) = ((8 + 2 * bm b : Nat) : Int) by rw [w32i (x := 2 * (bm b : Int)) (by omega) (by omega), w32i (by omega) (by omega)]; omega, sa_st_of (by omega) (by omega), Option.bind_some, Int.toNat_natCast, show ab_w32 (((8 + 2 * bm b : Nat) : Int) + ((1 : Nat) : Int)) = ((9 + 2 * bm b : Nat) : Int) by rw [w32i (by omega) (by omega)]; omega, sa_st_of (by omega) (by omega), Option.bind_some, Int.toNat_natCast, sa_ld_of (by omega) (by omega), Option.bind_some, Int.toNat_natCast, up2_ne _ _ (by omega), up2_ne _ _ (by omega), e1, w64i (by omega) (by omega), sa_st_of (by omega) (by omega), Option.bind_some, Int.toNat_natCast]; rfl
            · rw [up2_o _ _ (by decide), up2_o _ _ (by decide), up2_o _ _ (by decide), b3.2 10 (by omega)]; exact a2
            · rw [up2_o _ _ (by decide), up2_o _ _ (by decide), up2_o _ _ (by decide), b3.2 12 (by omega), a4.2 12 (by omega)]; exact hm
      · refine ⟨.inl (1, (sJ T L (nxJ N (nxJ N j)) : Int)), True.intro, fun σ h hb hm => ?_, fun σ h hg hb hm => ?_⟩
        · obtain ⟨s2, a1, a2, a3, a4, a5⟩ := st8 h hb
          exact ⟨0, _, by rw [a5, if_neg c3], (FL8.s5 a3 a4).trans (Fd8.fl _ _).g.l, rfl, (e89 _ _).1, (e89 _ _).2⟩
        · obtain ⟨s2, a1, a2, a3, a4, a5⟩ := st9 h hg hb
          exact ⟨_, by rw [a5, if_neg c3], a4.r.g.l.trans (F9r.fl _ _).g.l, er10 _ _, er11 _ _, by decide⟩
    · refine ⟨.inl (3, (sJ T L (nxJ N j) : Int)), True.intro, fun σ h hb hm => ?_, fun σ h hg hb hm => ?_⟩
      · obtain ⟨s1, a1, a2, a3, a4⟩ := p4_step h
        have hb1 : RB8 s1 24 b := hb.fr (fun k hk => a3 _ (by omega))
        have e9 : σ 24 9 = (bm b : Int) := hb.2.2.2.2.1
        refine ⟨0, _, ?_, (FL8.s5 a3 a4).trans (Fd8.fl _ _).g.l, rfl, (e89 _ _).1, (e89 _ _).2⟩
        unfold g_X4_readSee
        rw [e9, if_pos (by omega), a1, Option.bind_some, p4_kind a2, Option.bind_some, if_pos c1, p4_val a2 (by rw [c1]; decide) (by rw [c1]; decide), Option.bind_some, p0_seeOf hb1 ok, Option.bind_some]
        dsimp only
        rw [if_neg c2, p4_fail a2]; rfl
      · refine ⟨er σ 3 (sJ T L (nxJ N j) : Int), ?_, (F9r.fl _ _).g.l, er10 _ _, er11 _ _, by decide⟩
        have wh := p9_wordHere ox h hg
        rw [if_pos c1] at wh
        unfold g_X9_readSee
        rw [wh, Option.bind_some]
        dsimp only
        rw [p9_good1 hg, Option.bind_some]
        dsimp only
        rw [if_neg one0, p9_isSeen hb ok, Option.bind_some, if_neg c2]
        dsimp only
        rw [if_neg one0, p9_errs1 hg, Option.bind_some, h.2.1, p9_J29b (by rw [er10]; decide)]
  · refine ⟨.inl (1, (sJ T L (nxJ N j) : Int)), True.intro, fun σ h hb hm => ?_, fun σ h hg hb hm => ?_⟩
    · obtain ⟨s1, a1, a2, a3, a4⟩ := p4_step h
      have e9 : σ 24 9 = (bm b : Int) := hb.2.2.2.2.1
      refine ⟨0, _, ?_, (FL8.s5 a3 a4).trans (Fd8.fl _ _).g.l, rfl, (e89 _ _).1, (e89 _ _).2⟩
      unfold g_X4_readSee
      rw [e9, if_pos (by omega), a1, Option.bind_some, p4_kind a2, Option.bind_some, if_neg c1, p4_fail a2]; rfl
    · refine ⟨er σ 1 (sJ T L (nxJ N j) : Int), ?_, (F9r.fl _ _).g.l, er10 _ _, er11 _ _, by decide⟩
      have wh := p9_wordHere ox h hg
      rw [if_neg c1] at wh
      unfold g_X9_readSee
      rw [wh, Option.bind_some]
      dsimp only
      rw [p9_good0 (by rw [er10]; decide), Option.bind_some]
      dsimp only
      rw [if_pos rfl, p9_J29b (by rw [er10]; decide)]
end SE
