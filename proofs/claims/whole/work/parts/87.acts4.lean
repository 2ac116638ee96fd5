/-! see, swaps -/
theorem nxi_nm {b : BV} (ok : OkB b) : ∀ (n : Nat) (x : Int), (isNm x ∧ x ≠ 0) → isNm (nxi b n x) ∧ nxi b n x ≠ 0 := by
  intro n
  induction n with
  | zero => intro x h; exact h
  | succ n ih =>
    intro x h
    rw [nxi]
    refine ih _ ?_
    unfold nx
    by_cases e : sk b x = -1
    · rw [if_pos e]; exact h
    · obtain ⟨k, e1, hk, _⟩ := sk_yes e
      rw [if_neg e, e1, Int.toNat_natCast]; exact (ok.2.2.2.2.2.2.2.1 k hk).2
theorem us_nm {b : BV} (ok : OkB b) {x : Int} (h : isNm x ∧ x ≠ 0) : isNm (us b x) ∧ us b x ≠ 0 := nxi_nm ok 12 x h
theorem us_0 {b : BV} (ok : OkB b) : us b 0 = 0 := nxi_term (sk_none (fun k hk => (ok.2.2.2.2.2.2.2.1 k hk).1.2)) 12
theorem us_nm0 {b : BV} (ok : OkB b) {x : Int} (h : isNm x) : isNm (us b x) := by
  by_cases e : x = 0
  · rw [e, us_0 ok]; exact ⟨by decide, by decide⟩
  · exact (us_nm ok ⟨h, e⟩).1
theorem un_nm {b : BV} (ok : OkB b) {s i : Nat} (hs : s < bn b) (hi : i < bsz b s) : (isNm (un b 2 s i) ∧ un b 2 s i ≠ 0) ∧ isNm (un b 3 s i) ∧ isNm (un b 4 s i) := by
  have o := ok.2.2.2.1 s hs i hi
  exact ⟨us_nm ok o.2.2.1, us_nm0 ok o.2.2.2.1, us_nm0 ok o.2.2.2.2⟩
theorem wl_nm {b : BV} (ok : OkB b) {j : Nat} (hj : j < (wl b).1) : (isNm ((wl b).2 j) ∧ (wl b).2 j ≠ 0) ∧ sk b ((wl b).2 j) = -1 := by
  obtain ⟨u, v, q, hv, e⟩ := (wl_ok ok).2.2.2 j hj
  have hu : u < bn b := by unfold bef at q; omega
  rw [e]
  exact ⟨(un_nm ok hu hv).1, us_end ok _⟩
theorem p8_isWord {σ : st_S} {b : BV} (h : Wd8 σ b) (x : Int) : g_X8_isWord x σ = some (if 0 ≤ x ∧ x < ((wl b).1 : Int) then 1 else 0, σ) := by
  obtain ⟨M, hM, _⟩ := h
  unfold g_X8_isWord g_X8_isWord_J19
  rw [hM.1]
  by_cases h0 : x < 0
  · rw [if_pos h0, if_neg (by omega)]
  · rw [if_neg h0]
    by_cases h1 : ((wl b).1 : Int) ≤ x
    · rw [if_pos h1, if_neg (by omega)]
    · rw [if_neg h1, if_pos (by omega)]
theorem p9_words {b : BV} {σ : st_S} (ok : OkB b) (hB : RB9 σ 597 0 b) : ∃ σ', g_X9_laysWords σ = some σ' ∧ Wd9 σ' b ∧ G9 σ σ' := by
  obtain ⟨σ', a1, a2, a3, a4⟩ := p9_laysWords ok hB
  exact ⟨σ', a1, a2, fun a ha => a3 a (by omega) (by omega) (by omega), fun f hf => a4 f (by omega)⟩
theorem p9_isWordNow {b : BV} {σ : st_S} (ok : OkB b) (hB : RB9 σ 597 0 b) (x : Int) : ∃ σ', g_X9_isWordNow x σ = some (if 0 ≤ x ∧ x < ((wl b).1 : Int) then 1 else 0, σ') ∧ Wd9 σ' b ∧ G9 σ σ' := by
  obtain ⟨σ', a1, a2, a3⟩ := p9_words ok hB
  have wle := wl_le ok
  refine ⟨σ', ?_, a2, a3⟩
  unfold g_X9_isWordNow
  rw [a1, Option.bind_some, a2.1.1, w32i (by omega) (by omega)]
  by_cases h : 0 ≤ x ∧ x < ((wl b).1 : Int)
  · rw [p9_in1 h.1 (by omega), if_pos h]; rfl
  · rw [p9_in0 (by omega), if_neg h]; rfl
def bSee (b : BV) (u v : Int) : BV := (bn b, badr b, bsz b, btm b, bwy b, bm b + 1, (fun j => if j = bm b then u else bsf b j), (fun j => if j = bm b then v else bst b j))
theorem bSee_sk {b : BV} {u v x : Int} (hx : x ≠ u) (h : sk b x = -1) : sk (bSee b u v) x = -1 := by
  refine sk_none (fun j hj => ?_)
  have hj : j < bm b + 1 := hj
  show (if j = bm b then u else bsf b j) ≠ x
  split
  · exact fun q => hx q.symm
  · exact sk_no h j (by omega)
theorem bSee_nx {b : BV} (ok : OkB b) {u v x : Int} (hx : x ≠ u) : nx (bSee b u v) x = nx b x := by
  by_cases e : sk b x = -1
  · unfold nx; rw [if_pos e, if_pos (bSee_sk hx e)]
  · obtain ⟨j, e1, _, h2, h3, h4⟩ := fnd_yes _ _ e
    have e1' : sk b x = (j : Int) := e1
    have e2 : sk (bSee b u v) x = (j : Int) := by
      refine fnd_hit (by omega) (by show j < 0 + (bm b + 1); omega) ?_ (fun l h5 h6 => ?_)
      · show decide ((if j = bm b then u else bsf b j) = x) = true
        rw [if_neg (by omega)]; exact h3
      · show decide ((if l = bm b then u else bsf b l) = x) = false
        rw [if_neg (by omega)]; exact h4 l h5 h6
    unfold nx
    rw [e1', e2, if_neg (by omega), if_neg (by omega), Int.toNat_natCast]
    show (if j = bm b then v else bst b j) = bst b j
    rw [if_neg (by omega)]
theorem bSee_ok {b : BV} (ok : OkB b) {u v : Int} (hm : bm b < 12) (hu : isNm u ∧ u ≠ 0) (hv : isNm v ∧ v ≠ 0) (tu : sk b u = -1) (tv : sk b v = -1) (huv : u ≠ v) : OkB (bSee b u v) := by
  have ok' := ok
  obtain ⟨o1, o2, o3, o4, o5, o6, o7, o8, o9, o10⟩ := ok
  refine ⟨o1, o2, o3, o4, o5, o6, by show bm b + 1 ≤ 12; omega, fun k hk => ?_, fun j k hj hk e => ?_, fun x => ?_⟩
  · have hk : k < bm b + 1 := hk
    show (isNm (if k = bm b then u else bsf b k) ∧ (if k = bm b then u else bsf b k) ≠ 0) ∧ isNm (if k = bm b then v else bst b k) ∧ (if k = bm b then v else bst b k) ≠ 0
    by_cases z : k = bm b
    · rw [if_pos z, if_pos z]; exact ⟨hu, hv⟩
    · rw [if_neg z, if_neg z]; exact o8 k (by omega)
  · have hj : j < bm b + 1 := hj
    have hk : k < bm b + 1 := hk
    have e : (if j = bm b then u else bsf b j) = if k = bm b then u else bsf b k := e
    by_cases zj : j = bm b
    · by_cases zk : k = bm b
      · omega
      · rw [if_pos zj, if_neg zk] at e; exact absurd e.symm (sk_no tu k (by omega))
    · by_cases zk : k = bm b
      · rw [if_neg zj, if_pos zk] at e; exact absurd e (sk_no tu j (by omega))
      · rw [if_neg zj, if_neg zk] at e; exact o9 j k (by omega) (by omega) e
  · have path : ∀ (k : Nat) (x : Int), ∃ j, nxi (bSee b u v) j x = nxi b k x := by
      intro k
      induction k with
      | zero => intro x; exact ⟨0, rfl⟩
      | succ k ih =>
        intro x
        by_cases e : x = u
        · refine ⟨0, ?_⟩
          rw [e, nxi_term tu]; rfl
        · obtain ⟨j, hj⟩ := ih (nx b x)
          exact ⟨j + 1, by rw [nxi, nxi, bSee_nx ok' e, hj]⟩
    obtain ⟨j, hj⟩ := path 12 x
    have hj : nxi (bSee b u v) j x = us b x := hj
    have te := us_end ok' x
    by_cases e : us b x = u
    · refine ⟨j + 1, ?_⟩
      have : nxi (bSee b u v) (j + 1) x = v := by
        rw [nxi_add, hj, e]
        show nx (bSee b u v) u = v
        have e2 : sk (bSee b u v) u = (bm b : Int) := by
          refine fnd_hit (by omega) (by show bm b < 0 + (bm b + 1); omega) ?_ (fun l h5 h6 => ?_)
          · show decide ((if bm b = bm b then u else bsf b (bm b)) = u) = true
            rw [if_pos rfl]; exact decide_eq_true rfl
          · show decide ((if l = bm b then u else bsf b l) = u) = false
            rw [if_neg (by omega)]; exact decide_eq_false (sk_no tu l (by omega))
        unfold nx
        rw [e2, if_neg (by omega), Int.toNat_natCast]
        show (if bm b = bm b then v else bst b (bm b)) = v
        rw [if_pos rfl]
      rw [this]
      exact bSee_sk (fun q => huv q.symm) tv
    · exact ⟨j, by rw [hj]; exact bSee_sk e te⟩
theorem S_see : Stp2 (InvD DR) g_X8_see g_X9_see := by
  intro x y σ _ _ ⟨S, r8, r9, ok⟩
  have okB := ok.2.2.2.2.1
  have o1 := okB.1
  have o7 := okB.2.2.2.2.2.2.1
  have wle := wl_le okB
  -- the reference's first steps
  have first9 : ∀ τ, Rep9 τ S → ∃ τ1, g_X9_isWordNow x τ = some (if 0 ≤ x ∧ x < ((wl (sB S)).1 : Int) then 1 else 0, τ1) ∧ Wd9 τ1 (sB S) ∧ Rep9 τ1 S ∧ ∀ a, a < 596 → τ1 a = τ a := by
    intro τ h9
    obtain ⟨τ1, q1, q2, q3⟩ := p9_isWordNow okB h9.2.2.2.1 x
    exact ⟨τ1, q1, q2, h9.g9 q3, fun a ha => q3.1 a (by omega)⟩
  by_cases hx : 0 ≤ x ∧ x < ((wl (sB S)).1 : Int)
  · by_cases hy : 0 ≤ y ∧ y < ((wl (sB S)).1 : Int)
    · have run8 : ∀ τ, Rep8 DR τ S → g_X8_see x y τ = if bm (sB S) < 12 then (if x = y then some (-6, τ) else ((g_X3_keep 13 τ).bind fun q3 => (sa_ld q3 148 72 x).bind fun t4 => (sa_ld q3 148 72 y).bind fun t5 => (g_X0_addSee 13 t4 t5 q3).bind fun q6 => (g_X8_renew q6).bind fun q7 => some (q7 13 9, q7))) else some (-5, τ) := by
        intro τ h8
        unfold g_X8_see
        rw [p8_isWord h8.2.2.2.2.2.2.1, if_pos hx, Option.bind_some]
        dsimp only
        rw [if_neg one0, p8_isWord h8.2.2.2.2.2.2.1, if_pos hy, Option.bind_some]
        dsimp only
        have e9 : τ 13 9 = (bm (sB S) : Int) := h8.2.2.2.1.2.2.2.2.1
        rw [if_neg one0]
        by_cases z : bm (sB S) < 12
        · rw [if_pos z, if_pos (show τ 13 9 < 12 by omega)]
        · rw [if_neg z, if_neg (show ¬ τ 13 9 < 12 by omega)]
      have run9 : ∀ τ τ1, Rep9 τ S → Rep9 τ1 S → Wd9 τ1 (sB S) → g_X9_isWordNow x τ = some (if 0 ≤ x ∧ x < ((wl (sB S)).1 : Int) then 1 else 0, τ1) → g_X9_see x y τ = if bm (sB S) < 12 then (if x = y then some (-6, τ1) else ((g_X9_keeps τ1).bind fun q4 => (g_X9_sees q4).bind fun q5 => (sa_ld q5.2 600 72 x).bind fun t6 => (sa_st q5.2 597 416 (ab_w32 ((8 : Int) + (ab_w32 ((2 : Int) * q5.1)))) t6).bind fun σ1 => (g_X9_sees σ1).bind fun q7 => (sa_ld q7.2 600 72 y).bind fun t8 => (sa_st q7.2 597 416 (ab_w32 ((ab_w32 ((8 : Int) + (ab_w32 ((2 : Int) * q7.1)))) + (1 : Int))) t8).bind fun σ2 => (sa_ld σ2 597 416 (1 : Int)).bind fun t9 => (sa_st σ2 597 416 (1 : Int) (ab_w64 (t9 + (1 : Int)))).bind fun σ3 => (g_X9_sees σ3).bind fun q10 => some (q10.1, q10.2))) else some (-5, τ1) := by
        intro τ τ1 h9 h9' hW e
        unfold g_X9_see
        rw [e, if_pos hx, Option.bind_some]
        dsimp only
        rw [if_neg one0, hW.1.1, w32i (by omega) (by omega), p9_in1 hy.1 (by omega), Option.bind_some]
        dsimp only
        rw [if_neg one0, p9_sees h9'.2.2.2.1 okB, Option.bind_some]
        dsimp only
        by_cases z : bm (sB S) < 12
        · rw [if_pos z, if_neg (by omega)]
        · rw [if_neg z, if_pos (by omega)]
      by_cases hm : bm (sB S) < 12
      · by_cases he : x = y
        · refine stp_of dr_in (S' := S) (r := -6) ?_ ?_ ok r8 r9
          · intro τ h8; exact ⟨τ, by rw [run8 τ h8, if_pos hm, if_pos he], h8, fun _ _ => rfl⟩
          · intro τ h9
            obtain ⟨τ1, e1, e2, e3, e4⟩ := first9 τ h9
            exact ⟨τ1, by rw [run9 τ τ1 h9 e3 e2 e1, if_pos hm, if_pos he], e3, e4⟩
        · obtain ⟨p, rfl⟩ := Int.eq_ofNat_of_zero_le hx.1
          obtain ⟨r, rfl⟩ := Int.eq_ofNat_of_zero_le hy.1
          have hp : p < (wl (sB S)).1 := by omega
          have hr : r < (wl (sB S)).1 := by omega
          obtain ⟨n1, n2⟩ := wl_nm okB hp
          obtain ⟨n3, n4⟩ := wl_nm okB hr
          have hne : (wl (sB S)).2 p ≠ (wl (sB S)).2 r := fun q => he (by rw [(wl_ok okB).2.2.1 p r hp hr q])
          have hb := bSee_ok okB hm n1 n3 n2 n4 hne
          refine stp_of dr_in (S' := actS S (bSee (sB S) ((wl (sB S)).2 p) ((wl (sB S)).2 r))) (r := ((bm (sB S) + 1 : Nat) : Int)) ?_ ?_ (ok.act hb) r8 r9
          · intro τ h8
            obtain ⟨M, hM, _⟩ := h8.2.2.2.2.2.2.1
            have w1 := (hM.2 p hp).1
            have w2 := (hM.2 r hr).1
            obtain ⟨σ1, σ2, σ3, a1, a2, a3, a4, a5⟩ := act8 h8 ok hb (mod := fun q3 => (sa_ld q3 148 72 (p : Int)).bind fun t4 => (sa_ld q3 148 72 (r : Int)).bind fun t5 => (g_X0_addSee 13 t4 t5 q3)) (fun q hq hf => by
              obtain ⟨q0, q1, q2, q3, q4, q5⟩ := hq
              generalize hc : up2 (up2 (up2 q 22 (bm (sB S)) ((wl (sB S)).2 p)) 23 (bm (sB S)) ((wl (sB S)).2 r)) 13 9 ((bm (sB S) + 1 : Nat) : Int) = q'
              have f1 : ∀ a, a ≠ 13 → a ≠ 22 → a ≠ 23 → q' a = q a := fun a x y z => by rw [← hc, up2_o _ _ x, up2_o _ _ z, up2_o _ _ y]
              refine ⟨q', ?_, ⟨by rw [← hc, up2_ne _ _ (by omega), up2_o _ _ (by decide), up2_o _ _ (by decide)]; exact q0, fun s hs => by rw [f1 _ (by decide) (by decide) (by decide), f1 _ (by decide) (by decide) (by decide)]; exact q1 s hs, fun s hs i hi f hf => by rw [f1 _ (by omega) (by omega) (by omega)]; exact q2 s hs i hi f hf, fun k hk => by rw [f1 _ (by decide) (by decide) (by decide)]; exact q3 k hk, by rw [← hc, up2_at]; rfl, fun k hk => ?_⟩, fun a ha => f1 a (by omega) (by omega) (by omega)⟩
              · have z9 : up2 q 22 (bm (sB S)) ((wl (sB S)).2 p) 13 9 = (bm (sB S) : Int) := by rw [up2_o _ _ (by decide)]; exact q4
                have z10 : up2 (up2 q 22 (bm (sB S)) ((wl (sB S)).2 p)) 23 (bm (sB S)) ((wl (sB S)).2 r) 13 9 = (bm (sB S) : Int) := by rw [up2_o _ _ (by decide)]; exact z9
                show ((sa_ld q 148 72 (p : Int)).bind fun t4 => (sa_ld q 148 72 (r : Int)).bind fun t5 => (g_X0_addSee 13 t4 t5 q)) = some q'
                rw [sa_ld_of (by omega) (by omega), Option.bind_some, sa_ld_of (by omega) (by omega), Option.bind_some, hf 148 (by decide), Int.toNat_natCast, Int.toNat_natCast, w1, w2]
                unfold g_X0_addSee
                simp only [Nat.reduceAdd]
                rw [q4, if_pos (by omega), sa_st_of (by omega) (by omega), Option.bind_some, Int.toNat_natCast, z9, sa_st_of (by omega) (by omega), Option.bind_some, Int.toNat_natCast, z10, w32s (by omega), Option.bind_some, hc]
              · have hk : k < bm (sB S) + 1 := hk
                show q' 22 k = (if k = bm (sB S) then (wl (sB S)).2 p else bsf (sB S) k) ∧ q' 23 k = (if k = bm (sB S) then (wl (sB S)).2 r else bst (sB S) k)
                have y1 : q' 22 k = up2 q 22 (bm (sB S)) ((wl (sB S)).2 p) 22 k := by rw [← hc, up2_o _ _ (by decide), up2_o _ _ (by decide)]
                have y2 : q' 23 k = up2 (up2 q 22 (bm (sB S)) ((wl (sB S)).2 p)) 23 (bm (sB S)) ((wl (sB S)).2 r) 23 k := by rw [← hc, up2_o _ _ (by decide)]
                rw [y1, y2]
                by_cases z : k = bm (sB S)
                · rw [if_pos z, if_pos z, z, up2_at, up2_at]; exact ⟨rfl, rfl⟩
                · rw [if_neg z, if_neg z, up2_ne _ _ (by omega), up2_ne _ _ (by omega), up2_o _ _ (by decide)]; exact q5 k (by omega))
            refine ⟨σ3, ?_, a4, a5⟩
            have a2' : ((sa_ld σ1 148 72 (p : Int)).bind fun t4 => (sa_ld σ1 148 72 (r : Int)).bind fun t5 => (g_X0_addSee 13 t4 t5 σ1)) = some σ2 := a2
            obtain ⟨t4, u1, a2'⟩ := ab_bnd a2'
            obtain ⟨t5, u2, a2'⟩ := ab_bnd a2'
            rw [run8 τ h8, if_pos hm, if_neg he, a1, Option.bind_some, u1, Option.bind_some, u2, Option.bind_some, a2', Option.bind_some, a3, Option.bind_some, a4.2.2.2.1.2.2.2.2.1]; rfl
          · intro τ h9
            obtain ⟨τ1, e1, e2, e3, e4⟩ := first9 τ h9
            obtain ⟨σ1, a1, ⟨q0, q1, q2, q3, q4, q5⟩, a3, a4, fin⟩ := act9 e3 ok
            have B1 : RB9 σ1 597 0 (sB S) := ⟨q0, q1, q2, q3, q4, q5⟩
            have w1 : σ1 600 p = (wl (sB S)).2 p := by rw [a3 600 (by decide) (by decide)]; exact e2.1.2 p hp
            have w2 : σ1 600 r = (wl (sB S)).2 r := by rw [a3 600 (by decide) (by decide)]; exact e2.1.2 r hr
            generalize hc1 : up2 σ1 597 (8 + 2 * bm (sB S)) ((wl (sB S)).2 p) = s1
            generalize hc2 : up2 s1 597 (8 + 2 * bm (sB S) + 1) ((wl (sB S)).2 r) = s2
            generalize hc3 : up2 s2 597 1 ((bm (sB S) + 1 : Nat) : Int) = s3
            have g1 : ∀ a, a ≠ 597 → s1 a = σ1 a := fun a ha => by rw [← hc1, up2_o _ _ ha]
            have g3 : ∀ a, a ≠ 597 → s3 a = σ1 a := fun a ha => by rw [← hc3, ← hc2, ← hc1, up2_o _ _ ha, up2_o _ _ ha, up2_o _ _ ha]
            have v1 : ∀ x, x ≠ 8 + 2 * bm (sB S) → s1 597 x = σ1 597 x := fun x hx => by rw [← hc1, up2_ne _ _ (by omega)]
            have v3 : ∀ x, x ≠ 8 + 2 * bm (sB S) → x ≠ 8 + 2 * bm (sB S) + 1 → x ≠ 1 → s3 597 x = σ1 597 x := fun x h1 h2 h3 => by rw [← hc3, up2_ne _ _ (by omega), ← hc2, up2_ne _ _ (by omega), v1 x h1]
            have B2 : RB9 s1 597 0 (sB S) := by
              refine ⟨by rw [v1 _ (by omega)]; exact q0, fun s hs => by rw [v1 _ (by omega), v1 _ (by omega)]; exact q1 s hs, fun s hs i hi f hf => by rw [v1 _ (by omega)]; exact q2 s hs i hi f hf, fun k hk => by rw [v1 _ (by omega)]; exact q3 k hk, by rw [v1 _ (by omega)]; exact q4, fun k hk => by rw [v1 _ (by omega), v1 _ (by omega)]; exact q5 k hk⟩
            have hb9 : RB9 s3 597 0 (bSee (sB S) ((wl (sB S)).2 p) ((wl (sB S)).2 r)) := by
              refine ⟨by rw [v3 _ (by omega) (by omega) (by omega)]; exact q0, fun s hs => by rw [v3 _ (by omega) (by omega) (by omega), v3 _ (by omega) (by omega) (by omega)]; exact q1 s hs, fun s hs i hi f hf => by rw [v3 _ (by omega) (by omega) (by omega)]; exact q2 s hs i hi f hf, fun k hk => by rw [v3 _ (by omega) (by omega) (by omega)]; exact q3 k hk, by rw [← hc3]; exact up2_at _ _ _ _, fun k hk => ?_⟩
              have hk : k < bm (sB S) + 1 := hk
              show _ = (if k = bm (sB S) then (wl (sB S)).2 p else bsf (sB S) k) ∧ _ = (if k = bm (sB S) then (wl (sB S)).2 r else bst (sB S) k)
              by_cases z : k = bm (sB S)
              · rw [if_pos z, if_pos z, z, ← hc3, up2_ne _ _ (by omega), up2_ne _ _ (by omega), ← hc2, show 0 + 9 + 2 * bm (sB S) = 8 + 2 * bm (sB S) + 1 by omega, up2_at, up2_ne _ _ (by omega), ← hc1, show 0 + 8 + 2 * bm (sB S) = 8 + 2 * bm (sB S) by omega, up2_at]; exact ⟨rfl, rfl⟩
              · rw [if_neg z, if_neg z, v3 _ (by omega) (by omega) (by omega), v3 _ (by omega) (by omega) (by omega)]; exact q5 k (by omega)
            obtain ⟨z1, z2⟩ := fin _ _ g3 hb9
            refine ⟨s3, ?_, z1, fun a ha => by rw [z2 a ha, e4 a ha]⟩
            have x1 : s2 597 1 = (bm (sB S) : Int) := by rw [← hc2, up2_ne _ _ (by omega), v1 _ (by omega)]; exact q4
            have x8 : ab_w32 ((8 : Int) + (ab_w32 ((2 : Int) * (bm (sB S) : Int)))) = ((8 + 2 * bm (sB S) : Nat) : Int) := by rw [w32i (x := (2 : Int) * (bm (sB S) : Int)) (by omega) (by omega), w32i (by omega) (by omega)]; omega
            rw [run9 τ τ1 h9 e3 e2 e1, if_pos hm, if_neg he, a1, Option.bind_some, p9_sees B1 okB, Option.bind_some]
            dsimp only
            rw [sa_ld_of (by omega) (by omega), Option.bind_some, Int.toNat_natCast, w1, x8, sa_st_of (by omega) (by omega), Option.bind_some, Int.toNat_natCast, hc1, p9_sees B2 okB, Option.bind_some]
            dsimp only
            rw [sa_ld_of (by omega) (by omega), Option.bind_some, Int.toNat_natCast, g1 600 (by decide), w2, x8, w32s (by omega), sa_st_of (by omega) (by omega), Option.bind_some, Int.toNat_natCast, hc2, sa_ld_of (by omega) (by omega), Option.bind_some, show (1 : Int).toNat = 1 from rfl, x1, w64i (by omega) (by omega), sa_st_of (by omega) (by omega), Option.bind_some, show (1 : Int).toNat = 1 from rfl, show (bm (sB S) : Int) + 1 = ((bm (sB S) + 1 : Nat) : Int) by omega, hc3, p9_sees hb9 hb, Option.bind_some]
            rfl
      · refine stp_of dr_in (S' := S) (r := -5) ?_ ?_ ok r8 r9
        · intro τ h8; exact ⟨τ, by rw [run8 τ h8, if_neg hm], h8, fun _ _ => rfl⟩
        · intro τ h9
          obtain ⟨τ1, e1, e2, e3, e4⟩ := first9 τ h9
          exact ⟨τ1, by rw [run9 τ τ1 h9 e3 e2 e1, if_neg hm], e3, e4⟩
    · refine stp_of dr_in (S' := S) (r := -2) ?_ ?_ ok r8 r9
      · intro τ h8
        refine ⟨τ, ?_, h8, fun _ _ => rfl⟩
        unfold g_X8_see
        rw [p8_isWord h8.2.2.2.2.2.2.1, if_pos hx, Option.bind_some]
        dsimp only
        rw [if_neg one0, p8_isWord h8.2.2.2.2.2.2.1, if_neg hy, Option.bind_some]; rfl
      · intro τ h9
        obtain ⟨τ1, e1, e2, e3, e4⟩ := first9 τ h9
        refine ⟨τ1, ?_, e3, e4⟩
        unfold g_X9_see
        rw [e1, if_pos hx, Option.bind_some]
        dsimp only
        rw [if_neg one0, e2.1.1, w32i (by omega) (by omega), p9_in0 (by omega), Option.bind_some]; rfl
  · refine stp_of dr_in (S' := S) (r := -2) ?_ ?_ ok r8 r9
    · intro τ h8
      refine ⟨τ, ?_, h8, fun _ _ => rfl⟩
      unfold g_X8_see
      rw [p8_isWord h8.2.2.2.2.2.2.1, if_neg hx, Option.bind_some]; rfl
    · intro τ h9
      obtain ⟨τ1, e1, e2, e3, e4⟩ := first9 τ h9
      refine ⟨τ1, ?_, e3, e4⟩
      unfold g_X9_see
      rw [e1, if_neg hx, Option.bind_some]; rfl
