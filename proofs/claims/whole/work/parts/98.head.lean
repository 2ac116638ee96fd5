/-! head, shown, lost -/
section FO
variable {σ : st_S} {b : BV} {wy : Nat → Int} {o : Nat → Nat}
theorem lF_at {l : Nat} (hl : l < nL b wy) : lF b wy l < nE b wy ∧ lnO b wy (lF b wy l) = l := fsk_at (lnK_st b wy _) hl
theorem hF_at {l : Nat} (hl : l < nH b wy) : hF b wy l < nE b wy ∧ hdO b wy (hF b wy l) = l := fsk_at (hdK_st b _) hl
theorem lF_lt {l : Nat} (hl : l < nL b wy) : lF b wy l < lF b wy (l + 1) ∧ lF b wy (l + 1) ≤ nE b wy := by
  obtain ⟨h1, h2⟩ := lF_at hl
  have := (fsk_in (lnK_st b wy (sE b wy)) h1).mp h2
  have s2 := fsk_spec (lnO b wy) (l + 1) (nE b wy) 0
  exact ⟨this.2, by unfold lF; omega⟩
theorem hF_lt {l : Nat} (hl : l < nH b wy) : hF b wy l < hF b wy (l + 1) ∧ hF b wy (l + 1) ≤ nE b wy := by
  obtain ⟨h1, h2⟩ := hF_at hl
  have := (fsk_in (hdK_st b (sE b wy)) h1).mp h2
  have s2 := fsk_spec (hdO b wy) (l + 1) (nE b wy) 0
  exact ⟨this.2, by unfold hF; omega⟩
theorem p9_firstOf (hn : nE b wy ≤ 72) (h : V9 σ b wy o) {l : Nat} (hl : l < nL b wy) : g_X9_firstOf (l : Int) σ = some ((lF b wy l : Int), σ) := by
  obtain ⟨h1, h2⟩ := lF_at hl
  have s1 := (fsk_spec (lnO b wy) l (nE b wy) 0).2.2.1
  have key : ∀ (c n k : Nat), k + c = lF b wy l → c < n → g_X9_firstOf_L2 n (l : Int) (k : Int) σ = some ((lF b wy l : Int), σ) := by
    intro c
    induction c with
    | zero =>
      intro n k hk hn
      obtain ⟨m, rfl⟩ : ∃ m, n = m + 1 := ⟨n - 1, by omega⟩
      have : k = lF b wy l := by omega
      subst this
      rw [g_X9_firstOf_L2, sa_ld_of (by omega) (by omega), Option.bind_some, Int.toNat_natCast, (h.2.2.2.2 _ h1).2.2.2.2.1, h2, if_pos rfl]
    | succ c ih =>
      intro n k hk hn
      obtain ⟨m, rfl⟩ : ∃ m, n = m + 1 := ⟨n - 1, by omega⟩
      have := s1 k (by omega) (by show k < lF b wy l; omega)
      rw [g_X9_firstOf_L2, sa_ld_of (by omega) (by omega), Option.bind_some, Int.toNat_natCast, (h.2.2.2.2 k (by omega)).2.2.2.2.1, if_neg (by omega), w32s (by omega)]
      exact ih m (k + 1) (by omega) (by omega)
  exact key (lF b wy l) ab_FU 0 (by omega) (by show _ < 100000; omega)
theorem p9_headWord (ok : OkB b) (hn : nE b wy ≤ 72) (h : V9 σ b wy o) {l : Nat} (hl : l < nH b wy) : g_X9_headWord (l : Int) σ = some ((lw b (sE b wy (hF b wy l)) : Int), σ) := by
  obtain ⟨h1, h2⟩ := hF_at hl
  have s1 := (fsk_spec (hdO b wy) l (nE b wy) 0).2.2.1
  obtain ⟨k1, k2, k3, k4, k5, k6⟩ := h.2.2.2.2 _ h1
  have key : ∀ (K : Int → st_S → Option (Int × st_S)) (c n k : Nat), k + c = hF b wy l → c < n → g_X9_headWord_L2 K n (l : Int) (k : Int) σ = K (hF b wy l : Int) σ := by
    intro K c
    induction c with
    | zero =>
      intro n k hk hn
      obtain ⟨m, rfl⟩ : ∃ m, n = m + 1 := ⟨n - 1, by omega⟩
      have : k = hF b wy l := by omega
      subst this
      rw [g_X9_headWord_L2, sa_ld_of (by omega) (by omega), Option.bind_some, Int.toNat_natCast, k6, h2, if_pos rfl]
    | succ c ih =>
      intro n k hk hn
      obtain ⟨m, rfl⟩ : ∃ m, n = m + 1 := ⟨n - 1, by omega⟩
      have := s1 k (by omega) (by show k < hF b wy l; omega)
      rw [g_X9_headWord_L2, sa_ld_of (by omega) (by omega), Option.bind_some, Int.toNat_natCast, (h.2.2.2.2 k (by omega)).2.2.2.2.2, if_neg (by omega), w32s (by omega)]
      exact ih m (k + 1) (by omega) (by omega)
  unfold g_X9_headWord
  refine (key _ (hF b wy l) ab_FU 0 (by omega) (by show _ < 100000; omega)).trans ?_
  rw [sa_ld_of (by omega) (by omega), Option.bind_some, Int.toNat_natCast, k1, p9_leadWord ok k3 k2 h.2.2.2.1 k4]; rfl
end FO
theorem cN_add (p : Nat → Bool) : ∀ (c d i a : Nat), cN p (c + d) i a = cN p d (i + c) (cN p c i a) := by
  intro c
  induction c with
  | zero => intro d i a; rw [Nat.zero_add]; rfl
  | succ c ih => intro d i a; rw [Nat.succ_add, cN, cN, ih, show i + 1 + c = i + (c + 1) by omega]
theorem cN_no {p : Nat → Bool} : ∀ (c i a : Nat), (∀ j, i ≤ j → j < i + c → p j = false) → cN p c i a = a := by
  intro c
  induction c with
  | zero => intro i a _; rfl
  | succ c ih =>
    intro i a h
    rw [cN, if_neg (by rw [h i (by omega) (by omega)]; decide)]
    exact ih (i + 1) a (fun j h1 h2 => h j (by omega) (by omega))
theorem cN_all {p : Nat → Bool} : ∀ (c i a : Nat), (∀ j, i ≤ j → j < i + c → p j = true) → cN p c i a = a + c := by
  intro c
  induction c with
  | zero => intro i a _; rfl
  | succ c ih =>
    intro i a h
    rw [cN, if_pos (h i (by omega) (by omega)), ih (i + 1) _ (fun j h1 h2 => h j (by omega) (by omega))]; omega
/-- only what lies from p up to q -/
theorem cN_rng {f : Nat → Bool} {n p q : Nat} (hpq : p ≤ q) (hq : q ≤ n) (h1 : ∀ j, j < p → f j = false) (h2 : ∀ j, q ≤ j → j < n → f j = false) : cN f n 0 0 = cN f (q - p) p 0 := by
  have e1 : n = p + ((q - p) + (n - q)) := by omega
  conv => lhs; rw [e1]
  rw [cN_add, cN_add, Nat.zero_add, cN_no p 0 0 (fun j _ h => h1 j (by omega)), cN_no (n - q) (p + (q - p)) _ (fun j h3 h4 => h2 j (by omega) (by omega))]
theorem cN_eqs {g : Nat → Nat} (hg : Stair g) {n l : Nat} : cN (fun k => decide (g k = l)) n 0 0 = fsk g (l + 1) n 0 - fsk g l n 0 := by
  have s2 := fsk_spec g (l + 1) n 0
  have mo := fsk_mo (g := g) (n := n) (show l ≤ l + 1 by omega)
  rw [cN_rng mo (by omega) (fun j hj => decide_eq_false (fun z => by have := (fsk_in hg (show j < n by omega)).mp z; omega)) (fun j h1 h2 => decide_eq_false (fun z => by have := (fsk_in hg h2).mp z; omega)), cN_all _ _ _ (fun j h1 h2 => decide_eq_true ((fsk_in hg (show j < n by omega)).mpr ⟨h1, by omega⟩)), Nat.zero_add]
/-- lines of a head -/
theorem cN_lines {b : BV} {wy : Nat → Int} (ok : OkB b) (hE : ∀ k, k < nE b wy → isE b (sE b wy k)) {h : Nat} (hh : h < nH b wy) : cN (fun k => decide (hdO b wy k = h ∧ (k = 0 ∨ lnO b wy (k - 1) ≠ lnO b wy k))) (nE b wy) 0 0 = lnO b wy (hF b wy (h + 1) - 1) - lnO b wy (hF b wy h) + 1 := by
  obtain ⟨q1, q2⟩ := hF_lt hh
  have inn : ∀ k, k < nE b wy → (hdO b wy k = h ↔ hF b wy h ≤ k ∧ k < hF b wy (h + 1)) := fun k hk => fsk_in (hdK_st b (sE b wy)) hk
  rw [cN_rng (p := hF b wy h) (q := hF b wy (h + 1)) (by omega) q2 (fun j hj => decide_eq_false (fun z => by have := (inn j (by omega)).mp z.1; omega)) (fun j h1 h2 => decide_eq_false (fun z => by have := (inn j h2).mp z.1; omega))]
  generalize hp : hF b wy h = p at *
  generalize hq : hF b wy (h + 1) = q at *
  have stl := lnK_st b wy (sE b wy)
  -- the first one of a head begins a line
  have fst : p = 0 ∨ lnO b wy (p - 1) ≠ lnO b wy p := by
    by_cases z : p = 0
    · exact Or.inl z
    · right
      obtain ⟨p', rfl⟩ : ∃ p', p = p' + 1 := ⟨p - 1, by omega⟩
      have nh : hdO b wy p' ≠ h := fun e => by have := (inn p' (by omega)).mp e; omega
      have yh : hdO b wy (p' + 1) = h := (inn (p' + 1) (by omega)).mpr ⟨by omega, by omega⟩
      have nl : lw b (sE b wy (p' + 1)) ≠ lw b (sE b wy p') := by
        intro e
        apply nh
        rw [← yh]
        show hdK b (sE b wy) p' = hdK b (sE b wy) (p' + 1)
        rw [hdK, if_pos e]; rfl
      have nc : cW b wy (sE b wy (p' + 1)) (sE b wy p') ≠ 0 := fun e => nl ((cW0 ok wy (hE _ (by omega))).mp e).1
      show lnK b wy (sE b wy) p' ≠ lnK b wy (sE b wy) (p' + 1)
      rw [lnK, if_neg nc]; omega
  have key : ∀ c, p + (c + 1) ≤ q → cN (fun k => decide (hdO b wy k = h ∧ (k = 0 ∨ lnO b wy (k - 1) ≠ lnO b wy k))) (c + 1) p 0 = lnO b wy (p + c) - lnO b wy p + 1 := by
    intro c
    induction c with
    | zero =>
      intro hc
      rw [cN, cN, if_pos (decide_eq_true ⟨(inn p (by omega)).mpr ⟨by omega, by omega⟩, fst⟩)]
      show 1 = lnO b wy p - lnO b wy p + 1
      rw [Nat.sub_self]
    | succ c ih =>
      intro hc
      rw [cN_snoc, ih (by omega)]
      have hd := (inn (p + (c + 1)) (by omega)).mpr ⟨by omega, by omega⟩
      have mo := stl.mo (show p ≤ p + c by omega)
      have st := stl.2 (p + c)
      have mo : lnO b wy p ≤ lnO b wy (p + c) := mo
      have st : lnO b wy (p + c + 1) = lnO b wy (p + c) ∨ lnO b wy (p + c + 1) = lnO b wy (p + c) + 1 := st
      rw [show p + (c + 1) = p + c + 1 by omega] at hd ⊢
      by_cases e : lnO b wy (p + c) = lnO b wy (p + c + 1)
      · rw [if_neg (show ¬ decide (hdO b wy (p + c + 1) = h ∧ (p + c + 1 = 0 ∨ lnO b wy (p + c + 1 - 1) ≠ lnO b wy (p + c + 1))) = true from fun q => by
          rcases (of_decide_eq_true q).2 with z | z
          · omega
          · rw [Nat.add_sub_cancel] at z; exact z e), ← e]
      · rw [if_pos (decide_eq_true ⟨hd, Or.inr (by rw [Nat.add_sub_cancel]; exact e)⟩)]; omega
  have k2 := key (q - p - 1) (by omega)
  rw [show q - p - 1 + 1 = q - p by omega] at k2
  rw [k2]
  congr 3
  omega
theorem S_head : Stp2 (InvD DR) g_X8_head g_X9_head := by
  intro x y σ _ _ ⟨S, r8, r9, ok⟩
  have okB := ok.2.2.2.2.1
  have lH := nH_le (sB S) (bwy (sB S))
  by_cases hx : 0 ≤ x ∧ x < (nH (sB S) (bwy (sB S)) : Int)
  · obtain ⟨h, rfl⟩ := Int.eq_ofNat_of_zero_le hx.1
    have hh : h < nH (sB S) (bwy (sB S)) := by omega
    obtain ⟨q1, q2⟩ := hF_lt hh
    by_cases hy : 0 ≤ y ∧ y ≤ 3
    · refine qry (r := if y = 0 then (lw (sB S) (sE (sB S) (bwy (sB S)) (hF (sB S) (bwy (sB S)) h)) : Int) else if y = 1 then ((lnO (sB S) (bwy (sB S)) (hF (sB S) (bwy (sB S)) (h + 1) - 1) - lnO (sB S) (bwy (sB S)) (hF (sB S) (bwy (sB S)) h) + 1 : Nat) : Int) else if y = 2 then ((hF (sB S) (bwy (sB S)) (h + 1) - hF (sB S) (bwy (sB S)) h : Nat) : Int) else (pc (sts (sB S) (bwy (sB S)) (hdO (sB S) (bwy (sB S))) h) : Int)) ok (fun τ h8 => ?_) (fun τ h9 => ?_) r8 r9
      · obtain ⟨hn, r, v⟩ := v8of h8
        have l1 := sts_lt okB v (hdO (sB S) (bwy (sB S))) h
        obtain ⟨k1, k2, k3, k4, k5, k6⟩ := v.2.2.2.2.2 (hF (sB S) (bwy (sB S)) h) (by omega)
        obtain ⟨j1, j2, j3, j4, j5, j6⟩ := v.2.2.2.2.2 (hF (sB S) (bwy (sB S)) (h + 1) - 1) (by omega)
        have k1 : τ 157 (hF (sB S) (bwy (sB S)) h) = (r (hF (sB S) (bwy (sB S)) h) : Int) := k1
        have j1 : τ 157 (hF (sB S) (bwy (sB S)) (h + 1) - 1) = (r (hF (sB S) (bwy (sB S)) (h + 1) - 1) : Int) := j1
        have f1 : τ 159 h = (hF (sB S) (bwy (sB S)) h : Int) := v.2.2.2.2.1 h (by omega)
        have f2 : τ 159 (h + 1) = (hF (sB S) (bwy (sB S)) (h + 1) : Int) := v.2.2.2.2.1 (h + 1) (by omega)
        have st := (lnK_st (sB S) (bwy (sB S)) (sE (sB S) (bwy (sB S)))).mo (show hF (sB S) (bwy (sB S)) h ≤ hF (sB S) (bwy (sB S)) (h + 1) - 1 by omega)
        have st : lnO (sB S) (bwy (sB S)) (hF (sB S) (bwy (sB S)) h) ≤ lnO (sB S) (bwy (sB S)) (hF (sB S) (bwy (sB S)) (h + 1) - 1) := st
        have lle : lnO (sB S) (bwy (sB S)) (hF (sB S) (bwy (sB S)) (h + 1) - 1) ≤ hF (sB S) (bwy (sB S)) (h + 1) - 1 := (lnK_st (sB S) (bwy (sB S)) (sE (sB S) (bwy (sB S)))).le _
        unfold g_X8_head
        rw [p8_isHead v, if_pos hx, Option.bind_some]
        dsimp only
        rw [if_neg one0, sa_ld_of (by omega) (by omega), Option.bind_some, w32s (by omega), sa_ld_of (by omega) (by omega), Option.bind_some, Int.toNat_natCast, Int.toNat_natCast, f1, f2, show ab_w32 ((hF (sB S) (bwy (sB S)) (h + 1) : Int) - 1) = ((hF (sB S) (bwy (sB S)) (h + 1) - 1 : Nat) : Int) by rw [w32i (by omega) (by omega)]; omega]
        split
        · rw [sa_ld_of (by omega) (by omega), Option.bind_some, Int.toNat_natCast, k1, k2, Option.bind_some, k4.2.2.2.1]
        · split
          · rw [sa_ld_of (by omega) (by omega), Option.bind_some, Int.toNat_natCast, j1, j2, Option.bind_some, sa_ld_of (by omega) (by omega), Option.bind_some, Int.toNat_natCast, k1, k2, Option.bind_some, k5, j5]
            refine congrArg some (Prod.ext ?_ rfl)
            show ab_w32 _ = _
            rw [w32i (x := (lnO (sB S) (bwy (sB S)) (hF (sB S) (bwy (sB S)) (h + 1) - 1) : Int) - (lnO (sB S) (bwy (sB S)) (hF (sB S) (bwy (sB S)) h) : Int)) (by omega) (by omega), w32i (by omega) (by omega)]; omega
          · split
            · refine congrArg some (Prod.ext ?_ rfl)
              show ab_w32 _ = _
              rw [w32i (x := ((hF (sB S) (bwy (sB S)) (h + 1) - 1 : Nat) : Int) - (hF (sB S) (bwy (sB S)) h : Int)) (by omega) (by omega), w32i (by omega) (by omega)]; omega
            · rw [if_pos (by omega), p6_stringsOfHead okB hn v hh, Option.bind_some]
              dsimp only
              rw [jBitCount l1]; rfl
      · obtain ⟨τ1, e1, ⟨hn, o, v⟩, _, e3, e4⟩ := v9of ok h9
        refine ⟨τ1, ?_, e4⟩
        have l1 : sts (sB S) (bwy (sB S)) (hdO (sB S) (bwy (sB S))) h < 4096 := flt_lt _ _ _ (fun j _ h2 => by have := (v.2.2.2.2 j (by omega)).2.2.1.1; have := okB.1; omega) (by decide)
        have key : ∀ (K : Int → Int → Int → Int → st_S → Option (Int × st_S)) (c n k a d : Nat), k + c = nE (sB S) (bwy (sB S)) → a ≤ k → d ≤ k → c < n → g_X9_head_L43 K n (h : Int) y (a : Int) (d : Int) (k : Int) τ1 = K (h : Int) y (cN (fun k => decide (hdO (sB S) (bwy (sB S)) k = h)) c k a : Int) (cN (fun k => decide (hdO (sB S) (bwy (sB S)) k = h ∧ (k = 0 ∨ lnO (sB S) (bwy (sB S)) (k - 1) ≠ lnO (sB S) (bwy (sB S)) k))) c k d : Int) τ1 := by
          intro K c
          induction c with
          | zero =>
            intro n k a d hk ha hd hn
            obtain ⟨m, rfl⟩ : ∃ m, n = m + 1 := ⟨n - 1, by omega⟩
            rw [g_X9_head_L43, v.1, if_pos (by omega), cN, cN]
          | succ c ih =>
            intro n k a d hk ha hd hn'
            obtain ⟨m, rfl⟩ : ∃ m, n = m + 1 := ⟨n - 1, by omega⟩
            obtain ⟨k1, k2, k3, k4, k5, k6⟩ := v.2.2.2.2 k (by omega)
            rw [g_X9_head_L43, v.1, if_neg (by omega), sa_ld_of (by omega) (by omega), Option.bind_some, Int.toNat_natCast, k6, cN, cN]
            unfold g_X9_head_J95 g_X9_head_J100 g_X9_head_J103
            rw [w32s (by omega), w32s (by omega), Int.add_zero, w32i (x := (d : Int)) (by omega) (by omega), w32s (by omega)]
            by_cases e : hdO (sB S) (bwy (sB S)) k = h
            · rw [if_pos (by omega), if_pos (decide_eq_true e)]
              by_cases z : k = 0
              · rw [if_pos (by omega), if_pos (decide_eq_true ⟨e, Or.inl z⟩)]; exact ih m (k + 1) (a + 1) (d + 1) (by omega) (by omega) (by omega) (by omega)
              · have k5' := (v.2.2.2.2 (k - 1) (by omega)).2.2.2.2.1
                rw [if_neg (by omega), show ab_w32 ((k : Int) - 1) = ((k - 1 : Nat) : Int) by rw [w32i (by omega) (by omega)]; omega, sa_ld_of (by omega) (by omega), Option.bind_some, sa_ld_of (by omega) (by omega), Option.bind_some, Int.toNat_natCast, Int.toNat_natCast, k5, k5']
                by_cases z2 : lnO (sB S) (bwy (sB S)) (k - 1) = lnO (sB S) (bwy (sB S)) k
                · rw [if_pos (by omega), if_neg (show ¬ decide (hdO (sB S) (bwy (sB S)) k = h ∧ (k = 0 ∨ lnO (sB S) (bwy (sB S)) (k - 1) ≠ lnO (sB S) (bwy (sB S)) k)) = true from fun q => (of_decide_eq_true q).2.elim z (fun w => w z2))]; exact ih m (k + 1) (a + 1) d (by omega) (by omega) (by omega) (by omega)
                · rw [if_neg (by omega), if_pos (decide_eq_true ⟨e, Or.inr z2⟩)]; exact ih m (k + 1) (a + 1) (d + 1) (by omega) (by omega) (by omega) (by omega)
            · rw [if_neg (by omega), if_neg (show ¬ decide (hdO (sB S) (bwy (sB S)) k = h) = true from fun q => e (of_decide_eq_true q)), if_neg (show ¬ decide (hdO (sB S) (bwy (sB S)) k = h ∧ (k = 0 ∨ lnO (sB S) (bwy (sB S)) (k - 1) ≠ lnO (sB S) (bwy (sB S)) k)) = true from fun q => e (of_decide_eq_true q).1)]; exact ih m (k + 1) a d (by omega) (by omega) (by omega) (by omega)
        unfold g_X9_head
        rw [e1, Option.bind_some, v.2.2.1, w32i (by omega) (by omega), p9_in1 hx.1 (by omega), Option.bind_some]
        dsimp only
        rw [if_neg one0, p9_in1 hy.1 hy.2, Option.bind_some]
        dsimp only
        rw [if_neg one0]
        refine (key _ (nE (sB S) (bwy (sB S))) ab_FU 0 0 0 (by omega) (by omega) (by omega) (by show _ < 100000; omega)).trans ?_
        rw [cN_lines okB (fun k hk => (v.2.2.2.2 k hk).2.2.1) hh, cN_eqs (g := hdO (sB S) (bwy (sB S))) (hdK_st (sB S) (sE (sB S) (bwy (sB S))))]
        split
        · rw [p9_headWord okB hn v hh]; rfl
        · split
          · rfl
          · split
            · rfl
            · rw [p9_stringsUnder okB hn v, Option.bind_some]
              dsimp only
              rw [p9_bits l1]; rfl
    · refine qry (r := -2) ok (fun τ h8 => ?_) (fun τ h9 => ?_) r8 r9
      · obtain ⟨hn, r, v⟩ := v8of h8
        unfold g_X8_head
        rw [p8_isHead v, if_pos hx, Option.bind_some]
        dsimp only
        rw [if_neg one0, sa_ld_of (by omega) (by omega), Option.bind_some, w32s (by omega), sa_ld_of (by omega) (by omega), Option.bind_some, if_neg (by omega), if_neg (by omega), if_neg (by omega), if_neg (by omega)]
      · obtain ⟨τ1, e1, ⟨hn, o, v⟩, _, e3, e4⟩ := v9of ok h9
        refine ⟨τ1, ?_, e4⟩
        unfold g_X9_head
        rw [e1, Option.bind_some, v.2.2.1, w32i (by omega) (by omega), p9_in1 hx.1 (by omega), Option.bind_some]
        dsimp only
        rw [if_neg one0, p9_in0 hy]; rfl
  · refine qry (r := -2) ok (fun τ h8 => ?_) (fun τ h9 => ?_) r8 r9
    · obtain ⟨hn, r, v⟩ := v8of h8
      unfold g_X8_head
      rw [p8_isHead v, if_neg hx]; rfl
    · obtain ⟨τ1, e1, ⟨hn, o, v⟩, _, e3, e4⟩ := v9of ok h9
      refine ⟨τ1, ?_, e4⟩
      unfold g_X9_head
      rw [e1, Option.bind_some, v.2.2.1, w32i (by omega) (by omega), p9_in0 (by omega)]; rfl
