/-! questions: what they leave -/
def L9 (σ σ' : st_S) : Prop := (∀ a, (a < 596 ∨ a = 597 ∨ a = 599 ∨ a = 609 ∨ a = 614) → σ' a = σ a) ∧ ∀ f, (f = 4 ∨ f = 10 ∨ f = 11 ∨ f = 28 ∨ f = 34) → σ' 596 f = σ 596 f
theorem L9.rfl' {σ : st_S} : L9 σ σ := ⟨fun _ _ => rfl, fun _ _ => rfl⟩
theorem L9.trans {σ σ1 σ2 : st_S} (h : L9 σ σ1) (h2 : L9 σ1 σ2) : L9 σ σ2 := ⟨fun a x => by rw [h2.1 a x, h.1 a x], fun x y => by rw [h2.2 x y, h.2 x y]⟩
theorem G9.l9 {σ σ' : st_S} (h : G9 σ σ') : L9 σ σ' := ⟨fun a ha => h.1 a (by omega), fun f hf => h.2 f (by omega)⟩
theorem qry {c m : st_S → Option (Int × st_S)} {S : SV} {r : Int} (ok : OkS S) (h8 : ∀ τ, Rep8 DR τ S → c τ = some (r, τ)) (h9 : ∀ τ, Rep9 τ S → ∃ τ', m τ = some (r, τ') ∧ L9 τ τ') {σ : st_S} (r8 : Rep8 DR σ S) (r9 : Rep9 σ S) :
    ∃ (r : Int) (σ1 σ2 : st_S), c σ = some (r, σ1) ∧ m σ1 = some (r, σ2) ∧ InvD DR σ2 :=
  stp_of dr_in (S' := S) (r := r) (fun τ h => ⟨τ, h8 τ h, h, fun _ _ => rfl⟩) (fun τ h => by
    obtain ⟨τ', e, l⟩ := h9 τ h
    exact ⟨τ', e, h.lay (fun a ha => l.1 a (by omega)) (fun f hf => l.2 f hf), fun a ha => l.1 a (Or.inl ha)⟩) ok r8 r9
/-! letters of a name -/
def ltr (x : Int) (i : Nat) : Int := x / 2 ^ (5 * (6 - i)) % 32
theorem i64b (m : Nat) : (Int64.ofInt (m : Int)).toBitVec = BitVec.ofNat 64 m := by
  rw [Int64.toBitVec_ofInt]
  exact BitVec.ofInt_natCast 64 m
theorem i64t {x : Int64} {m : Nat} (h : m < 9223372036854775808) (e : x.toBitVec = BitVec.ofNat 64 m) : x.toInt = (m : Int) := by
  rw [← Int64.toInt_toBitVec, e, BitVec.toInt_eq_toNat_of_lt (by rw [BitVec.toNat_ofNat]; omega), BitVec.toNat_ofNat]
  omega
theorem lshr_nat {m k : Nat} (hm : m < 9223372036854775808) (hk : k < 64) : ab_lshr (m : Int) (k : Int) = ((m >>> k : Nat) : Int) := by
  unfold ab_lshr
  have e2 : (Int32.ofInt (k : Int)).toInt64 &&& 63 = Int64.ofInt (k : Int) := by
    have : ∀ k : Nat, k < 64 → (Int32.ofInt (k : Int)).toInt64 &&& 63 = Int64.ofInt (k : Int) := by decide +kernel
    exact this k hk
  have e3 : ((Int64.ofInt (k : Int)).toBitVec.smod 64).toNat = k := by
    have : ∀ k : Nat, k < 64 → ((Int64.ofInt (k : Int)).toBitVec.smod 64).toNat = k := by decide +kernel
    exact this k hk
  rw [e2]
  have l : m >>> k < 9223372036854775808 := Nat.lt_of_le_of_lt (Nat.shiftRight_le m k) hm
  refine i64t l ?_
  rw [Int64.toBitVec_shiftRight, i64b m]
  apply BitVec.eq_of_toNat_eq
  rw [BitVec.toNat_sshiftRight'_of_msb_false (by rw [BitVec.msb_eq_decide, BitVec.toNat_ofNat]; apply decide_eq_false; omega), e3]
  rw [BitVec.toNat_ofNat, BitVec.toNat_ofNat, Nat.mod_eq_of_lt (by omega), Nat.mod_eq_of_lt (by omega)]
theorem land31 {m : Nat} (hm : m < 9223372036854775808) : ab_land (m : Int) 31 = ((m % 32 : Nat) : Int) := by
  unfold ab_land
  refine i64t (by omega) ?_
  rw [Int64.toBitVec_and, i64b m, show Int64.ofInt 31 = Int64.ofInt ((31 : Nat) : Int) from rfl, i64b 31, ← BitVec.ofNat_and]
  exact congrArg _ (Nat.and_two_pow_sub_one_eq_mod m 5)
theorem and31 {m : Nat} : ab_and (ab_w32 (m : Int)) 31 = ((m % 32 : Nat) : Int) := by
  unfold ab_and
  rw [ab_of32]
  refine i32t (by omega) ?_
  have e : (Int32.ofInt (m : Int)).toBitVec = BitVec.ofNat 32 m := by rw [Int32.toBitVec_ofInt]; exact BitVec.ofInt_natCast 32 m
  rw [Int32.toBitVec_and, e, show (Int32.ofInt 31).toBitVec = BitVec.ofNat 32 31 from rfl, ← BitVec.ofNat_and]
  exact congrArg _ (Nat.and_two_pow_sub_one_eq_mod m 5)
theorem ltr_nat {m i : Nat} : ltr (m : Int) i = ((m >>> (5 * (6 - i)) % 32 : Nat) : Int) := by
  unfold ltr
  rw [Nat.shiftRight_eq_div_pow]
  simp only [Int.natCast_emod, Int.natCast_ediv, Int.natCast_pow]
  rfl
theorem ltr_in (x : Int) (i : Nat) : 0 ≤ ltr x i ∧ ltr x i < 32 := by unfold ltr; omega
theorem ix5 {i : Nat} (hi : i < 7) : ab_w32 ((5 : Int) * (ab_w32 ((6 : Int) - (i : Int)))) = ((5 * (6 - i) : Nat) : Int) := by
  rw [w32i (x := (6 : Int) - (i : Int)) (by omega) (by omega), w32i (by omega) (by omega)]; omega
theorem p8_letterOf {σ : st_S} {x : Int} (hx : isNm x) {i : Nat} (hi : i < 7) : g_X8_letterOf x (i : Int) σ = some (ltr x i, σ) := by
  obtain ⟨m, rfl⟩ := Int.eq_ofNat_of_zero_le hx.1
  have hm : m < 34359738368 := by have := hx.2; omega
  unfold g_X8_letterOf
  rw [ix5 hi, lshr_nat (by omega) (by omega), and31, ltr_nat]
theorem p9_letterOf {σ : st_S} {x : Int} (hx : isNm x) {i : Nat} (hi : i < 7) : g_X9_letterOf x (i : Int) σ = some (ltr x i, σ) := by
  obtain ⟨m, rfl⟩ := Int.eq_ofNat_of_zero_le hx.1
  have hm : m < 34359738368 := by have := hx.2; omega
  have hl : m >>> (5 * (6 - i)) ≤ m := Nat.shiftRight_le _ _
  unfold g_X9_letterOf
  rw [ix5 hi, lshr_nat (by omega) (by omega), land31 (by omega), ltr_nat, w32i (by omega) (by omega)]
def ltc (x : Int) : Nat → Nat → Nat → Nat
  | 0, _, a => a
  | c + 1, i, a => ltc x c (i + 1) (if ltr x i = 0 then a else a + 1)
theorem p8_lettersOf {σ : st_S} {x : Int} (hx : isNm x) : g_X8_lettersOf x σ = some ((ltc x 7 0 0 : Int), σ) := by
  have key : ∀ (c n i a : Nat), i + c = 7 → a ≤ i → c < n → g_X8_lettersOf_L4 n x (a : Int) (i : Int) σ = some ((ltc x c i a : Int), σ) := by
    intro c
    induction c with
    | zero =>
      intro n i a hi ha hn
      obtain ⟨m, rfl⟩ : ∃ m, n = m + 1 := ⟨n - 1, by omega⟩
      rw [g_X8_lettersOf_L4, if_pos (by omega), ltc]
    | succ c ih =>
      intro n i a hi ha hn
      obtain ⟨m, rfl⟩ : ∃ m, n = m + 1 := ⟨n - 1, by omega⟩
      have q := ltr_in x i
      rw [g_X8_lettersOf_L4, if_neg (by omega), p8_letterOf hx (by omega), Option.bind_some, ltc]
      unfold g_X8_lettersOf_J21
      dsimp only
      by_cases e : ltr x i = 0
      · rw [if_pos e, if_pos e, w32s (by omega)]; exact ih m (i + 1) a (by omega) (by omega) (by omega)
      · rw [if_neg e, if_neg e, w32s (by omega), w32s (by omega)]; exact ih m (i + 1) (a + 1) (by omega) (by omega) (by omega)
  exact key 7 ab_FU 0 0 (by omega) (by omega) (by show _ < 100000; omega)
theorem p9_lettersOf {σ : st_S} {x : Int} (hx : isNm x) : g_X9_lettersOf x σ = some ((ltc x 7 0 0 : Int), σ) := by
  have key : ∀ (c n i a : Nat), i + c = 7 → a ≤ i → c < n → g_X9_lettersOf_L4 n x (a : Int) (i : Int) σ = some ((ltc x c i a : Int), σ) := by
    intro c
    induction c with
    | zero =>
      intro n i a hi ha hn
      obtain ⟨m, rfl⟩ : ∃ m, n = m + 1 := ⟨n - 1, by omega⟩
      rw [g_X9_lettersOf_L4, if_pos (by omega), ltc]
    | succ c ih =>
      intro n i a hi ha hn
      obtain ⟨m, rfl⟩ : ∃ m, n = m + 1 := ⟨n - 1, by omega⟩
      have q := ltr_in x i
      rw [g_X9_lettersOf_L4, if_neg (by omega), p9_letterOf hx (by omega), Option.bind_some, ltc]
      unfold g_X9_lettersOf_J24
      dsimp only
      by_cases e : ltr x i = 0
      · rw [if_pos (by omega), if_pos e, Int.add_zero, w32i (x := (a : Int)) (by omega) (by omega), w32s (by omega)]; exact ih m (i + 1) a (by omega) (by omega) (by omega)
      · rw [if_neg (by omega), if_neg e, w32s (by omega), w32s (by omega)]; exact ih m (i + 1) (a + 1) (by omega) (by omega) (by omega)
  exact key 7 ab_FU 0 0 (by omega) (by omega) (by show _ < 100000; omega)
theorem S_letter : Stp2 (InvD DR) g_X8_letter g_X9_letter := by
  intro x y σ _ _ ⟨S, r8, r9, ok⟩
  have okB := ok.2.2.2.2.1
  have wle := wl_le okB
  refine qry (r := if (0 ≤ x ∧ x < ((wl (sB S)).1 : Int)) ∧ 0 ≤ y ∧ y ≤ 6 then ltr ((wl (sB S)).2 x.toNat) y.toNat else -2) ok ?_ ?_ r8 r9
  · intro τ h8
    have hW := h8.2.2.2.2.2.2.1
    unfold g_X8_letter
    rw [p8_isWord hW, Option.bind_some]
    dsimp only
    by_cases hx : 0 ≤ x ∧ x < ((wl (sB S)).1 : Int)
    · rw [if_pos hx, if_neg one0]
      obtain ⟨j, rfl⟩ := Int.eq_ofNat_of_zero_le hx.1
      obtain ⟨M, hM, _⟩ := hW
      have hj : j < (wl (sB S)).1 := by omega
      by_cases hy : 0 ≤ y ∧ y ≤ 6
      · obtain ⟨i, rfl⟩ := Int.eq_ofNat_of_zero_le hy.1
        rw [if_neg (by omega), if_pos (by omega), sa_ld_of (by omega) (by omega), Option.bind_some, Int.toNat_natCast, (hM.2 j hj).1, p8_letterOf (wl_nm okB hj).1.1 (by omega), if_pos ⟨hx, hy⟩]; rfl
      · rw [if_neg (show ¬ ((0 ≤ (j : Int) ∧ (j : Int) < ((wl (sB S)).1 : Int)) ∧ 0 ≤ y ∧ y ≤ 6) from fun q => hy q.2)]
        by_cases h0 : y < 0
        · rw [if_pos h0]
        · rw [if_neg h0, if_neg (by omega)]
    · rw [if_neg hx, if_neg (show ¬ ((0 ≤ x ∧ x < ((wl (sB S)).1 : Int)) ∧ 0 ≤ y ∧ y ≤ 6) from fun q => hx q.1)]; rfl
  · intro τ h9
    obtain ⟨τ1, e1, e2, e3⟩ := p9_isWordNow okB h9.2.2.2.1 x
    refine ⟨τ1, ?_, e3.l9⟩
    unfold g_X9_letter g_X9_letter_J33
    rw [e1, Option.bind_some]
    dsimp only
    by_cases hx : 0 ≤ x ∧ x < ((wl (sB S)).1 : Int)
    · rw [if_pos hx, if_neg one0]
      obtain ⟨j, rfl⟩ := Int.eq_ofNat_of_zero_le hx.1
      have hj : j < (wl (sB S)).1 := by omega
      by_cases hy : 0 ≤ y ∧ y ≤ 6
      · obtain ⟨i, rfl⟩ := Int.eq_ofNat_of_zero_le hy.1
        rw [p9_in1 hy.1 hy.2, Option.bind_some]
        dsimp only
        rw [if_neg one0, sa_ld_of (by omega) (by omega), Option.bind_some, Int.toNat_natCast, e2.1.2 j hj, p9_letterOf (wl_nm okB hj).1.1 (by omega), if_pos ⟨hx, hy⟩]; rfl
      · rw [if_neg (show ¬ ((0 ≤ (j : Int) ∧ (j : Int) < ((wl (sB S)).1 : Int)) ∧ 0 ≤ y ∧ y ≤ 6) from fun q => hy q.2), p9_in0 hy, Option.bind_some]; rfl
    · rw [if_neg hx, if_neg (show ¬ ((0 ≤ x ∧ x < ((wl (sB S)).1 : Int)) ∧ 0 ≤ y ∧ y ≤ 6) from fun q => hx q.1)]; rfl
theorem S_term : Stp3 (InvD DR) g_X8_term g_X9_term := by
  intro x y z σ _ _ _ ⟨S, r8, r9, ok⟩
  have okB := ok.2.2.2.2.1
  have o1 := okB.1
  by_cases hx : (0 ≤ x ∧ x < (bn (sB S) : Int)) ∧ 0 ≤ y ∧ y < (bsz (sB S) x.toNat : Int)
  · obtain ⟨s, rfl⟩ := Int.eq_ofNat_of_zero_le hx.1.1
    obtain ⟨i, rfl⟩ := Int.eq_ofNat_of_zero_le hx.2.1
    have hs : s < bn (sB S) := by omega
    have hi : i < bsz (sB S) s := by have := hx.2.2; rw [Int.toNat_natCast] at this; omega
    have o2 := okB.2.1 s hs
    have o4 := okB.2.2.2.1 s hs i hi
    have nm := un_nm okB hs hi
    refine qry (r := if z = 0 then btm (sB S) 0 s i else if z = 1 then btm (sB S) 1 s i else if z = 2 then (tw (sB S) s i : Int) else if z = 3 then (ltc (un (sB S) 3 s i) 7 0 0 : Int) else if z = 4 then (ltc (un (sB S) 4 s i) 7 0 0 : Int) else -2) ok ?_ ?_ r8 r9
    · intro τ h8
      have e0 : τ 16 (6 * s + i) = btm (sB S) 0 s i := h8.2.2.2.1.2.2.1 s hs i hi 0 (by decide)
      have e1 : τ 17 (6 * s + i) = btm (sB S) 1 s i := h8.2.2.2.1.2.2.1 s hs i hi 1 (by decide)
      have t8 := (h8.2.2.2.2.2.2.2.1.2 s hs).2 i hi
      unfold g_X8_term
      rw [p8_isTerm h8.2.2.2.1 okB, if_pos hx, Option.bind_some]
      dsimp only
      rw [if_neg one0, w6 (by omega) (by omega)]
      split
      · rw [sa_ld_of (by omega) (by omega), Option.bind_some, Int.toNat_natCast, e0]
      · split
        · rw [sa_ld_of (by omega) (by omega), Option.bind_some, Int.toNat_natCast, e1]
        · split
          · rw [sa_ld_of (by omega) (by omega), Option.bind_some, Int.toNat_natCast, t8.2.1]
          · split
            · rw [sa_ld_of (by omega) (by omega), Option.bind_some, Int.toNat_natCast, t8.2.2.1, p8_lettersOf nm.2.1]; rfl
            · split
              · rw [sa_ld_of (by omega) (by omega), Option.bind_some, Int.toNat_natCast, t8.2.2.2, p8_lettersOf nm.2.2]; rfl
              · rfl
    · intro τ h9
      by_cases hz : 0 ≤ z ∧ z ≤ 4
      · obtain ⟨τ1, a1, a2, a3⟩ := p9_words okB h9.2.2.2.1
        have B1 := h9.2.2.2.1.fr (a3.1 597 (by omega))
        refine ⟨τ1, ?_, a3.l9⟩
        unfold g_X9_term
        rw [p9_isTerm h9.2.2.2.1 okB, if_pos hx, Option.bind_some]
        dsimp only
        rw [if_neg one0, p9_in1 hz.1 hz.2, Option.bind_some]
        dsimp only
        rw [if_neg one0, a1, Option.bind_some, p9_termAt (by omega) (by omega), Option.bind_some]
        dsimp only
        split
        · rw [p9_roleOf B1 okB hs hi]; rfl
        · split
          · rw [p9_doesLead B1 okB hs hi, Option.bind_some]
            dsimp only
            rcases o4.2.1 with q | q
            · rw [q, if_pos rfl]
            · rw [q, if_neg one0]
          · split
            · rw [p9_place (by omega) (by omega), Option.bind_some]
              dsimp only
              rw [sa_ld_of (by omega) (by omega), Option.bind_some, Int.toNat_natCast, a2.2 s hs i hi]
            · split
              · have e := B1.2.2.1 s hs i hi 3 (by decide)
                rw [show ab_w32 (((34 + 32 * s + 5 * i : Nat) : Int) + 3) = ((0 + 34 + 32 * s + 5 * i + 3 : Nat) : Int) by rw [w32i (by omega) (by omega)]; omega, sa_ld_of (by omega) (by omega), Option.bind_some, Int.toNat_natCast, e, p9_usedOf B1.s okB, Option.bind_some]
                dsimp only
                rw [show us (sB S) (btm (sB S) 3 s i) = un (sB S) 3 s i from rfl, p9_lettersOf nm.2.1]; rfl
              · have e := B1.2.2.1 s hs i hi 4 (by decide)
                rw [show ab_w32 (((34 + 32 * s + 5 * i : Nat) : Int) + 4) = ((0 + 34 + 32 * s + 5 * i + 4 : Nat) : Int) by rw [w32i (by omega) (by omega)]; omega, sa_ld_of (by omega) (by omega), Option.bind_some, Int.toNat_natCast, e, p9_usedOf B1.s okB, Option.bind_some, if_pos (by omega)]
                dsimp only
                rw [show us (sB S) (btm (sB S) 4 s i) = un (sB S) 4 s i from rfl, p9_lettersOf nm.2.2]; rfl
      · refine ⟨τ, ?_, L9.rfl'⟩
        unfold g_X9_term
        rw [p9_isTerm h9.2.2.2.1 okB, if_pos hx, Option.bind_some]
        dsimp only
        rw [if_neg one0, p9_in0 hz, Option.bind_some, if_neg (show ¬ z = 0 by omega), if_neg (show ¬ z = 1 by omega), if_neg (show ¬ z = 2 by omega), if_neg (show ¬ z = 3 by omega), if_neg (show ¬ z = 4 by omega)]; rfl
  · refine qry (r := -2) ok ?_ ?_ r8 r9
    · intro τ h8
      unfold g_X8_term
      rw [p8_isTerm h8.2.2.2.1 okB, if_neg hx, Option.bind_some]; rfl
    · intro τ h9
      refine ⟨τ, ?_, L9.rfl'⟩
      unfold g_X9_term
      rw [p9_isTerm h9.2.2.2.1 okB, if_neg hx, Option.bind_some]; rfl
