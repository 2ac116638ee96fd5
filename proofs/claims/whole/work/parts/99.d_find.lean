/-! names out of the tape: find, begins -/
theorem lshl_nat {m k : Nat} (hk : k < 64) (h : m <<< k < 9223372036854775808) : ab_lshl (m : Int) (k : Int) = ((m <<< k : Nat) : Int) := by
  unfold ab_lshl
  have e2 : (Int32.ofInt (k : Int)).toInt64 &&& 63 = Int64.ofInt (k : Int) := by
    have : ∀ k : Nat, k < 64 → (Int32.ofInt (k : Int)).toInt64 &&& 63 = Int64.ofInt (k : Int) := by decide +kernel
    exact this k hk
  have e3 : ((Int64.ofInt (k : Int)).toBitVec.smod 64).toNat = k := by
    have : ∀ k : Nat, k < 64 → ((Int64.ofInt (k : Int)).toBitVec.smod 64).toNat = k := by decide +kernel
    exact this k hk
  rw [e2]
  refine i64t h ?_
  rw [Int64.toBitVec_shiftLeft, i64b m, BitVec.shiftLeft_eq', e3]
  apply BitVec.eq_of_toNat_eq
  rw [BitVec.toNat_shiftLeft, BitVec.toNat_ofNat, BitVec.toNat_ofNat, Nat.shiftLeft_eq, Nat.shiftLeft_eq, Nat.mod_mul_mod]
theorem lor_nat {m n : Nat} (hm : m < 9223372036854775808) (hn : n < 9223372036854775808) : ab_lor (m : Int) (n : Int) = ((m ||| n : Nat) : Int) := by
  unfold ab_lor
  refine i64t (Nat.or_lt_two_pow (n := 63) hm hn) ?_
  rw [Int64.toBitVec_or, i64b m, i64b n, BitVec.ofNat_or]
theorem shl5 {m : Nat} (h : m < 34359738368) : ab_lshl (m : Int) 5 = ((32 * m : Nat) : Int) := by
  have := lshl_nat (m := m) (k := 5) (by decide) (by rw [Nat.shiftLeft_eq]; omega)
  rw [Nat.shiftLeft_eq] at this
  rw [show (5 : Int) = ((5 : Nat) : Int) from rfl, this]
  omega
theorem lor5 {m v : Nat} (h : m < 34359738368) (hv : v < 32) : ab_lor ((32 * m : Nat) : Int) (v : Int) = ((32 * m + v : Nat) : Int) := by
  rw [lor_nat (by omega) (by omega)]
  have := Nat.shiftLeft_add_eq_or_of_lt (i := 5) (b := v) hv m
  rw [Nat.shiftLeft_eq] at this
  rw [show 32 * m = m * 2 ^ 5 by omega, ← this]
/-- a letter as a number; the number of the first n letters -/
def ltN (t : Nat → Int) (k : Nat) : Nat := (t k - 96).toNat
def gvN (t : Nat → Int) : Nat → Nat
  | 0 => 0
  | k + 1 => 32 * gvN t k + ltN t k
abbrev isL (x : Int) : Prop := 97 ≤ x ∧ x ≤ 122
/-- all of n bytes are letters -/
def allL (t : Nat → Int) (n : Nat) : Prop := ∀ k, k < n → isL (t k)
theorem gvN_lt {t : Nat → Int} : ∀ n, allL t n → gvN t n < 32 ^ n := by
  intro n
  induction n with
  | zero => intro _; exact Nat.one_pos
  | succ n ih =>
    intro h
    have := ih (fun k hk => h k (by omega))
    have l := h n (by omega)
    unfold isL at l
    rw [gvN, Nat.pow_succ]
    unfold ltN
    omega
theorem gvN_ge {t : Nat → Int} : ∀ n, allL t (n + 1) → 32 ^ n ≤ gvN t (n + 1) := by
  intro n
  induction n with
  | zero =>
    intro h
    have l := h 0 (by omega)
    unfold isL at l
    show 1 ≤ 32 * 0 + ltN t 0
    unfold ltN; omega
  | succ n ih =>
    intro h
    have := ih (fun k hk => h k (by omega))
    rw [gvN, Nat.pow_succ]; omega
theorem p8_grown {σ : st_S} {m : Nat} {x : Int} (hm : m < 34359738368) (hx : isL x) : g_X8_grown (m : Int) x σ = some (((32 * m + (x - 96).toNat : Nat) : Int), σ) := by
  unfold isL at hx
  unfold g_X8_grown
  rw [shl5 hm, w32i (x := x - 97) (by omega) (by omega), w32i (by omega) (by omega), show x - 97 + 1 = (((x - 96).toNat : Nat) : Int) by omega, lor5 hm (by omega)]
theorem p8_isLetter {σ : st_S} (x : Int) : g_X8_isLetter x σ = some (if 97 ≤ x ∧ x ≤ 122 then 1 else 0, σ) := by
  unfold g_X8_isLetter g_X8_isLetter_J16
  by_cases h0 : x < 97
  · rw [if_pos h0, if_neg (by omega)]
  · rw [if_neg h0]
    by_cases h1 : 122 < x
    · rw [if_pos h1, if_neg (by omega)]
    · rw [if_neg h1, if_pos (by omega)]
theorem p8_aligned {σ : st_S} {x d : Nat} (hd : d ≤ 6) (h1 : 1073741824 ≤ x * 32 ^ d) (h2 : x * 32 ^ d < 34359738368) : g_X8_aligned (x : Int) σ = some (((x * 32 ^ d : Nat) : Int), σ) := by
  have key : ∀ (c n i x d : Nat), i + c = 7 → d ≤ c → 1073741824 ≤ x * 32 ^ d → x * 32 ^ d < 34359738368 → c < n → g_X8_aligned_L5 n (x : Int) (i : Int) σ = some (((x * 32 ^ d : Nat) : Int), σ) := by
    intro c
    induction c with
    | zero =>
      intro n i x d hi hd h1 h2 hn
      obtain ⟨m, rfl⟩ : ∃ m, n = m + 1 := ⟨n - 1, by omega⟩
      have : d = 0 := by omega
      subst this
      rw [g_X8_aligned_L5, if_pos (by omega), Nat.pow_zero, Nat.mul_one]
    | succ c ih =>
      intro n i x d hi hd h1 h2 hn
      obtain ⟨m, rfl⟩ : ∃ m, n = m + 1 := ⟨n - 1, by omega⟩
      rw [g_X8_aligned_L5, if_neg (by omega)]
      unfold g_X8_aligned_J24
      rw [w32s (by omega)]
      cases d with
      | zero =>
        rw [Nat.pow_zero, Nat.mul_one] at h1 h2
        rw [if_pos (cmp_ge.mpr (by omega))]
        have := ih m (i + 1) x 0 (by omega) (by omega) (by rw [Nat.pow_zero, Nat.mul_one]; exact h1) (by rw [Nat.pow_zero, Nat.mul_one]; exact h2) (by omega)
        exact this
      | succ d =>
        have e : x * 32 ^ (d + 1) = 32 * x * 32 ^ d := by rw [Nat.pow_succ, Nat.mul_comm (32 ^ d) 32, ← Nat.mul_assoc, Nat.mul_comm x 32]
        rw [e] at h1 h2 ⊢
        have pw : 1 ≤ 32 ^ d := Nat.one_le_pow _ _ (by decide)
        have le : 32 * x ≤ 32 * x * 32 ^ d := Nat.le_mul_of_pos_right _ pw
        rw [if_neg (fun q => by have := cmp_ge.mp q; omega), shl5 (by omega)]
        exact ih m (i + 1) (32 * x) d (by omega) (by omega) h1 h2 (by omega)
  exact key 6 ab_FU 1 x d (by omega) hd h1 h2 (by show _ < 100000; omega)
theorem p8_aligned0 {σ : st_S} : g_X8_aligned 0 σ = some (0, σ) := by
  have key : ∀ (c n i : Nat), i + c = 7 → c < n → g_X8_aligned_L5 n 0 (i : Int) σ = some (0, σ) := by
    intro c
    induction c with
    | zero =>
      intro n i hi hn
      obtain ⟨m, rfl⟩ : ∃ m, n = m + 1 := ⟨n - 1, by omega⟩
      rw [g_X8_aligned_L5, if_pos (by omega)]
    | succ c ih =>
      intro n i hi hn
      obtain ⟨m, rfl⟩ : ∃ m, n = m + 1 := ⟨n - 1, by omega⟩
      rw [g_X8_aligned_L5, if_neg (by omega), if_neg (by decide)]
      unfold g_X8_aligned_J24
      rw [w32s (by omega), show ab_lshl 0 5 = 0 from shl5 (m := 0) (by decide)]
      exact ih m (i + 1) (by omega) (by omega)
  exact key 6 ab_FU 1 (by omega) (by show _ < 100000; omega)
/-- the name that n letters make -/
def nmN (t : Nat → Int) (n : Nat) : Nat := gvN t n * 32 ^ (7 - n)
theorem nmN_in {t : Nat → Int} {n : Nat} (h1 : 1 ≤ n) (h7 : n ≤ 7) (h : allL t n) : 1073741824 ≤ nmN t n ∧ nmN t n < 34359738368 := by
  obtain ⟨m, rfl⟩ : ∃ m, n = m + 1 := ⟨n - 1, by omega⟩
  have a := gvN_ge m h
  have c := gvN_lt (m + 1) h
  unfold nmN
  have e1 : 32 ^ m * 32 ^ (7 - (m + 1)) = 1073741824 := by rw [← Nat.pow_add, show m + (7 - (m + 1)) = 6 by omega]
  have e2 : 32 ^ (m + 1) * 32 ^ (7 - (m + 1)) = 34359738368 := by rw [← Nat.pow_add, show m + 1 + (7 - (m + 1)) = 7 by omega]
  constructor
  · rw [← e1]; exact Nat.mul_le_mul_right _ a
  · rw [← e2]; exact (Nat.mul_lt_mul_right (Nat.pow_pos (by decide))).mpr c
theorem p1_asName {σ : st_S} {t : Nat × (Nat → Int)} (h : By8 σ 2 t) (ht : t.1 ≤ 1200) : g_X1_asName 2 σ = some (if t.1 ≤ 7 ∧ fnd (fun k => decide (¬ isL (t.2 k))) t.1 0 = -1 then (nmN t.2 t.1 : Int) else -1, σ) := by
  obtain ⟨h1, h2⟩ := h
  unfold g_X1_asName
  rw [h1]
  by_cases h7 : t.1 ≤ 7
  · rw [if_pos (by omega)]
    have key : ∀ (K : Int → st_S → Option (Int × st_S)) (c n i : Nat), i + c = t.1 → allL t.2 i → c < n → g_X1_asName_L17 K n 2 (gvN t.2 i : Int) (i : Int) σ = if fnd (fun k => decide (¬ isL (t.2 k))) c i = -1 then K (gvN t.2 t.1 : Int) σ else some (-1, σ) := by
      intro K c
      induction c with
      | zero =>
        intro n i hi ha hn
        obtain ⟨m, rfl⟩ : ∃ m, n = m + 1 := ⟨n - 1, by omega⟩
        have : i = t.1 := by omega
        subst this
        rw [g_X1_asName_L17, h1, if_pos (by omega), fnd, if_pos rfl]
      | succ c ih =>
        intro n i hi ha hn
        obtain ⟨m, rfl⟩ : ∃ m, n = m + 1 := ⟨n - 1, by omega⟩
        have e := h2 i (by omega)
        have e : σ 3 i = t.2 i := e
        have gl := gvN_lt i ha
        have pw : 32 ^ i ≤ 32 ^ 6 := Nat.pow_le_pow_right (by decide) (by omega)
        have gl : gvN t.2 i < 1073741824 := Nat.lt_of_lt_of_le gl pw
        rw [g_X1_asName_L17, h1, if_neg (by omega), show by_n 2 = 1200 from rfl]
        simp only [Nat.reduceAdd]
        rw [sa_ld_of (by omega) (by omega), Option.bind_some, Int.toNat_natCast, e, p8_isLetter, Option.bind_some, fnd]
        dsimp only
        by_cases z : 97 ≤ t.2 i ∧ t.2 i ≤ 122
        · rw [if_pos z, if_neg one0, sa_ld_of (by omega) (by omega), Option.bind_some, Int.toNat_natCast, e, p8_grown (by omega) z, Option.bind_some, w32s (by omega), if_neg (show ¬ decide (¬ isL (t.2 i)) = true from fun q => (of_decide_eq_true q) z)]
          exact ih m (i + 1) (by omega) (fun k hk => by
            by_cases y : k = i
            · rw [y]; exact z
            · exact ha k (by omega)) (by omega)
        · rw [if_neg z, if_pos rfl, if_pos (decide_eq_true z), if_neg (by omega)]
    refine (key _ t.1 ab_FU 0 (by omega) (fun k hk => absurd hk (Nat.not_lt_zero _)) (by show _ < 100000; omega)).trans ?_
    by_cases e : fnd (fun k => decide (¬ isL (t.2 k))) t.1 0 = -1
    · rw [if_pos e, if_pos ⟨h7, e⟩]
      have al : allL t.2 t.1 := fun k hk => by
        have := of_decide_eq_false (fnd_no _ _ e k (by omega) (by omega))
        exact Classical.not_not.mp this
      by_cases z : t.1 = 0
      · rw [z]
        show (g_X8_aligned 0 σ).bind _ = _
        rw [p8_aligned0]
        show some ((0 : Int), σ) = some (((0 * 32 ^ (7 - 0) : Nat) : Int), σ)
        rw [Nat.zero_mul]; rfl
      · obtain ⟨n1, n2⟩ := nmN_in (by omega) h7 al
        rw [p8_aligned (d := 7 - t.1) (by omega) n1 n2]; rfl
    · rw [if_neg e, if_neg (fun q => e q.2)]
  · rw [if_neg (by omega), if_neg (fun q => h7 q.1)]
theorem p9_packed {σ : st_S} {t : Nat → Int} {f n : Nat} (hf : f + n ≤ 1200) (h7 : n ≤ 7) (h : ∀ k, k < n → σ 599 (f + k) = t k) (al : allL t n) : g_X9_packed (f : Int) ((f + n : Nat) : Int) σ = some ((nmN t n : Int), σ) := by
  have key : ∀ (c m k : Nat), k + c = 7 → c < m → g_X9_packed_L5 m (f : Int) ((f + n : Nat) : Int) (if k ≤ n then (gvN t k : Int) else ((gvN t n * 32 ^ (k - n) : Nat) : Int)) (k : Int) σ = some ((nmN t n : Int), σ) := by
    intro c
    induction c with
    | zero =>
      intro m k hk hm
      obtain ⟨m', rfl⟩ : ∃ m', m = m' + 1 := ⟨m - 1, by omega⟩
      rw [g_X9_packed_L5, if_pos (by omega)]
      unfold nmN
      have : k = 7 := by omega
      subst this
      by_cases e : 7 ≤ n
      · have : n = 7 := by omega
        subst this
        rw [if_pos e, Nat.sub_self, Nat.pow_zero, Nat.mul_one]
      · rw [if_neg e]
    | succ c ih =>
      intro m k hk hm
      obtain ⟨m', rfl⟩ : ∃ m', m = m' + 1 := ⟨m - 1, by omega⟩
      have nx := ih m' (k + 1) (by omega) (by omega)
      rw [g_X9_packed_L5, if_neg (by omega), show ab_w32 ((f : Int) + (k : Int)) = ((f + k : Nat) : Int) by rw [w32i (by omega) (by omega)]; omega]
      unfold g_X9_packed_J41
      rw [w32s (by omega)]
      by_cases e : k < n
      · have gl := gvN_lt k (fun j hj => al j (by omega))
        have pw : 32 ^ k ≤ 32 ^ 6 := Nat.pow_le_pow_right (by decide) (by omega)
        have gl : gvN t k < 1073741824 := Nat.lt_of_lt_of_le gl pw
        have ll := al k e
        unfold isL at ll
        rw [if_pos (show k ≤ n by omega), if_neg (by omega), sa_ld_of (by omega) (by omega), Option.bind_some, Int.toNat_natCast, h k e, shl5 (by omega), w32i (x := t k - 97) (by omega) (by omega), w32i (by omega) (by omega), show t k - 97 + 1 = ((ltN t k : Nat) : Int) by unfold ltN; omega, lor5 (by omega) (by unfold ltN; omega)]
        rw [if_pos (show k + 1 ≤ n by omega)] at nx
        exact nx
      · rw [if_pos (by omega)]
        have gl := gvN_lt n al
        have val : (if k ≤ n then (gvN t k : Int) else ((gvN t n * 32 ^ (k - n) : Nat) : Int)) = ((gvN t n * 32 ^ (k - n) : Nat) : Int) := by
          by_cases z : k ≤ n
          · have : k = n := by omega
            subst this
            rw [if_pos z, Nat.sub_self, Nat.pow_zero, Nat.mul_one]
          · rw [if_neg z]
        have bd : gvN t n * 32 ^ (k - n) < 34359738368 := by
          have e2 : 32 ^ n * 32 ^ (k - n) = 32 ^ k := by rw [← Nat.pow_add, show n + (k - n) = k by omega]
          have p6 : 32 ^ k ≤ 32 ^ 7 := Nat.pow_le_pow_right (by decide) (by omega)
          have := (Nat.mul_lt_mul_right (a := 32 ^ (k - n)) (Nat.pow_pos (by decide))).mpr gl
          rw [e2] at this
          exact Nat.lt_of_lt_of_le this p6
        rw [val, shl5 bd, show (0 : Int) = ((0 : Nat) : Int) from rfl, lor5 bd (by decide), Nat.add_zero]
        rw [if_neg (show ¬ k + 1 ≤ n by omega)] at nx
        rw [show 32 * (gvN t n * 32 ^ (k - n)) = gvN t n * 32 ^ (k + 1 - n) by rw [show k + 1 - n = (k - n) + 1 by omega, Nat.pow_succ, Nat.mul_comm 32, Nat.mul_assoc]]
        exact nx
  have := key 7 ab_FU 0 (by omega) (by show _ < 100000; omega)
  rw [if_pos (Nat.zero_le _)] at this
  exact this
/-- the reference: the tape as letters; it is empty then -/
theorem p9_lettersTold {σ : st_S} {t : Nat × (Nat → Int)} (h : Tp9 σ t) (ht : t.1 ≤ 1200) : g_X9_lettersTold σ = some (if t.1 ≤ 7 ∧ fnd (fun k => decide (¬ isL (t.2 k))) t.1 0 = -1 then (t.1 : Int) else -1, up2 σ 596 4 0) := by
  obtain ⟨h1, h2⟩ := h
  have h2' : ∀ k, k < t.1 → up2 σ 596 4 0 599 k = t.2 k := fun k hk => by rw [up2_o _ _ (by decide)]; exact h2 k hk
  have zero : ∀ (K : Int → Int → st_S → Option (Int × st_S)) (n k : Nat) (σ' : st_S), g_X9_lettersTold_L24 K (n + 1) (t.1 : Int) 0 (k : Int) σ' = K (t.1 : Int) 0 σ' := by
    intro K n k σ'
    rw [g_X9_lettersTold_L24]
    split
    · rfl
    · rw [if_pos rfl]
  have key : ∀ (K : Int → Int → st_S → Option (Int × st_S)) (c n k : Nat), k + c = t.1 → c + 1 < n → g_X9_lettersTold_L24 K n (t.1 : Int) 1 (k : Int) (up2 σ 596 4 0) = K (t.1 : Int) (if fnd (fun k => decide (¬ isL (t.2 k))) c k = -1 then 1 else 0) (up2 σ 596 4 0) := by
    intro K c
    induction c with
    | zero =>
      intro n k hk hn
      obtain ⟨m, rfl⟩ : ∃ m, n = m + 1 := ⟨n - 1, by omega⟩
      rw [g_X9_lettersTold_L24, if_pos (by omega), fnd, if_pos rfl]
    | succ c ih =>
      intro n k hk hn
      obtain ⟨m, rfl⟩ : ∃ m, n = m + 1 := ⟨n - 1, by omega⟩
      obtain ⟨m', rfl⟩ : ∃ m', m = m' + 1 := ⟨m - 1, by omega⟩
      rw [g_X9_lettersTold_L24, if_neg (by omega), if_neg one0, sa_ld_of (by omega) (by omega), Option.bind_some, Int.toNat_natCast, h2' k (by omega), p9_in, Option.bind_some, w32s (by omega), fnd]
      dsimp only
      by_cases z : 97 ≤ t.2 k ∧ t.2 k ≤ 122
      · rw [if_pos z, if_neg (show ¬ decide (¬ isL (t.2 k)) = true from fun q => (of_decide_eq_true q) z)]; exact ih (m' + 1) (k + 1) (by omega) (by omega)
      · rw [if_neg z, if_pos (decide_eq_true z), if_neg (by omega)]; exact zero K m' (k + 1) _
  unfold g_X9_lettersTold g_X9_lettersTold_J21 g_X9_lettersTold_J56
  rw [h1, Option.bind_some]
  by_cases h7 : t.1 ≤ 7
  · rw [if_neg (by omega)]
    refine (key _ t.1 ab_FU 0 (by omega) (by show _ < 100000; omega)).trans ?_
    by_cases e : fnd (fun k => decide (¬ isL (t.2 k))) t.1 0 = -1
    · rw [if_pos e, if_neg one0, if_pos ⟨h7, e⟩]
    · rw [if_neg e, if_pos rfl, if_neg (fun q => e q.2)]
  · rw [if_pos (by omega)]
    refine (zero _ 99999 0 _).trans ?_
    rw [if_pos rfl, if_neg (fun q => h7 q.1)]
theorem Rep8.t0 {σ : st_S} {S : SV} (h : Rep8 DR σ S) : Rep8 DR (up2 σ 2 1 0) (withT S (0, (sT S).2)) := h.setT dr_in (fun a h1 _ => up2_o _ _ h1) ⟨up2_at _ _ _ _, fun i hi => absurd hi (Nat.not_lt_zero _)⟩
theorem Rep9.t0 {σ : st_S} {S : SV} (h : Rep9 σ S) : Rep9 (up2 σ 596 4 0) (withT S (0, (sT S).2)) := h.setT (fun a h1 _ => up2_o _ _ h1) (fun f hf => up2_ne _ _ (fun q => hf q.2)) ⟨up2_at _ _ _ _, fun i hi => absurd hi (Nat.not_lt_zero _)⟩
theorem OkS.t0 {S : SV} (ok : OkS S) : OkS (withT S (0, (sT S).2)) := ⟨Nat.zero_le _, fun i hi => absurd hi (Nat.not_lt_zero _), ok.2.2⟩
theorem S_find : Stp0 (InvD DR) g_X8_find g_X9_find := by
  intro σ ⟨S, r8, r9, ok⟩
  have okB := ok.2.2.2.2.1
  have t12 := ok.1
  have wle := wl_le okB
  by_cases hc : (sT S).1 ≤ 7 ∧ fnd (fun k => decide (¬ isL ((sT S).2 k))) (sT S).1 0 = -1
  · have al : allL (sT S).2 (sT S).1 := fun k hk => Classical.not_not.mp (of_decide_eq_false (fnd_no _ _ hc.2 k (by omega) (by omega)))
    by_cases h0 : (sT S).1 = 0
    · refine stp_of dr_in (S' := withT S (0, (sT S).2)) (r := -2) ?_ ?_ ok.t0 r8 r9
      · intro τ h8
        refine ⟨up2 τ 2 1 0, ?_, h8.t0, fun a ha => up2_o _ _ (by omega)⟩
        unfold g_X8_find
        rw [p1_asName h8.1 t12, if_pos hc, Option.bind_some]
        dsimp only
        rw [Option.bind_some, h0, show ((nmN (sT S).2 0 : Nat) : Int) = 0 by show (((0 * 32 ^ (7 - 0) : Nat) : Nat) : Int) = 0; rw [Nat.zero_mul]; rfl, if_neg (by decide), if_pos (by decide)]
      · intro τ h9
        refine ⟨up2 τ 596 4 0, ?_, h9.t0, fun a ha => up2_o _ _ (by omega)⟩
        unfold g_X9_find
        rw [p9_lettersTold h9.1 t12, if_pos hc, Option.bind_some]
        dsimp only
        rw [if_neg (by omega)]
    · obtain ⟨n1, n2⟩ := nmN_in (by omega) hc.1 al
      refine stp_of dr_in (S' := withT S (0, (sT S).2)) (r := fw (wl (sB S)) (us (sB S) (nmN (sT S).2 (sT S).1 : Int))) ?_ ?_ ok.t0 r8 r9
      · intro τ h8
        have h8' := h8.t0
        refine ⟨up2 τ 2 1 0, ?_, h8', fun a ha => up2_o _ _ (by omega)⟩
        obtain ⟨M, hM, _⟩ := h8'.2.2.2.2.2.2.1
        unfold g_X8_find
        rw [p1_asName h8.1 t12, if_pos hc, Option.bind_some]
        dsimp only
        rw [Option.bind_some, if_neg (fun q => by have := cmp_eq.mp q; omega), if_neg (fun q => by have := cmp_eq.mp q; omega), p0_used h8'.2.2.2.1 okB, Option.bind_some]
        dsimp only
        rw [p7_numberOf hM wle]; rfl
      · intro τ h9
        have h9' := h9.t0
        obtain ⟨τ1, e1, e2, e3, e4⟩ := l9w (S := withT S (0, (sT S).2)) ok.t0 h9'
        refine ⟨τ1, ?_, h9'.lay (fun a ha => e4.1 a (by omega)) (fun f hf => e4.2 f hf), fun a ha => by rw [e4.1 a (Or.inl ha), up2_o _ _ (by omega)]⟩
        have tp : ∀ k, k < (sT S).1 → τ1 599 (0 + k) = (sT S).2 k := fun k hk => by rw [e4.1 599 (by omega), up2_o _ _ (by decide), Nat.zero_add]; exact h9.1.2 k hk
        have pk := p9_packed (σ := τ1) (f := 0) (n := (sT S).1) (t := (sT S).2) (by omega) hc.1 tp al
        rw [Nat.zero_add] at pk
        have e3 : RB9 τ1 597 0 (sB S) := e3
        have e2 : Wd9 τ1 (sB S) := e2
        unfold g_X9_find
        rw [p9_lettersTold h9.1 t12, if_pos hc, Option.bind_some]
        dsimp only
        rw [if_pos (by omega), e1, Option.bind_some, show (0 : Int) = ((0 : Nat) : Int) from rfl, pk, Option.bind_some]
        dsimp only
        rw [p9_usedOf e3.s okB, Option.bind_some]
        dsimp only
        rw [p9_findWord e2.1 wle]; rfl
  · refine stp_of dr_in (S' := withT S (0, (sT S).2)) (r := -2) ?_ ?_ ok.t0 r8 r9
    · intro τ h8
      refine ⟨up2 τ 2 1 0, ?_, h8.t0, fun a ha => up2_o _ _ (by omega)⟩
      unfold g_X8_find
      rw [p1_asName h8.1 t12, if_neg hc, Option.bind_some]
      dsimp only
      rw [Option.bind_some, if_pos (by decide)]
    · intro τ h9
      refine ⟨up2 τ 596 4 0, ?_, h9.t0, fun a ha => up2_o _ _ (by omega)⟩
      unfold g_X9_find
      rw [p9_lettersTold h9.1 t12, if_neg hc, Option.bind_some]; rfl
theorem S_begins : Stp1 (InvD DR) g_X8_begins g_X9_begins := by
  intro x σ _ ⟨S, r8, r9, ok⟩
  have okB := ok.2.2.2.2.1
  have t12 := ok.1
  have wle := wl_le okB
  have lH := nH_le (sB S) (bwy (sB S))
  by_cases hc : ((sT S).1 ≤ 7 ∧ fnd (fun k => decide (¬ isL ((sT S).2 k))) (sT S).1 0 = -1) ∧ -1 ≤ x
  · have al : allL (sT S).2 (sT S).1 := fun k hk => Classical.not_not.mp (of_decide_eq_false (fnd_no _ _ hc.1.2 k (by omega) (by omega)))
    generalize hcut : ab_w32 ((5 : Int) * (ab_w32 ((7 : Int) - ((sT S).1 : Int)))) = cut
    let p : Nat → Bool := fun h => decide (ab_lshr ((wl (sB S)).2 (lw (sB S) (sE (sB S) (bwy (sB S)) (hF (sB S) (bwy (sB S)) h)))) cut = ab_lshr (nmN (sT S).2 (sT S).1 : Int) cut)
    refine stp_of dr_in (S' := withT S (0, (sT S).2)) (r := kth p x (nH (sB S) (bwy (sB S))) 0 0) ?_ ?_ ok.t0 r8 r9
    · intro τ h8
      have h8' := h8.t0
      refine ⟨up2 τ 2 1 0, ?_, h8', fun a ha => up2_o _ _ (by omega)⟩
      obtain ⟨hn, r, v⟩ := v8of h8'
      have hW : Wd8 (up2 τ 2 1 0) (sB S) := h8'.2.2.2.2.2.2.1
      have hn : nE (sB S) (bwy (sB S)) ≤ 72 := hn
      have v : V8 (up2 τ 2 1 0) 156 (sB S) (bwy (sB S)) r := v
      generalize hτ : up2 τ 2 1 0 = τ' at *
      have key : ∀ (c n h a : Nat), h + c = nH (sB S) (bwy (sB S)) → a ≤ h → c < n → g_X8_begins_L47 (fun w122_1 w122_5 σx122 => if w122_1 = (-1 : Int) then some (w122_5, σx122) else some ((-1 : Int), σx122)) n x (nmN (sT S).2 (sT S).1 : Int) ((sT S).1 : Int) (a : Int) (h : Int) τ' = some (kth p x c h a, τ') := by
        intro c
        induction c with
        | zero =>
          intro n h a hh ha hn
          obtain ⟨m, rfl⟩ : ∃ m, n = m + 1 := ⟨n - 1, by omega⟩
          rw [g_X8_begins_L47, v.2.2.1, if_pos (by omega), kth]
          split <;> rfl
        | succ c ih =>
          intro n h a hh ha hn'
          obtain ⟨m, rfl⟩ : ∃ m, n = m + 1 := ⟨n - 1, by omega⟩
          obtain ⟨q1, _⟩ := hF_at (show h < nH (sB S) (bwy (sB S)) by omega)
          obtain ⟨k1, k2, k3, k4, k5, k6⟩ := v.2.2.2.2.2 _ q1
          have k1 : τ' 157 (hF (sB S) (bwy (sB S)) h) = (r (hF (sB S) (bwy (sB S)) h) : Int) := k1
          have f1 : τ' 159 h = (hF (sB S) (bwy (sB S)) h : Int) := v.2.2.2.2.1 h (by omega)
          have lt : lw (sB S) (sE (sB S) (bwy (sB S)) (hF (sB S) (bwy (sB S)) h)) < (wl (sB S)).1 := (tw_spec okB k3.1 k3.2).2.1
          rw [g_X8_begins_L47, v.2.2.1, if_neg (by omega), sa_ld_of (by omega) (by omega), Option.bind_some, Int.toNat_natCast, f1, sa_ld_of (by omega) (by omega), Option.bind_some, Int.toNat_natCast, k1, k2, Option.bind_some, k4.2.2.2.1, sa_ld_of (by omega) (by omega), Option.bind_some, Int.toNat_natCast, (hW.m okB lt).1]
          unfold g_X8_beginsWith g_X8_begins_J116
          rw [hcut, kth, w32s (by omega), w32s (by omega)]
          by_cases e : ab_lshr ((wl (sB S)).2 (lw (sB S) (sE (sB S) (bwy (sB S)) (hF (sB S) (bwy (sB S)) h)))) cut = ab_lshr (nmN (sT S).2 (sT S).1 : Int) cut
          · rw [if_pos (cmp_eq.mpr e), Option.bind_some, if_pos (show p h = true from decide_eq_true e)]
            dsimp only
            rw [if_neg one0]
            by_cases z : (a : Int) = x
            · rw [if_pos z, if_pos z]
            · rw [if_neg z, if_neg z]; exact ih m (h + 1) (a + 1) (by omega) (by omega) (by omega)
          · rw [if_neg (fun q => e (cmp_eq.mp q)), Option.bind_some, if_neg (show ¬ p h = true from fun q => e (of_decide_eq_true q))]
            dsimp only
            rw [if_pos rfl]; exact ih m (h + 1) a (by omega) (by omega) (by omega)
      unfold g_X8_begins
      rw [p1_asName h8.1 t12, if_pos hc.1, Option.bind_some]
      dsimp only
      rw [Option.bind_some, if_neg (by omega), if_neg (fun q => by have := cmp_eq.mp q; omega), h8.1.1, hτ]
      exact key _ ab_FU 0 0 (by omega) (by omega) (by show _ < 100000; omega)
    · intro τ h9
      have h9' := h9.t0
      obtain ⟨τ1, e1, ⟨hn, o, v⟩, _, e3, e4⟩ := v9of (S := withT S (0, (sT S).2)) ok.t0 h9'
      refine ⟨τ1, ?_, h9'.lay (fun a ha => e4.1 a (by omega)) (fun f hf => e4.2 f hf), fun a ha => by rw [e4.1 a (Or.inl ha), up2_o _ _ (by omega)]⟩
      have hn : nE (sB S) (bwy (sB S)) ≤ 72 := hn
      have v : V9 τ1 (sB S) (bwy (sB S)) o := v
      have tp : ∀ k, k < (sT S).1 → τ1 599 (0 + k) = (sT S).2 k := fun k hk => by rw [e4.1 599 (by omega), up2_o _ _ (by decide), Nat.zero_add]; exact h9.1.2 k hk
      have pk := p9_packed (σ := τ1) (f := 0) (n := (sT S).1) (t := (sT S).2) (by omega) hc.1.1 tp al
      rw [Nat.zero_add] at pk
      have key : ∀ (c n h a : Nat), h + c = nH (sB S) (bwy (sB S)) → a ≤ h → c < n → g_X9_begins_L43 (fun w95_1 w95_3 σx95 => if w95_1 = (-1 : Int) then some (w95_3, σx95) else some ((-1 : Int), σx95)) n x (a : Int) (nmN (sT S).2 (sT S).1 : Int) cut (h : Int) τ1 = some (kth p x c h a, τ1) := by
        intro c
        induction c with
        | zero =>
          intro n h a hh ha hn
          obtain ⟨m, rfl⟩ : ∃ m, n = m + 1 := ⟨n - 1, by omega⟩
          rw [g_X9_begins_L43, v.2.2.1, if_pos (by omega), kth]
          split <;> rfl
        | succ c ih =>
          intro n h a hh ha hn'
          obtain ⟨m, rfl⟩ : ∃ m, n = m + 1 := ⟨n - 1, by omega⟩
          obtain ⟨q1, _⟩ := hF_at (show h < nH (sB S) (bwy (sB S)) by omega)
          obtain ⟨k1, k2, k3, k4, k5, k6⟩ := v.2.2.2.2 _ q1
          have lt : lw (sB S) (sE (sB S) (bwy (sB S)) (hF (sB S) (bwy (sB S)) h)) < (wl (sB S)).1 := (tw_spec okB k3.1 k3.2).2.1
          rw [g_X9_begins_L43, v.2.2.1, if_neg (by omega), p9_headWord okB hn v (by omega), Option.bind_some]
          dsimp only
          rw [sa_ld_of (by omega) (by omega), Option.bind_some, Int.toNat_natCast, v.2.2.2.1.1.2 _ lt, kth]
          unfold g_X9_begins_J89
          rw [w32s (by omega), w32s (by omega)]
          by_cases e : ab_lshr ((wl (sB S)).2 (lw (sB S) (sE (sB S) (bwy (sB S)) (hF (sB S) (bwy (sB S)) h)))) cut = ab_lshr (nmN (sT S).2 (sT S).1 : Int) cut
          · rw [if_pos (cmp_eq.mpr e), if_pos (show p h = true from decide_eq_true e)]
            by_cases z : (a : Int) = x
            · rw [if_pos z, if_pos z]
            · rw [if_neg z, if_neg z]; exact ih m (h + 1) (a + 1) (by omega) (by omega) (by omega)
          · rw [if_neg (fun q => e (cmp_eq.mp q)), if_neg (show ¬ p h = true from fun q => e (of_decide_eq_true q))]; exact ih m (h + 1) a (by omega) (by omega) (by omega)
      unfold g_X9_begins
      rw [p9_lettersTold h9.1 t12, if_pos hc.1, Option.bind_some]
      dsimp only
      rw [if_neg (by omega), if_pos hc.2, e1, Option.bind_some]
      refine mb_eq pk ?_
      dsimp only
      rw [hcut]
      exact key _ ab_FU 0 0 (by omega) (by omega) (by show _ < 100000; omega)
  · refine stp_of dr_in (S' := withT S (0, (sT S).2)) (r := -2) ?_ ?_ ok.t0 r8 r9
    · intro τ h8
      refine ⟨up2 τ 2 1 0, ?_, h8.t0, fun a ha => up2_o _ _ (by omega)⟩
      unfold g_X8_begins
      rw [p1_asName h8.1 t12, Option.bind_some]
      dsimp only
      rw [Option.bind_some]
      by_cases hx : x < -1
      · rw [if_pos hx]
      · rw [if_neg hx, if_neg (fun q => hc ⟨q, by omega⟩), if_pos (by decide)]
    · intro τ h9
      refine ⟨up2 τ 596 4 0, ?_, h9.t0, fun a ha => up2_o _ _ (by omega)⟩
      unfold g_X9_begins
      rw [p9_lettersTold h9.1 t12, Option.bind_some]
      dsimp only
      by_cases hx : -1 ≤ x
      · rw [if_neg (fun q => hc ⟨q, hx⟩), if_pos rfl]
      · rw [if_neg hx, ite_self]
