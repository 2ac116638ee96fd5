/-! sets as bits -/
theorem i32b (m : Nat) (h : m < 2147483648) : (Int32.ofInt (m : Int)).toBitVec = BitVec.ofNat 32 m := by
  rw [Int32.toBitVec_ofInt]
  exact BitVec.ofInt_natCast 32 m
theorem i32t {x : Int32} {m : Nat} (h : m < 2147483648) (e : x.toBitVec = BitVec.ofNat 32 m) : x.toInt = (m : Int) := by
  rw [← Int32.toInt_toBitVec, e, BitVec.toInt_eq_toNat_of_lt (by rw [BitVec.toNat_ofNat]; omega), BitVec.toNat_ofNat]
  omega
theorem or_lt {m n : Nat} (hm : m < 2147483648) (hn : n < 2147483648) : m ||| n < 2147483648 := Nat.or_lt_two_pow (n := 31) hm hn
theorem and_lt {m n : Nat} (hm : m < 2147483648) : m &&& n < 2147483648 := Nat.lt_of_le_of_lt Nat.and_le_left hm
theorem or_nat {m n : Nat} (hm : m < 2147483648) (hn : n < 2147483648) : ab_or (m : Int) (n : Int) = ((m ||| n : Nat) : Int) := by
  unfold ab_or
  refine i32t (or_lt hm hn) ?_
  rw [Int32.toBitVec_or, i32b m hm, i32b n hn, BitVec.ofNat_or]
theorem and_nat {m n : Nat} (hm : m < 2147483648) (hn : n < 2147483648) : ab_and (m : Int) (n : Int) = ((m &&& n : Nat) : Int) := by
  unfold ab_and
  refine i32t (and_lt hm) ?_
  rw [Int32.toBitVec_and, i32b m hm, i32b n hn, BitVec.ofNat_and]
/-- what is in m and not in n -/
def andn (m n : Nat) : Nat := m ^^^ (m &&& n)
theorem andn_lt {m n : Nat} (hm : m < 2147483648) : andn m n < 2147483648 := Nat.xor_lt_two_pow (n := 31) hm (and_lt hm)
theorem andn_bit (m n i : Nat) : (andn m n).testBit i = (m.testBit i && !n.testBit i) := by
  unfold andn
  rw [Nat.testBit_xor, Nat.testBit_and]
  cases m.testBit i <;> cases n.testBit i <;> rfl
theorem andn_nat {m n : Nat} (hm : m < 2147483648) (hn : n < 2147483648) : ab_and (m : Int) (ab_xor (n : Int) (-1)) = ((andn m n : Nat) : Int) := by
  unfold ab_and ab_xor
  refine i32t (andn_lt hm) ?_
  rw [Int32.ofInt_toInt, Int32.toBitVec_and, Int32.toBitVec_xor, i32b m hm, i32b n hn]
  apply BitVec.eq_of_getLsbD_eq
  intro i hi
  have e1 : (Int32.ofInt (-1)).toBitVec = BitVec.allOnes 32 := by decide
  rw [e1, BitVec.getLsbD_and, BitVec.getLsbD_xor, BitVec.getLsbD_ofNat, BitVec.getLsbD_ofNat, BitVec.getLsbD_ofNat, BitVec.getLsbD_allOnes, andn_bit]
  simp only [hi, decide_true, Bool.true_and]
  cases m.testBit i <;> cases n.testBit i <;> rfl
theorem shl1 {s : Nat} (h : s < 31) : ab_shl 1 (s : Int) = ((2 ^ s : Nat) : Int) := by
  have : ∀ s : Nat, s < 31 → ab_shl 1 (s : Int) = ((2 ^ s : Nat) : Int) := by decide +kernel
  exact this s h
theorem shr_nat {m i : Nat} (hm : m < 2147483648) (hi : i < 32) : ab_shr (m : Int) (i : Int) = ((m >>> i : Nat) : Int) := by
  unfold ab_shr
  have e2 : Int32.ofInt (i : Int) &&& 31 = Int32.ofInt (i : Int) := by
    have : ∀ i : Nat, i < 32 → Int32.ofInt (i : Int) &&& 31 = Int32.ofInt (i : Int) := by decide +kernel
    exact this i hi
  have e3 : ((Int32.ofInt (i : Int)).toBitVec.smod 32).toNat = i := by
    have : ∀ i : Nat, i < 32 → ((Int32.ofInt (i : Int)).toBitVec.smod 32).toNat = i := by decide +kernel
    exact this i hi
  rw [e2]
  have l : m >>> i < 2147483648 := Nat.lt_of_le_of_lt (Nat.shiftRight_le m i) hm
  refine i32t l ?_
  rw [Int32.toBitVec_shiftRight, i32b m hm]
  apply BitVec.eq_of_toNat_eq
  rw [BitVec.toNat_sshiftRight'_of_msb_false (by rw [BitVec.msb_eq_decide, BitVec.toNat_ofNat]; apply decide_eq_false; omega), e3]
  rw [BitVec.toNat_ofNat, BitVec.toNat_ofNat, Nat.mod_eq_of_lt (by omega), Nat.mod_eq_of_lt (by omega)]
theorem bit_nat {m i : Nat} (hm : m < 2147483648) (hi : i < 32) : ab_and (ab_shr (m : Int) (i : Int)) 1 = if m.testBit i = true then 1 else 0 := by
  rw [shr_nat hm hi, show (1 : Int) = ((1 : Nat) : Int) from rfl, and_nat (Nat.lt_of_le_of_lt (Nat.shiftRight_le m i) hm) (by decide)]
  rw [Nat.and_one_is_mod, Nat.testBit_eq_decide_div_mod_eq, Nat.shiftRight_eq_div_pow]
  by_cases h : m / 2 ^ i % 2 = 1
  · rw [if_pos (decide_eq_true h), h]
  · rw [if_neg (by simpa using h)]; have : m / 2 ^ i % 2 = 0 := by omega
    rw [this]; rfl
/-- how many are in a set of at most 12 -/
def pcN : Nat → Nat → Nat
  | 0, _ => 0
  | c + 1, m => m % 2 + pcN c (m / 2)
def pc (m : Nat) : Nat := pcN 12 m
theorem pc_le (m : Nat) : pc m ≤ 12 := by
  have : ∀ c m, pcN c m ≤ c := by
    intro c
    induction c with
    | zero => intro m; exact Nat.le_refl _
    | succ c ih => intro m; rw [pcN]; have := ih (m / 2); omega
  exact this 12 m
theorem jBitCount {m : Nat} (h : m < 4096) (σ : st_S) : g_J6_bitCount_0f7a4 (m : Int) σ = some ((pc m : Int), σ) := by
  have key : ∀ a, a < 64 → ∀ b, b < 64 → (g_J6_bitCount_0f7a4 ((64 * a + b : Nat) : Int) (fun _ _ => 0)).map (fun q => q.1) = some ((pc (64 * a + b) : Nat) : Int) := by decide +kernel
  have k := key (m / 64) (by omega) (m % 64) (by omega)
  rw [Nat.div_add_mod] at k
  have e : g_J6_bitCount_0f7a4 (m : Int) σ = ((g_J6_bitCount_0f7a4 (m : Int) (fun _ _ => 0)).map (fun q => q.1)).map (fun x => (x, σ)) := rfl
  rw [e, k]; rfl
theorem p9_bits_L {σ : st_S} : ∀ (c n : Nat) (m v : Nat), m < 4096 → pc m ≤ c → v + c ≤ 100 → c < n → g_X9_bits_L4 n (v : Int) (m : Int) σ = some (((v + pc m : Nat) : Int), σ) := by
  have key : ∀ m, m < 4096 → m ≠ 0 → pc (m &&& (m - 1)) + 1 = pc m := by
    have key : ∀ a, a < 64 → ∀ b, b < 64 → 64 * a + b ≠ 0 → pc ((64 * a + b) &&& (64 * a + b - 1)) + 1 = pc (64 * a + b) := by decide +kernel
    intro m hm
    have k := key (m / 64) (by omega) (m % 64) (by omega)
    rw [Nat.div_add_mod] at k; exact k
  have key0 : ∀ m, m < 4096 → pc m = 0 → m = 0 := by
    have key : ∀ a, a < 64 → ∀ b, b < 64 → pc (64 * a + b) = 0 → 64 * a + b = 0 := by decide +kernel
    intro m hm
    have k := key (m / 64) (by omega) (m % 64) (by omega)
    rw [Nat.div_add_mod] at k; exact k
  intro c
  induction c with
  | zero =>
    intro n m v hm hp hv hn
    obtain ⟨k, rfl⟩ : ∃ k, n = k + 1 := ⟨n - 1, by omega⟩
    have := key0 m hm (by omega)
    subst this
    rw [g_X9_bits_L4, if_pos (by omega)]; rfl
  | succ c ih =>
    intro n m v hm hp hv hn
    obtain ⟨k, rfl⟩ : ∃ k, n = k + 1 := ⟨n - 1, by omega⟩
    rw [g_X9_bits_L4]
    by_cases h0 : m = 0
    · subst h0; rw [if_pos (by omega)]; rfl
    · have q := key m hm h0
      rw [if_neg (by omega), w32s (by omega), show ab_w32 ((m : Int) - 1) = ((m - 1 : Nat) : Int) by unfold ab_w32; omega, and_nat (by omega) (by omega)]
      rw [ih k (m &&& (m - 1)) (v + 1) (Nat.lt_of_le_of_lt Nat.and_le_left hm) (by omega) (by omega) (by omega)]
      refine congrArg some (Prod.ext ?_ rfl)
      show ((v + 1 + pc (m &&& (m - 1)) : Nat) : Int) = ((v + pc m : Nat) : Int)
      omega
theorem p9_bits {σ : st_S} {m : Nat} (hm : m < 4096) : g_X9_bits (m : Int) σ = some ((pc m : Int), σ) := by
  have := p9_bits_L (σ := σ) 12 ab_FU m 0 hm (pc_le m) (by omega) (by show _ < 100000; omega)
  rw [Nat.zero_add] at this
  exact this
