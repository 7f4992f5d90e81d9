/-! ===== sets of jobs as bits ===== -/
def bsN (f : Nat → Bool) : Nat → Nat
  | 0 => 0
  | j + 1 => bsN f j + if f j then 2 ^ j else 0
theorem bsN_lt (f : Nat → Bool) : ∀ n : Nat, bsN f n < 2 ^ n := by
  intro n
  induction n with
  | zero => simp [bsN]
  | succ n ih =>
    simp only [bsN]
    have h2 : 2 ^ (n + 1) = 2 ^ n + 2 ^ n := by rw [Nat.pow_succ]; omega
    split <;> omega
theorem p2lt {a b : Nat} (h : a ≤ b) : 2 ^ a ≤ 2 ^ b := Nat.pow_le_pow_right (by decide) h
theorem bsN_lt12 (f : Nat → Bool) {n : Nat} (hn : n ≤ 12) : bsN f n < 4096 := Nat.lt_of_lt_of_le (bsN_lt f n) (by have := p2lt hn; exact this)
theorem bsN_bit (f : Nat → Bool) : ∀ n i : Nat, (bsN f n).testBit i = (decide (i < n) && f i) := by
  intro n
  induction n with
  | zero => intro i; simp [bsN]
  | succ n ih =>
    intro i
    simp only [bsN]
    have hl := bsN_lt f n
    by_cases hf : f n = true
    · rw [if_pos hf, Nat.add_comm]
      rcases Nat.lt_trichotomy i n with h | h | h
      · rw [Nat.testBit_two_pow_add_gt h, ih]
        simp [h, Nat.lt_succ_of_lt h]
      · subst h
        rw [Nat.testBit_two_pow_add_eq, ih]
        simp [hf]
      · have e2 : 2 ^ (n + 1) = 2 ^ n + 2 ^ n := by rw [Nat.pow_succ]; omega
        have e3 : 2 ^ n + bsN f n < 2 ^ (n + 1) := by omega
        rw [Nat.testBit_lt_two_pow (Nat.lt_of_lt_of_le e3 (p2lt h))]
        simp [Nat.not_lt.mpr (show n + 1 ≤ i from h)]
    · rw [if_neg hf, Nat.add_zero, ih]
      by_cases e : i = n
      · subst e; simp [hf]
      · by_cases h : i < n
        · simp [h, Nat.lt_succ_of_lt h]
        · simp [h, show ¬ i < n + 1 by omega]
theorem bsN_eq {f : Nat → Bool} {n r : Nat} (h : r < 2 ^ n) (hb : ∀ i, i < n → r.testBit i = f i) : r = bsN f n := by
  apply Nat.eq_of_testBit_eq
  intro i
  rw [bsN_bit]
  by_cases c : i < n
  · rw [hb i c]; simp [c]
  · rw [Nat.testBit_lt_two_pow (Nat.lt_of_lt_of_le h (p2lt (by omega)))]; simp [c]
theorem bsN_cong {f g : Nat → Bool} {n : Nat} (h : ∀ i, i < n → f i = g i) : bsN f n = bsN g n :=
  bsN_eq (bsN_lt f n) (fun i hi => by rw [bsN_bit]; simp [hi, h i hi])
theorem i32n {v : Int32} {r : Nat} (h : v.toBitVec.toNat = r) (hr : r < 2147483648) : v.toInt = (r : Int) := by
  show v.toBitVec.toInt = _
  rw [BitVec.toInt_eq_toNat_of_lt (by omega), h]
theorem i32o {a : Nat} (h : a < 2147483648) : (Int32.ofInt (a : Int)).toBitVec.toNat = a := by
  show (BitVec.ofInt 32 (a : Int)).toNat = a
  rw [BitVec.ofInt_natCast, BitVec.toNat_ofNat]
  omega
theorem bnd_n {a b : Nat} (ha : a < 2147483648) (hb : b < 2147483648) : bnd (a : Int) (b : Int) = ((a &&& b : Nat) : Int) := by
  unfold bnd
  refine i32n ?_ (Nat.lt_of_le_of_lt Nat.and_le_left ha)
  rw [Int32.toBitVec_and, BitVec.toNat_and, i32o ha, i32o hb]
theorem bor_n {a b : Nat} (ha : a < 2147483648) (hb : b < 2147483648) : bor (a : Int) (b : Int) = ((a ||| b : Nat) : Int) := by
  unfold bor
  refine i32n ?_ (Nat.or_lt_two_pow (n := 31) ha hb)
  rw [Int32.toBitVec_or, BitVec.toNat_or, i32o ha, i32o hb]
/-- a without b -/
def ndn (a b : Nat) : Nat := a ^^^ (a &&& b)
theorem ndn_bit (a b i : Nat) : (ndn a b).testBit i = (a.testBit i && !b.testBit i) := by
  unfold ndn
  rw [Nat.testBit_xor, Nat.testBit_and]
  cases a.testBit i <;> cases b.testBit i <;> rfl
theorem ndn_lt {a b k : Nat} (h : a < 2 ^ k) : ndn a b < 2 ^ k := Nat.xor_lt_two_pow h (Nat.lt_of_le_of_lt Nat.and_le_left h)
theorem bndx_n {a b : Nat} (ha : a < 2147483648) (hb : b < 2147483648) : bnd (a : Int) (bxr (b : Int) (-1)) = ((ndn a b : Nat) : Int) := by
  unfold bnd bxr
  rw [iI_toInt32]
  refine i32n ?_ (ndn_lt (k := 31) ha)
  rw [Int32.toBitVec_and, BitVec.toNat_and, Int32.toBitVec_xor, BitVec.toNat_xor, i32o ha, i32o hb]
  have e : (Int32.ofInt (-1)).toBitVec.toNat = 2 ^ 32 - 1 := by decide
  rw [e]
  apply Nat.eq_of_testBit_eq
  intro i
  rw [ndn_bit, Nat.testBit_and, Nat.testBit_xor, Nat.testBit_two_pow_sub_one]
  by_cases c : i < 32
  · simp [c]
  · rw [Nat.testBit_lt_two_pow (x := a) (Nat.lt_of_lt_of_le ha (show 2147483648 ≤ 2 ^ i from p2lt (a := 31) (by omega)))]
    simp
theorem sl31 : ∀ n : Nat, n < 32 → ((Int32.ofInt (n : Int) &&& 31).toBitVec.smod 32).toNat = n := by decide +kernel
theorem bsl_1 : ∀ j : Nat, j < 31 → bsl 1 (j : Int) = ((2 ^ j : Nat) : Int) := by decide +kernel
theorem bsr_n {a j : Nat} (ha : a < 2147483648) (hj : j < 32) : bsr (a : Int) (j : Int) = ((a / 2 ^ j : Nat) : Int) := by
  unfold bsr
  show (Int32.ofInt (a : Int) >>> (Int32.ofInt (j : Int) &&& 31)).toBitVec.toInt = _
  rw [Int32.toBitVec_shiftRight]
  show ((Int32.ofInt (a : Int)).toBitVec.sshiftRight ((Int32.ofInt (j : Int) &&& 31).toBitVec.smod 32).toNat).toInt = _
  rw [sl31 j hj, BitVec.toInt_sshiftRight]
  show (Int32.ofInt (a : Int)).toInt >>> j = _
  rw [iI_toInt (by omega), Int.shiftRight_eq_div_pow]
  rfl
theorem bit1 {a j : Nat} (ha : a < 2147483648) (hj : j < 32) : bnd (bsr (a : Int) (j : Int)) 1 = if a.testBit j then 1 else 0 := by
  rw [bsr_n ha hj]
  have h := bnd_n (a := a / 2 ^ j) (b := 1) (Nat.lt_of_le_of_lt (Nat.div_le_self _ _) ha) (by decide)
  have h2 : ((1 : Nat) : Int) = 1 := rfl
  rw [h2] at h
  rw [h, Nat.and_one_is_mod]
  rw [Nat.testBit_eq_decide_div_mod_eq]
  by_cases c : a / 2 ^ j % 2 = 1
  · rw [c]; simp
  · rw [show a / 2 ^ j % 2 = 0 by omega]; simp
theorem bsr_0 {a j : Nat} (ha : a < 2147483648) (hj : j < 32) (h : bsr (a : Int) (j : Int) = 0) {i : Nat} (hi : j ≤ i) : a.testBit i = false := by
  rw [bsr_n ha hj] at h
  have h1 : a / 2 ^ j = 0 := by omega
  have h2 := Nat.testBit_div_two_pow (n := j) (i := i - j) a
  rw [h1, show i - j + j = i by omega] at h2
  simpa using h2.symm
