/-! ===== rounding of doubles: how far a sum, a quotient is from the exact one ===== -/
section
/-- the datum of bits -/
abbrev dv (a : UInt64) : FP.Core.Datum := FP.Core.decode FP.Core.b64 a.toNat
theorem b64_qmin : FP.Core.b64.qmin = -1074 := by decide +kernel
theorem b64_qmax : FP.Core.b64.qmax = 971 := by decide +kernel
theorem b64_p : FP.Core.b64.p = 53 := rfl
theorem b64_tails : FP.Core.b64.tails = 4503599627370496 := by decide +kernel
theorem b64_exps : FP.Core.b64.exps = 2048 := by decide +kernel
abbrev ft (c : Nat) (q : Int) : Prop := c < 9007199254740992 ∧ -1074 ≤ q ∧ q ≤ 971 ∧ (q = -1074 ∨ 4503599627370496 ≤ c)
theorem asm_f {s : Bool} {e t : Nat} (he : e < 2048) (ht : t < 4503599627370496) :
    FP.Core.fieldT FP.Core.b64 (FP.Core.assemble FP.Core.b64 s e t) = t ∧ FP.Core.fieldE FP.Core.b64 (FP.Core.assemble FP.Core.b64 s e t) = e ∧ FP.Core.fieldS FP.Core.b64 (FP.Core.assemble FP.Core.b64 s e t) = s ∧ FP.Core.assemble FP.Core.b64 s e t < 18446744073709551616 := by
  unfold FP.Core.fieldT FP.Core.fieldE FP.Core.fieldS FP.Core.assemble
  rw [b64_tails, b64_exps]
  cases s
  · simp only [Bool.toNat_false]
    refine ⟨by omega, by omega, ?_, by omega⟩
    rw [show ((0 * 2048 + e) * 4503599627370496 + t) / 4503599627370496 / 2048 % 2 = 0 by omega]; rfl
  · simp only [Bool.toNat_true]
    refine ⟨by omega, by omega, ?_, by omega⟩
    rw [show ((1 * 2048 + e) * 4503599627370496 + t) / 4503599627370496 / 2048 % 2 = 1 by omega]; rfl
theorem dec_enc {s : Bool} {c : Nat} {q : Int} (h : ft c q) : dv (UInt64.ofNat (FP.Core.encode FP.Core.b64 (.fin s c q))) = .fin s c q := by
  obtain ⟨h1, h2, h3, h4⟩ := h
  show FP.Core.decode FP.Core.b64 (UInt64.ofNat (FP.Core.encode FP.Core.b64 (.fin s c q))).toNat = _
  unfold FP.Core.encode
  show FP.Core.decode FP.Core.b64 (UInt64.ofNat (if c < FP.Core.b64.tails then _ else _)).toNat = _
  rw [b64_tails, b64_qmin]
  by_cases hc : c < 4503599627370496
  · rw [if_pos hc]
    obtain ⟨a1, a2, a3, a4⟩ := asm_f (s := s) (e := 0) (t := c) (by omega) hc
    rw [UInt64.toNat_ofNat_of_lt' a4]
    unfold FP.Core.decode
    rw [a1, a2, a3, b64_exps, b64_qmin, if_neg (by omega), if_pos rfl, show q = -1074 by omega]
  · rw [if_neg hc]
    obtain ⟨a1, a2, a3, a4⟩ := asm_f (s := s) (e := (q - -1074).toNat + 1) (t := c - 4503599627370496) (by omega) (by omega)
    rw [UInt64.toNat_ofNat_of_lt' a4]
    unfold FP.Core.decode
    rw [a1, a2, a3, b64_exps, b64_qmin, b64_tails, if_neg (by omega), if_neg (by omega), show 4503599627370496 + (c - 4503599627370496) = c by omega, show (-1074 : Int) + ((((q - -1074).toNat + 1 : Nat) : Int) - 1) = q by omega]
theorem ld_is {num den : Nat} (hn : 0 < num) (hn2 : num < 2 ^ 3000) (hd : 0 < den) (hd2 : den < 2 ^ 3000) :
    (-3001 ≤ FP.Core.leading num den ∧ FP.Core.leading num den ≤ 3001) ∧ den * 2 ^ (FP.Core.leading num den + 8000).toNat ≤ num * 2 ^ 8000 ∧ num * 2 ^ 8000 < den * 2 ^ (FP.Core.leading num den + 8001).toNat := by
  have a1 : 2 ^ num.log2 ≤ num := Nat.log2_self_le (by omega)
  have a2 : num < 2 ^ (num.log2 + 1) := Nat.lt_log2_self
  have a3 : num.log2 < 3000 := (Nat.log2_lt (by omega)).mpr hn2
  have b1 : 2 ^ den.log2 ≤ den := Nat.log2_self_le (by omega)
  have b2 : den < 2 ^ (den.log2 + 1) := Nat.lt_log2_self
  have b3 : den.log2 < 3000 := (Nat.log2_lt (by omega)).mpr hd2
  clear hn2 hd2
  unfold FP.Core.leading
  generalize num.log2 = x at *
  generalize den.log2 = y at *
  obtain ⟨k, hk⟩ : ∃ k : Int, k = (x : Int) - (y : Int) := ⟨_, rfl⟩
  simp only [← hk]
  have sc : ∀ n : Nat, n * 2 ^ k.toNat * 2 ^ (8000 - (-k).toNat) = n * 2 ^ (k + 8000).toNat := fun n => by
    rw [Nat.mul_assoc, ← Nat.pow_add]; congr 2; omega
  have sc' : ∀ n : Nat, n * 2 ^ (-k).toNat * 2 ^ (8000 - (-k).toNat) = n * 2 ^ 8000 := fun n => by
    rw [Nat.mul_assoc, ← Nat.pow_add]; congr 2; omega
  have hp := Nat.two_pow_pos (8000 - (-k).toNat)
  split
  · rename_i h
    refine ⟨by omega, ?_, ?_⟩
    · rw [← sc, ← sc']; exact Nat.mul_le_mul_right _ h
    · have e : 2 ^ (x + 1) * 2 ^ 8000 = 2 ^ y * 2 ^ (k + 8001).toNat := by rw [← Nat.pow_add, ← Nat.pow_add]; congr 1; omega
      exact Nat.lt_of_lt_of_le (Nat.mul_lt_mul_of_pos_right a2 (Nat.two_pow_pos _)) (Nat.le_trans (Nat.le_of_eq e) (Nat.mul_le_mul_right _ b1))
  · rename_i h
    refine ⟨by omega, ?_, ?_⟩
    · have e : 2 ^ (y + 1) * 2 ^ (k - 1 + 8000).toNat = 2 ^ x * 2 ^ 8000 := by rw [← Nat.pow_add, ← Nat.pow_add]; congr 1; omega
      exact Nat.le_trans (Nat.mul_le_mul_right _ (Nat.le_of_lt b2)) (Nat.le_trans (Nat.le_of_eq e) (Nat.mul_le_mul_right _ a1))
    · rw [show (k - 1 + 8001).toNat = (k + 8000).toNat by omega, ← sc, ← sc']
      exact Nat.mul_lt_mul_of_pos_right (by omega) hp
theorem near_b {N D : Nat} (hD : 0 < D) : 2 * (FP.Core.nearest N D * D) ≤ 2 * N + D ∧ 2 * N ≤ 2 * (FP.Core.nearest N D * D) + D ∧ N / D ≤ FP.Core.nearest N D ∧ FP.Core.nearest N D ≤ N / D + 1 := by
  have e := Nat.div_add_mod N D
  have m := Nat.mod_lt N hD
  have hc : D * (N / D) = N / D * D := Nat.mul_comm _ _
  have h2 : N / D % 2 ≤ 1 := by omega
  unfold FP.Core.nearest
  generalize N / D = z at *
  generalize N % D = w at *
  split
  · exact ⟨by omega, by omega, by omega, by omega⟩
  · split
    · rw [Nat.add_mul, Nat.one_mul]; exact ⟨by omega, by omega, by omega, by omega⟩
    · have : z % 2 = 0 ∨ z % 2 = 1 := by omega
      rcases this with q | q
      · rw [q, Nat.add_zero]; exact ⟨by omega, by omega, by omega, by omega⟩
      · rw [q, Nat.add_mul, Nat.one_mul]; exact ⟨by omega, by omega, by omega, by omega⟩
def gE : Nat := 2 ^ 1150
def gU : Nat := 2 ^ 1200
theorem gE_U : gU = 1125899906842624 * gE := by unfold gU gE; decide +kernel
theorem gE_pos : 0 < gE := Nat.two_pow_pos _
/-- a magnitude below 16, rounded: off by 2^-50 at most -/
theorem rr_ok {s : Bool} {num den : Nat} {e : Int} (hn : 0 < num) (hn2 : num < 2 ^ 3000) (hd : 0 < den) (hd2 : den < 2 ^ 3000) (he : -1200 ≤ e ∧ e ≤ 1200) (hlt : num * 2 ^ (e + 1200).toNat < den * (16 * gU)) :
    ∃ c q, FP.Core.roundRatio FP.Core.b64 s num den e = .fin s c q ∧ ft c q ∧ num * 2 ^ (e + 1200).toNat ≤ den * (c * 2 ^ (q + 1200).toNat) + den * gE ∧ den * (c * 2 ^ (q + 1200).toNat) ≤ num * 2 ^ (e + 1200).toNat + den * gE := by
  obtain ⟨l0, l1, l2⟩ := ld_is hn hn2 hd hd2
  clear hn2 hd2
  have h4 : FP.Core.leading num den + e ≤ 3 := by
    refine Decidable.byContradiction fun hc => ?_
    have x1 : den * 2 ^ (FP.Core.leading num den + 8000).toNat * 2 ^ (e + 1200).toNat ≤ num * 2 ^ (e + 1200).toNat * 2 ^ 8000 := by rw [Nat.mul_right_comm num]; exact Nat.mul_le_mul_right _ l1
    have x2 : num * 2 ^ (e + 1200).toNat * 2 ^ 8000 < den * (16 * gU) * 2 ^ 8000 := Nat.mul_lt_mul_of_pos_right hlt (Nat.two_pow_pos _)
    have x3 : den * (16 * gU) * 2 ^ 8000 ≤ den * 2 ^ (FP.Core.leading num den + 8000).toNat * 2 ^ (e + 1200).toNat := by
      rw [show 16 * gU = 2 ^ 1204 by unfold gU; decide +kernel, Nat.mul_assoc, Nat.mul_assoc, ← Nat.pow_add, ← Nat.pow_add]
      exact Nat.mul_le_mul_left _ (Nat.pow_le_pow_right (by decide) (by omega))
    omega
  have hq : FP.Core.quantum FP.Core.b64 num den e = max (-1074) (FP.Core.leading num den + e - 52) := by
    unfold FP.Core.quantum; rw [b64_qmin, b64_p]; rfl
  have hr : FP.Core.roundRatio FP.Core.b64 s num den e = FP.Core.roundAt FP.Core.b64 s num den e (FP.Core.quantum FP.Core.b64 num den e) := by
    unfold FP.Core.roundRatio; rw [if_neg (by omega)]
  rw [hr]
  generalize FP.Core.quantum FP.Core.b64 num den e = q at *
  generalize FP.Core.leading num den = L at *
  have q1 : -1074 ≤ q := by omega
  have q2 : q ≤ -49 := by omega
  unfold FP.Core.roundAt FP.Core.unitsNum FP.Core.unitsDen
  obtain ⟨t, ht⟩ : ∃ t, t = (1200 + min e q).toNat := ⟨_, rfl⟩
  have eN : num * 2 ^ (e - q).toNat * 2 ^ t = num * 2 ^ (e + 1200).toNat := by rw [Nat.mul_assoc, ← Nat.pow_add]; congr 2; omega
  have eD : den * 2 ^ (q - e).toNat * 2 ^ t = den * 2 ^ (q + 1200).toNat := by rw [Nat.mul_assoc, ← Nat.pow_add]; congr 2; omega
  have hD : 0 < den * 2 ^ (q - e).toNat := Nat.mul_pos hd (Nat.two_pow_pos _)
  have htp := Nat.two_pow_pos t
  have h8 := Nat.two_pow_pos 8000
  -- below 2^53
  have u1 : num * 2 ^ (e - q).toNat < 9007199254740992 * (den * 2 ^ (q - e).toNat) := by
    refine Nat.lt_of_mul_lt_mul_right (a := 2 ^ t) ?_
    rw [eN, Nat.mul_assoc, eD]
    refine Nat.lt_of_mul_lt_mul_right (a := 2 ^ 8000) ?_
    have x1 : num * 2 ^ 8000 * 2 ^ (e + 1200).toNat < den * 2 ^ (L + 8001).toNat * 2 ^ (e + 1200).toNat := Nat.mul_lt_mul_of_pos_right l2 (Nat.two_pow_pos _)
    have x2 : den * 2 ^ (L + 8001).toNat * 2 ^ (e + 1200).toNat ≤ 9007199254740992 * (den * 2 ^ (q + 1200).toNat) * 2 ^ 8000 := by
      rw [show (9007199254740992 : Nat) = 2 ^ 53 by decide, Nat.mul_left_comm, Nat.mul_assoc, Nat.mul_assoc, ← Nat.pow_add, ← Nat.pow_add, ← Nat.pow_add]
      exact Nat.mul_le_mul_left _ (Nat.pow_le_pow_right (by decide) (by omega))
    rw [Nat.mul_right_comm num]
    omega
  have u2 : q = -1074 ∨ 4503599627370496 * (den * 2 ^ (q - e).toNat) ≤ num * 2 ^ (e - q).toNat := by
    by_cases hm : q = -1074
    · exact Or.inl hm
    · refine Or.inr (Nat.le_of_mul_le_mul_right (c := 2 ^ t) ?_ htp)
      rw [eN, Nat.mul_assoc, eD]
      refine Nat.le_of_mul_le_mul_right (c := 2 ^ 8000) ?_ h8
      have x1 : den * 2 ^ (L + 8000).toNat * 2 ^ (e + 1200).toNat ≤ num * 2 ^ 8000 * 2 ^ (e + 1200).toNat := Nat.mul_le_mul_right _ l1
      have x2 : 4503599627370496 * (den * 2 ^ (q + 1200).toNat) * 2 ^ 8000 = den * 2 ^ (L + 8000).toNat * 2 ^ (e + 1200).toNat := by
        rw [show (4503599627370496 : Nat) = 2 ^ 52 by decide, Nat.mul_left_comm, Nat.mul_assoc, Nat.mul_assoc, ← Nat.pow_add, ← Nat.pow_add, Nat.mul_assoc, ← Nat.pow_add]
        congr 2; omega
      rw [Nat.mul_right_comm num, x2]
      exact x1
  obtain ⟨n1, n2, n3, n4⟩ := near_b (N := num * 2 ^ (e - q).toNat) hD
  have u3 : num * 2 ^ (e - q).toNat / (den * 2 ^ (q - e).toNat) < 9007199254740992 := (Nat.div_lt_iff_lt_mul hD).mpr u1
  have u4 : q = -1074 ∨ 4503599627370496 ≤ num * 2 ^ (e - q).toNat / (den * 2 ^ (q - e).toNat) := u2.imp id fun h => (Nat.le_div_iff_mul_le hD).mpr h
  have y1 := Nat.mul_le_mul_right (2 ^ t) n1
  have y2 := Nat.mul_le_mul_right (2 ^ t) n2
  clear n1 n2 u1 u2 l1 l2 hlt
  generalize FP.Core.nearest (num * 2 ^ (e - q).toNat) (den * 2 ^ (q - e).toNat) = c at *
  generalize num * 2 ^ (e - q).toNat / (den * 2 ^ (q - e).toNat) = z at *
  have w : c * (den * 2 ^ (q - e).toNat) * 2 ^ t = den * (c * 2 ^ (q + 1200).toNat) := by rw [Nat.mul_assoc, eD, Nat.mul_left_comm]
  have hg : den * 2 ^ (q + 1200).toNat ≤ 2 * (den * gE) := by
    rw [Nat.mul_left_comm, show 2 * gE = 2 ^ 1151 by unfold gE; decide +kernel]
    exact Nat.mul_le_mul_left _ (Nat.pow_le_pow_right (by decide) (by omega))
  rw [Nat.add_mul, Nat.mul_assoc, Nat.mul_assoc 2, w, eN, eD] at y1
  rw [Nat.add_mul, Nat.mul_assoc, Nat.mul_assoc 2, w, eN, eD] at y2
  have fin : ∀ c' q', c' * 2 ^ (q' + 1200).toNat = c * 2 ^ (q + 1200).toNat → ft c' q' → ∃ c q, FP.Core.Datum.fin s c' q' = .fin s c q ∧ ft c q ∧ num * 2 ^ (e + 1200).toNat ≤ den * (c * 2 ^ (q + 1200).toNat) + den * gE ∧ den * (c * 2 ^ (q + 1200).toNat) ≤ num * 2 ^ (e + 1200).toNat + den * gE := fun c' q' he hf =>
    ⟨c', q', rfl, hf, by rw [he]; omega, by rw [he]; omega⟩
  unfold FP.Core.settle
  rw [b64_p, b64_tails]
  by_cases hc : c < 2 ^ 53
  · rw [if_pos hc]
    unfold FP.Core.bound
    rw [b64_qmax, if_pos (by omega)]
    exact fin c q rfl ⟨hc, q1, by omega, by omega⟩
  · rw [if_neg hc]
    have hc' : c = 9007199254740992 := by omega
    unfold FP.Core.bound
    rw [b64_qmax, if_pos (by omega)]
    refine fin _ _ ?_ ⟨by decide, by omega, by omega, Or.inr (by decide)⟩
    rw [hc', show (q + 1 + 1200).toNat = (q + 1200).toNat + 1 by omega, Nat.pow_succ]
    omega
end
