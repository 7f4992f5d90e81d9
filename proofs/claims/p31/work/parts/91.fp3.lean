/-! ===== doubles with a value: whole numbers, sums, quotients ===== -/
section
theorem sgd_mul (s : Bool) (c k : Nat) : FP.Core.signed s (c * k) = FP.Core.signed s c * (k : Int) := by
  cases s <;> simp [FP.Core.signed, Int.neg_mul]
/-- a datum of z units of 2^-1200 -/
def FDd (d : FP.Core.Datum) (z : Int) : Prop := ∃ s c q, d = .fin s c q ∧ ft c q ∧ FP.Core.signed s (c * 2 ^ (q + 1200).toNat) = z
abbrev FD (a : UInt64) (z : Int) : Prop := FDd (dv a) z
theorem FD_n64 {a : UInt64} {z : Int} (h : FD a z) : vf_n64 a := by
  obtain ⟨s, c, q, e, -, -⟩ := h
  have hg : fpG FP.Core.b64 a.toNat := by
    unfold fpG
    rw [b64_exps, b64_tails]
    refine Decidable.byContradiction fun hc => ?_
    have : dv a = .nan := by
      show FP.Core.decode FP.Core.b64 a.toNat = _
      unfold FP.Core.decode FP.Core.fieldE FP.Core.fieldT
      rw [b64_exps, b64_tails, if_pos (by omega), if_neg (by omega)]
    rw [this] at e
    exact FP.Core.Datum.noConfusion e
  have := n64_of hg
  rwa [UInt64.ofNat_toNat] at this
theorem FDd_neg {d : FP.Core.Datum} {z : Int} (h : FDd d z) : FDd (FP.Core.negate d) (-z) := by
  obtain ⟨s, c, q, rfl, h2, rfl⟩ := h
  exact ⟨!s, c, q, rfl, h2, by cases s <;> simp [FP.Core.signed]⟩
theorem FD_sum {x y : FP.Core.Datum} {a b : Int} (hx : FDd x a) (hy : FDd y b) (hr : -(16 * (gU : Int)) < a + b ∧ a + b < 16 * (gU : Int)) :
    ∃ z, FD (UInt64.ofNat (FP.Core.encode FP.Core.b64 (FP.Core.round FP.Core.b64 (FP.Core.exactSum x y)))) z ∧ a + b - gE ≤ z ∧ z ≤ a + b + gE := by
  obtain ⟨s, c, q, rfl, hf, rfl⟩ := hx
  obtain ⟨t, d, r, rfl, hg, rfl⟩ := hy
  obtain ⟨-, q1, q2, -⟩ := hf
  obtain ⟨-, r1, r2, -⟩ := hg
  have hE := gE_pos
  obtain ⟨m, hm⟩ : ∃ m, m = min q r := ⟨_, rfl⟩
  show ∃ z, FD (UInt64.ofNat (FP.Core.encode FP.Core.b64 (FP.Core.roundRatio FP.Core.b64 (FP.Core.sumSign s t (FP.Core.sumUnits s c q t d r (min q r))) (FP.Core.sumUnits s c q t d r (min q r)).natAbs 1 (min q r)))) z ∧ _ ∧ _
  rw [← hm]
  have e1 : c * 2 ^ (q + 1200).toNat = FP.Core.inUnits c q m * 2 ^ (m + 1200).toNat := by
    unfold FP.Core.inUnits; rw [Nat.mul_assoc, ← Nat.pow_add]; congr 2; omega
  have e2 : d * 2 ^ (r + 1200).toNat = FP.Core.inUnits d r m * 2 ^ (m + 1200).toNat := by
    unfold FP.Core.inUnits; rw [Nat.mul_assoc, ← Nat.pow_add]; congr 2; omega
  have e3 : FP.Core.signed s (c * 2 ^ (q + 1200).toNat) + FP.Core.signed t (d * 2 ^ (r + 1200).toNat) = FP.Core.sumUnits s c q t d r m * ((2 ^ (m + 1200).toNat : Nat) : Int) := by
    rw [e1, e2, sgd_mul, sgd_mul, ← Int.add_mul]; rfl
  rw [e3] at hr ⊢
  generalize FP.Core.sumUnits s c q t d r m = v at *
  clear e1 e2 e3
  have hP := Nat.two_pow_pos (m + 1200).toNat
  by_cases hv : v = 0
  · subst hv
    have : FP.Core.roundRatio FP.Core.b64 (FP.Core.sumSign s t 0) (0 : Int).natAbs 1 m = .fin (FP.Core.sumSign s t 0) 0 (-1074) := by
      unfold FP.Core.roundRatio; rw [if_pos (show (0 : Int).natAbs = 0 from rfl), b64_qmin]
    rw [this]
    refine ⟨0, ?_, by rw [Int.zero_mul]; omega, by rw [Int.zero_mul]; omega⟩
    have hf0 : ft 0 (-1074) := ⟨by omega, by omega, by omega, Or.inl rfl⟩
    exact ⟨FP.Core.sumSign s t 0, 0, -1074, dec_enc hf0, hf0, by rw [Nat.zero_mul]; cases FP.Core.sumSign s t 0 <;> rfl⟩
  · have hn : 0 < v.natAbs := by omega
    have hab : ((v.natAbs * 2 ^ (m + 1200).toNat : Nat) : Int) < 16 * (gU : Int) := by
      rw [Int.natCast_mul]
      by_cases hs : v < 0
      · rw [show ((v.natAbs : Nat) : Int) = -v by omega, Int.neg_mul]; omega
      · rw [show ((v.natAbs : Nat) : Int) = v by omega]; omega
    have hab' : v.natAbs * 2 ^ (m + 1200).toNat < 16 * gU := by omega
    have hle : v.natAbs ≤ v.natAbs * 2 ^ (m + 1200).toNat := Nat.le_mul_of_pos_right _ hP
    have h3000 : 16 * gU < 2 ^ 3000 := by unfold gU; decide +kernel
    obtain ⟨c', q', f1, f2, f3, f4⟩ := rr_ok (s := FP.Core.sumSign s t v) (num := v.natAbs) (den := 1) (e := m) hn (Nat.lt_of_le_of_lt hle (Nat.lt_trans hab' h3000)) (by decide) (Nat.one_lt_two_pow (by decide)) ⟨by omega, by omega⟩ (by rw [Nat.one_mul]; exact hab')
    rw [f1]
    refine ⟨FP.Core.signed (FP.Core.sumSign s t v) (c' * 2 ^ (q' + 1200).toNat), ⟨_, c', q', dec_enc f2, f2, rfl⟩, ?_⟩
    rw [Nat.one_mul, Nat.one_mul] at f3 f4
    have hsg : FP.Core.sumSign s t v = decide (v < 0) := by unfold FP.Core.sumSign; rw [if_neg hv]
    rw [hsg]
    have hP2 : v * ((2 ^ (m + 1200).toNat : Nat) : Int) = if v < 0 then -((v.natAbs * 2 ^ (m + 1200).toNat : Nat) : Int) else ((v.natAbs * 2 ^ (m + 1200).toNat : Nat) : Int) := by
      rw [Int.natCast_mul]
      split
      · rw [show ((v.natAbs : Nat) : Int) = -v by omega, Int.neg_mul, Int.neg_neg]
      · rw [show ((v.natAbs : Nat) : Int) = v by omega]
    rw [hP2]
    generalize c' * 2 ^ (q' + 1200).toNat = w at *
    generalize v.natAbs * 2 ^ (m + 1200).toNat = u at *
    by_cases hs : v < 0
    · rw [if_pos hs, decide_eq_true hs]
      show -(u : Int) - gE ≤ -(w : Int) ∧ -(w : Int) ≤ -(u : Int) + gE
      omega
    · rw [if_neg hs, decide_eq_false hs]
      show (u : Int) - gE ≤ (w : Int) ∧ (w : Int) ≤ (u : Int) + gE
      omega
/-- a whole number, as the machine writes it -/
def WD (a : UInt64) (i : Nat) : Prop := ∃ c q, dv a = .fin false c q ∧ (-52 ≤ q ∧ q ≤ 0) ∧ (0 < c ∧ c < 9007199254740992) ∧ c * 2 ^ (q + 52).toNat = i * 4503599627370496
theorem wd_is {i : Nat} (h0 : 0 < i) (h1 : i < 9007199254740992) : WD (UInt64.ofNat (FP.Core.fromInt FP.Core.b64 (i : Int))) i := by
  have h3000 : (9007199254740992 : Nat) < 2 ^ 3000 := by decide +kernel
  obtain ⟨l0, l1, l2⟩ := ld_is (num := i) (den := 1) h0 (Nat.lt_trans h1 h3000) (by decide) (Nat.one_lt_two_pow (by decide))
  rw [Nat.one_mul] at l1 l2
  have h8 := Nat.two_pow_pos 8000
  have La : 0 ≤ FP.Core.leading i 1 := by
    refine Decidable.byContradiction fun hc => ?_
    have x1 : 1 * 2 ^ 8000 ≤ i * 2 ^ 8000 := Nat.mul_le_mul_right _ h0
    have x2 : 2 ^ (FP.Core.leading i 1 + 8001).toNat ≤ 2 ^ 8000 := Nat.pow_le_pow_right (by decide) (by omega)
    rw [Nat.one_mul] at x1
    exact Nat.lt_irrefl _ (Nat.lt_of_lt_of_le l2 (Nat.le_trans x2 x1))
  have Lb : FP.Core.leading i 1 ≤ 52 := by
    refine Decidable.byContradiction fun hc => ?_
    have x1 : i * 2 ^ 8000 < 2 ^ 53 * 2 ^ 8000 := Nat.mul_lt_mul_of_pos_right h1 h8
    rw [← Nat.pow_add] at x1
    have x2 : 2 ^ (53 + 8000) ≤ 2 ^ (FP.Core.leading i 1 + 8000).toNat := Nat.pow_le_pow_right (by decide) (by omega)
    exact Nat.lt_irrefl _ (Nat.lt_of_lt_of_le x1 (Nat.le_trans x2 l1))
  have hq : FP.Core.quantum FP.Core.b64 i 1 0 = max (-1074) (FP.Core.leading i 1 + 0 - 52) := by
    unfold FP.Core.quantum; rw [b64_qmin, b64_p]; rfl
  have hr : FP.Core.roundRatio FP.Core.b64 false i 1 0 = FP.Core.roundAt FP.Core.b64 false i 1 0 (FP.Core.quantum FP.Core.b64 i 1 0) := by
    unfold FP.Core.roundRatio; rw [if_neg (by omega)]
  have hf : FP.Core.fromInt FP.Core.b64 (i : Int) = FP.Core.encode FP.Core.b64 (FP.Core.roundRatio FP.Core.b64 false i 1 0) := by
    show FP.Core.encode FP.Core.b64 (FP.Core.roundRatio FP.Core.b64 (decide ((i : Int) < 0)) (i : Int).natAbs 1 0) = _
    rw [decide_eq_false (by omega), Int.natAbs_natCast]
  rw [hf, hr, hq]
  generalize FP.Core.leading i 1 = L at *
  rw [show max (-1074 : Int) (L + 0 - 52) = L - 52 by omega]
  unfold FP.Core.roundAt FP.Core.unitsNum FP.Core.unitsDen
  rw [show (L - 52 - 0).toNat = 0 by omega, Nat.pow_zero, Nat.mul_one, show (0 - (L - 52)).toNat = (52 - L).toNat by omega]
  obtain ⟨n1, n2, -, -⟩ := near_b (N := i * 2 ^ (52 - L).toNat) (D := 1) (by decide)
  rw [show FP.Core.nearest (i * 2 ^ (52 - L).toNat) 1 = i * 2 ^ (52 - L).toNat by omega]
  clear n1 n2
  have t1 : i * 2 ^ (52 - L).toNat < 2 ^ 53 := by
    refine Nat.lt_of_mul_lt_mul_right (a := 2 ^ 8000) ?_
    have x := Nat.mul_lt_mul_of_pos_right l2 (Nat.two_pow_pos (52 - L).toNat)
    rw [Nat.mul_right_comm, ← Nat.pow_add] at x
    rw [← Nat.pow_add]
    exact Nat.lt_of_lt_of_le x (Nat.pow_le_pow_right (by decide) (by omega))
  have t2 : 2 ^ 52 ≤ i * 2 ^ (52 - L).toNat := by
    refine Nat.le_of_mul_le_mul_right (c := 2 ^ 8000) ?_ h8
    have x := Nat.mul_le_mul_right (2 ^ (52 - L).toNat) l1
    rw [Nat.mul_right_comm, ← Nat.pow_add] at x
    rw [← Nat.pow_add]
    exact Nat.le_trans (Nat.pow_le_pow_right (by decide) (by omega)) x
  have e : FP.Core.settle FP.Core.b64 false (i * 2 ^ (52 - L).toNat) (L - 52) = .fin false (i * 2 ^ (52 - L).toNat) (L - 52) := by
    unfold FP.Core.settle FP.Core.bound
    rw [b64_p, if_pos t1, b64_qmax, if_pos (by omega)]
  rw [e]
  have p1 : (2 : Nat) ^ 53 = 9007199254740992 := by decide
  have p2 : (2 : Nat) ^ 52 = 4503599627370496 := by decide
  refine ⟨_, _, dec_enc ⟨by omega, by omega, by omega, Or.inr (by omega)⟩, by omega, by omega, ?_⟩
  rw [Nat.mul_assoc, ← Nat.pow_add, ← p2]; congr 2; omega
theorem FD_quot {a b : UInt64} {A B : Nat} (ha : WD a A) (hb : WD b B) (hA : 0 < A) (hB : 0 < B) (hAB : A < 16 * B) :
    ∃ z : Nat, FD (FP.ddiv a b) (z : Int) ∧ A * gU ≤ B * z + B * gE ∧ B * z ≤ A * gU + B * gE := by
  obtain ⟨c, q, ea, ⟨q1, q2⟩, ⟨c1, c2⟩, xa⟩ := ha
  obtain ⟨d, r, eb, ⟨r1, r2⟩, ⟨d1, d2⟩, xb⟩ := hb
  have e : FP.ddiv a b = UInt64.ofNat (FP.Core.encode FP.Core.b64 (FP.Core.roundRatio FP.Core.b64 false c d (q - r))) := by
    show UInt64.ofNat (FP.Core.encode FP.Core.b64 (FP.Core.quotient FP.Core.b64 (dv a) (dv b))) = _
    rw [ea, eb]
    show UInt64.ofNat (FP.Core.encode FP.Core.b64 (if d = 0 then _ else FP.Core.roundRatio FP.Core.b64 (false != false) c d (q - r))) = _
    rw [if_neg (by omega)]; rfl
  have h3000 : (9007199254740992 : Nat) < 2 ^ 3000 := by decide +kernel
  have hp := Nat.two_pow_pos (r + 52).toNat
  have eL : c * 2 ^ (q - r + 1200).toNat * 2 ^ (r + 52).toNat = A * gU * 4503599627370496 := by
    rw [Nat.mul_assoc, ← Nat.pow_add, show (q - r + 1200).toNat + (r + 52).toNat = (q + 52).toNat + 1200 by omega, Nat.pow_add, ← Nat.mul_assoc, xa, Nat.mul_right_comm]; rfl
  have eR : ∀ w : Nat, d * w * 2 ^ (r + 52).toNat = B * w * 4503599627370496 := fun w => by rw [Nat.mul_right_comm, xb, Nat.mul_right_comm]
  obtain ⟨c', q', f1, f2, f3, f4⟩ := rr_ok (s := false) (num := c) (den := d) (e := q - r) c1 (Nat.lt_trans c2 h3000) d1 (Nat.lt_trans d2 h3000) ⟨by omega, by omega⟩ (by
    refine Nat.lt_of_mul_lt_mul_right (a := 2 ^ (r + 52).toNat) ?_
    rw [eL, eR]
    refine Nat.mul_lt_mul_of_pos_right ?_ (by decide)
    rw [← Nat.mul_assoc, Nat.mul_comm B 16]
    exact Nat.mul_lt_mul_of_pos_right hAB (Nat.two_pow_pos _))
  rw [e, f1]
  refine ⟨c' * 2 ^ (q' + 1200).toNat, ⟨false, c', q', dec_enc f2, f2, rfl⟩, ?_, ?_⟩
  · have x := Nat.mul_le_mul_right (2 ^ (r + 52).toNat) f3
    rw [eL, Nat.add_mul, eR, eR, ← Nat.add_mul] at x
    exact Nat.le_of_mul_le_mul_right x (by decide)
  · have x := Nat.mul_le_mul_right (2 ^ (r + 52).toNat) f4
    rw [Nat.add_mul, eL, eR, eR, ← Nat.add_mul] at x
    exact Nat.le_of_mul_le_mul_right x (by decide)
end
