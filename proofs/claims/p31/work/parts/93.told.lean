/-! ===== told load and sum of quotients are as good as the same ===== -/
section
theorem ldF_1 {p le : Nat → Int} {n : Nat} (hn : n ≤ 5) (h : okL p le n) (h1 : 1 ≤ n) : 0 < (ldF p le n).1 := by
  obtain ⟨k, rfl⟩ : ∃ k, n = k + 1 := ⟨n - 1, by omega⟩
  have hj := h k (by omega)
  have := (sq_ok hn h k (by omega)).1
  show 0 < (ldF p le k).1 * (p k).toNat + (ldF p le k).2 * (le k).toNat
  have := Nat.mul_pos this (show 0 < (le k).toNat by omega)
  omega
theorem ldF_big {p le : Nat → Int} {n : Nat} (h : okL p le n) : ∀ k, k ≤ n → (ldF p le k).2 ≤ 60 ^ k := by
  intro k
  induction k with
  | zero => intro _; simp [ldF]
  | succ k ih =>
    intro hk
    have hj := h k (by omega)
    show (ldF p le k).2 * (p k).toNat ≤ _
    rw [Nat.pow_succ]
    exact Nat.mul_le_mul (ih (by omega)) (by omega)
theorem lp_t {U G a b x y g : Nat} (ea : x * g = a) (eb : y * g = b) {z : Nat} (h1 : x * U ≤ y * z + y * G) (h2 : y * z ≤ x * U + y * G) : a * U ≤ b * z + b * G ∧ b * z ≤ a * U + b * G := by
  have m1 := Nat.mul_le_mul_right g h1
  have m2 := Nat.mul_le_mul_right g h2
  rw [Nat.add_mul, Nat.mul_right_comm x U, Nat.mul_right_comm y z, Nat.mul_right_comm y G, ea, eb] at m1 m2
  exact ⟨m1, m2⟩
theorem told_ok {p le : Nat → Int} {n : Nat} (h1 : 1 ≤ n) (hn : n ≤ 5) (h : okL p le n) : ∃ z : Nat, FD (tolF p le n) (z : Int) ∧ (ldF p le n).1 * gU ≤ (ldF p le n).2 * z + (ldF p le n).2 * gE ∧ (ldF p le n).2 * z ≤ (ldF p le n).1 * gU + (ldF p le n).2 * gE := by
  obtain ⟨b0, ab, -⟩ := sq_ok hn h n (Nat.le_refl _)
  have a0 := ldF_1 hn h h1
  have bb := ldF_big h n (Nat.le_refl _)
  have b5 : (60 : Nat) ^ n ≤ 60 ^ 5 := Nat.pow_le_pow_right (by decide) hn
  have e5 : (60 : Nat) ^ 5 = 777600000 := by decide
  unfold tolF anLd
  rw [if_pos rfl, if_neg (by decide), Nat.gcd_comm (ldF p le n).2]
  have ga := Nat.gcd_dvd_left (ldF p le n).1 (ldF p le n).2
  have gb := Nat.gcd_dvd_right (ldF p le n).1 (ldF p le n).2
  generalize Nat.gcd (ldF p le n).1 (ldF p le n).2 = g at *
  generalize (ldF p le n).1 = a at *
  generalize (ldF p le n).2 = b at *
  have ea := Nat.div_mul_cancel ga
  have eb := Nat.div_mul_cancel gb
  have xa := Nat.div_le_self a g
  have xb := Nat.div_le_self b g
  generalize a / g = x at *
  generalize b / g = y at *
  have x0 : 0 < x := by
    rcases Nat.eq_zero_or_pos x with q | q
    · rw [q, Nat.zero_mul] at ea; omega
    · exact q
  have y0 : 0 < y := by
    rcases Nat.eq_zero_or_pos y with q | q
    · rw [q, Nat.zero_mul] at eb; omega
    · exact q
  have g0 : 0 < g := by
    rcases Nat.eq_zero_or_pos g with q | q
    · rw [q, Nat.mul_zero] at eb; omega
    · exact q
  have nb : n * b ≤ 5 * b := Nat.mul_le_mul_right _ hn
  have xy : x ≤ 5 * y := by
    refine Nat.le_of_mul_le_mul_right (c := g) ?_ g0
    rw [ea, Nat.mul_assoc, eb]; omega
  obtain ⟨z, hz, z1, z2⟩ := FD_quot (wd_l (x := x) ⟨x0, by omega⟩) (wd_l (x := y) ⟨y0, by omega⟩) x0 y0 (by omega)
  exact ⟨z, hz, lp_t ea eb z1 z2⟩
theorem lp_d {U G a b n t : Nat} {z : Int} (hb : 0 < b) (hn : n ≤ 5) (z1 : (a : Int) * U ≤ (b : Int) * z + 2 * (n : Int) * ((b : Int) * G)) (z2 : (b : Int) * z ≤ (a : Int) * U + 2 * (n : Int) * ((b : Int) * G)) (t1 : a * U ≤ b * t + b * G) (t2 : b * t ≤ a * U + b * G) : (t : Int) - z ≤ 11 * (G : Int) ∧ -(11 * (G : Int)) ≤ (t : Int) - z := by
  have t1' : (a : Int) * U ≤ (b : Int) * t + (b : Int) * G := by exact_mod_cast t1
  have t2' : (b : Int) * t ≤ (a : Int) * U + (b : Int) * G := by exact_mod_cast t2
  have t3 : 2 * (n : Int) * ((b : Int) * G) ≤ 10 * ((b : Int) * G) := Int.mul_le_mul_of_nonneg_right (by omega) (Int.mul_nonneg (by omega) (by omega))
  constructor
  · refine Int.le_of_mul_le_mul_left (a := (b : Int)) ?_ (by omega)
    rw [Int.mul_sub, Int.mul_left_comm]; omega
  · refine Int.le_of_mul_le_mul_left (a := (b : Int)) ?_ (by omega)
    rw [Int.mul_sub, Int.mul_neg, Int.mul_left_comm]; omega
/-- without its sign -/
def dabs (x : UInt64) : UInt64 := x &&& 0x7fffffffffffffff
theorem dabs_n (x : UInt64) : (dabs x).toNat = x.toNat % 9223372036854775808 := by
  unfold dabs
  rw [UInt64.toNat_and, show (0x7fffffffffffffff : UInt64).toNat = 2 ^ 63 - 1 from rfl, Nat.and_two_pow_sub_one_eq_mod]
theorem FD_abs {x : UInt64} {z : Int} (h : FD x z) : ∃ c q, dv (dabs x) = .fin false c q ∧ (-1074 ≤ q ∧ q ≤ 971) ∧ ((c * 2 ^ (q + 1200).toNat : Nat) : Int) = (z.natAbs : Int) := by
  obtain ⟨s, c, q, e, ⟨h1, h2, h3, h4⟩, h5⟩ := h
  refine ⟨c, q, ?_, ⟨h2, h3⟩, ?_⟩
  · have hx := x.toNat_lt
    show FP.Core.decode FP.Core.b64 (dabs x).toNat = _
    rw [dabs_n]
    have e' : FP.Core.decode FP.Core.b64 x.toNat = .fin s c q := e
    unfold FP.Core.decode FP.Core.fieldE FP.Core.fieldT FP.Core.fieldS at e' ⊢
    rw [b64_exps, b64_tails] at e' ⊢
    rw [show x.toNat % 9223372036854775808 / 4503599627370496 % 2048 = x.toNat / 4503599627370496 % 2048 by omega, show x.toNat % 9223372036854775808 % 4503599627370496 = x.toNat % 4503599627370496 by omega, show (x.toNat % 9223372036854775808 / 4503599627370496 / 2048 % 2 == 1) = false by rw [show x.toNat % 9223372036854775808 / 4503599627370496 / 2048 % 2 = 0 by omega]; rfl]
    split at e'
    · split at e' <;> exact FP.Core.Datum.noConfusion e'
    · rename_i c1
      rw [if_neg c1]
      split at e'
      · rename_i c2
        rw [if_pos c2]
        injection e' with e1 e2 e3
        rw [e2, e3]
      · rename_i c2
        rw [if_neg c2]
        injection e' with e1 e2 e3
        rw [e2, e3]
  · rw [← h5]
    cases s
    · show _ = ((((c * 2 ^ (q + 1200).toNat : Nat) : Int)).natAbs : Int); omega
    · show _ = ((-((c * 2 ^ (q + 1200).toNat : Nat) : Int)).natAbs : Int); omega
def cTol : UInt64 := 4517329193108106637
theorem tol_d : dv cTol = .fin false 4722366482869645 (-72) := by decide +kernel
theorem tol_b : 12 * gE ≤ 4722366482869645 * 2 ^ 1128 := by unfold gE; decide +kernel
theorem cmp_le {x y : Int} (h : x ≤ y) : compare x y ≠ .gt := by
  rw [show compare x y = compareOfLessAndEq x y from rfl]
  unfold compareOfLessAndEq
  split
  · intro q; exact Ordering.noConfusion q
  · split
    · intro q; exact Ordering.noConfusion q
    · omega
theorem dcmp_ok {x : UInt64} {z : Int} (h : FD x z) (hz : z ≤ 12 * (gE : Int) ∧ -(12 * (gE : Int)) ≤ z) : ∃ r : Int, (-1 ≤ r ∧ r ≤ 0) ∧ Op.cmpValue (FP.dcmp (dabs x) cTol) .l = Int32.ofInt r := by
  obtain ⟨c, q, e, ⟨q1, q2⟩, hv⟩ := FD_abs h
  have e1 : FP.dcmp (dabs x) cTol = FP.Core.order (dv (dabs x)) (dv cTol) := rfl
  rw [e, tol_d] at e1
  have e2 : FP.Core.order (.fin false c q) (.fin false 4722366482869645 (-72)) = some (compare ((FP.Core.inUnits c q (min q (-72)) : Nat) : Int) ((FP.Core.inUnits 4722366482869645 (-72) (min q (-72)) : Nat) : Int)) := rfl
  rw [e2] at e1
  have hb : c * 2 ^ (q + 1200).toNat ≤ 12 * gE := by
    have : (z.natAbs : Int) ≤ 12 * (gE : Int) := by clear e e1 e2 hv; generalize gE = G at *; omega
    clear e e1 e2
    generalize gE = G at *
    generalize c * 2 ^ (q + 1200).toNat = w at *
    omega
  have hle : FP.Core.inUnits c q (min q (-72)) ≤ FP.Core.inUnits 4722366482869645 (-72) (min q (-72)) := by
    refine Nat.le_of_mul_le_mul_right (c := 2 ^ (min q (-72) + 1200).toNat) ?_ (Nat.two_pow_pos _)
    unfold FP.Core.inUnits
    rw [Nat.mul_assoc, ← Nat.pow_add, Nat.mul_assoc, ← Nat.pow_add, show (q - min q (-72)).toNat + (min q (-72) + 1200).toNat = (q + 1200).toNat by omega, show (-72 - min q (-72)).toNat + (min q (-72) + 1200).toNat = 1128 by omega]
    exact Nat.le_trans hb tol_b
  have hc := cmp_le (Int.ofNat_le.mpr hle)
  rw [e1]
  cases hq : compare ((FP.Core.inUnits c q (min q (-72)) : Nat) : Int) ((FP.Core.inUnits 4722366482869645 (-72) (min q (-72)) : Nat) : Int) with
  | lt => exact ⟨-1, by omega, rfl⟩
  | eq => exact ⟨0, by omega, rfl⟩
  | gt => exact absurd hq hc
theorem lp_f {U G : Nat} (hU : (U : Int) = 1125899906842624 * (G : Int)) (hG : 0 < G) {x : Int} (h1 : x ≤ 11 * (G : Int)) (h2 : -(11 * (G : Int)) ≤ x) : -(16 * (U : Int)) < x ∧ x < 16 * (U : Int) := by omega
theorem lp_g {G : Nat} {x y : Int} (h1 : x ≤ 11 * (G : Int)) (h2 : -(11 * (G : Int)) ≤ x) (h3 : x - G ≤ y) (h4 : y ≤ x + G) : y ≤ 12 * (G : Int) ∧ -(12 * (G : Int)) ≤ y := by omega
/-- all that the law's check of the load rests on -/
theorem load_ok {p le : Nat → Int} {n : Nat} (h1 : 1 ≤ n) (hn : n ≤ 5) (h : okL p le n) : vf_n64 (tolF p le n) ∧ vf_n64 (FP.dsub (tolF p le n) (sqF p le n)) ∧ vf_n64 (dabs (FP.dsub (tolF p le n) (sqF p le n))) ∧ ∃ r : Int, (-1 ≤ r ∧ r ≤ 0) ∧ Op.cmpValue (FP.dcmp (dabs (FP.dsub (tolF p le n) (sqF p le n))) cTol) .l = Int32.ofInt r := by
  obtain ⟨b0, ab, z, hz, z1, z2⟩ := sq_ok hn h n (Nat.le_refl _)
  obtain ⟨t, ht, t1, t2⟩ := told_ok h1 hn h
  obtain ⟨d1, d2⟩ := lp_d b0 hn z1 z2 t1 t2
  obtain ⟨w, hw, w1, w2⟩ := FD_sum ht (FDd_neg hz) (lp_f gE_Ui gE_pos (x := (t : Int) + -z) (by rw [← Int.sub_eq_add_neg]; exact d1) (by rw [← Int.sub_eq_add_neg]; exact d2))
  rw [← Int.sub_eq_add_neg] at w1 w2
  have hw' : FD (FP.dsub (tolF p le n) (sqF p le n)) w := hw
  have hr := dcmp_ok hw' (lp_g d1 d2 w1 w2)
  refine ⟨FD_n64 ht, FD_n64 hw', ?_, hr⟩
  obtain ⟨c, q, e, -, -⟩ := FD_abs hw'
  have := FD_n64 hw'
  unfold vf_n64 at this ⊢
  unfold dabs
  rw [UInt64.and_assoc]
  exact this
theorem sq_n64 {p le : Nat → Int} {n : Nat} (hn : n ≤ 5) (h : okL p le n) {k : Nat} (hk : k < n) : vf_n64 (FP.ddiv (FP.i2d (Int32.ofInt (le k))) (FP.i2d (Int32.ofInt (p k)))) ∧ vf_n64 (sqF p le (k + 1)) := by
  obtain ⟨-, -, z, hz, -, -⟩ := sq_ok hn h (k + 1) (by omega)
  obtain ⟨y, hy, -, -⟩ := qt_ok (h k hk)
  exact ⟨FD_n64 hy, FD_n64 hz⟩
end
