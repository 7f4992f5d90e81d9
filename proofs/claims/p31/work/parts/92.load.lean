/-! ===== the load: what the class tells and what the law adds up ===== -/
section
def sqF (p le : Nat → Int) : Nat → UInt64
  | 0 => FP.dconst0
  | k + 1 => FP.dadd (sqF p le k) (FP.ddiv (FP.i2d (Int32.ofInt (le k))) (FP.i2d (Int32.ofInt (p k))))
def tolF (p le : Nat → Int) (n : Nat) : UInt64 := FP.ddiv (FP.l2d (Int64.ofInt (anLd (ldF p le n) 0))) (FP.l2d (Int64.ofInt (anLd (ldF p le n) 1)))
abbrev okL (p le : Nat → Int) (n : Nat) : Prop := ∀ j, j < n → 1 ≤ le j ∧ le j ≤ p j ∧ p j ≤ 60
theorem wd_i {x : Int} (h : 1 ≤ x ∧ x ≤ 60) : WD (FP.i2d (Int32.ofInt x)) x.toNat := by
  have := wd_is (i := x.toNat) (by omega) (by omega)
  rw [show ((x.toNat : Nat) : Int) = x by omega] at this
  show WD (UInt64.ofNat (FP.Core.fromInt FP.Core.b64 (Int32.ofInt x).toInt)) x.toNat
  rw [Int32.toInt_ofInt_of_le (by omega) (by omega)]
  exact this
theorem wd_l {x : Nat} (h : 1 ≤ x ∧ x < 9007199254740992) : WD (FP.l2d (Int64.ofInt (x : Int))) x := by
  have := wd_is (i := x) (by omega) (by omega)
  show WD (UInt64.ofNat (FP.Core.fromInt FP.Core.b64 (Int64.ofInt (x : Int)).toInt)) x
  rw [Int64.toInt_ofInt_of_le (by omega) (by omega)]
  exact this
theorem qt_ok {p le : Int} (h : 1 ≤ le ∧ le ≤ p ∧ p ≤ 60) : ∃ z : Nat, FD (FP.ddiv (FP.i2d (Int32.ofInt le)) (FP.i2d (Int32.ofInt p))) (z : Int) ∧ le.toNat * gU ≤ p.toNat * z + p.toNat * gE ∧ p.toNat * z ≤ le.toNat * gU + p.toNat * gE :=
  FD_quot (wd_i ⟨h.1, by omega⟩) (wd_i ⟨by omega, h.2.2⟩) (by omega) (by omega) (by omega)
theorem q_lt {z b m e g : Nat} (hb : 0 < b) (h : b * z ≤ m * b * e + b * g) : z ≤ m * e + g := by
  refine Nat.le_of_mul_le_mul_left (c := b) ?_ hb
  rw [Nat.mul_add]
  have : m * b * e = b * (m * e) := by rw [Nat.mul_comm m b, Nat.mul_assoc]
  omega
theorem fd_0 : FD FP.dconst0 0 := ⟨false, 0, -1074, by decide +kernel, ⟨by omega, by omega, by omega, Or.inl rfl⟩, by rw [Nat.zero_mul]; rfl⟩
theorem lp_y {U G l P y : Nat} (h : 1 ≤ l ∧ l ≤ P) (y2 : P * y ≤ l * U + P * G) : y ≤ U + G := by
  refine Nat.le_of_mul_le_mul_left (c := P) ?_ (by omega)
  rw [Nat.mul_add]
  have := Nat.mul_le_mul_right U h.2
  omega
theorem lp_z {U G a b k : Nat} {z : Int} (hb : 0 < b) (ab : a ≤ k * b) (hk : k ≤ 5) (z1 : (a : Int) * U ≤ (b : Int) * z + 2 * (k : Int) * ((b : Int) * G)) (z2 : (b : Int) * z ≤ (a : Int) * U + 2 * (k : Int) * ((b : Int) * G)) : -(10 * (G : Int)) ≤ z ∧ z ≤ 5 * (U : Int) + 10 * G := by
  have t3 : 2 * (k : Int) * ((b : Int) * G) ≤ 10 * ((b : Int) * G) := Int.mul_le_mul_of_nonneg_right (by omega) (Int.mul_nonneg (by omega) (by omega))
  constructor
  · refine Int.le_of_mul_le_mul_left (a := (b : Int)) ?_ (by omega)
    have t1 : 0 ≤ (a : Int) * U := Int.mul_nonneg (by omega) (by omega)
    have e : (b : Int) * -(10 * (G : Int)) = -(10 * ((b : Int) * G)) := by rw [Int.mul_neg, Int.mul_left_comm]
    omega
  · refine Int.le_of_mul_le_mul_left (a := (b : Int)) ?_ (by omega)
    have t0 : (a : Int) ≤ (5 : Int) * b := by
      have := Nat.mul_le_mul_right b hk
      omega
    have t1 : (a : Int) * U ≤ (5 * (b : Int)) * U := Int.mul_le_mul_of_nonneg_right t0 (by omega)
    have e : (b : Int) * (5 * (U : Int) + 10 * G) = (5 * (b : Int)) * U + 10 * ((b : Int) * G) := by rw [Int.mul_add, Int.mul_left_comm, Int.mul_left_comm (b : Int) 10, Int.mul_assoc]
    omega
theorem lp_s {U G a b k P l y : Nat} {z w : Int} (z1 : (a : Int) * U ≤ (b : Int) * z + 2 * (k : Int) * ((b : Int) * G)) (z2 : (b : Int) * z ≤ (a : Int) * U + 2 * (k : Int) * ((b : Int) * G)) (y1 : l * U ≤ P * y + P * G) (y2 : P * y ≤ l * U + P * G) (w1 : z + (y : Int) - G ≤ w) (w2 : w ≤ z + (y : Int) + G) :
    (((a * P + b * l : Nat) : Int)) * U ≤ ((b * P : Nat) : Int) * w + 2 * ((k + 1 : Nat) : Int) * (((b * P : Nat) : Int) * G) ∧ ((b * P : Nat) : Int) * w ≤ (((a * P + b * l : Nat) : Int)) * U + 2 * ((k + 1 : Nat) : Int) * (((b * P : Nat) : Int) * G) := by
  have y1' : (l : Int) * U ≤ (P : Int) * y + (P : Int) * G := by exact_mod_cast y1
  have y2' : (P : Int) * y ≤ (l : Int) * U + (P : Int) * G := by exact_mod_cast y2
  have m1 := Int.mul_le_mul_of_nonneg_right z1 (show (0 : Int) ≤ (P : Int) by omega)
  have m2 := Int.mul_le_mul_of_nonneg_right y1' (show (0 : Int) ≤ (b : Int) by omega)
  have m3 := Int.mul_le_mul_of_nonneg_left (show z + (y : Int) ≤ w + G by omega) (show (0 : Int) ≤ (b : Int) * P from Int.mul_nonneg (by omega) (by omega))
  have n1 := Int.mul_le_mul_of_nonneg_right z2 (show (0 : Int) ≤ (P : Int) by omega)
  have n2 := Int.mul_le_mul_of_nonneg_right y2' (show (0 : Int) ≤ (b : Int) by omega)
  have n3 := Int.mul_le_mul_of_nonneg_left (show w ≤ z + (y : Int) + G by omega) (show (0 : Int) ≤ (b : Int) * P from Int.mul_nonneg (by omega) (by omega))
  have e1 : (((a * P + b * l : Nat) : Int)) * U = (a : Int) * U * P + (l : Int) * U * b := by
    rw [Int.natCast_add, Int.natCast_mul, Int.natCast_mul, Int.add_mul, Int.mul_right_comm, Int.mul_comm (b : Int) l, Int.mul_right_comm (l : Int)]
  have e2 : ((b * P : Nat) : Int) = (b : Int) * P := Int.natCast_mul _ _
  have e3 : 2 * ((k + 1 : Nat) : Int) * ((b : Int) * P * G) = 2 * (k : Int) * ((b : Int) * P * G) + 2 * ((b : Int) * P * G) := by
    rw [← Int.add_mul]; congr 1
  have e4 : ((b : Int) * z + 2 * (k : Int) * ((b : Int) * G)) * P = (b : Int) * P * z + 2 * (k : Int) * ((b : Int) * P * G) := by
    rw [Int.add_mul, Int.mul_right_comm (b : Int) z, Int.mul_assoc (2 * (k : Int)), Int.mul_right_comm (b : Int) G]
  have e5 : ((P : Int) * y + (P : Int) * G) * b = (b : Int) * P * y + (b : Int) * P * G := by
    rw [Int.mul_comm _ (b : Int), Int.mul_add, Int.mul_assoc, Int.mul_assoc]
  have e6 : ((a : Int) * U + 2 * (k : Int) * ((b : Int) * G)) * P = (a : Int) * U * P + 2 * (k : Int) * ((b : Int) * P * G) := by
    rw [Int.add_mul, Int.mul_assoc (2 * (k : Int)), Int.mul_right_comm (b : Int) G]
  have e7 : ((l : Int) * U + (P : Int) * G) * b = (l : Int) * U * b + (b : Int) * P * G := by
    rw [Int.add_mul, Int.mul_comm ((P : Int) * G), Int.mul_assoc (b : Int)]
  have e8 : (P : Int) * y * b = (b : Int) * P * y := by rw [Int.mul_comm, Int.mul_assoc]
  rw [e4] at m1; rw [e5] at m2; rw [Int.mul_add, Int.mul_add] at m3
  rw [e6, Int.mul_right_comm (b : Int) z] at n1; rw [e7, e8] at n2; rw [Int.mul_add, Int.mul_add] at n3
  rw [e1, e2, e3]
  generalize (b : Int) * P * w = W at *
  generalize (b : Int) * P * z = Z at *
  generalize (b : Int) * P * y = Y at *
  generalize (b : Int) * P * G = V at *
  generalize 2 * (k : Int) * V = T at *
  generalize (a : Int) * U * P = R at *
  generalize (l : Int) * U * b = S at *
  clear e1 e2 e3 e4 e5 e6 e7 e8 y1' y2' y1 y2 z1 z2
  omega
theorem sm_ok {U G : Nat} {z y : Int} (h : (U : Int) = 1125899906842624 * (G : Int)) (hG : 0 < G) (h1 : -(10 * (G : Int)) ≤ z) (h2 : z ≤ 5 * (U : Int) + 10 * G) (h3 : 0 ≤ y) (h4 : y ≤ (U : Int) + G) : -(16 * (U : Int)) < z + y ∧ z + y < 16 * (U : Int) := by omega
theorem cst_l {U G : Nat} (h : U = 1125899906842624 * G) : (U : Int) = 1125899906842624 * (G : Int) := by omega
theorem gE_Ui : (gU : Int) = 1125899906842624 * (gE : Int) := cst_l gE_U
/-- the sum of k quotients -/
theorem sq_ok {p le : Nat → Int} {n : Nat} (hn : n ≤ 5) (h : okL p le n) : ∀ k, k ≤ n →
    0 < (ldF p le k).2 ∧ (ldF p le k).1 ≤ k * (ldF p le k).2 ∧ ∃ z : Int, FD (sqF p le k) z ∧ ((ldF p le k).1 : Int) * gU ≤ ((ldF p le k).2 : Int) * z + 2 * (k : Int) * (((ldF p le k).2 : Int) * gE) ∧ ((ldF p le k).2 : Int) * z ≤ ((ldF p le k).1 : Int) * gU + 2 * (k : Int) * (((ldF p le k).2 : Int) * gE) := by
  intro k
  induction k with
  | zero => intro _; exact ⟨by simp [ldF], by simp [ldF], 0, fd_0, by simp [ldF], by simp [ldF]⟩
  | succ k ih =>
    intro hk
    obtain ⟨b0, ab, z, hz, z1, z2⟩ := ih (by omega)
    have hj := h k (by omega)
    obtain ⟨y, hy, y1, y2⟩ := qt_ok hj
    have hlP : 1 ≤ (le k).toNat ∧ (le k).toNat ≤ (p k).toNat ∧ (p k).toNat ≤ 60 := by omega
    have yb := lp_y ⟨hlP.1, hlP.2.1⟩ y2
    obtain ⟨zl, zu⟩ := lp_z b0 ab (by omega) z1 z2
    obtain ⟨w, hw, w1, w2⟩ := FD_sum hz hy (sm_ok gE_Ui gE_pos zl zu (Int.natCast_nonneg _) (Int.ofNat_le.mpr yb))
    obtain ⟨r1, r2⟩ := lp_s z1 z2 y1 y2 w1 w2
    refine ⟨Nat.mul_pos b0 (by omega), ?_, w, hw, r1, r2⟩
    have t1 : (ldF p le k).1 * (p k).toNat ≤ k * ((ldF p le k).2 * (p k).toNat) := by rw [← Nat.mul_assoc]; exact Nat.mul_le_mul_right _ ab
    have t2 : (ldF p le k).2 * (le k).toNat ≤ (ldF p le k).2 * (p k).toNat := Nat.mul_le_mul_left _ hlP.2.1
    show (ldF p le k).1 * (p k).toNat + (ldF p le k).2 * (le k).toNat ≤ (k + 1) * ((ldF p le k).2 * (p k).toNat)
    rw [Nat.add_mul, Nat.one_mul]; exact Nat.add_le_add t1 t2
end
