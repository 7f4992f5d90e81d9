/-! ===== numbers of floating point that are no NaN ===== -/
section
/-- an encoding of no NaN -/
def fpG (f : FP.Core.Fmt) (n : Nat) : Prop := n % (f.exps * f.tails) ≤ (f.exps - 1) * f.tails
abbrev okF (f : FP.Core.Fmt) : Prop := f = FP.Core.b32 ∨ f = FP.Core.b64
theorem okF_n {f : FP.Core.Fmt} (hf : okF f) : 0 < f.tails ∧ 2 < f.exps ∧ 2 ^ f.p = 2 * f.tails ∧ (f.qmax - f.qmin).toNat + 3 = f.exps := by
  rcases hf with rfl | rfl <;> decide
theorem asm_mod {f : FP.Core.Fmt} (hf : okF f) {s : Bool} {e t : Nat} (he : e < f.exps) (ht : t < f.tails) : FP.Core.assemble f s e t % (f.exps * f.tails) = e * f.tails + t := by
  unfold FP.Core.assemble
  have h1 : e * f.tails + t < f.exps * f.tails := by
    have : (e + 1) * f.tails ≤ f.exps * f.tails := Nat.mul_le_mul_right _ he
    rw [Nat.add_mul, Nat.one_mul] at this
    omega
  rw [Nat.add_mul, Nat.mul_assoc, Nat.add_assoc, Nat.add_comm, Nat.add_mul_mod_self_right, Nat.mod_eq_of_lt h1]
theorem enc_good {f : FP.Core.Fmt} (hf : okF f) (s : Bool) (c : Nat) (q : Int) (hc : c < 2 ^ f.p) (hq : f.qmin ≤ q) (hm : q ≤ f.qmax) : fpG f (FP.Core.encode f (.fin s c q)) := by
  obtain ⟨h1, h2, h3, h4⟩ := okF_n hf
  unfold fpG FP.Core.encode
  simp only
  split
  · rename_i h
    rw [asm_mod hf (by omega) h, Nat.zero_mul, Nat.zero_add]
    have : 1 * f.tails ≤ (f.exps - 1) * f.tails := Nat.mul_le_mul_right _ (by omega)
    omega
  · rename_i h
    have he : (q - f.qmin).toNat + 1 + 2 ≤ f.exps := by omega
    rw [asm_mod hf (by omega) (by omega)]
    have : ((q - f.qmin).toNat + 1 + 1) * f.tails ≤ (f.exps - 1) * f.tails := Nat.mul_le_mul_right _ (by omega)
    rw [Nat.add_mul, Nat.one_mul] at this
    omega
theorem inf_good {f : FP.Core.Fmt} (hf : okF f) (s : Bool) : fpG f (FP.Core.encode f (.inf s)) := by
  obtain ⟨h1, h2, h3, h4⟩ := okF_n hf
  unfold fpG FP.Core.encode
  simp only
  rw [asm_mod hf (by omega) h1]
  omega
theorem bound_good {f : FP.Core.Fmt} (hf : okF f) (s : Bool) (c : Nat) (q : Int) (hc : c < 2 ^ f.p) (hq : f.qmin ≤ q) : fpG f (FP.Core.encode f (FP.Core.bound f s c q)) := by
  unfold FP.Core.bound
  split
  · rename_i h; exact enc_good hf s c q hc hq h
  · exact inf_good hf s
theorem ratio_good {f : FP.Core.Fmt} (hf : okF f) (s : Bool) (num den : Nat) (e : Int) : fpG f (FP.Core.encode f (FP.Core.roundRatio f s num den e)) := by
  obtain ⟨h1, h2, h3, h4⟩ := okF_n hf
  have hqm : f.qmin ≤ f.qmax := by rcases hf with rfl | rfl <;> decide
  unfold FP.Core.roundRatio
  split
  · exact enc_good hf s 0 _ (Nat.two_pow_pos _) (Int.le_refl _) hqm
  · unfold FP.Core.roundAt FP.Core.settle
    have hq : f.qmin ≤ FP.Core.quantum f num den e := by unfold FP.Core.quantum; exact Int.le_max_left _ _
    split
    · rename_i h; exact bound_good hf s _ _ h hq
    · exact bound_good hf s _ _ (by omega) (by omega)
theorem round_good {f : FP.Core.Fmt} (hf : okF f) {d : FP.Core.Datum} (hd : d ≠ .nan) : fpG f (FP.Core.encode f (FP.Core.round f d)) := by
  cases d with
  | nan => exact absurd rfl hd
  | inf s => exact inf_good hf s
  | fin s c q => exact ratio_good hf s c 1 q
theorem good_dec {f : FP.Core.Fmt} (hf : okF f) {n : Nat} (h : fpG f n) : FP.Core.decode f n ≠ .nan := by
  obtain ⟨h1, h2, h3, h4⟩ := okF_n hf
  unfold FP.Core.decode
  split
  · rename_i he
    split
    · intro z; exact FP.Core.Datum.noConfusion z
    · rename_i ht
      exfalso
      unfold fpG at h
      unfold FP.Core.fieldE at he
      unfold FP.Core.fieldT at ht
      have e1 : n % (f.exps * f.tails) = f.tails * (n / f.tails % f.exps) + n % f.tails := by
        rw [Nat.mul_comm f.exps, Nat.mod_mul]
        omega
      rw [e1, he, Nat.mul_comm] at h
      omega
  · split <;> (intro z; exact FP.Core.Datum.noConfusion z)
theorem quot_good {f : FP.Core.Fmt} (hf : okF f) {x y : FP.Core.Datum} (hx : x ≠ .nan) (hy : ∃ t d r, y = .fin t d r ∧ d ≠ 0) : fpG f (FP.Core.encode f (FP.Core.quotient f x y)) := by
  obtain ⟨h1, h2, h3, h4⟩ := okF_n hf
  have hqm : f.qmin ≤ f.qmax := by rcases hf with rfl | rfl <;> decide
  obtain ⟨t, d, r, rfl, hd⟩ := hy
  cases x with
  | nan => exact absurd rfl hx
  | inf s => exact inf_good hf _
  | fin s c q =>
    unfold FP.Core.quotient
    simp only
    rw [if_neg hd]
    exact ratio_good hf _ c d _
theorem n64_of {n : Nat} (h : fpG FP.Core.b64 n) : vf_n64 (UInt64.ofNat n) := by
  unfold vf_n64
  rw [UInt64.le_iff_toNat_le, UInt64.toNat_and]
  rw [show (0x7fffffffffffffff : UInt64).toNat = 2 ^ 63 - 1 by decide, Nat.and_two_pow_sub_one_eq_mod, UInt64.toNat_ofNat', Nat.mod_mod_of_dvd _ ⟨2, by decide⟩]
  have : FP.Core.b64.exps * FP.Core.b64.tails = 2 ^ 63 := by decide
  unfold fpG at h
  rw [this] at h
  exact h
theorem n32_of {n : Nat} (h : fpG FP.Core.b32 n) : vf_n32 (UInt32.ofNat n) := by
  unfold vf_n32
  rw [UInt32.le_iff_toNat_le, UInt32.toNat_and]
  rw [show (0x7fffffff : UInt32).toNat = 2 ^ 31 - 1 by decide, Nat.and_two_pow_sub_one_eq_mod, UInt32.toNat_ofNat', Nat.mod_mod_of_dvd _ ⟨2, by decide⟩]
  have : FP.Core.b32.exps * FP.Core.b32.tails = 2 ^ 31 := by decide
  unfold fpG at h
  rw [this] at h
  exact h
end
