/-! ===== the greatest gap, told by moments ===== -/
/-- from f on, behind k moments: where the gap began, the greatest gap -/
def gpS (g : Nat → Int) (j : Int) (f : Nat) : Nat → Nat × Int
  | 0 => (f, 0)
  | k + 1 => if g (f + k) = j then (f + k + 1, if (gpS g j f k).2 < ((f + k : Nat) : Int) - ((gpS g j f k).1 : Int) then ((f + k : Nat) : Int) - ((gpS g j f k).1 : Int) else (gpS g j f k).2) else gpS g j f k
theorem gap_is (g : Nat → Int) (j : Int) (f : Nat) : ∀ (d k : Nat), gapJ g j d (f + k) ((gpS g j f k).1 : Int) (gpS g j f k).2 = (gpS g j f (k + d)).2 := by
  intro d
  induction d with
  | zero => intro k; rfl
  | succ d ih =>
    intro k
    have h := ih (k + 1)
    rw [show k + 1 + d = k + (d + 1) by omega] at h
    rw [← h]
    simp only [gapJ]
    by_cases e : g (f + k) = j
    · rw [if_pos e]
      have e2 : gpS g j f (k + 1) = (f + k + 1, if (gpS g j f k).2 < ((f + k : Nat) : Int) - ((gpS g j f k).1 : Int) then ((f + k : Nat) : Int) - ((gpS g j f k).1 : Int) else (gpS g j f k).2) := by simp only [gpS]; rw [if_pos e]
      rw [e2]; rfl
    · rw [if_neg e]
      have e2 : gpS g j f (k + 1) = gpS g j f k := by simp only [gpS]; rw [if_neg e]
      rw [e2]; rfl
theorem gap_0 (g : Nat → Int) (j : Int) (f d : Nat) : gapJ g j d f (f : Int) 0 = (gpS g j f d).2 := by
  have h := gap_is g j f d 0
  rw [Nat.zero_add] at h
  exact h
theorem gpS_c {g g' : Nat → Int} {j : Int} {f : Nat} : ∀ {k : Nat}, (∀ b, b < f + k → g' b = g b) → gpS g' j f k = gpS g j f k := by
  intro k
  induction k with
  | zero => intro _; rfl
  | succ k ih =>
    intro h
    simp only [gpS]
    rw [ih (fun b hb => h b (by omega)), h (f + k) (by omega)]
theorem gpS_le {g : Nat → Int} {j : Int} {f : Nat} : ∀ k : Nat, f ≤ (gpS g j f k).1 ∧ (gpS g j f k).1 ≤ f + k ∧ 0 ≤ (gpS g j f k).2 := by
  intro k
  induction k with
  | zero => exact ⟨Nat.le_refl _, Nat.le_refl _, Int.le_refl _⟩
  | succ k ih =>
    simp only [gpS]
    split
    · refine ⟨by show f ≤ f + k + 1; omega, by show f + k + 1 ≤ f + (k + 1); omega, ?_⟩
      simp only
      split <;> omega
    · omega
