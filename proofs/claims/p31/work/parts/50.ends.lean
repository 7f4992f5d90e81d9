/-! ===== sums of ends told by moments ===== -/
section
variable {J : Mm} {n : Nat} {g g' : Nat → Int} {T t : Nat}
theorem smF_swap (f : Nat → Nat → Int) (n : Nat) : ∀ T : Nat, smF (fun t => smF (fun j => f t j) n) T = smF (fun j => smF (fun t => f t j) T) n := by
  intro T
  induction T with
  | zero => simp only [smF]; exact (smF_0 n).symm
  | succ T ih => simp only [smF]; rw [ih, ← smF_add]
theorem smF_cut (e : Int) : ∀ T : Nat, smF (fun t => if (t : Int) < e then 1 else 0) T = if e ≤ 0 then 0 else if e ≤ (T : Int) then e else (T : Int) := by
  intro T
  induction T with
  | zero => simp only [smF]; split; rfl; rw [if_neg (by omega)]; rfl
  | succ T ih =>
    simp only [smF]
    rw [ih]
    by_cases q : e ≤ 0
    · rw [if_pos q, if_pos q, if_neg (by omega)]; rfl
    · rw [if_neg q, if_neg q]
      by_cases q2 : e ≤ (T : Int)
      · rw [if_pos q2, if_neg (by omega), if_pos (by omega)]; omega
      · rw [if_neg q2, if_pos (by omega)]
        by_cases q3 : e ≤ ((T + 1 : Nat) : Int)
        · rw [if_pos q3]; omega
        · rw [if_neg q3]; omega
/-- the ends e belong to the log g -/
def Ens (J : Mm) (n : Nat) (g : Nat → Int) (T : Nat) (e : Nat → Int) : Prop := ∀ j, j < n → (0 ≤ e j ∧ e j ≤ (T : Int)) ∧ ∀ t, t < T → ((t : Int) < e j ↔ 0 < lfT J g t j)
theorem ends_sum {e : Nat → Int} (h : Ens J n g T e) : smF e n = smF (fun t => ufT J g n t) T := by
  show smF e n = smF (fun t => smF (fun j => if 0 < lfT J g t j then 1 else 0) n) T
  rw [smF_swap]
  refine smF_cong (fun j hj => ?_)
  obtain ⟨h1, h2⟩ := h j hj
  have c := smF_cut (e j) T
  rw [show smF (fun t => if 0 < lfT J g t j then 1 else 0) T = smF (fun t => if (t : Int) < e j then 1 else 0) T from smF_cong (fun t ht => by
    have := h2 t ht
    by_cases q : 0 < lfT J g t j
    · rw [if_pos q, if_pos (this.mpr q)]
    · rw [if_neg q, if_neg (fun z => q (this.mp z))]), c]
  split
  · omega
  · split <;> omega
theorem srpt_sum {T' : Nat} {e e' : Nat → Int} (h : Sch J n g T) (h' : Sch J n g' T') (hl : Lst J n g T) (hw : ∀ j, j < n → J 4 j = 0) (hc : ∀ j, j < n → 0 ≤ J 0 j) (he : Ens J n g T e) (he' : Ens J n g' T' e') : smF e n ≤ smF e' n := by
  have eT := (sch_same h h').1
  subst eT
  rw [ends_sum he, ends_sum he']
  exact smF_le (fun t ht => uf_le h h' hl hw hc (by omega))
end
