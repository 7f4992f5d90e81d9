/-! ===== schedules: who works the least left has the least sum of ends ===== -/
/-- the sum of f over the set A -/
abbrev sA (A : Nat → Bool) (f : Nat → Int) (n : Nat) : Int := smF (fun j => if A j = true then f j else 0) n
section
variable {J : Mm} {n : Nat} {g g' : Nat → Int} {T t : Nat} {A B : Nat → Bool} {f f' : Nat → Int}
theorem sA_or (h : ∀ j, j < n → ¬ (A j = true ∧ B j = true)) : sA (fun j => A j || B j) f n = sA A f n + sA B f n := by
  unfold sA
  rw [← smF_add]
  refine smF_cong (fun j hj => ?_)
  have := h j hj
  cases hA : A j <;> cases hB : B j <;> simp_all
theorem sA_cong (h : ∀ j, j < n → A j = true → f j = f' j) : sA A f n = sA A f' n := by
  refine smF_cong (fun j hj => ?_)
  by_cases q : A j = true
  · rw [if_pos q, if_pos q, h j hj q]
  · rw [if_neg q, if_neg q]
theorem sA_le (h : ∀ j, j < n → (if A j = true then f j else 0) ≤ if B j = true then f' j else 0) : sA A f n ≤ sA B f' n := smF_le h
theorem sA_eq (h : ∀ j, j < n → (if A j = true then f j else 0) = if B j = true then f' j else 0) : sA A f n = sA B f' n := smF_cong h
/-- one moment's work at s less -/
theorem sA_less {s : Nat} (hs : s < n) : sA A (fun j => f j - if (s : Int) = (j : Int) then 1 else 0) n = sA A f n - if A s = true then 1 else 0 := by
  by_cases q : A s = true
  · rw [if_pos q]
    have := smF_upd (f := fun j => if A j = true then f j else 0) (g := fun j => if A j = true then (f j - if (s : Int) = (j : Int) then 1 else 0) else 0) (c := s) (v := -1) hs (fun j hj hne => by
      show (if A j = true then (f j - if (s : Int) = (j : Int) then 1 else 0) else 0) = if A j = true then f j else 0
      rw [if_neg (show ¬ (s : Int) = (j : Int) by omega), Int.sub_zero]) (by
      show (if A s = true then (f s - if (s : Int) = (s : Int) then 1 else 0) else 0) = (if A s = true then f s else 0) + -1
      rw [if_pos q, if_pos q, if_pos rfl]; omega)
    show smF (fun j => if A j = true then (f j - if (s : Int) = (j : Int) then 1 else 0) else 0) n = smF (fun j => if A j = true then f j else 0) n - 1
    omega
  · rw [if_neg q, Int.sub_zero]
    refine smF_cong (fun j hj => ?_)
    by_cases e : j = s
    · rw [e, if_neg q, if_neg q]
    · show (if A j = true then (f j - if (s : Int) = (j : Int) then 1 else 0) else 0) = if A j = true then f j else 0
      rw [if_neg (show ¬ (s : Int) = (j : Int) by omega), Int.sub_zero]
/-- one in, one out -/
theorem sA_swap {s u : Nat} (hs : s < n) (hu : u < n) (hA : A s = true) (hB : ¬ A u = true) : sA (fun j => (A j && !decide (j = s)) || decide (j = u)) f n = sA A f n - f s + f u := by
  have e1 : sA (fun j => (A j && !decide (j = s)) || decide (j = u)) f n = sA (fun j => A j && !decide (j = s)) f n + sA (fun j => decide (j = u)) f n := sA_or (fun j hj z => by
    have z1 := z.1; have z2 := z.2
    simp only [Bool.and_eq_true, decide_eq_true_iff] at z1 z2
    rw [z2] at z1
    exact hB z1.1)
  have e2 : sA A f n = sA (fun j => A j && !decide (j = s)) f n + sA (fun j => decide (j = s)) f n := by
    rw [← sA_or (fun j hj z => by
      have z1 := z.1; have z2 := z.2
      simp only [Bool.and_eq_true, decide_eq_true_iff, Bool.not_eq_true', decide_eq_false_iff_not] at z1 z2
      exact z1.2 z2)]
    refine smF_cong (fun j hj => ?_)
    by_cases e : j = s
    · subst e; simp [hA]
    · simp [e]
  have one : ∀ x, x < n → sA (fun j => decide (j = x)) f n = f x := fun x hx => by
    have := smF_upd (f := fun _ => (0 : Int)) (g := fun j => if decide (j = x) = true then f j else 0) (c := x) (v := f x) hx (fun j hj hne => by simp [hne]) (by simp)
    rw [smF_0] at this
    show smF (fun j => if decide (j = x) = true then f j else 0) n = f x
    omega
  rw [e1, one u hu]
  have h2 := one s hs
  omega
abbrev uno : Nat → Int := fun _ => 1
/-- nobody waits, and the one at work has the least left -/
def Lst (J : Mm) (n : Nat) (g : Nat → Int) (T : Nat) : Prop := ∀ t, t < T → ∀ s : Nat, g t = (s : Int) → ∀ j, j < n → J 0 j ≤ (t : Int) → 0 < lfT J g t j → lfT J g t s ≤ lfT J g t j
theorem lf_s (g : Nat → Int) (t j : Nat) : lfT J g (t + 1) j = lfT J g t j - if g t = (j : Int) then 1 else 0 := by simp only [lfT, cntJ]; omega
/-- nobody is worked on before coming -/
theorem lf_new (h : Sch J n g T) {j : Nat} (hj : j < n) : ∀ t, t ≤ T → (t : Int) ≤ J 0 j → lfT J g t j = J 1 j := by
  intro t
  induction t with
  | zero => intro _ _; show J 1 j - 0 = J 1 j; omega
  | succ t ih =>
    intro ht hc
    have e := ih (by omega) (by omega)
    rw [lf_s, e, if_neg (fun z => by rcases h.1 t (by omega) with q | ⟨i, hi, q, q1, -⟩; omega; (have ei : i = j := by omega); rw [ei] at q1; omega)]; omega
abbrev frm (J : Mm) (n : Nat) (A : Nat → Bool) (z : Int) : Prop := ∀ j, j < n → A j = true → J 0 j < z
def dom (J : Mm) (n : Nat) (g g' : Nat → Int) (t : Nat) (z : Int) : Prop := ∀ A, frm J n A z → ∃ B, frm J n B z ∧ sA B uno n ≤ sA A uno n ∧ sA A (lfT J g' t) n ≤ sA B (lfT J g t) n
/-- those who come are added to both -/
theorem dom_in (h : Sch J n g T) (h' : Sch J n g' T) (ht : t ≤ T) (hd : dom J n g g' t (t : Int)) : dom J n g g' t ((t : Int) + 1) := by
  intro A hA
  obtain ⟨B, hB, h1, h2⟩ := hd (fun j => A j && decide (J 0 j < (t : Int))) (fun j hj q => by simp only [Bool.and_eq_true, decide_eq_true_iff] at q; exact q.2)
  have hdis : ∀ j, j < n → ¬ (B j = true ∧ (A j && decide (J 0 j = (t : Int))) = true) := fun j hj z => by
    have z1 := hB j hj z.1
    have z2 := z.2
    simp only [Bool.and_eq_true, decide_eq_true_iff] at z2
    omega
  have hspl : ∀ f : Nat → Int, sA A f n = sA (fun j => A j && decide (J 0 j < (t : Int))) f n + sA (fun j => A j && decide (J 0 j = (t : Int))) f n := fun f => by
    rw [← sA_or (fun j hj z => by
      have z1 := z.1; have z2 := z.2
      simp only [Bool.and_eq_true, decide_eq_true_iff] at z1 z2
      omega)]
    refine smF_cong (fun j hj => ?_)
    by_cases q : A j = true
    · have := hA j hj q
      have e : ((A j && decide (J 0 j < (t : Int))) || (A j && decide (J 0 j = (t : Int)))) = true := by
        by_cases q2 : J 0 j < (t : Int)
        · simp [q, q2]
        · have q3 : J 0 j = (t : Int) := by omega
          simp [q, q3]
      rw [if_pos q, if_pos e]
    · have e : ¬ ((A j && decide (J 0 j < (t : Int))) || (A j && decide (J 0 j = (t : Int)))) = true := by simp [q]
      rw [if_neg q, if_neg e]
  have hnew : sA (fun j => A j && decide (J 0 j = (t : Int))) (lfT J g' t) n = sA (fun j => A j && decide (J 0 j = (t : Int))) (lfT J g t) n := sA_cong (fun j hj q => by
    simp only [Bool.and_eq_true, decide_eq_true_iff] at q
    rw [lf_new h hj t ht (by omega), lf_new h' hj t ht (by omega)])
  refine ⟨fun j => B j || (A j && decide (J 0 j = (t : Int))), fun j hj q => ?_, ?_, ?_⟩
  · rcases Bool.or_eq_true _ _ ▸ q with z | z
    · have := hB j hj z; omega
    · simp only [Bool.and_eq_true, decide_eq_true_iff] at z; omega
  · rw [sA_or hdis, hspl uno]; omega
  · rw [sA_or hdis, hspl, hnew]; omega
end
