/-! ===== least left has the least sum of ends ===== -/
section
variable {J : Mm} {n : Nat} {g g' : Nat → Int} {T t : Nat} {A B : Nat → Bool} {f f' : Nat → Int}
theorem lf_sum (h : Sch J n g T) (h' : Sch J n g' T) (ht : t ≤ T) : smF (lfT J g t) n = smF (lfT J g' t) n := by
  have := sch_dn h h' t ht ht
  unfold dnT at this
  show smF (fun j => J 1 j - cntJ g (j : Int) t) n = smF (fun j => J 1 j - cntJ g' (j : Int) t) n
  rw [smF_sub, smF_sub, this]
/-- as much is left, of those who have come -/
theorem lf_come (h : Sch J n g T) (h' : Sch J n g' T) (ht : t ≤ T) {z : Int} (hz : (t : Int) ≤ z) : sA (fun j => decide (J 0 j < z)) (lfT J g t) n = sA (fun j => decide (J 0 j < z)) (lfT J g' t) n := by
  have e := lf_sum h h' ht
  have k : ∀ f : Nat → Int, smF f n = sA (fun j => decide (J 0 j < z)) f n + sA (fun j => !decide (J 0 j < z)) f n := fun f => by
    rw [← sA_or (fun j hj q => by have q1 := q.1; have q2 := q.2; rw [q1] at q2; exact absurd q2 (by decide))]
    refine smF_cong (fun j hj => ?_)
    cases decide (J 0 j < z) <;> simp
  have hn : sA (fun j => !decide (J 0 j < z)) (lfT J g t) n = sA (fun j => !decide (J 0 j < z)) (lfT J g' t) n := sA_cong (fun j hj q => by
    have q2 : ¬ J 0 j < z := fun z => by rw [decide_eq_true z] at q; exact absurd q (by decide)
    rw [lf_new h hj t ht (by omega), lf_new h' hj t ht (by omega)])
  rw [k, k (lfT J g' t), hn] at e
  omega
theorem dom_st (h : Sch J n g T) (h' : Sch J n g' T) (hl : Lst J n g T) (hw : ∀ j, j < n → J 4 j = 0) (ht : t < T) (hd : dom J n g g' t ((t : Int) + 1)) : dom J n g g' (t + 1) (((t + 1 : Nat) : Int)) := by
  have hz : ((t + 1 : Nat) : Int) = (t : Int) + 1 := by omega
  rw [hz]
  have hsame := (sch_same h h').2 t ht
  have hnn := h.2.2.2.2.1 t (by omega)
  have hnn' := h'.2.2.2.2.1 t (by omega)
  have e1 : ∀ g : Nat → Int, lfT J g (t + 1) = fun j => lfT J g t j - if g t = (j : Int) then 1 else 0 := fun g => by funext j; exact lf_s g t j
  rcases h.1 t ht with hi | ⟨s, hs, q, q1, q2, -⟩
  · have hi' := hsame.mp hi
    intro A hA
    obtain ⟨B, hB, b1, b2⟩ := hd A hA
    refine ⟨B, hB, b1, ?_⟩
    have k : ∀ g : Nat → Int, g t = -1 → lfT J g (t + 1) = lfT J g t := fun g hg => by rw [e1]; funext j; rw [if_neg (by omega)]; omega
    rw [k g hi, k g' hi']; exact b2
  · rcases h'.1 t ht with hi' | ⟨o, ho, p, p1, p2, -⟩
    · have := hsame.mpr hi'; omega
    have eS : ∀ B : Nat → Bool, sA B (lfT J g (t + 1)) n = sA B (lfT J g t) n - if B s = true then 1 else 0 := fun B => by rw [e1, q]; exact sA_less hs
    have eO : ∀ A : Nat → Bool, sA A (lfT J g' (t + 1)) n = sA A (lfT J g' t) n - if A o = true then 1 else 0 := fun A => by rw [e1, p]; exact sA_less ho
    intro A hA
    obtain ⟨B, hB, b1, b2⟩ := hd A hA
    rw [eO]
    have keep : (¬ B s = true ∨ A o = true ∨ sA A (lfT J g' t) n < sA B (lfT J g t) n) → ∃ B, frm J n B ((t : Int) + 1) ∧ sA B uno n ≤ sA A uno n ∧ (sA A (lfT J g' t) n - if A o = true then 1 else 0) ≤ sA B (lfT J g (t + 1)) n := by
      intro hk
      refine ⟨B, hB, b1, ?_⟩
      rw [eS]
      rcases hk with z | z | z
      · rw [if_neg z]; split <;> omega
      · rw [if_pos z]; split <;> omega
      · split <;> split <;> omega
    by_cases c1 : B s = true
    · by_cases c2 : A o = true
      · exact keep (Or.inr (Or.inl c2))
      · by_cases c3 : sA A (lfT J g' t) n < sA B (lfT J g t) n
        · exact keep (Or.inr (Or.inr c3))
        · by_cases c4 : ∃ u, u < n ∧ ¬ B u = true ∧ J 0 u < (t : Int) + 1 ∧ 0 < lfT J g t u
          · obtain ⟨u, u1, u2, u3, u4⟩ := c4
            have hle := hl t ht s q u u1 (by omega) u4
            have hus : u ≠ s := fun e => u2 (by rw [e]; exact c1)
            refine ⟨fun j => (B j && !decide (j = s)) || decide (j = u), fun j hj z => ?_, ?_, ?_⟩
            · rcases Bool.or_eq_true _ _ ▸ z with y | y
              · simp only [Bool.and_eq_true] at y; exact hB j hj y.1
              · simp only [decide_eq_true_iff] at y; rw [y]; exact u3
            · rw [sA_swap hs u1 c1 u2]; show sA B uno n - 1 + 1 ≤ _; omega
            · rw [eS, sA_swap hs u1 c1 u2, if_neg (show ¬ ((B s && !decide (s = s)) || decide (s = u)) = true by simp [Ne.symm hus]), if_neg c2]; omega
          · exfalso
            have hBC : sA B (lfT J g t) n = sA (fun j => decide (J 0 j < (t : Int) + 1)) (lfT J g t) n := sA_eq (fun j hj => by
              have hj0 := hnn j hj
              by_cases y : B j = true
              · rw [if_pos y, if_pos (by rw [decide_eq_true_iff]; exact hB j hj y)]
              · rw [if_neg y]
                by_cases y2 : J 0 j < (t : Int) + 1
                · rw [if_pos (by rw [decide_eq_true_iff]; exact y2)]
                  by_cases y3 : 0 < lfT J g t j
                  · exact absurd ⟨j, hj, y, y2, y3⟩ c4
                  · omega
                · rw [if_neg (by rw [decide_eq_true_iff]; exact y2)])
            have hcm := lf_come h h' (show t ≤ T by omega) (z := (t : Int) + 1) (by omega)
            have hAo : sA (fun j => A j || decide (j = o)) (lfT J g' t) n = sA A (lfT J g' t) n + sA (fun j => decide (j = o)) (lfT J g' t) n := sA_or (fun j hj z => by
              have z1 := z.1; have z2 := z.2
              simp only [decide_eq_true_iff] at z2
              rw [z2] at z1; exact c2 z1)
            have hone : lfT J g' t o ≤ sA (fun j => decide (j = o)) (lfT J g' t) n := by
              have := smF_upd (f := fun _ => (0 : Int)) (g := fun j => if decide (j = o) = true then lfT J g' t j else 0) (c := o) (v := lfT J g' t o) ho (fun j hj hne => by simp [hne]) (by simp)
              rw [smF_0] at this
              show _ ≤ smF (fun j => if decide (j = o) = true then lfT J g' t j else 0) n
              omega
            have hle : sA (fun j => A j || decide (j = o)) (lfT J g' t) n ≤ sA (fun j => decide (J 0 j < (t : Int) + 1)) (lfT J g' t) n := sA_le (fun j hj => by
              have hj0 := hnn' j hj
              by_cases y : (A j || decide (j = o)) = true
              · have y2 : J 0 j < (t : Int) + 1 := by
                  rcases Bool.or_eq_true _ _ ▸ y with z | z
                  · exact hA j hj z
                  · simp only [decide_eq_true_iff] at z; rw [z]; omega
                rw [if_pos y, if_pos (by rw [decide_eq_true_iff]; exact y2)]; exact Int.le_refl _
              · rw [if_neg y]; split <;> omega)
            omega
    · exact keep (Or.inl c1)
theorem dom_all (h : Sch J n g T) (h' : Sch J n g' T) (hl : Lst J n g T) (hw : ∀ j, j < n → J 4 j = 0) (hc : ∀ j, j < n → 0 ≤ J 0 j) : ∀ t, t ≤ T → dom J n g g' t (t : Int) := by
  intro t
  induction t with
  | zero =>
    intro _ A hA
    have h0 : ∀ f : Nat → Int, sA A f n = 0 := fun f => by
      rw [← smF_0 n]
      exact smF_cong (fun j hj => if_neg (fun z => by have := hA j hj z; have := hc j hj; omega))
    refine ⟨A, hA, Int.le_refl _, ?_⟩
    rw [h0, h0]; exact Int.le_refl _
  | succ t ih => intro ht; exact dom_st h h' hl hw (by omega) (dom_in h h' (by omega) (ih (by omega)))
/-- how many are unfinished -/
abbrev ufT (J : Mm) (g : Nat → Int) (n t : Nat) : Int := smF (fun j => if 0 < lfT J g t j then 1 else 0) n
theorem uf_le (h : Sch J n g T) (h' : Sch J n g' T) (hl : Lst J n g T) (hw : ∀ j, j < n → J 4 j = 0) (hc : ∀ j, j < n → 0 ≤ J 0 j) (ht : t ≤ T) : ufT J g n t ≤ ufT J g' n t := by
  have hd := dom_all h h' hl hw hc t ht
  have hnn := h.2.2.2.2.1 t ht
  have hnn' := h'.2.2.2.2.1 t ht
  have hcm := lf_come h h' ht (Int.le_refl _)
  obtain ⟨B, hB, b1, b2⟩ := hd (fun j => decide (J 0 j < (t : Int)) && decide (0 < lfT J g' t j)) (fun j hj q => by simp only [Bool.and_eq_true, decide_eq_true_iff] at q; exact q.1)
  have eA : sA (fun j => decide (J 0 j < (t : Int)) && decide (0 < lfT J g' t j)) (lfT J g' t) n = sA (fun j => decide (J 0 j < (t : Int))) (lfT J g' t) n := sA_eq (fun j hj => by
    have := hnn' j hj
    by_cases y : J 0 j < (t : Int)
    · by_cases y2 : 0 < lfT J g' t j
      · rw [if_pos (by rw [Bool.and_eq_true, decide_eq_true_iff, decide_eq_true_iff]; exact ⟨y, y2⟩), if_pos (by rw [decide_eq_true_iff]; exact y)]
      · have : lfT J g' t j = 0 := by omega
        simp [y, this]
    · simp [y])
  -- all unfinished ones who have come are in B
  have hin : ∀ j, j < n → J 0 j < (t : Int) → 0 < lfT J g t j → B j = true := by
    intro j hj y1 y2
    by_cases y : B j = true
    · exact y
    · exfalso
      have := smF_lt (f := fun j => if B j = true then lfT J g t j else 0) (g := fun j => if decide (J 0 j < (t : Int)) = true then lfT J g t j else 0) (c := j) (fun i hi => by
        have := hnn i hi
        by_cases z : B i = true
        · rw [if_pos z, if_pos (by rw [decide_eq_true_iff]; exact hB i hi z)]; exact Int.le_refl _
        · rw [if_neg z]; split <;> omega) hj (by
        rw [if_neg y, if_pos (by rw [decide_eq_true_iff]; exact y1)]; exact y2)
      have b3 : smF (fun j => if decide (J 0 j < (t : Int)) = true then lfT J g' t j else 0) n ≤ smF (fun j => if B j = true then lfT J g t j else 0) n := by rw [← eA] at hcm; exact Int.le_trans (Int.le_of_eq eA.symm) b2
      have hcm2 : smF (fun j => if decide (J 0 j < (t : Int)) = true then lfT J g t j else 0) n = smF (fun j => if decide (J 0 j < (t : Int)) = true then lfT J g' t j else 0) n := hcm
      omega
  have s1 : sA (fun j => decide (J 0 j < (t : Int)) && decide (0 < lfT J g t j)) uno n ≤ sA B uno n := sA_le (fun j hj => by
    by_cases y : (decide (J 0 j < (t : Int)) && decide (0 < lfT J g t j)) = true
    · have y' := y
      simp only [Bool.and_eq_true, decide_eq_true_iff] at y'
      rw [if_pos y, if_pos (hin j hj y'.1 y'.2)]; exact Int.le_refl _
    · have hu : uno j = 1 := rfl
      rw [if_neg y]; split <;> omega)
  have spl : ∀ g : Nat → Int, Sch J n g T → ufT J g n t = sA (fun j => decide (J 0 j < (t : Int)) && decide (0 < lfT J g t j)) uno n + sA (fun j => !decide (J 0 j < (t : Int))) uno n := fun g hg => by
    rw [← sA_or (fun j hj q => by have q1 := q.1; have q2 := q.2; simp only [Bool.and_eq_true] at q1; rw [q1.1] at q2; exact absurd q2 (by decide))]
    refine smF_cong (fun j hj => ?_)
    by_cases y : J 0 j < (t : Int)
    · by_cases y2 : 0 < lfT J g t j
      · simp [y, y2]
      · simp [y, y2]
    · have e := lf_new hg hj t ht (by omega)
      have h1 := hg.2.2.2.2.2 j hj
      rw [if_pos (by omega)]
      simp [y]
  rw [spl g h, spl g' h']
  omega
end
