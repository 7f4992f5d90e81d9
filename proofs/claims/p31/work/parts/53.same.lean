/-! ===== what errors() counts: the same busy time, the least sum ===== -/
section
variable {J : Mm} {n : Nat} {K K' : Nat → Int} {z z' : Int}
/-- as long, and idle at the same moments -/
theorem fn_busy (hD : okD J n) (hK : okK K) (hK' : okK K') (h2 : K 2 = 0) (h2' : K' 2 = 0) : (fnF J n K z).1 6 6 = (fnF J n K' z').1 6 6 ∧ ∀ t : Nat, (t : Int) < (fnF J n K z).1 6 6 → ((fnF J n K z).1 7 t = -1 ↔ (fnF J n K' z').1 7 t = -1) ∧ (-1 ≤ (fnF J n K z).1 7 t ∧ (fnF J n K z).1 7 t < n) := by
  obtain ⟨T, e, hS, -⟩ := fn_sch hD hK h2 (z := z)
  obtain ⟨T', e', hS', -⟩ := fn_sch hD hK' h2' (z := z')
  have h := sch_same hS hS'
  refine ⟨by rw [e, e', h.1], fun t ht => ⟨h.2 t (by omega), ?_⟩⟩
  rcases hS.1 t (by omega) with q | ⟨j, hj, q, -⟩ <;> omega
theorem fn_least (hD : okD J n) (hK : okK K) (hK' : okK K') (h2 : K 2 = 0) (h2' : K' 2 = 0) (h3 : K 0 = 3) (hw : ∀ j, j < n → J 4 j = 0) : sumE J n K z ≤ sumE J n K' z' := by
  obtain ⟨T, e, hS, hE, hL⟩ := fn_sch hD hK h2 (z := z)
  obtain ⟨T', e', hS', hE', -⟩ := fn_sch hD hK' h2' (z := z')
  exact srpt_sum hS hS' (hL h3 hw) hw (fun j hj => (okD_c hD hj).1) hE hE'
end
section
variable {J : Mm} {n : Nat} {K K' : Nat → Int} {z z' : Int}
theorem asB_1 {f f' : Nat → Int} : ∀ (d t : Nat), (∀ i, t ≤ i → i < t + d → (f i = -1 ↔ f' i = -1) ∧ -1 ≤ f i ∧ -1 ≤ f' i) → asB f f' d t 0 = 1 := by
  intro d
  induction d with
  | zero => intro t _; simp [asB]
  | succ d ih =>
    intro t h
    have h0 := h t (Nat.le_refl _) (by omega)
    simp only [asB]
    rw [if_neg (by rintro (q | q); exact q rfl; exact q h0.1)]
    have e : (0 : Int) + ((if 0 ≤ f t then 1 else 0) - (if 0 ≤ f' t then 1 else 0)) = 0 := by
      by_cases q : f t = -1
      · have := h0.1.mp q
        rw [if_neg (by omega), if_neg (by omega)]; rfl
      · have q2 : ¬ f' t = -1 := fun z => q (h0.1.mpr z)
        rw [if_pos (by omega), if_pos (by omega)]; rfl
    rw [e]
    exact ih (t + 1) (fun i h1 h2 => h i (by omega) (by omega))
/-- two runs' courses in a memory are as busy as each other -/
theorem bsy_1 {μ : Mm} {o o' : Nat} (hD : okD J n) (hK : okK K) (hK' : okK K') (h2 : K 2 = 0) (h2' : K' 2 = 0) (e : μ o 0 = (fnF J n K z).1 6 6) (e' : μ o' 0 = (fnF J n K' z').1 6 6) (g : ∀ t : Nat, (t : Int) < (fnF J n K z).1 6 6 → μ (o + 2) t = (fnF J n K z).1 7 t) (g' : ∀ t : Nat, (t : Int) < (fnF J n K' z').1 6 6 → μ (o' + 2) t = (fnF J n K' z').1 7 t) : bsy μ o o' = 1 := by
  have h := fn_busy hD hK hK' h2 h2' (z := z) (z' := z')
  have h' := fn_busy hD hK' hK h2' h2 (z := z') (z' := z)
  unfold bsy
  refine asB_1 _ _ (fun i _ hi => ?_)
  have hi2 : (i : Int) < (fnF J n K z).1 6 6 := by
    rw [e, e', ← h.1] at hi
    rw [if_neg (by omega)] at hi
    omega
  have q := h.2 i hi2
  have q' := h'.2 i (by rw [← h.1]; exact hi2)
  rw [doF_y ⟨by omega, by rw [e]; exact hi2⟩, doF_y ⟨by omega, by rw [e', ← h.1]; exact hi2⟩, Int.toNat_natCast, g i hi2, g' i (by rw [← h.1]; exact hi2)]
  exact ⟨q.1, q.2.1, q'.2.1⟩
end
