/-! ===== what errors() counts: the same busy time, the least sum ===== -/
section
variable {J : Mm} {n : Nat} {K K' : Nat → Int} {z z' : Int}
/-- as long, and idle at the same moments -/
theorem fn_busy (hD : okD J n) (hK : okK K) (hK' : okK K') (h2 : K 2 = 0) (h2' : K' 2 = 0) : (fnF J n K z).1 6 6 = (fnF J n K' z').1 6 6 ∧ ∀ t : Nat, (t : Int) < (fnF J n K z).1 6 6 → ((fnF J n K z).1 7 t = -1 ↔ (fnF J n K' z').1 7 t = -1) ∧ (-1 ≤ (fnF J n K z).1 7 t ∧ (fnF J n K z).1 7 t < n) := by
  obtain ⟨T, e, hS, -⟩ := fn_sch hD hK h2 (z := z)
  obtain ⟨T', e', hS', -⟩ := fn_sch hD hK' h2' (z := z')
  have h := sch_same hS hS'
  refine ⟨by rw [e, e', h.1], fun t ht => ⟨h.2 t (by omega), ?_⟩⟩
  rcases hS.1 t (by omega) with q | ⟨j, hj, q, -⟩ <;> omega
theorem fn_least (hD : okD J n) (hK : okK K) (hK' : okK K') (h2 : K 2 = 0) (h2' : K' 2 = 0) (h3 : K 0 = 3) (hw : ∀ j, j < n → J 4 j = 0) : sumE J n K z ≤ sumE J n K' z' := by
  obtain ⟨T, e, hS, hE, hL⟩ := fn_sch hD hK h2 (z := z)
  obtain ⟨T', e', hS', hE', -⟩ := fn_sch hD hK' h2' (z := z')
  exact srpt_sum hS hS' (hL h3 hw) hw (fun j hj => (okD_c hD hj).1) hE hE'
end
