/-! ===== the law: the class finds no error in itself ===== -/
section
variable {μ m J : Mm} {n : Nat}
theorem smD_ex : ∀ i : Nat, smD μ n i = true → ∃ r : Nat, r < i ∧ lateE (jm μ) n (kE μ (r : Int)) (μ 27 3) = 0 := by
  intro i
  induction i with
  | zero => intro h; exact absurd h (by simp [smD])
  | succ i ih =>
    intro h
    simp only [smD, Bool.or_eq_true, decide_eq_true_eq] at h
    rcases h with h | h
    · obtain ⟨r, h1, h2⟩ := ih h; exact ⟨r, by omega, h2⟩
    · exact ⟨i, by omega, h⟩
theorem erA_0 (hO : hOK μ) (hn : μ 1 9 = (n : Int)) : erA μ n = 0 := by
  unfold erA
  split
  · rfl
  · rename_i hw
    have hD := okJD hO.J hn
    have hW := hO.W
    have hok := fun (r : Int) (h : 0 ≤ r ∧ r ≤ 8) => okK_kof (r := r) (s := μ 27 0) (c := 0) (le := μ 27 4) (ri := μ 27 2) h hW.1 (by omega) hW.2.2.2 hW.2.2.1
    have hw4 : ∀ j, j < n → (jm μ) 4 j = 0 := fun j hj => by
      show μ 11 j = 0
      refine Decidable.byContradiction fun q => hw ?_
      exact ⟨j, hj, q⟩
    have h34 : fuB (μ 3) (μ 5) (μ 7) n 100 0 = -1 → lateE (jm μ) n (kE μ 6) (μ 27 3) = 0 := fun q => edf_full hD (hok 6 (by omega)) rfl rfl hw4 q
    have e3 : er3 μ n = 0 := by
      unfold er3
      rw [if_neg ?_]
      rintro ⟨h1, h2⟩
      obtain ⟨r, hr, hl⟩ := smD_ex 9 h2
      exact h1 (h34 (any_full hD (hok (r : Int) (by omega)) rfl hl))
    have e4 : er4 μ n = 0 := by
      unfold er4
      rw [if_pos ⟨fun h => any_full hD (hok 6 (by omega)) rfl h, h34⟩]
    rw [e3, e4]; rfl
theorem two_pos (hD : okD J n) (h0 : 0 < n) {le : Int} : 0 < anTw J n le 0 := by
  obtain ⟨h1, h2, -⟩ := tn_is hD (le := le)
  have hb : ∀ j, j < n → 0 < tnN J n le 1 j := fun j hj => by
    have q := (h1.2 j hj).2.2.2.2.1 (h2 j hj)
    have := okD_c hD hj
    omega
  unfold anTw
  rw [if_pos rfl]
  generalize tnN J n le 1 = f at hb ⊢
  obtain ⟨k, rfl⟩ : ∃ k, n = k + 1 := ⟨n - 1, by omega⟩
  have := smF_nn (f := f) (n := k) (fun j hj => by have := hb j (by omega); omega)
  have := hb k (by omega)
  simp only [smF]; omega
theorem two_b (hD : okD J n) {le : Int} : (0 ≤ anTw J n le 0 ∧ anTw J n le 0 ≤ 100000) ∧ (0 ≤ anTw J n le 1 ∧ anTw J n le 1 ≤ 12) := by
  obtain ⟨h1, h2, h3⟩ := tn_is hD (le := le)
  have hn := hD.1
  have hb : ∀ j, j < n → 0 ≤ tnN J n le 1 j ∧ tnN J n le 1 j ≤ 460 := fun j hj => by
    have q := (h1.2 j hj).2.2.2.2.1 (h2 j hj)
    have := okD_c hD hj
    omega
  unfold anTw
  rw [if_pos rfl, if_neg (by decide)]
  have q1 := smF_b (f := tnN J n le 1) (c := 460) (n := n) hb
  have q2 := latN_b (J 2) (tnN J n le 1) n
  omega
theorem bst_b {f : Nat → Int} : ∀ k : Nat, k ≤ 20 → 1 ≤ (bstF f k).1 ∧ (bstF f k).1 ≤ 20 := by
  intro k
  induction k with
  | zero => intro _; simp [bstF]
  | succ k ih =>
    intro hk
    have := ih (by omega)
    simp only [bstF]
    split
    · simp only; omega
    · exact this
end
