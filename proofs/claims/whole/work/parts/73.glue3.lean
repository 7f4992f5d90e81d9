/-! ===== the law's glue: the calls that change the house ===== -/
section
variable {m : Mm}
/-- no run is any more -/
theorem eqH_no {m2 : Mm} (h1 : m2 0 7 = 0) (h2 : m2 123 25 = -1) : eqH m2 := by
  unfold eqH
  rw [h1, h2]
  exact ⟨⟨by omega, ⟨fun z => absurd z (by decide), fun z => absurd rfl z⟩⟩, fun z => absurd z (by decide)⟩
theorem hOK_no {m2 : Mm} (hJ : okJ m2) (hT : okTk m2) (hW : okWy m2) (h : m2 0 7 = 0) : hOK m2 := ⟨hJ, hT, hW, Or.inl h, fun z => by rw [h] at z; exact absurd z (by decide)⟩
theorem RL_job (hR : RLm m) {c le d we x : Int} (ez : rcJob (m 1 9) c le d we = 0) : RLm (Mjob (mup (mtell (mup m 0 7 0) c le d we) 151 0 x) c le d we) := by
  obtain ⟨hO, hE, hW, hT, hH⟩ := hR
  have hr : ((0 ≤ c ∧ c ≤ 99) ∧ (1 ≤ le ∧ le ≤ 30) ∧ (0 ≤ d ∧ d ≤ 400) ∧ (1 ≤ we ∧ we ≤ 9)) ∧ ¬ 12 ≤ m 1 9 := by
    unfold rcJob at ez
    split at ez
    · omega
    · rename_i q
      split at ez
      · omega
      · exact ⟨Classical.byContradiction q, by assumption⟩
  have hb : 0 ≤ m 1 9 ∧ m 1 9 ≤ 12 := hO.J.1
  obtain ⟨k, hk⟩ : ∃ k : Nat, m 1 9 = (k : Int) := ⟨(m 1 9).toNat, by omega⟩
  have hk9 : m 123 9 = (k : Int) := hE.2.trans hk
  generalize hM : Mjob (mup (mtell (mup m 0 7 0) c le d we) 151 0 x) c le d we = m2
  have row : ∀ a b, m2 a b = Mjob (mup (mtell (mup m 0 7 0) c le d we) 151 0 x) c le d we a b := fun a b => by rw [hM]
  have r3 : ∀ b, m2 3 b = if b = k then c else m 3 b := fun b => by rw [row]; simp [Mjob, mtell, mup, hk]
  have r5 : ∀ b, m2 5 b = if b = k then le else m 5 b := fun b => by rw [row]; simp [Mjob, mtell, mup, hk]
  have r7 : ∀ b, m2 7 b = if b = k then d else m 7 b := fun b => by rw [row]; simp [Mjob, mtell, mup, hk]
  have r9 : ∀ b, m2 9 b = if b = k then we else m 9 b := fun b => by rw [row]; simp [Mjob, mtell, mup, hk]
  have r11 : ∀ b, m2 11 b = if b = k then 0 else m 11 b := fun b => by rw [row]; simp [Mjob, mtell, mup, hk]
  have r13 : ∀ b, m2 13 b = if b = k then 0 else m 13 b := fun b => by rw [row]; simp [Mjob, mtell, mup, hk]
  have r1 : m2 1 9 = (k : Int) + 1 := by rw [row]; simp [Mjob, mtell, mup, hk]
  have q9 : m2 123 9 = (k : Int) + 1 := by rw [row]; simp [Mjob, mtell, mup, hk9]
  have q124 : ∀ b, m2 124 b = if b = k then c else m 124 b := fun b => by rw [row]; simp [Mjob, mtell, mup, hk9]
  have q125 : ∀ b, m2 125 b = if b = k then le else m 125 b := fun b => by rw [row]; simp [Mjob, mtell, mup, hk9]
  have q126 : ∀ b, m2 126 b = if b = k then d else m 126 b := fun b => by rw [row]; simp [Mjob, mtell, mup, hk9]
  have q127 : ∀ b, m2 127 b = if b = k then we else m 127 b := fun b => by rw [row]; simp [Mjob, mtell, mup, hk9]
  have q128 : ∀ b, m2 128 b = if b = k then 0 else m 128 b := fun b => by rw [row]; simp [Mjob, mtell, mup, hk9]
  have q129 : ∀ b, m2 129 b = if b = k then 0 else m 129 b := fun b => by rw [row]; simp [Mjob, mtell, mup, hk9]
  have same : ∀ a, a ∉ [0, 1, 3, 5, 7, 9, 11, 13, 123, 124, 125, 126, 127, 128, 129, 151] → m2 a = m a := fun a ha => by
    simp only [List.mem_cons, List.not_mem_nil, or_false, not_or] at ha
    obtain ⟨h0, h1, h3, h5, h7, h9, h11, h13, h123, h124, h125, h126, h127, h128, h129, h151⟩ := ha
    funext b; rw [row]; simp [Mjob, mtell, mup, h0, h1, h3, h5, h7, h9, h11, h13, h123, h124, h125, h126, h127, h128, h129, h151]
  have f123 : ∀ b, b ≠ 9 → b ≠ 14 → b ≠ 25 → m2 123 b = m 123 b := fun b h9 h14 h25 => by rw [row]; simp [Mjob, mtell, mup, h9, h14, h25]
  have f25 : m2 123 25 = -1 := by rw [row]; simp [Mjob, mtell, mup]
  have f07 : m2 0 7 = 0 := by rw [row]; simp [Mjob, mtell, mup]
  clear row hM
  have hJ := hO.J.2
  obtain ⟨⟨e3, e5, e7, e9, e11, e13, e15, e17, e19⟩, -⟩ := hE
  refine ⟨hOK_no ⟨by omega, fun j hj => ?_⟩ ?_ ?_ f07, ⟨⟨?_, ?_, ?_, ?_, ?_, ?_, ?_, ?_, ?_⟩, by rw [q9, r1]⟩, ?_, ?_, eqH_no f07 f25⟩
  · rw [r3, r5, r7, r9, r11, r13, same 15 (by decide), same 17 (by decide), same 19 (by decide)]
    by_cases q : j = k
    · simp only [if_pos q]
      exact ⟨hr.1.1, hr.1.2.1, hr.1.2.2.1, hr.1.2.2.2, ⟨Int.le_refl _, by have : 0 < 2 ^ j := Nat.two_pow_pos j; omega⟩, ⟨Int.le_refl _, by decide⟩, fun i hi => absurd hi (by omega), fun i i' hi => absurd hi (by omega)⟩
    · simp only [if_neg q]
      exact hJ j (by omega)
  · unfold okTk
    rw [same 20 (by decide), same 22 (by decide), same 24 (by decide), same 26 (by decide)]
    exact hO.T
  · unfold okWy
    rw [same 27 (by decide)]
    exact hO.W
  · funext b; rw [q124, r3, e3]
  · funext b; rw [q125, r5, e5]
  · funext b; rw [q126, r7, e7]
  · funext b; rw [q127, r9, e9]
  · funext b; rw [q128, r11, e11]
  · funext b; rw [q129, r13, e13]
  · rw [same 130 (by decide), same 15 (by decide)]; exact e15
  · rw [same 131 (by decide), same 17 (by decide)]; exact e17
  · rw [same 132 (by decide), same 19 (by decide)]; exact e19
  · unfold eqW
    rw [f123 10 (by decide) (by decide) (by decide), f123 11 (by decide) (by decide) (by decide), f123 12 (by decide) (by decide) (by decide), f123 13 (by decide) (by decide) (by decide), f123 15 (by decide) (by decide) (by decide), same 27 (by decide)]
    exact hW
  · unfold eqT
    rw [f123 19 (by decide) (by decide) (by decide), same 133 (by decide), same 134 (by decide), same 135 (by decide), same 20 (by decide), same 22 (by decide), same 24 (by decide), same 26 (by decide)]
    exact hT
end
