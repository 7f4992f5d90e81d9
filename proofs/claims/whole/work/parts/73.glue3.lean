/-! ===== the law's glue: the calls that change the house ===== -/
section
variable {m : Mm}
/-- no run is any more -/
theorem eqH_no {m2 : Mm} (h1 : m2 0 7 = 0) (h2 : m2 123 25 = -1) : eqH m2 := by
  unfold eqH
  rw [h1, h2]
  exact ⟨⟨by omega, ⟨fun z => absurd z (by decide), fun z => absurd rfl z⟩⟩, fun z => absurd z (by decide)⟩
theorem hOK_no {m2 : Mm} (hJ : okJ m2) (hT : okTk m2) (hW : okWy m2) (h : m2 0 7 = 0) : hOK m2 := ⟨hJ, hT, hW, Or.inl h, fun z => by rw [h] at z; exact absurd z (by decide)⟩
theorem RL_job (hR : RLm m) {c le d we x : Int} (ez : rcJob (m 1 9) c le d we = 0) : RLm (Mjob (mup (mtell (mup m 0 7 0) c le d we) 151 0 x) c le d we) := by
  obtain ⟨hO, hE, hW, hT, hH⟩ := hR
  have hr : ((0 ≤ c ∧ c ≤ 99) ∧ (1 ≤ le ∧ le ≤ 30) ∧ (0 ≤ d ∧ d ≤ 400) ∧ (1 ≤ we ∧ we ≤ 9)) ∧ ¬ 12 ≤ m 1 9 := by
    unfold rcJob at ez
    split at ez
    · omega
    · rename_i q
      split at ez
      · omega
      · exact ⟨Classical.byContradiction q, by assumption⟩
  have hb : 0 ≤ m 1 9 ∧ m 1 9 ≤ 12 := hO.J.1
  obtain ⟨k, hk⟩ : ∃ k : Nat, m 1 9 = (k : Int) := ⟨(m 1 9).toNat, by omega⟩
  have hk9 : m 123 9 = (k : Int) := hE.2.trans hk
  generalize hM : Mjob (mup (mtell (mup m 0 7 0) c le d we) 151 0 x) c le d we = m2
  have row : ∀ a b, m2 a b = Mjob (mup (mtell (mup m 0 7 0) c le d we) 151 0 x) c le d we a b := fun a b => by rw [hM]
  have r3 : ∀ b, m2 3 b = if b = k then c else m 3 b := fun b => by rw [row]; simp [Mjob, mtell, mup, hk]
  have r5 : ∀ b, m2 5 b = if b = k then le else m 5 b := fun b => by rw [row]; simp [Mjob, mtell, mup, hk]
  have r7 : ∀ b, m2 7 b = if b = k then d else m 7 b := fun b => by rw [row]; simp [Mjob, mtell, mup, hk]
  have r2 : ∀ b, m2 2 b = if b = k then (if d = 0 then 401 else d) else m 2 b := fun b => by rw [row]; simp [Mjob, mtell, mup, hk]
  have r9 : ∀ b, m2 9 b = if b = k then we else m 9 b := fun b => by rw [row]; simp [Mjob, mtell, mup, hk]
  have r11 : ∀ b, m2 11 b = if b = k then 0 else m 11 b := fun b => by rw [row]; simp [Mjob, mtell, mup, hk]
  have r13 : ∀ b, m2 13 b = if b = k then 0 else m 13 b := fun b => by rw [row]; simp [Mjob, mtell, mup, hk]
  have r1 : m2 1 9 = (k : Int) + 1 := by rw [row]; simp [Mjob, mtell, mup, hk]
  have q9 : m2 123 9 = (k : Int) + 1 := by rw [row]; simp [Mjob, mtell, mup, hk9]
  have q124 : ∀ b, m2 124 b = if b = k then c else m 124 b := fun b => by rw [row]; simp [Mjob, mtell, mup, hk9]
  have q125 : ∀ b, m2 125 b = if b = k then le else m 125 b := fun b => by rw [row]; simp [Mjob, mtell, mup, hk9]
  have q126 : ∀ b, m2 126 b = if b = k then d else m 126 b := fun b => by rw [row]; simp [Mjob, mtell, mup, hk9]
  have q127 : ∀ b, m2 127 b = if b = k then we else m 127 b := fun b => by rw [row]; simp [Mjob, mtell, mup, hk9]
  have q128 : ∀ b, m2 128 b = if b = k then 0 else m 128 b := fun b => by rw [row]; simp [Mjob, mtell, mup, hk9]
  have q129 : ∀ b, m2 129 b = if b = k then 0 else m 129 b := fun b => by rw [row]; simp [Mjob, mtell, mup, hk9]
  have same : ∀ a, a ∉ [0, 1, 2, 3, 5, 7, 9, 11, 13, 123, 124, 125, 126, 127, 128, 129, 151] → m2 a = m a := fun a ha => by
    simp only [List.mem_cons, List.not_mem_nil, or_false, not_or] at ha
    obtain ⟨h0, h1, h2, h3, h5, h7, h9, h11, h13, h123, h124, h125, h126, h127, h128, h129, h151⟩ := ha
    funext b; rw [row]; simp [Mjob, mtell, mup, h0, h1, h2, h3, h5, h7, h9, h11, h13, h123, h124, h125, h126, h127, h128, h129, h151]
  have f123 : ∀ b, b ≠ 9 → b ≠ 14 → b ≠ 25 → m2 123 b = m 123 b := fun b h9 h14 h25 => by rw [row]; simp [Mjob, mtell, mup, h9, h14, h25]
  have f25 : m2 123 25 = -1 := by rw [row]; simp [Mjob, mtell, mup]
  have f07 : m2 0 7 = 0 := by rw [row]; simp [Mjob, mtell, mup]
  clear row hM
  have hJ := hO.J.2
  obtain ⟨⟨e3, e5, e7, e9, e11, e13, e15, e17, e19⟩, -⟩ := hE
  refine ⟨hOK_no ⟨by omega, fun j hj => ?_⟩ ?_ ?_ f07, ⟨⟨?_, ?_, ?_, ?_, ?_, ?_, ?_, ?_, ?_⟩, by rw [q9, r1]⟩, ?_, ?_, eqH_no f07 f25⟩
  · rw [r3, r5, r7, r2, r9, r11, r13, same 15 (by decide), same 17 (by decide), same 19 (by decide)]
    by_cases q : j = k
    · simp only [if_pos q]
      exact ⟨hr.1.1, hr.1.2.1, hr.1.2.2.1, hr.1.2.2.2, ⟨Int.le_refl _, by have : 0 < 2 ^ j := Nat.two_pow_pos j; omega⟩, ⟨Int.le_refl _, by decide⟩, fun i hi => absurd hi (by omega), fun i i' hi => absurd hi (by omega), by first | rfl | trivial⟩
    · simp only [if_neg q]
      exact hJ j (by omega)
  · unfold okTk
    rw [same 20 (by decide), same 22 (by decide), same 24 (by decide), same 26 (by decide)]
    exact hO.T
  · unfold okWy
    rw [same 27 (by decide)]
    exact hO.W
  · funext b; rw [q124, r3, e3]
  · funext b; rw [q125, r5, e5]
  · funext b; rw [q126, r7, e7]
  · funext b; rw [q127, r9, e9]
  · funext b; rw [q128, r11, e11]
  · funext b; rw [q129, r13, e13]
  · rw [same 130 (by decide), same 15 (by decide)]; exact e15
  · rw [same 131 (by decide), same 17 (by decide)]; exact e17
  · rw [same 132 (by decide), same 19 (by decide)]; exact e19
  · unfold eqW
    rw [f123 10 (by decide) (by decide) (by decide), f123 11 (by decide) (by decide) (by decide), f123 12 (by decide) (by decide) (by decide), f123 13 (by decide) (by decide) (by decide), f123 15 (by decide) (by decide) (by decide), same 27 (by decide)]
    exact hW
  · unfold eqT
    rw [f123 19 (by decide) (by decide) (by decide), same 133 (by decide), same 134 (by decide), same 135 (by decide), same 20 (by decide), same 22 (by decide), same 24 (by decide), same 26 (by decide)]
    exact hT
theorem RL_after (hR : RLm m) {j p x : Int} (ez : rcAft (m 1 9) j p = 0) : RLm (Maft (mup (mup (mup m 0 7 0) 11 j.toNat (((m 11 j.toNat).toNat ||| 2 ^ p.toNat : Nat) : Int)) 151 0 x) j.toNat p.toNat) := by
  obtain ⟨hO, hE, hW, hT, hH⟩ := hR
  have hr : (0 ≤ j ∧ j < m 1 9) ∧ (0 ≤ p ∧ p < m 1 9) ∧ ¬ j ≤ p := by
    unfold rcAft at ez
    split at ez
    · omega
    · rename_i q
      split at ez
      · omega
      · rename_i q2
        exact ⟨Classical.byContradiction fun z => q (Or.inl z), Classical.byContradiction fun z => q (Or.inr z), q2⟩
  have hE0 := hE
  obtain ⟨⟨e3, e5, e7, e9, e11, e13, e15, e17, e19⟩, e123⟩ := hE0
  obtain ⟨jj, hj⟩ : ∃ k : Nat, j = (k : Int) := ⟨j.toNat, by omega⟩
  obtain ⟨pp, hp⟩ : ∃ k : Nat, p = (k : Int) := ⟨p.toNat, by omega⟩
  subst hj
  subst hp
  rw [Int.toNat_natCast, Int.toNat_natCast]
  generalize hv : (((m 11 jj).toNat ||| 2 ^ pp : Nat) : Int) = v
  have hv2 : (((m 128 jj).toNat ||| 2 ^ pp : Nat) : Int) = v := by rw [e11]; exact hv
  generalize hM : Maft (mup (mup (mup m 0 7 0) 11 jj v) 151 0 x) jj pp = m2
  have row : ∀ a b, m2 a b = Maft (mup (mup (mup m 0 7 0) 11 jj v) 151 0 x) jj pp a b := fun a b => by rw [hM]
  have r11 : ∀ b, m2 11 b = if b = jj then v else m 11 b := fun b => by rw [row]; simp [Maft, mup]
  have q128 : ∀ b, m2 128 b = if b = jj then v else m 128 b := fun b => by
    rw [row]
    show mup (mup (mup (mup (mup (mup m 0 7 0) 11 jj v) 151 0 x) 128 jj _) 123 25 (-1)) 123 14 0 128 b = _
    rw [mup_nk (by decide), mup_nk (by decide), mup_row, mup_nk (by decide), mup_nk (by decide), mup_nk (by decide)]
    rw [hv2, mup_nk (by decide), mup_nk (by decide), mup_nk (by decide)]
  have same : ∀ a, a ∉ [0, 11, 123, 128, 151] → m2 a = m a := fun a ha => by
    simp only [List.mem_cons, List.not_mem_nil, or_false, not_or] at ha
    obtain ⟨h0, h11, h123, h128, h151⟩ := ha
    funext b; rw [row]; simp [Maft, mup, h0, h11, h123, h128, h151]
  have f123 : ∀ b, b ≠ 14 → b ≠ 25 → m2 123 b = m 123 b := fun b h14 h25 => by rw [row]; simp [Maft, mup, h14, h25]
  have f25 : m2 123 25 = -1 := by rw [row]; simp [Maft, mup]
  have f07 : m2 0 7 = 0 := by rw [row]; simp [Maft, mup]
  clear row hM
  have hJ := hO.J.2
  have hvb : 0 ≤ v ∧ v < (2 ^ jj : Nat) := by
    have h1 := (hJ jj (by omega)).2.2.2.2.1
    have h2 : (m 11 jj).toNat < 2 ^ jj := by omega
    have h3 : 2 ^ pp < 2 ^ jj := Nat.pow_lt_pow_right (by omega) (by omega)
    have h4 := Nat.or_lt_two_pow h2 h3
    omega
  refine ⟨hOK_no ⟨by rw [same 1 (by decide)]; exact hO.J.1, fun i hi => ?_⟩ ?_ ?_ f07, ⟨⟨?_, ?_, ?_, ?_, ?_, ?_, ?_, ?_, ?_⟩, by rw [f123 9 (by decide) (by decide), same 1 (by decide)]; exact e123⟩, ?_, ?_, eqH_no f07 f25⟩
  · rw [same 1 (by decide)] at hi
    rw [r11, same 2 (by decide), same 3 (by decide), same 5 (by decide), same 7 (by decide), same 9 (by decide), same 13 (by decide), same 15 (by decide), same 17 (by decide), same 19 (by decide)]
    have h := hJ i hi
    refine ⟨h.1, h.2.1, h.2.2.1, h.2.2.2.1, ?_, h.2.2.2.2.2⟩
    by_cases q : i = jj
    · rw [if_pos q, q]; exact hvb
    · rw [if_neg q]; exact h.2.2.2.2.1
  · unfold okTk
    rw [same 20 (by decide), same 22 (by decide), same 24 (by decide), same 26 (by decide)]
    exact hO.T
  · unfold okWy
    rw [same 27 (by decide)]
    exact hO.W
  · rw [same 124 (by decide), same 3 (by decide)]; exact e3
  · rw [same 125 (by decide), same 5 (by decide)]; exact e5
  · rw [same 126 (by decide), same 7 (by decide)]; exact e7
  · rw [same 127 (by decide), same 9 (by decide)]; exact e9
  · funext b; rw [q128, r11, e11]
  · rw [same 129 (by decide), same 13 (by decide)]; exact e13
  · rw [same 130 (by decide), same 15 (by decide)]; exact e15
  · rw [same 131 (by decide), same 17 (by decide)]; exact e17
  · rw [same 132 (by decide), same 19 (by decide)]; exact e19
  · unfold eqW
    rw [f123 10 (by decide) (by decide), f123 11 (by decide) (by decide), f123 12 (by decide) (by decide), f123 13 (by decide) (by decide), f123 15 (by decide) (by decide), same 27 (by decide)]
    exact hW
  · unfold eqT
    rw [f123 19 (by decide) (by decide), same 133 (by decide), same 134 (by decide), same 135 (by decide), same 20 (by decide), same 22 (by decide), same 24 (by decide), same 26 (by decide)]
    exact hT
theorem RL_lock (hR : RLm m) {j y f u x : Int} (ez : rcLk (m 1 9) (m 5) (m 13) (m 17) (m 19) j y f u = 0) : RLm (Mlk (mup (mstretch (mup m 0 7 0) j.toNat y f u) 151 0 x) j.toNat y f u) := by
  obtain ⟨hO, hE, hW, hT, hH⟩ := hR
  have hr : ((0 ≤ j ∧ j < m 1 9) ∧ (0 ≤ y ∧ y ≤ 2)) ∧ ((0 ≤ f ∧ f < u ∧ u ≤ m 5 j.toNat) ∧ ¬ ovl (m 13) (m 17) (m 19) j.toNat f u) ∧ ¬ 3 ≤ m 13 j.toNat := by
    unfold rcLk at ez
    split at ez
    · omega
    · rename_i q
      split at ez
      · omega
      · rename_i q2
        split at ez
        · omega
        · rename_i q3
          exact ⟨⟨Classical.byContradiction fun z => q (Or.inl z), Classical.byContradiction fun z => q (Or.inr z)⟩, ⟨Classical.byContradiction fun z => q2 (Or.inl z), fun z => q2 (Or.inr z)⟩, q3⟩
  have hE0 := hE
  obtain ⟨⟨e3, e5, e7, e9, e11, e13, e15, e17, e19⟩, e123⟩ := hE0
  obtain ⟨jj, hj⟩ : ∃ k : Nat, j = (k : Int) := ⟨j.toNat, by omega⟩
  subst hj
  rw [Int.toNat_natCast] at hr ⊢
  have hJ := hO.J.2
  have hJj := hJ jj (by omega)
  obtain ⟨kk, hk⟩ : ∃ k : Nat, m 13 jj = (k : Int) := ⟨(m 13 jj).toNat, by omega⟩
  have hk2 : m 129 jj = (kk : Int) := by rw [e13]; exact hk
  generalize hM : Mlk (mup (mstretch (mup m 0 7 0) jj y f u) 151 0 x) jj y f u = m2
  have row : ∀ a b, m2 a b = Mlk (mup (mstretch (mup m 0 7 0) jj y f u) 151 0 x) jj y f u a b := fun a b => by rw [hM]
  have r13 : ∀ b, m2 13 b = if b = jj then (kk : Int) + 1 else m 13 b := fun b => by rw [row]; simp [Mlk, mstretch, mup, hk]
  have r15 : ∀ b, m2 15 b = if b = 3 * jj + kk then y else m 15 b := fun b => by rw [row]; simp [Mlk, mstretch, mup, hk]
  have r17 : ∀ b, m2 17 b = if b = 3 * jj + kk then f else m 17 b := fun b => by rw [row]; simp [Mlk, mstretch, mup, hk]
  have r19 : ∀ b, m2 19 b = if b = 3 * jj + kk then u else m 19 b := fun b => by rw [row]; simp [Mlk, mstretch, mup, hk]
  have q129 : ∀ b, m2 129 b = if b = jj then (kk : Int) + 1 else m 129 b := fun b => by rw [row]; simp [Mlk, mstretch, mup, hk2]
  have q130 : ∀ b, m2 130 b = if b = 3 * jj + kk then y else m 130 b := fun b => by rw [row]; simp [Mlk, mstretch, mup, hk2]
  have q131 : ∀ b, m2 131 b = if b = 3 * jj + kk then f else m 131 b := fun b => by rw [row]; simp [Mlk, mstretch, mup, hk2]
  have q132 : ∀ b, m2 132 b = if b = 3 * jj + kk then u else m 132 b := fun b => by rw [row]; simp [Mlk, mstretch, mup, hk2]
  have same : ∀ a, a ∉ [0, 13, 15, 17, 19, 123, 129, 130, 131, 132, 151] → m2 a = m a := fun a ha => by
    simp only [List.mem_cons, List.not_mem_nil, or_false, not_or] at ha
    obtain ⟨h0, h13, h15, h17, h19, h123, h129, h130, h131, h132, h151⟩ := ha
    funext b; rw [row]; simp [Mlk, mstretch, mup, h0, h13, h15, h17, h19, h123, h129, h130, h131, h132, h151]
  have f123 : ∀ b, b ≠ 14 → b ≠ 25 → m2 123 b = m 123 b := fun b h14 h25 => by rw [row]; simp [Mlk, mstretch, mup, h14, h25]
  have f25 : m2 123 25 = -1 := by rw [row]; simp [Mlk, mstretch, mup]
  have f07 : m2 0 7 = 0 := by rw [row]; simp [Mlk, mstretch, mup]
  clear row hM
  refine ⟨hOK_no ⟨by rw [same 1 (by decide)]; exact hO.J.1, fun i hi => ?_⟩ ?_ ?_ f07, ⟨⟨?_, ?_, ?_, ?_, ?_, ?_, ?_, ?_, ?_⟩, by rw [f123 9 (by decide) (by decide), same 1 (by decide)]; exact e123⟩, ?_, ?_, eqH_no f07 f25⟩
  · rw [same 1 (by decide)] at hi
    rw [same 2 (by decide), same 3 (by decide), same 5 (by decide), same 7 (by decide), same 9 (by decide), same 11 (by decide), r13]
    have h := hJ i hi
    by_cases q : i = jj
    · subst q
      rw [if_pos rfl]
      refine ⟨h.1, h.2.1, h.2.2.1, h.2.2.2.1, h.2.2.2.2.1, by omega, fun b hb => ?_, fun b b' hb hb' hne => ?_, h.2.2.2.2.2.2.2.2⟩
      · rw [r15, r17, r19]
        by_cases z : b = kk
        · subst z
          rw [if_pos rfl, if_pos rfl, if_pos rfl]; omega
        · rw [if_neg (by omega), if_neg (by omega), if_neg (by omega)]
          exact h.2.2.2.2.2.2.1 b (by omega)
      · rw [r17, r19, r17, r19]
        have ov : ∀ c : Nat, c < kk → m 19 (3 * i + c) ≤ f ∨ u ≤ m 17 (3 * i + c) := fun c hc => by
          by_cases z : m 19 (3 * i + c) ≤ f
          · exact Or.inl z
          · by_cases z2 : u ≤ m 17 (3 * i + c)
            · exact Or.inr z2
            · exact absurd ⟨c, by omega, by omega, by omega⟩ hr.2.1.2
        by_cases z : b = kk
        · have z1 : 3 * i + b = 3 * i + kk := by omega
          have z2 : ¬ 3 * i + b' = 3 * i + kk := by omega
          rw [if_pos z1, if_pos z1, if_neg z2, if_neg z2]
          exact (ov b' (by omega)).symm
        · have z1 : ¬ 3 * i + b = 3 * i + kk := by omega
          rw [if_neg z1, if_neg z1]
          by_cases z' : b' = kk
          · have z2 : 3 * i + b' = 3 * i + kk := by omega
            rw [if_pos z2, if_pos z2]
            exact ov b (by omega)
          · have z2 : ¬ 3 * i + b' = 3 * i + kk := by omega
            rw [if_neg z2, if_neg z2]
            exact h.2.2.2.2.2.2.2.1 b b' (by omega) (by omega) hne
    · rw [if_neg q]
      refine ⟨h.1, h.2.1, h.2.2.1, h.2.2.2.1, h.2.2.2.2.1, h.2.2.2.2.2.1, fun b hb => ?_, fun b b' hb hb' hne => ?_, h.2.2.2.2.2.2.2.2⟩
      · have hb3 := h.2.2.2.2.2.1
        rw [r15, r17, r19, if_neg (by omega), if_neg (by omega), if_neg (by omega)]
        exact h.2.2.2.2.2.2.1 b hb
      · have hb3 := h.2.2.2.2.2.1
        rw [r17, r19, r17, r19, if_neg (by omega), if_neg (by omega), if_neg (by omega), if_neg (by omega)]
        exact h.2.2.2.2.2.2.2.1 b b' hb hb' hne
  · unfold okTk
    rw [same 20 (by decide), same 22 (by decide), same 24 (by decide), same 26 (by decide)]
    exact hO.T
  · unfold okWy
    rw [same 27 (by decide)]
    exact hO.W
  · rw [same 124 (by decide), same 3 (by decide)]; exact e3
  · rw [same 125 (by decide), same 5 (by decide)]; exact e5
  · rw [same 126 (by decide), same 7 (by decide)]; exact e7
  · rw [same 127 (by decide), same 9 (by decide)]; exact e9
  · rw [same 128 (by decide), same 11 (by decide)]; exact e11
  · funext b; rw [q129, r13, e13]
  · funext b; rw [q130, r15, e15]
  · funext b; rw [q131, r17, e17]
  · funext b; rw [q132, r19, e19]
  · unfold eqW
    rw [f123 10 (by decide) (by decide), f123 11 (by decide) (by decide), f123 12 (by decide) (by decide), f123 13 (by decide) (by decide), f123 15 (by decide) (by decide), same 27 (by decide)]
    exact hW
  · unfold eqT
    rw [f123 19 (by decide) (by decide), same 133 (by decide), same 134 (by decide), same 135 (by decide), same 20 (by decide), same 22 (by decide), same 24 (by decide), same 26 (by decide)]
    exact hT
theorem RL_turns (hR : RLm m) {s c ri sd le x : Int} (hle : le = 0 ∨ le = 1) (ez : rcTn s c ri = 0) : RLm (Mtn (mup (mturn m s c ri sd le) 151 0 x) s c ri sd le) := by
  obtain ⟨hO, hE, hW, hT, hH⟩ := hR
  have hr : (1 ≤ s ∧ s ≤ 20) ∧ (0 ≤ c ∧ c ≤ 5) ∧ (0 ≤ ri ∧ ri ≤ 99) := by
    unfold rcTn at ez
    split at ez
    · omega
    · rename_i q; exact Classical.byContradiction q
  generalize hM : Mtn (mup (mturn m s c ri sd le) 151 0 x) s c ri sd le = m2
  have row : ∀ a b, m2 a b = Mtn (mup (mturn m s c ri sd le) 151 0 x) s c ri sd le a b := fun a b => by rw [hM]
  have r0 : m2 27 0 = s := by rw [row]; simp [Mtn, mturn, mup]
  have r1 : m2 27 1 = c := by rw [row]; simp [Mtn, mturn, mup]
  have r2 : m2 27 2 = ri := by rw [row]; simp [Mtn, mturn, mup]
  have r3 : m2 27 3 = sd := by rw [row]; simp [Mtn, mturn, mup]
  have r4 : m2 27 4 = le := by rw [row]; simp [Mtn, mturn, mup]
  have q10 : m2 123 10 = s := by rw [row]; simp [Mtn, mturn, mup]
  have q11 : m2 123 11 = c := by rw [row]; simp [Mtn, mturn, mup]
  have q12 : m2 123 12 = ri := by rw [row]; simp [Mtn, mturn, mup]
  have q13 : m2 123 13 = sd := by rw [row]; simp [Mtn, mturn, mup]
  have q15 : m2 123 15 = le := by rw [row]; simp [Mtn, mturn, mup]
  have same : ∀ a, a ∉ [0, 27, 123, 151] → m2 a = m a := fun a ha => by
    simp only [List.mem_cons, List.not_mem_nil, or_false, not_or] at ha
    obtain ⟨h0, h27, h123, h151⟩ := ha
    funext b; rw [row]; simp [Mtn, mturn, mup, h0, h27, h123, h151]
  have f9 : m2 123 9 = m 123 9 := by rw [row]; simp [Mtn, mturn, mup]
  have f19 : m2 123 19 = m 123 19 := by rw [row]; simp [Mtn, mturn, mup]
  have f25 : m2 123 25 = -1 := by rw [row]; simp [Mtn, mturn, mup]
  have f07 : m2 0 7 = 0 := by rw [row]; simp [Mtn, mturn, mup]
  clear row hM
  refine ⟨hOK_no ?_ ?_ ⟨by rw [r0]; exact hr.1, by rw [r1]; exact hr.2.1, by rw [r2]; exact hr.2.2, by rw [r4]; exact hle⟩ f07, ?_, ?_, ?_, eqH_no f07 f25⟩
  · unfold okJ
    rw [same 1 (by decide), same 2 (by decide), same 3 (by decide), same 5 (by decide), same 7 (by decide), same 9 (by decide), same 11 (by decide), same 13 (by decide), same 15 (by decide), same 17 (by decide), same 19 (by decide)]
    exact hO.J
  · unfold okTk
    rw [same 20 (by decide), same 22 (by decide), same 24 (by decide), same 26 (by decide)]
    exact hO.T
  · unfold eqJ
    rw [f9, same 1 (by decide), same 3 (by decide), same 5 (by decide), same 7 (by decide), same 9 (by decide), same 11 (by decide), same 13 (by decide), same 15 (by decide), same 17 (by decide), same 19 (by decide), same 124 (by decide), same 125 (by decide), same 126 (by decide), same 127 (by decide), same 128 (by decide), same 129 (by decide), same 130 (by decide), same 131 (by decide), same 132 (by decide)]
    exact hE
  · exact ⟨by rw [q10, r0], by rw [q11, r1], by rw [q12, r2], by rw [q13, r3], by rw [q15, r4]⟩
  · unfold eqT
    rw [f19, same 133 (by decide), same 134 (by decide), same 135 (by decide), same 20 (by decide), same 22 (by decide), same 24 (by decide), same 26 (by decide)]
    exact hT
theorem RL_task (hR : RLm m) {p le d x : Int} (ez : rcTk (m 20 3) p le d = 0) : RLm (Mtk (mup (mtask m p le d) 151 0 x) p le d) := by
  obtain ⟨hO, hE, hW, hT, hH⟩ := hR
  have hr : ((1 ≤ p ∧ p ≤ 60) ∧ (1 ≤ le ∧ le ≤ 30) ∧ le ≤ p ∧ (le ≤ d ∧ d ≤ p)) ∧ ¬ 5 ≤ m 20 3 := by
    unfold rcTk at ez
    split at ez
    · omega
    · rename_i q
      split at ez
      · omega
      · exact ⟨Classical.byContradiction q, by assumption⟩
  have hb : 0 ≤ m 20 3 ∧ m 20 3 ≤ 5 := hO.T.1
  obtain ⟨k, hk⟩ : ∃ k : Nat, m 20 3 = (k : Int) := ⟨(m 20 3).toNat, by omega⟩
  obtain ⟨t1, t2, t3, t4⟩ := hT
  have hk9 : m 123 19 = (k : Int) := t4.trans hk
  generalize hM : Mtk (mup (mtask m p le d) 151 0 x) p le d = m2
  have row : ∀ a b, m2 a b = Mtk (mup (mtask m p le d) 151 0 x) p le d a b := fun a b => by rw [hM]
  have r22 : ∀ b, m2 22 b = if b = k then p else m 22 b := fun b => by rw [row]; simp [Mtk, mtask, mup, hk]
  have r24 : ∀ b, m2 24 b = if b = k then le else m 24 b := fun b => by rw [row]; simp [Mtk, mtask, mup, hk]
  have r26 : ∀ b, m2 26 b = if b = k then d else m 26 b := fun b => by rw [row]; simp [Mtk, mtask, mup, hk]
  have r20 : m2 20 3 = (k : Int) + 1 := by rw [row]; simp [Mtk, mtask, mup, hk]
  have q133 : ∀ b, m2 133 b = if b = k then p else m 133 b := fun b => by rw [row]; simp [Mtk, mtask, mup, hk9]
  have q134 : ∀ b, m2 134 b = if b = k then le else m 134 b := fun b => by rw [row]; simp [Mtk, mtask, mup, hk9]
  have q135 : ∀ b, m2 135 b = if b = k then d else m 135 b := fun b => by rw [row]; simp [Mtk, mtask, mup, hk9]
  have q19 : m2 123 19 = (k : Int) + 1 := by rw [row]; simp [Mtk, mtask, mup, hk9]
  have same : ∀ a, a ∉ [20, 22, 24, 26, 123, 133, 134, 135, 151] → m2 a = m a := fun a ha => by
    simp only [List.mem_cons, List.not_mem_nil, or_false, not_or] at ha
    obtain ⟨h20, h22, h24, h26, h123, h133, h134, h135, h151⟩ := ha
    funext b; rw [row]; simp [Mtk, mtask, mup, h20, h22, h24, h26, h123, h133, h134, h135, h151]
  have f123 : ∀ b, b ≠ 14 → b ≠ 19 → m2 123 b = m 123 b := fun b h14 h19 => by rw [row]; simp [Mtk, mtask, mup, h14, h19]
  clear row hM
  have hT2 := hO.T.2
  have hTk : okTk m2 := by
    refine ⟨by omega, fun j hj => ?_⟩
    rw [r22, r24, r26]
    by_cases q : j = k
    · rw [if_pos q, if_pos q, if_pos q]; omega
    · rw [if_neg q, if_neg q, if_neg q]; exact hT2 j (by omega)
  refine ⟨⟨?_, hTk, ?_, ?_, ?_⟩, ?_, ?_, ⟨?_, ?_, ?_, by rw [q19, r20]⟩, ?_⟩
  · unfold okJ
    rw [same 1 (by decide), same 2 (by decide), same 3 (by decide), same 5 (by decide), same 7 (by decide), same 9 (by decide), same 11 (by decide), same 13 (by decide), same 15 (by decide), same 17 (by decide), same 19 (by decide)]
    exact hO.J
  · unfold okWy
    rw [same 27 (by decide)]
    exact hO.W
  · rw [same 0 (by decide)]; exact hO.h
  · rw [same 0 (by decide)]
    intro h1
    have h2 := hO.R h1
    unfold okRn okC
    rw [same 47 (by decide), same (47 + 2) (by decide), same 1 (by decide), same 3 (by decide), same 44 (by decide), same 46 (by decide), same 30 (by decide)]
    exact h2
  · unfold eqJ
    rw [f123 9 (by decide) (by decide), same 1 (by decide), same 3 (by decide), same 5 (by decide), same 7 (by decide), same 9 (by decide), same 11 (by decide), same 13 (by decide), same 15 (by decide), same 17 (by decide), same 19 (by decide), same 124 (by decide), same 125 (by decide), same 126 (by decide), same 127 (by decide), same 128 (by decide), same 129 (by decide), same 130 (by decide), same 131 (by decide), same 132 (by decide)]
    exact hE
  · unfold eqW
    rw [f123 10 (by decide) (by decide), f123 11 (by decide) (by decide), f123 12 (by decide) (by decide), f123 13 (by decide) (by decide), f123 15 (by decide) (by decide), same 27 (by decide)]
    exact hW
  · funext b; rw [q133, r22, t1]
  · funext b; rw [q134, r24, t2]
  · funext b; rw [q135, r26, t3]
  · unfold eqH
    rw [f123 25 (by decide) (by decide), f123 24 (by decide) (by decide), same 0 (by decide), same 47 (by decide), same 49 (by decide), same 136 (by decide), same 137 (by decide), same 138 (by decide), same 139 (by decide), same 1 (by decide), same 44 (by decide), same 46 (by decide), same 30 (by decide)]
    exact hH
theorem RL_clear (hR : RLm m) : RLm (mchg (mup (mup (mup m 1 9 0) 0 7 0) 123 9 0)) := by
  obtain ⟨hO, hE, hW, hT, hH⟩ := hR
  generalize hM : mchg (mup (mup (mup m 1 9 0) 0 7 0) 123 9 0) = m2
  have row : ∀ a b, m2 a b = mchg (mup (mup (mup m 1 9 0) 0 7 0) 123 9 0) a b := fun a b => by rw [hM]
  have r1 : m2 1 9 = 0 := by rw [row]; simp [mup]
  have q9 : m2 123 9 = 0 := by rw [row]; simp [mup]
  have same : ∀ a, a ∉ [0, 1, 123] → m2 a = m a := fun a ha => by
    simp only [List.mem_cons, List.not_mem_nil, or_false, not_or] at ha
    obtain ⟨h0, h1, h123⟩ := ha
    funext b; rw [row]; simp [mup, h0, h1, h123]
  have f123 : ∀ b, b ≠ 9 → b ≠ 14 → b ≠ 25 → m2 123 b = m 123 b := fun b h9 h14 h25 => by rw [row]; simp [mup, h9, h14, h25]
  have f25 : m2 123 25 = -1 := by rw [row]; simp [mup]
  have f07 : m2 0 7 = 0 := by rw [row]; simp [mup]
  clear row hM
  refine ⟨hOK_no ⟨by omega, fun j hj => absurd hj (by omega)⟩ ?_ ?_ f07, ⟨?_, by rw [q9, r1]⟩, ?_, ?_, eqH_no f07 f25⟩
  · unfold okTk
    rw [same 20 (by decide), same 22 (by decide), same 24 (by decide), same 26 (by decide)]
    exact hO.T
  · unfold okWy
    rw [same 27 (by decide)]
    exact hO.W
  · rw [same 3 (by decide), same 5 (by decide), same 7 (by decide), same 9 (by decide), same 11 (by decide), same 13 (by decide), same 15 (by decide), same 17 (by decide), same 19 (by decide), same 124 (by decide), same 125 (by decide), same 126 (by decide), same 127 (by decide), same 128 (by decide), same 129 (by decide), same 130 (by decide), same 131 (by decide), same 132 (by decide)]
    exact hE.1
  · unfold eqW
    rw [f123 10 (by decide) (by decide) (by decide), f123 11 (by decide) (by decide) (by decide), f123 12 (by decide) (by decide) (by decide), f123 13 (by decide) (by decide) (by decide), f123 15 (by decide) (by decide) (by decide), same 27 (by decide)]
    exact hW
  · unfold eqT
    rw [f123 19 (by decide) (by decide) (by decide), same 133 (by decide), same 134 (by decide), same 135 (by decide), same 20 (by decide), same 22 (by decide), same 24 (by decide), same 26 (by decide)]
    exact hT
end
