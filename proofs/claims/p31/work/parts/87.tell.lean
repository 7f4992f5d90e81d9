/-! ===== the law: jobs are told ===== -/
/-- k jobs are told, to both -/
def TI (k : Nat) (wp : Int) (m : Mm) : Prop :=
  hOK m ∧ m 1 9 = (k : Int) ∧ eqA (jm m) k (m 124) ∧ (∀ j, j < k → m 7 j = 0 ∨ m 3 j - 1 ≤ m 7 j) ∧ (wp = 0 → ∀ j, j < k → m 11 j = 0)
section
variable {k : Nat} {wp : Int} {m m' : Mm}
theorem TI_c (h : TI k wp m) (e : ∀ a, a < 57 ∨ a = 124 → m' a = m a) : TI k wp m' := by
  obtain ⟨h1, h2, h3, h4, h5⟩ := h
  refine ⟨hO_c (fun a q => e a (Or.inl q)) h1, by rw [e 1 (by omega)]; exact h2, ?_, by rw [e 7 (by omega), e 3 (by omega)]; exact h4, by rw [e 11 (by omega)]; exact h5⟩
  rw [e 124 (Or.inr rfl), show jm m' = jm m from jm_c (fun a q => e a (Or.inl (by omega)))]
  exact h3
theorem TI_r (h : TI k wp m) (y : Int) : TI k wp (mup m 123 0 y) := TI_c h (fun a q => by funext b; exact mup_nk (by omega))
/-- what the law writes of the next job -/
theorem TI_w (h : TI k wp m) {c : Nat} {v : Int} : TI k wp (mup m 124 (60 * k + c) v) := by
  obtain ⟨h1, h2, h3, h4, h5⟩ := h
  have e : ∀ a, a ≠ 124 → mup m 124 (60 * k + c) v a = m a := fun a q => by funext b; exact mup_nk q
  have hD := okJD h1.J h2
  refine ⟨hO_c (fun a q => e a (by omega)) h1, by rw [e 1 (by decide)]; exact h2, ?_, by rw [e 7 (by decide), e 3 (by decide)]; exact h4, by rw [e 11 (by decide)]; exact h5⟩
  rw [show jm (mup m 124 (60 * k + c) v) = jm m from jm_c (fun a q => e a (by omega))]
  exact eqA_c hD h3 (fun x y hx hy => by rw [mup_ne (by omega)])
theorem TI_job (h : TI k wp m) (hk : k < 12) {c le d we : Int} (hc : 0 ≤ c ∧ c ≤ 99) (hl : 1 ≤ le ∧ le ≤ 30) (hd : 0 ≤ d ∧ d ≤ 400) (hw : 1 ≤ we ∧ we ≤ 9) (hdc : d = 0 ∨ c - 1 ≤ d)
    (e0 : m 124 (60 * k) = c) (e1 : m 124 (60 * k + 1) = le) (e2 : m 124 (60 * k + 2) = d) (e3 : m 124 (60 * k + 3) = we) (e4 : m 124 (60 * k + 4) = 0) (e5 : m 124 (60 * k + 5) = 0) : TI (k + 1) wp (mtell (mup m 0 7 0) c le d we) := by
  obtain ⟨hO, hn, hA, h4, h5⟩ := h
  generalize hM : mtell (mup m 0 7 0) c le d we = m2
  have row : ∀ a b, m2 a b = mtell (mup m 0 7 0) c le d we a b := fun a b => by rw [hM]
  have r3 : ∀ b, m2 3 b = if b = k then c else m 3 b := fun b => by rw [row]; simp [mtell, mup, hn]
  have r5 : ∀ b, m2 5 b = if b = k then le else m 5 b := fun b => by rw [row]; simp [mtell, mup, hn]
  have r7 : ∀ b, m2 7 b = if b = k then d else m 7 b := fun b => by rw [row]; simp [mtell, mup, hn]
  have r2 : ∀ b, m2 2 b = if b = k then (if d = 0 then 401 else d) else m 2 b := fun b => by rw [row]; simp [mtell, mup, hn]
  have r9 : ∀ b, m2 9 b = if b = k then we else m 9 b := fun b => by rw [row]; simp [mtell, mup, hn]
  have r11 : ∀ b, m2 11 b = if b = k then 0 else m 11 b := fun b => by rw [row]; simp [mtell, mup, hn]
  have r13 : ∀ b, m2 13 b = if b = k then 0 else m 13 b := fun b => by rw [row]; simp [mtell, mup, hn]
  have r1 : m2 1 9 = (k : Int) + 1 := by rw [row]; simp [mtell, mup, hn]
  have same : ∀ a, a ∉ [0, 1, 2, 3, 5, 7, 9, 11, 13] → m2 a = m a := fun a ha => by
    simp only [List.mem_cons, List.not_mem_nil, or_false, not_or] at ha
    obtain ⟨h0, h1, h2, h3, h5, h7, h9, h11, h13⟩ := ha
    funext b; rw [row]; simp [mtell, mup, h0, h1, h2, h3, h5, h7, h9, h11, h13]
  have f07 : m2 0 7 = 0 := by rw [row]; simp [mtell, mup]
  clear row hM
  have hJ := hO.J.2
  refine ⟨hOK_no ⟨by omega, fun j hj => ?_⟩ ?_ ?_ f07, r1, fun j hj => ?_, fun j hj => ?_, fun hw0 j hj => ?_⟩
  · rw [r3, r5, r7, r2, r9, r11, r13, same 15 (by decide), same 17 (by decide), same 19 (by decide)]
    by_cases q : j = k
    · simp only [if_pos q]
      exact ⟨hc, hl, hd, hw, ⟨Int.le_refl _, by have : 0 < 2 ^ j := Nat.two_pow_pos j; omega⟩, ⟨Int.le_refl _, by decide⟩, fun i hi => absurd hi (by omega), fun i i' hi => absurd hi (by omega), by first | rfl | trivial⟩
    · simp only [if_neg q]
      exact hJ j (by omega)
  · unfold okTk
    rw [same 20 (by decide), same 22 (by decide), same 24 (by decide), same 26 (by decide)]
    exact hO.T
  · unfold okWy
    rw [same 27 (by decide)]
    exact hO.W
  · show m2 124 (60 * j) = m2 3 j ∧ m2 124 (60 * j + 1) = m2 5 j ∧ m2 124 (60 * j + 2) = m2 7 j ∧ m2 124 (60 * j + 3) = m2 9 j ∧ m2 124 (60 * j + 4) = m2 11 j ∧ m2 124 (60 * j + 5) = m2 13 j ∧
      ∀ p : Nat, (p : Int) < m2 13 j → m2 124 (60 * j + 6 + 3 * p) = m2 15 (3 * j + p) ∧ m2 124 (60 * j + 7 + 3 * p) = m2 17 (3 * j + p) ∧ m2 124 (60 * j + 8 + 3 * p) = m2 19 (3 * j + p)
    rw [same 124 (by decide), r3, r5, r7, r9, r11, r13, same 15 (by decide), same 17 (by decide), same 19 (by decide)]
    by_cases q : j = k
    · subst q
      simp only [if_pos]
      exact ⟨e0, e1, e2, e3, e4, e5, fun p hp => absurd hp (by omega)⟩
    · simp only [if_neg q]
      exact hA j (by omega)
  · rw [r7, r3]
    by_cases q : j = k
    · simp only [if_pos q]; exact hdc
    · simp only [if_neg q]; exact h4 j (by omega)
  · rw [r11]
    by_cases q : j = k
    · rw [if_pos q]
    · rw [if_neg q]; exact h5 hw0 j (by omega)
theorem TI_aft (h : TI (k + 1) wp m) (hw : wp ≠ 0) {o : Nat} (ho : o < k) {v : Int} (hv : v = (((m 11 k).toNat ||| 2 ^ o : Nat) : Int)) : TI (k + 1) wp (mup (mup (mup m 124 (60 * k + 4) v) 0 7 0) 11 k v) := by
  obtain ⟨hO, hn, hA, h4, h5⟩ := h
  generalize hM : mup (mup (mup m 124 (60 * k + 4) v) 0 7 0) 11 k v = m2
  have row : ∀ a b, m2 a b = mup (mup (mup m 124 (60 * k + 4) v) 0 7 0) 11 k v a b := fun a b => by rw [hM]
  have r11 : ∀ b, m2 11 b = if b = k then v else m 11 b := fun b => by rw [row]; simp [mup]
  have r124 : ∀ b, m2 124 b = if b = 60 * k + 4 then v else m 124 b := fun b => by rw [row]; simp [mup]
  have same : ∀ a, a ∉ [0, 11, 124] → m2 a = m a := fun a ha => by
    simp only [List.mem_cons, List.not_mem_nil, or_false, not_or] at ha
    obtain ⟨h0, h11, h124⟩ := ha
    funext b; rw [row]; simp [mup, h0, h11, h124]
  have f07 : m2 0 7 = 0 := by rw [row]; simp [mup]
  clear row hM
  have hJ := hO.J.2
  have hvb : 0 ≤ v ∧ v < (2 ^ k : Nat) := by
    have h1 := (hJ k (by omega)).2.2.2.2.1
    have h2 : (m 11 k).toNat < 2 ^ k := by omega
    have h3 : 2 ^ o < 2 ^ k := Nat.pow_lt_pow_right (by omega) ho
    have h4 := Nat.or_lt_two_pow h2 h3
    omega
  refine ⟨hOK_no ⟨by rw [same 1 (by decide)]; exact hO.J.1, fun i hi => ?_⟩ ?_ ?_ f07, by rw [same 1 (by decide)]; exact hn, fun j hj => ?_, by rw [same 7 (by decide), same 3 (by decide)]; exact h4, fun q => absurd q hw⟩
  · rw [same 1 (by decide)] at hi
    rw [r11, same 2 (by decide), same 3 (by decide), same 5 (by decide), same 7 (by decide), same 9 (by decide), same 13 (by decide), same 15 (by decide), same 17 (by decide), same 19 (by decide)]
    have h := hJ i hi
    refine ⟨h.1, h.2.1, h.2.2.1, h.2.2.2.1, ?_, h.2.2.2.2.2⟩
    by_cases q : i = k
    · rw [if_pos q, q]; exact hvb
    · rw [if_neg q]; exact h.2.2.2.2.1
  · unfold okTk
    rw [same 20 (by decide), same 22 (by decide), same 24 (by decide), same 26 (by decide)]
    exact hO.T
  · unfold okWy
    rw [same 27 (by decide)]
    exact hO.W
  · have a := hA j hj
    have hc3 := (hJ j (by omega)).2.2.2.2.2.1
    show m2 124 (60 * j) = m2 3 j ∧ m2 124 (60 * j + 1) = m2 5 j ∧ m2 124 (60 * j + 2) = m2 7 j ∧ m2 124 (60 * j + 3) = m2 9 j ∧ m2 124 (60 * j + 4) = m2 11 j ∧ m2 124 (60 * j + 5) = m2 13 j ∧
      ∀ p : Nat, (p : Int) < m2 13 j → m2 124 (60 * j + 6 + 3 * p) = m2 15 (3 * j + p) ∧ m2 124 (60 * j + 7 + 3 * p) = m2 17 (3 * j + p) ∧ m2 124 (60 * j + 8 + 3 * p) = m2 19 (3 * j + p)
    rw [r11, r124, r124, r124, r124, r124, r124, same 3 (by decide), same 5 (by decide), same 7 (by decide), same 9 (by decide), same 13 (by decide), same 15 (by decide), same 17 (by decide), same 19 (by decide),
      if_neg (show ¬ 60 * j = 60 * k + 4 by omega), if_neg (show ¬ 60 * j + 1 = 60 * k + 4 by omega), if_neg (show ¬ 60 * j + 2 = 60 * k + 4 by omega), if_neg (show ¬ 60 * j + 3 = 60 * k + 4 by omega), if_neg (show ¬ 60 * j + 5 = 60 * k + 4 by omega)]
    refine ⟨a.1, a.2.1, a.2.2.1, a.2.2.2.1, ?_, a.2.2.2.2.2.1, fun p hp => ?_⟩
    · by_cases q : j = k
      · rw [if_pos q, if_pos (by rw [q])]
      · rw [if_neg q, if_neg (by omega)]; exact a.2.2.2.2.1
    · rw [r124, r124, r124, if_neg (by omega), if_neg (by omega), if_neg (by omega)]
      exact a.2.2.2.2.2.2 p hp
theorem TI_lock (h : TI (k + 1) wp m) {y f u : Int} (hy : 0 ≤ y ∧ y ≤ 2) (hf : 0 ≤ f ∧ f < u ∧ u ≤ m 5 k) (hov : ¬ ovl (m 13) (m 17) (m 19) k f u) {c : Nat} (hc : m 13 k = (c : Int)) (hc3 : c < 3) :
    TI (k + 1) wp (mup (mup (mup (mup (mstretch (mup m 0 7 0) k y f u) 124 (60 * k + 6 + 3 * c) y) 124 (60 * k + 7 + 3 * c) f) 124 (60 * k + 8 + 3 * c) u) 124 (60 * k + 5) ((c : Int) + 1)) := by
  obtain ⟨hO, hn, hA, h4, h5⟩ := h
  generalize hM : mup (mup (mup (mup (mstretch (mup m 0 7 0) k y f u) 124 (60 * k + 6 + 3 * c) y) 124 (60 * k + 7 + 3 * c) f) 124 (60 * k + 8 + 3 * c) u) 124 (60 * k + 5) ((c : Int) + 1) = m2
  have row : ∀ a b, m2 a b = mup (mup (mup (mup (mstretch (mup m 0 7 0) k y f u) 124 (60 * k + 6 + 3 * c) y) 124 (60 * k + 7 + 3 * c) f) 124 (60 * k + 8 + 3 * c) u) 124 (60 * k + 5) ((c : Int) + 1) a b := fun a b => by rw [hM]
  have r13 : ∀ b, m2 13 b = if b = k then (c : Int) + 1 else m 13 b := fun b => by rw [row]; simp [mstretch, mup, hc]
  have r15 : ∀ b, m2 15 b = if b = 3 * k + c then y else m 15 b := fun b => by rw [row]; simp [mstretch, mup, hc]
  have r17 : ∀ b, m2 17 b = if b = 3 * k + c then f else m 17 b := fun b => by rw [row]; simp [mstretch, mup, hc]
  have r19 : ∀ b, m2 19 b = if b = 3 * k + c then u else m 19 b := fun b => by rw [row]; simp [mstretch, mup, hc]
  have r124 : ∀ b, m2 124 b = if b = 60 * k + 5 then (c : Int) + 1 else if b = 60 * k + 8 + 3 * c then u else if b = 60 * k + 7 + 3 * c then f else if b = 60 * k + 6 + 3 * c then y else m 124 b := fun b => by rw [row]; simp [mstretch, mup]
  have same : ∀ a, a ∉ [0, 13, 15, 17, 19, 124] → m2 a = m a := fun a ha => by
    simp only [List.mem_cons, List.not_mem_nil, or_false, not_or] at ha
    obtain ⟨h0, h13, h15, h17, h19, h124⟩ := ha
    funext b; rw [row]; simp [mstretch, mup, h0, h13, h15, h17, h19, h124]
  have f07 : m2 0 7 = 0 := by rw [row]; simp [mstretch, mup]
  clear row hM
  have hJ := hO.J.2
  refine ⟨hOK_no ⟨by rw [same 1 (by decide)]; exact hO.J.1, fun i hi => ?_⟩ ?_ ?_ f07, by rw [same 1 (by decide)]; exact hn, fun j hj => ?_, by rw [same 7 (by decide), same 3 (by decide)]; exact h4, by rw [same 11 (by decide)]; exact h5⟩
  · rw [same 1 (by decide)] at hi
    rw [same 2 (by decide), same 3 (by decide), same 5 (by decide), same 7 (by decide), same 9 (by decide), same 11 (by decide), r13]
    have h := hJ i hi
    by_cases q : i = k
    · subst q
      rw [if_pos rfl]
      refine ⟨h.1, h.2.1, h.2.2.1, h.2.2.2.1, h.2.2.2.2.1, by omega, fun b hb => ?_, fun b b' hb hb' hne => ?_, h.2.2.2.2.2.2.2.2⟩
      · rw [r15, r17, r19]
        by_cases z : b = c
        · subst z
          rw [if_pos rfl, if_pos rfl, if_pos rfl]; omega
        · rw [if_neg (by omega), if_neg (by omega), if_neg (by omega)]
          exact h.2.2.2.2.2.2.1 b (by omega)
      · rw [r17, r19, r17, r19]
        have ov : ∀ x : Nat, x < c → m 19 (3 * i + x) ≤ f ∨ u ≤ m 17 (3 * i + x) := fun x hx => by
          by_cases z : m 19 (3 * i + x) ≤ f
          · exact Or.inl z
          · by_cases z2 : u ≤ m 17 (3 * i + x)
            · exact Or.inr z2
            · exact absurd ⟨x, by omega, by omega, by omega⟩ hov
        by_cases z : b = c
        · have z1 : 3 * i + b = 3 * i + c := by omega
          have z2 : ¬ 3 * i + b' = 3 * i + c := by omega
          rw [if_pos z1, if_pos z1, if_neg z2, if_neg z2]
          exact (ov b' (by omega)).symm
        · have z1 : ¬ 3 * i + b = 3 * i + c := by omega
          rw [if_neg z1, if_neg z1]
          by_cases z' : b' = c
          · have z2 : 3 * i + b' = 3 * i + c := by omega
            rw [if_pos z2, if_pos z2]
            exact ov b (by omega)
          · have z2 : ¬ 3 * i + b' = 3 * i + c := by omega
            rw [if_neg z2, if_neg z2]
            exact h.2.2.2.2.2.2.2.1 b b' (by omega) (by omega) hne
    · rw [if_neg q]
      refine ⟨h.1, h.2.1, h.2.2.1, h.2.2.2.1, h.2.2.2.2.1, h.2.2.2.2.2.1, fun b hb => ?_, fun b b' hb hb' hne => ?_, h.2.2.2.2.2.2.2.2⟩
      · have hb3 := h.2.2.2.2.2.1
        rw [r15, r17, r19, if_neg (by omega), if_neg (by omega), if_neg (by omega)]
        exact h.2.2.2.2.2.2.1 b hb
      · have hb3 := h.2.2.2.2.2.1
        rw [r17, r19, r17, r19, if_neg (by omega), if_neg (by omega), if_neg (by omega), if_neg (by omega)]
        exact h.2.2.2.2.2.2.2.1 b b' hb hb' hne
  · unfold okTk
    rw [same 20 (by decide), same 22 (by decide), same 24 (by decide), same 26 (by decide)]
    exact hO.T
  · unfold okWy
    rw [same 27 (by decide)]
    exact hO.W
  · have a := hA j hj
    have hj3 := (hJ j (by omega)).2.2.2.2.2.1
    have ex : ∀ x : Nat, x < 15 → j ≠ k → m2 124 (60 * j + x) = m 124 (60 * j + x) := fun x hx q => by rw [r124, if_neg (by omega), if_neg (by omega), if_neg (by omega), if_neg (by omega)]
    have ex2 : ∀ x : Nat, x < 5 → m2 124 (60 * j + x) = m 124 (60 * j + x) := fun x hx => by rw [r124, if_neg (by omega), if_neg (by omega), if_neg (by omega), if_neg (by omega)]
    show m2 124 (60 * j) = m2 3 j ∧ m2 124 (60 * j + 1) = m2 5 j ∧ m2 124 (60 * j + 2) = m2 7 j ∧ m2 124 (60 * j + 3) = m2 9 j ∧ m2 124 (60 * j + 4) = m2 11 j ∧ m2 124 (60 * j + 5) = m2 13 j ∧
      ∀ p : Nat, (p : Int) < m2 13 j → m2 124 (60 * j + 6 + 3 * p) = m2 15 (3 * j + p) ∧ m2 124 (60 * j + 7 + 3 * p) = m2 17 (3 * j + p) ∧ m2 124 (60 * j + 8 + 3 * p) = m2 19 (3 * j + p)
    rw [r13, same 3 (by decide), same 5 (by decide), same 7 (by decide), same 9 (by decide), same 11 (by decide)]
    refine ⟨(ex2 0 (by decide)).trans a.1, (ex2 1 (by decide)).trans a.2.1, (ex2 2 (by decide)).trans a.2.2.1, (ex2 3 (by decide)).trans a.2.2.2.1, (ex2 4 (by decide)).trans a.2.2.2.2.1, ?_, fun p hp => ?_⟩
    · by_cases q : j = k
      · rw [if_pos q, r124, if_pos (by rw [q])]
      · rw [if_neg q, ex 5 (by decide) q]; exact a.2.2.2.2.2.1
    · rw [r15, r17, r19]
      by_cases q : j = k
      · subst q
        rw [if_pos rfl] at hp
        by_cases z : p = c
        · subst z
          rw [if_pos rfl, if_pos rfl, if_pos rfl]
          refine ⟨?_, ?_, ?_⟩
          · rw [r124, if_neg (by omega), if_neg (by omega), if_neg (by omega), if_pos rfl]
          · rw [r124, if_neg (by omega), if_neg (by omega), if_pos rfl]
          · rw [r124, if_neg (by omega), if_pos rfl]
        · rw [if_neg (by omega), if_neg (by omega), if_neg (by omega)]
          have b := a.2.2.2.2.2.2 p (by show (p : Int) < m 13 j; omega)
          refine ⟨?_, ?_, ?_⟩
          · rw [r124, if_neg (by omega), if_neg (by omega), if_neg (by omega), if_neg (by omega)]; exact b.1
          · rw [r124, if_neg (by omega), if_neg (by omega), if_neg (by omega), if_neg (by omega)]; exact b.2.1
          · rw [r124, if_neg (by omega), if_neg (by omega), if_neg (by omega), if_neg (by omega)]; exact b.2.2
      · rw [if_neg q] at hp
        have b := a.2.2.2.2.2.2 p hp
        rw [if_neg (by omega), if_neg (by omega), if_neg (by omega)]
        have hp3 : p < 3 := by omega
        refine ⟨?_, ?_, ?_⟩
        · rw [Nat.add_assoc, ex _ (by omega) q, ← Nat.add_assoc]; exact b.1
        · rw [Nat.add_assoc, ex _ (by omega) q, ← Nat.add_assoc]; exact b.2.1
        · rw [Nat.add_assoc, ex _ (by omega) q, ← Nat.add_assoc]; exact b.2.2
end
