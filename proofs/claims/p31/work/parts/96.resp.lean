/-! ===== the law: tasks ===== -/
section
theorem cl_s {x p : Int} (hp : 0 < p) (hx : 0 ≤ x) : (x + 1 + p - 1) / p = (x + p - 1) / p + (if x % p = 0 then 1 else 0) := by
  have e := Int.mul_ediv_add_emod x p
  have h1 := Int.emod_nonneg x (show p ≠ 0 by omega)
  have h2 := Int.emod_lt_of_pos x hp
  have s1 : (x + 1 + p - 1) / p = x / p + 1 := by
    rw [show x + 1 + p - 1 = x + 1 * p by omega, Int.add_mul_ediv_right _ _ (by omega)]
  by_cases q : x % p = 0
  · rw [if_pos q, s1]
    have : (x + p - 1) / p = x / p := by
      rw [show x + p - 1 = (p - 1) + x / p * p by rw [Int.mul_comm]; omega, Int.add_mul_ediv_right _ _ (by omega), Int.ediv_eq_zero_of_lt (by omega) (by omega)]; omega
    omega
  · rw [if_neg q, s1]
    have : (x + p - 1) / p = x / p + 1 := by
      rw [show x + p - 1 = (x % p - 1) + (x / p + 1) * p by rw [Int.add_mul, Int.one_mul, Int.mul_comm (x / p)]; omega, Int.add_mul_ediv_right _ _ (by omega), Int.ediv_eq_zero_of_lt (by omega) (by omega)]; omega
    omega
theorem wah_0 {p le d : Nat → Int} {n : Int} (h : okK5 p le d n) {k : Nat} : ∀ o : Nat, (o : Int) ≤ n → wahF p le d k 0 o = le k := by
  intro o
  induction o with
  | zero => intro _; rfl
  | succ o ih =>
    intro ho
    have h2 := h.2 o (by omega)
    have e : (0 + p o - 1) / p o = 0 := Int.ediv_eq_zero_of_lt (by omega) (by omega)
    simp only [wahF]
    rw [ih (by omega), e]
    split <;> omega
theorem wah_s {p le d : Nat → Int} {k i : Nat} {x : Int} (hp : 0 < p i) (hx : 0 ≤ x) : wahF p le d k (x + 1) (i + 1) - wahF p le d k x (i + 1) = wahF p le d k (x + 1) i - wahF p le d k x i + (if ahd d i k ∧ x % p i = 0 then le i else 0) := by
  simp only [wahF]
  by_cases c : ahd d i k
  · rw [if_pos c, if_pos c, cl_s hp hx]
    by_cases q : x % p i = 0
    · rw [if_pos q, if_pos ⟨c, q⟩, Int.mul_add, Int.mul_one]; omega
    · rw [if_neg q, if_neg (fun z => q z.2), Int.add_zero]; omega
  · rw [if_neg c, if_neg c, if_neg (fun z => c z.1)]; omega
theorem sqF_c {p le p' le' : Nat → Int} : ∀ k : Nat, (∀ j, j < k → p' j = p j ∧ le' j = le j) → sqF p' le' k = sqF p le k := by
  intro k
  induction k with
  | zero => intro _; rfl
  | succ k ih =>
    intro h
    have := h k (by omega)
    simp only [sqF]
    rw [ih (fun j hj => h j (by omega)), this.1, this.2]
theorem hO_t {μ m : Mm} (hO : hOK μ) (hT : okTk m) (same : ∀ a, a ∉ [20, 22, 24, 26] → m a = μ a) : hOK m := by
  refine ⟨?_, hT, ?_, ?_, ?_⟩
  · unfold okJ
    rw [same 1 (by decide), same 2 (by decide), same 3 (by decide), same 5 (by decide), same 7 (by decide), same 9 (by decide), same 11 (by decide), same 13 (by decide), same 15 (by decide), same 17 (by decide), same 19 (by decide)]
    exact hO.J
  · unfold okWy
    rw [same 27 (by decide)]
    exact hO.W
  · rw [same 0 (by decide)]; exact hO.h
  · rw [same 0 (by decide)]
    intro h1
    have h2 := hO.R h1
    unfold okRn okC at h2 ⊢
    rw [same 47 (by decide), same (47 + 2) (by decide), same 1 (by decide), same 3 (by decide), same 44 (by decide), same 46 (by decide), same 30 (by decide)]
    exact h2
/-- k tasks are told, to both -/
def TK (k : Nat) (m : Mm) : Prop := hOK m ∧ m 20 3 = (k : Int) ∧ ∀ j, j < k → m 127 (4 * j) = m 22 j ∧ m 127 (4 * j + 1) = m 24 j ∧ m 127 (4 * j + 2) = m 26 j
theorem TK_c {k : Nat} {m m' : Mm} (h : TK k m) (e : ∀ a, a < 57 → m' a = m a) (e2 : ∀ b, b < 4 * k → m' 127 b = m 127 b) : TK k m' := by
  obtain ⟨h1, h2, h3⟩ := h
  refine ⟨hO_c (fun a q => e a q) h1, by rw [e 20 (by omega)]; exact h2, fun j hj => ?_⟩
  rw [e2 _ (by omega), e2 _ (by omega), e2 _ (by omega), e 22 (by omega), e 24 (by omega), e 26 (by omega)]
  exact h3 j hj
theorem TK_r {k : Nat} {m : Mm} (h : TK k m) (y : Int) : TK k (mup m 123 0 y) := TK_c h (fun a q => by funext b; exact mup_nk (by omega)) (fun b _ => mup_nk (by omega))
theorem TK_w {k : Nat} {m : Mm} (h : TK k m) (c : Nat) (v : Int) : TK k (mup m 127 (4 * k + c) v) := TK_c h (fun a q => by funext b; exact mup_nk (by omega)) (fun b q => mup_ne (by omega))
theorem TK_ok {k : Nat} {m : Mm} (h : TK k m) : okL (m 22) (m 24) k := fun j hj => by
  have q := h.1.T.2 j (by rw [h.2.1]; omega)
  omega
theorem TK_task {k : Nat} {m : Mm} (h : TK k m) (hk : k < 5) {p le d : Int} (hp : 1 ≤ p ∧ p ≤ 60) (hl : 1 ≤ le ∧ le ≤ 30) (hd : le ≤ d ∧ d ≤ p) (e0 : m 127 (4 * k) = p) (e1 : m 127 (4 * k + 1) = le) (e2 : m 127 (4 * k + 2) = d) : TK (k + 1) (mtask m p le d) ∧ sqF ((mtask m p le d) 22) ((mtask m p le d) 24) k = sqF (m 22) (m 24) k ∧ (mtask m p le d) 22 k = p ∧ (mtask m p le d) 24 k = le ∧ (mtask m p le d) 127 = m 127 := by
  obtain ⟨hO, h2, h3⟩ := h
  generalize hM : mtask m p le d = m2
  have row : ∀ a b, m2 a b = mtask m p le d a b := fun a b => by rw [hM]
  have r22 : ∀ b, m2 22 b = if b = k then p else m 22 b := fun b => by rw [row]; simp [mtask, mup, h2]
  have r24 : ∀ b, m2 24 b = if b = k then le else m 24 b := fun b => by rw [row]; simp [mtask, mup, h2]
  have r26 : ∀ b, m2 26 b = if b = k then d else m 26 b := fun b => by rw [row]; simp [mtask, mup, h2]
  have r20 : m2 20 3 = (k : Int) + 1 := by rw [row]; simp [mtask, mup, h2]
  have same : ∀ a, a ∉ [20, 22, 24, 26] → m2 a = m a := fun a ha => by
    simp only [List.mem_cons, List.not_mem_nil, or_false, not_or] at ha
    obtain ⟨h20, h22, h24, h26⟩ := ha
    funext b; rw [row]; simp [mtask, mup, h20, h22, h24, h26]
  clear row hM
  have n22 : ∀ j, j ≠ k → m2 22 j = m 22 j := fun j q => by rw [r22, if_neg q]
  have n24 : ∀ j, j ≠ k → m2 24 j = m 24 j := fun j q => by rw [r24, if_neg q]
  have n26 : ∀ j, j ≠ k → m2 26 j = m 26 j := fun j q => by rw [r26, if_neg q]
  have y22 : m2 22 k = p := by rw [r22, if_pos rfl]
  have y24 : m2 24 k = le := by rw [r24, if_pos rfl]
  have y26 : m2 26 k = d := by rw [r26, if_pos rfl]
  have hT : okTk m2 := by
    refine ⟨by rw [r20]; omega, fun j hj => ?_⟩
    rw [r20] at hj
    by_cases q : j = k
    · subst q; rw [y22, y24, y26]; omega
    · rw [n22 j q, n24 j q, n26 j q]; exact hO.T.2 j (by rw [h2]; omega)
  have hO2 : hOK m2 := hO_t hO hT same
  refine ⟨⟨hO2, by rw [r20]; omega, fun j hj => ?_⟩, ?_, y22, y24, same 127 (by decide)⟩
  · rw [same 127 (by decide)]
    by_cases q : j = k
    · subst q; rw [y22, y24, y26]; exact ⟨e0, e1, e2⟩
    · rw [n22 j q, n24 j q, n26 j q]; exact h3 j (by omega)
  · exact sqF_c k (fun j hj => ⟨n22 j (by omega), n24 j (by omega)⟩)
end
