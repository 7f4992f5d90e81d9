/-! ===== the law's walk through a run: what it keeps, moment by moment ===== -/
theorem cu {m : Mm} {k c k' c' : Nat} {v : Int} (hc : c < 60) (hc' : c' < 60) : mup m 124 (60 * k + c) v 124 (60 * k' + c') = if k' = k ∧ c' = c then v else m 124 (60 * k' + c') := by
  rw [mup_row]
  by_cases e : k' = k ∧ c' = c
  · rw [if_pos e, if_pos (by rw [e.1, e.2])]
  · rw [if_neg e, if_neg (fun z => e (by omega))]
/-- the greatest gap so far, and where it is counted from -/
def gapOK (g : Nat → Int) (t : Nat) (a2 a5 : Nat → Int) (x : Nat → Int) (k : Nat) : Prop :=
  (a5 k ≠ 1 → x 23 = 0 ∧ x 24 = 0) ∧ (a5 k = 1 → (0 ≤ a2 k ∧ a2 k ≤ (t : Int)) ∧ x 23 = (gpS g (k : Int) (a2 k).toNat (t - (a2 k).toNat)).2 ∧
    ((x 24 = 0 ∧ (gpS g (k : Int) (a2 k).toNat (t - (a2 k).toNat)).1 = (a2 k).toNat) ∨ (x 24 = 1 ∧ x 25 = ((gpS g (k : Int) (a2 k).toNat (t - (a2 k).toNat)).1 : Int))))
def colOK (J : Mm) (g : Nat → Int) (t : Nat) (a0 a1 a2 a5 : Nat → Int) (x : Nat → Int) (k : Nat) : Prop :=
  x 20 = J 1 k - a0 k ∧ (a0 k = 0 → x 21 = a1 k) ∧ x 22 = (if a5 k = 1 then a2 k else -1) ∧ gapOK g t a2 a5 x k
abbrev kpS (J : Mm) (n : Nat) (a0 a1 : Nat → Int) : Prop := ∀ k, k < n → a0 k = 0 → 0 < J 2 k → a1 k ≤ J 2 k
/-- the law's memory m ahead of the moment t; m1: the memory behind the run; u: how much of the log is told -/
def WIm (J : Mm) (n : Nat) (g : Nat → Int) (m1 m : Mm) (t u : Nat) (a0 a1 a2 a5 : Nat → Int) : Prop :=
  (∀ a, a ≠ 124 → a ≠ 125 → a ≠ 126 → m a = m1 a) ∧ (∀ k c, k < n → c < 20 → m 124 (60 * k + c) = m1 124 (60 * k + c)) ∧
  (∀ k, k < n → colOK J g t a0 a1 a2 a5 (fun c => m 124 (60 * k + c)) k) ∧ (∀ b, b < u → m 125 b = g b) ∧
  m 126 1 = smF a1 n ∧ m 126 3 = if kpS J n a0 a1 then 1 else 0
/-- how many are not done -/
abbrev ufN (a0 : Nat → Int) (n : Nat) : Int := smF (fun k => if a0 k = 0 then 0 else 1) n
section
variable {J : Mm} {n : Nat} {K : Nat → Int} {g : Nat → Int} {z : Int} {m m1 m' : Mm} {s : St} {t T u : Nat} {a0 a1 a2 a5 : Nat → Int}
theorem WIm.eqA (h : WIm J n g m1 m t u a0 a1 a2 a5) (hA : eqA J n (m1 124)) (hD : okD J n) : eqA J n (m 124) := by
  intro k hk
  obtain ⟨q0, q1, q2, q3, q4, q5, q6⟩ := hA k hk
  have hk3 := okD_k hD hk
  have e := fun c hc => h.2.1 k c hk hc
  refine ⟨(e 0 (by decide)).trans q0, (e 1 (by decide)).trans q1, (e 2 (by decide)).trans q2, (e 3 (by decide)).trans q3, (e 4 (by decide)).trans q4, (e 5 (by decide)).trans q5, fun p hp => ?_⟩
  obtain ⟨r0, r1, r2⟩ := q6 p hp
  refine ⟨?_, ?_, ?_⟩
  · rw [Nat.add_assoc]; exact (e (6 + 3 * p) (by omega)).trans (by rw [← Nat.add_assoc]; exact r0)
  · rw [Nat.add_assoc]; exact (e (7 + 3 * p) (by omega)).trans (by rw [← Nat.add_assoc]; exact r1)
  · rw [Nat.add_assoc]; exact (e (8 + 3 * p) (by omega)).trans (by rw [← Nat.add_assoc]; exact r2)
theorem WIm.dnA {σ : Mm} (h : WIm J n g m1 m t u (σ 0) a1 a2 a5) : dnA J σ n (m 124) := fun k hk => (h.2.2.1 k hk).1
theorem uf_pos (h0 : ∀ k, k < n → 0 ≤ a0 k) : 0 < ufN a0 n ↔ ¬ ∀ k, k < n → a0 k = 0 := by
  constructor
  · intro h q
    have : ufN a0 n = smF (fun _ => 0) n := smF_cong (fun k hk => by show (if a0 k = 0 then (0 : Int) else 1) = 0; rw [if_pos (q k hk)])
    rw [smF_0] at this
    omega
  · intro q
    have hnn : 0 ≤ ufN a0 n := smF_nn (fun k hk => by show 0 ≤ if a0 k = 0 then (0 : Int) else 1; split <;> omega)
    by_cases e : 0 < ufN a0 n
    · exact e
    · exfalso
      refine q (fun k hk => ?_)
      by_cases y : a0 k = 0
      · exact y
      · have := smF_lt (f := fun _ => 0) (g := fun k => if a0 k = 0 then (0 : Int) else 1) (c := k) (n := n) (fun j hj => by show 0 ≤ if a0 j = 0 then (0 : Int) else 1; split <;> omega) hk (by show 0 < if a0 k = 0 then (0 : Int) else 1; rw [if_neg y]; omega)
        rw [smF_0] at this
        exact absurd this e
theorem uf_le12 : 0 ≤ ufN a0 n ∧ ufN a0 n ≤ n := by
  constructor
  · exact smF_nn (fun k hk => by show 0 ≤ if a0 k = 0 then (0 : Int) else 1; split <;> omega)
  · have := smF_le (f := fun k => if a0 k = 0 then (0 : Int) else 1) (g := fun _ => 1) (n := n) (fun k hk => by show (if a0 k = 0 then (0 : Int) else 1) ≤ 1; split <;> omega)
    rw [smF_const] at this
    show smF (fun k => if a0 k = 0 then (0 : Int) else 1) n ≤ n
    omega
theorem com_iff (hD : okD J n) (h : vS J n K s) {j : Nat} (hj : j < n) : comP J s.1 (s.1 6 6) j ↔ rdL J s.1 j ∧ s.1 5 j ≠ 1 := by
  have hB := h.1.2 j hj
  have hl := okD_l hD hj
  constructor
  · rintro ⟨h1, h2, h3⟩
    have : s.1 0 j = J 1 j := hB.2.2.1 (by rcases hB.1 with e | e; exact e; exact absurd e h1)
    exact ⟨⟨h2, by omega, h3⟩, h1⟩
  · rintro ⟨⟨h1, h2, h3⟩, h4⟩
    exact ⟨h4, h1, h3⟩
theorem WIm_in (hD : okD J n) (h1 : ∀ a, a ≠ 124 → a ≠ 125 → a ≠ 126 → m a = m1 a) (h2 : ∀ k c, k < n → c < 20 → m 124 (60 * k + c) = m1 124 (60 * k + c)) (h3 : ∀ k, k < n → m 124 (60 * k + 20) = 0 ∧ m 124 (60 * k + 22) = -1 ∧ m 124 (60 * k + 23) = 0 ∧ m 124 (60 * k + 24) = 0) (h4 : m 126 1 = 0) (h5 : m 126 3 = 1) :
    WIm J n g m1 m 0 0 ((itN J n K z 0).1 0) ((itN J n K z 0).1 1) ((itN J n K z 0).1 2) ((itN J n K z 0).1 5) := by
  have e0 : ∀ k, (itN J n K z 0).1 0 k = J 1 k := fun k => by simp [itN, inS, inN]
  have e1 : ∀ k, (itN J n K z 0).1 1 k = 0 := fun k => by simp [itN, inS, inN]
  have e5 : ∀ k, (itN J n K z 0).1 5 k = 0 := fun k => by simp [itN, inS, inN]
  refine ⟨h1, h2, fun k hk => ?_, fun b hb => absurd hb (by omega), ?_, ?_⟩
  · obtain ⟨q20, q22, q23, q24⟩ := h3 k hk
    have hl := okD_l hD hk
    have g1 := e0 k
    have g5 := e5 k
    refine ⟨by show m 124 (60 * k + 20) = _; rw [q20, g1]; omega, fun q => by omega, ?_, fun _ => ⟨q23, q24⟩, fun q => by omega⟩
    show m 124 (60 * k + 22) = _
    rw [q22, if_neg (by omega)]
  · rw [h4, show smF ((itN J n K z 0).1 1) n = smF (fun _ => 0) n from smF_cong (fun k _ => e1 k), smF_0]
  · rw [h5, if_pos (fun k hk q => by have := okD_l hD hk; have := e0 k; omega)]
/-- .. where the first i jobs have been looked at -/
abbrev rw2 (s s' : St) (i : Nat) : Nat → Int := fun k => if k < i then s'.1 2 k else s.1 2 k
abbrev rw5 (s s' : St) (i : Nat) : Nat → Int := fun k => if k < i then s'.1 5 k else s.1 5 k
theorem WIm_c (h : WIm J n g m1 m t u a0 a1 a2 a5) {b0 b1 b2 b5 : Nat → Int} (h0 : ∀ k, k < n → b0 k = a0 k) (h1 : ∀ k, k < n → b1 k = a1 k) (h2 : ∀ k, k < n → b2 k = a2 k) (h5 : ∀ k, k < n → b5 k = a5 k) : WIm J n g m1 m t u b0 b1 b2 b5 := by
  obtain ⟨w1, w2, w3, w4, w5, w6⟩ := h
  refine ⟨w1, w2, fun k hk => ?_, w4, by rw [w5]; exact (smF_cong h1).symm, ?_⟩
  · have := w3 k hk
    unfold colOK gapOK at this ⊢
    rw [h0 k hk, h1 k hk, h2 k hk, h5 k hk]
    exact this
  · rw [w6]
    by_cases q : kpS J n a0 a1
    · rw [if_pos q, if_pos (fun k hk y1 y2 => by rw [h1 k hk]; exact q k hk (by rw [← h0 k hk]; exact y1) y2)]
    · rw [if_neg q, if_neg (fun y => q (fun k hk y1 y2 => by rw [← h1 k hk]; exact y k hk (by rw [h0 k hk]; exact y1) y2))]
/-- a job that does not become ready -/
theorem W_old {s' : St} {i : Nat} (hi : i < n) (h : WIm J n g m1 m t u a0 a1 (rw2 s s' i) (rw5 s s' i)) (e2 : s'.1 2 i = s.1 2 i) (e5 : s'.1 5 i = s.1 5 i) : WIm J n g m1 m t u a0 a1 (rw2 s s' (i + 1)) (rw5 s s' (i + 1)) := by
  refine WIm_c h (fun _ _ => rfl) (fun _ _ => rfl) (fun k _ => ?_) (fun k _ => ?_)
  · show (if k < i + 1 then s'.1 2 k else s.1 2 k) = if k < i then s'.1 2 k else s.1 2 k
    by_cases y : k = i
    · rw [y, if_pos (by omega), if_neg (by omega), e2]
    · by_cases y2 : k < i
      · rw [if_pos y2, if_pos (by omega)]
      · rw [if_neg y2, if_neg (by omega)]
  · show (if k < i + 1 then s'.1 5 k else s.1 5 k) = if k < i then s'.1 5 k else s.1 5 k
    by_cases y : k = i
    · rw [y, if_pos (by omega), if_neg (by omega), e5]
    · by_cases y2 : k < i
      · rw [if_pos y2, if_pos (by omega)]
      · rw [if_neg y2, if_neg (by omega)]
/-- a job that becomes ready -/
theorem W_new {s' : St} {i : Nat} (hi : i < n) (h : WIm J n g m1 m t u a0 a1 (rw2 s s' i) (rw5 s s' i)) (e2 : s'.1 2 i = (t : Int)) (e5 : s'.1 5 i = 1) (o5 : s.1 5 i ≠ 1) : WIm J n g m1 (mup m 124 (60 * i + 22) (t : Int)) t u a0 a1 (rw2 s s' (i + 1)) (rw5 s s' (i + 1)) := by
  obtain ⟨w1, w2, w3, w4, w5, w6⟩ := h
  refine ⟨fun a h1 h2 h3 => by rw [← w1 a h1 h2 h3]; funext b; exact mup_nk h1, fun k c hk hc => by rw [cu (by omega) (by omega), if_neg (by omega)]; exact w2 k c hk hc, fun k hk => ?_, fun b hb => by rw [mup_nk (by decide)]; exact w4 b hb, by rw [mup_nk (by decide)]; exact w5, by rw [mup_nk (by decide)]; exact w6⟩
  have h0 := w3 k hk
  by_cases y : k = i
  · subst y
    have r2 : rw2 s s' (k + 1) k = (t : Int) := by show (if k < k + 1 then s'.1 2 k else s.1 2 k) = _; rw [if_pos (by omega), e2]
    have r5 : rw5 s s' (k + 1) k = 1 := by show (if k < k + 1 then s'.1 5 k else s.1 5 k) = _; rw [if_pos (by omega), e5]
    have r5o : rw5 s s' k k ≠ 1 := by show (if k < k then s'.1 5 k else s.1 5 k) ≠ 1; rw [if_neg (by omega)]; exact o5
    obtain ⟨c1, c2, c3, c4, -⟩ := h0
    have c4 := c4 r5o
    unfold colOK gapOK
    rw [r2, r5, if_pos rfl]
    refine ⟨?_, fun q => ?_, ?_, fun q => absurd rfl q, fun _ => ⟨by omega, ?_, Or.inl ⟨?_, ?_⟩⟩⟩
    · show mup m 124 (60 * k + 22) (t : Int) 124 (60 * k + 20) = _
      rw [cu (by decide) (by decide), if_neg (by omega)]; exact c1
    · show mup m 124 (60 * k + 22) (t : Int) 124 (60 * k + 21) = _
      rw [cu (by decide) (by decide), if_neg (by omega)]; exact c2 q
    · show mup m 124 (60 * k + 22) (t : Int) 124 (60 * k + 22) = _
      rw [cu (by decide) (by decide), if_pos ⟨rfl, rfl⟩]
    · show mup m 124 (60 * k + 22) (t : Int) 124 (60 * k + 23) = _
      rw [cu (by decide) (by decide), if_neg (by omega), show t - (t : Int).toNat = 0 by omega]; exact c4.1
    · show mup m 124 (60 * k + 22) (t : Int) 124 (60 * k + 24) = _
      rw [cu (by decide) (by decide), if_neg (by omega)]; exact c4.2
    · rw [show t - (t : Int).toNat = 0 by omega]; rfl
  · have r2 : rw2 s s' (i + 1) k = rw2 s s' i k := by
      show (if k < i + 1 then s'.1 2 k else s.1 2 k) = if k < i then s'.1 2 k else s.1 2 k
      by_cases y2 : k < i
      · rw [if_pos y2, if_pos (by omega)]
      · rw [if_neg y2, if_neg (by omega)]
    have r5 : rw5 s s' (i + 1) k = rw5 s s' i k := by
      show (if k < i + 1 then s'.1 5 k else s.1 5 k) = if k < i then s'.1 5 k else s.1 5 k
      by_cases y2 : k < i
      · rw [if_pos y2, if_pos (by omega)]
      · rw [if_neg y2, if_neg (by omega)]
    have ex : ∀ c, c < 60 → mup m 124 (60 * i + 22) (t : Int) 124 (60 * k + c) = m 124 (60 * k + c) := fun c hc => by rw [cu (by decide) hc, if_neg (by omega)]
    unfold colOK gapOK at h0 ⊢
    rw [r2, r5]
    simp only [ex 20 (by decide), ex 21 (by decide), ex 22 (by decide), ex 23 (by decide), ex 24 (by decide), ex 25 (by decide)]
    exact h0
theorem gp_no {j : Int} {f : Nat} (hf : f ≤ t) (hg : g t ≠ j) : gpS g j f (t + 1 - f) = gpS g j f (t - f) := by
  rw [show t + 1 - f = t - f + 1 by omega, gpS, if_neg (by rw [show f + (t - f) = t by omega]; exact hg)]
/-- nobody works -/
theorem W_idle (h : WIm J n g m1 m t u a0 a1 a2 a5) (hg : g t < 0) : WIm J n g m1 m (t + 1) u a0 a1 a2 a5 := by
  obtain ⟨w1, w2, w3, w4, w5, w6⟩ := h
  refine ⟨w1, w2, fun k hk => ?_, w4, w5, w6⟩
  obtain ⟨c1, c2, c3, c4, c5⟩ := w3 k hk
  refine ⟨c1, c2, c3, c4, fun q => ?_⟩
  obtain ⟨d1, d2, d3⟩ := c5 q
  rw [gp_no (by omega) (by omega)]
  exact ⟨by omega, d2, d3⟩
/-- c works -/
theorem W_work {c : Nat} (hc : c < n) (h : WIm J n g m1 m t u a0 a1 a2 a5) (hg : g t = (c : Int)) (h5 : a5 c = 1) (h0 : a0 c ≠ 0) (hn : ∀ k, k < n → 0 ≤ a0 k) (hz : ∀ k, k < n → a0 k ≠ 0 → a1 k = 0) {b0 b1 : Nat → Int} (hb0 : ∀ b, b0 b = if b = c then a0 c - 1 else a0 b) (hb1 : ∀ b, b1 b = if a0 c = 1 ∧ b = c then (t : Int) + 1 else a1 b)
    (f0 : ∀ a, a ≠ 124 → a ≠ 126 → m' a = m a) (f1 : ∀ b, (b < 60 * c + 20 ∨ 60 * c + 25 < b ∨ b = 60 * c + 22) → m' 124 b = m 124 b) (f20 : m' 124 (60 * c + 20) = m 124 (60 * c + 20) + 1) (f21 : a0 c = 1 → m' 124 (60 * c + 21) = (t : Int) + 1)
    (f23 : m' 124 (60 * c + 23) = if m 124 (60 * c + 23) < (t : Int) - ((gpS g (c : Int) (a2 c).toNat (t - (a2 c).toNat)).1 : Int) then (t : Int) - ((gpS g (c : Int) (a2 c).toNat (t - (a2 c).toNat)).1 : Int) else m 124 (60 * c + 23)) (f24 : m' 124 (60 * c + 24) = 1) (f25 : m' 124 (60 * c + 25) = (t : Int) + 1)
    (g1 : m' 126 1 = m 126 1 + if a0 c = 1 then (t : Int) + 1 else 0) (g3 : m' 126 3 = if a0 c = 1 ∧ 0 < J 2 c ∧ J 2 c < (t : Int) + 1 then 0 else m 126 3) : WIm J n g m1 m' (t + 1) u b0 b1 a2 a5 := by
  obtain ⟨w1, w2, w3, w4, w5, w6⟩ := h
  refine ⟨fun a q1 q2 q3 => by rw [f0 a q1 q3]; exact w1 a q1 q2 q3, fun k x hk hx => ?_, fun k hk => ?_, fun b hb => by rw [f0 125 (by decide) (by decide)]; exact w4 b hb, ?_, ?_⟩
  · rw [f1 _ (by omega)]; exact w2 k x hk hx
  · obtain ⟨c1, c2, c3, c4, c5⟩ := w3 k hk
    by_cases y : k = c
    · subst y
      obtain ⟨d1, d2, d3⟩ := c5 h5
      have hf : (a2 k).toNat ≤ t := by omega
      have e : gpS g (k : Int) (a2 k).toNat (t + 1 - (a2 k).toNat) = (t + 1, if (gpS g (k : Int) (a2 k).toNat (t - (a2 k).toNat)).2 < (t : Int) - ((gpS g (k : Int) (a2 k).toNat (t - (a2 k).toNat)).1 : Int) then (t : Int) - ((gpS g (k : Int) (a2 k).toNat (t - (a2 k).toNat)).1 : Int) else (gpS g (k : Int) (a2 k).toNat (t - (a2 k).toNat)).2) := by
        rw [show t + 1 - (a2 k).toNat = t - (a2 k).toNat + 1 by omega, gpS, show (a2 k).toNat + (t - (a2 k).toNat) = t by omega, if_pos hg]
      unfold colOK gapOK
      rw [e]
      refine ⟨?_, fun q => ?_, ?_, fun q => absurd h5 q, fun _ => ⟨by omega, ?_, Or.inr ⟨f24, ?_⟩⟩⟩
      · show m' 124 (60 * k + 20) = _
        have c1 : m 124 (60 * k + 20) = J 1 k - a0 k := c1
        rw [f20, c1, hb0, if_pos rfl]; omega
      · rw [hb0, if_pos rfl] at q
        show m' 124 (60 * k + 21) = _
        rw [f21 (by omega), hb1, if_pos ⟨by omega, rfl⟩]
      · show m' 124 (60 * k + 22) = _
        rw [f1 _ (by omega)]; exact c3
      · show m' 124 (60 * k + 23) = _
        have d2 : m 124 (60 * k + 23) = _ := d2
        rw [f23, d2]
      · show m' 124 (60 * k + 25) = _
        rw [f25]; rfl
    · have ex : ∀ x, x < 60 → m' 124 (60 * k + x) = m 124 (60 * k + x) := fun x hx => f1 _ (by omega)
      have e0 : b0 k = a0 k := by rw [hb0, if_neg y]
      have e1 : b1 k = a1 k := by rw [hb1, if_neg (fun q => y q.2)]
      unfold colOK gapOK
      simp only [ex 20 (by decide), ex 21 (by decide), ex 22 (by decide), ex 23 (by decide), ex 24 (by decide), ex 25 (by decide)]
      rw [e0, e1]
      refine ⟨c1, c2, c3, c4, fun q => ?_⟩
      obtain ⟨d1, d2, d3⟩ := c5 q
      rw [gp_no (by omega) (by omega)]
      exact ⟨by omega, d2, d3⟩
  · rw [g1, w5]
    by_cases y : a0 c = 1
    · rw [if_pos y]
      have := smF_upd (f := a1) (g := b1) (c := c) (v := (t : Int) + 1) hc (fun j _ hne => by rw [hb1, if_neg (fun q => hne q.2)]) (by rw [hb1, if_pos ⟨y, rfl⟩, hz c hc h0]; omega)
      rw [this]
    · rw [if_neg y, smF_cong (f := b1) (g := a1) (fun j _ => by rw [hb1, if_neg (fun q => y q.1)])]; omega
  · rw [g3, w6]
    by_cases y : a0 c = 1 ∧ 0 < J 2 c ∧ J 2 c < (t : Int) + 1
    · rw [if_pos y, if_neg (fun q => by have := q c hc (by rw [hb0, if_pos rfl]; omega) y.2.1; rw [hb1, if_pos ⟨y.1, rfl⟩] at this; omega)]
    · rw [if_neg y]
      by_cases q : kpS J n a0 a1
      · rw [if_pos q, if_pos (fun k hk y1 y2 => ?_)]
        by_cases e : k = c
        · subst e
          rw [hb0, if_pos rfl] at y1
          rw [hb1, if_pos ⟨by omega, rfl⟩]
          by_cases w : J 2 k < (t : Int) + 1
          · exact absurd ⟨by omega, y2, w⟩ y
          · omega
        · rw [hb0, if_neg e] at y1
          rw [hb1, if_neg (fun w => e w.2)]
          exact q k hk y1 y2
      · rw [if_neg q, if_neg (fun w => q (fun k hk y1 y2 => ?_))]
        by_cases e : k = c
        · rw [e] at y1; exact absurd y1 h0
        · have := w k hk (by rw [hb0, if_neg e]; exact y1) y2
          rw [hb1, if_neg (fun w => e w.2)] at this
          exact this
theorem uf_end {c : Nat} (hc : c < n) {b0 : Nat → Int} (hb0 : ∀ b, b0 b = if b = c then a0 c - 1 else a0 b) (h0 : a0 c ≠ 0) : ufN b0 n = ufN a0 n - if a0 c = 1 then 1 else 0 := by
  by_cases y : a0 c = 1
  · rw [if_pos y]
    have := smF_upd (f := fun k => if a0 k = 0 then (0 : Int) else 1) (g := fun k => if b0 k = 0 then (0 : Int) else 1) (c := c) (v := -1) hc (fun j _ hne => by
      show (if b0 j = 0 then (0 : Int) else 1) = if a0 j = 0 then (0 : Int) else 1
      rw [hb0, if_neg hne]) (by
      show (if b0 c = 0 then (0 : Int) else 1) = (if a0 c = 0 then (0 : Int) else 1) + -1
      rw [hb0, if_pos rfl, if_pos (by omega), if_neg h0]; omega)
    show smF (fun k => if b0 k = 0 then (0 : Int) else 1) n = smF (fun k => if a0 k = 0 then (0 : Int) else 1) n - 1
    omega
  · rw [if_neg y, Int.sub_zero]
    refine smF_cong (fun j _ => ?_)
    show (if b0 j = 0 then (0 : Int) else 1) = if a0 j = 0 then (0 : Int) else 1
    by_cases e : j = c
    · rw [e, hb0, if_pos rfl, if_neg (by omega), if_neg h0]
    · rw [hb0, if_neg e]
/-- behind all beginnings of busy stretches there is none -/
theorem bBeg_no {x : Int} : ∀ (d t : Nat) (e : Int), e + (cntB g (t + d) - cntB g t) ≤ x → bBeg g x d t e = -1 := by
  have mono : ∀ d t : Nat, cntB g t ≤ cntB g (t + d) := by
    intro d
    induction d with
    | zero => intro t; exact Int.le_refl _
    | succ d ih =>
      intro t
      have := ih t
      rw [show t + (d + 1) = t + d + 1 by omega]
      simp only [cntB]
      split <;> omega
  intro d
  induction d with
  | zero => intro t e _; rfl
  | succ d ih =>
    intro t e he
    have h1 := mono d (t + 1)
    have h2 : cntB g (t + 1) = cntB g t + if bgn g t then 1 else 0 := rfl
    rw [show t + (d + 1) = t + 1 + d by omega] at he
    simp only [bBeg]
    by_cases y : x < e
    · rw [if_pos y]
    · rw [if_neg y]
      by_cases q : bgn g t
      · rw [if_pos q] at h2
        rw [if_pos q, if_neg (by omega)]
        exact ih (t + 1) (e + 1) (by omega)
      · rw [if_neg q] at h2
        rw [if_neg q]
        exact ih (t + 1) e (by omega)
theorem cntB_c {g g' : Nat → Int} : ∀ {T : Nat}, (∀ b, b < T → g' b = g b) → cntB g' T = cntB g T := by
  intro T
  induction T with
  | zero => intro _; rfl
  | succ T ih =>
    intro h
    simp only [cntB]
    rw [ih (fun b hb => h b (by omega))]
    have e : bgn g' T ↔ bgn g T := by
      unfold bgn
      rw [h T (by omega)]
      by_cases y : T = 0
      · simp [y]
      · rw [h (T - 1) (by omega)]
    by_cases q : bgn g T
    · rw [if_pos q, if_pos (e.mpr q)]
    · rw [if_neg q, if_neg (fun w => q (e.mp w))]
theorem cntW_c {g g' : Nat → Int} : ∀ {T : Nat}, (∀ b, b < T → g' b = g b) → cntW g' T = cntW g T := by
  intro T
  induction T with
  | zero => intro _; rfl
  | succ T ih => intro h; simp only [cntW]; rw [ih (fun b hb => h b (by omega)), h T (by omega)]
theorem ckS_c {g g' : Nat → Int} : ∀ {T : Nat}, (∀ b, b < T → g' b = g b) → ckS g' T = ckS g T := by
  intro T
  induction T with
  | zero => intro _; rfl
  | succ T ih => intro h; simp only [ckS]; rw [ih (fun b hb => h b (by omega)), h T (by omega)]
theorem lstN_b (hg : ∀ b, b < T → -2 ≤ g b ∧ g b < (n : Int)) : ∀ t, t ≤ T → -1 ≤ lstN g t ∧ lstN g t < max (n : Int) 0 := by
  intro t
  induction t with
  | zero => intro _; simp only [lstN]; omega
  | succ t ih =>
    intro ht
    have := ih (by omega)
    have := hg t (by omega)
    simp only [lstN]
    split <;> omega
end
