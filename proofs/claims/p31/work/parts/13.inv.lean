/-! ===== sums, least ones, locks ===== -/
theorem smF_cong {f g : Nat → Int} : ∀ {n : Nat}, (∀ j, j < n → f j = g j) → smF f n = smF g n := by
  intro n
  induction n with
  | zero => intro _; rfl
  | succ n ih => intro h; simp only [smF]; rw [ih (fun j hj => h j (by omega)), h n (by omega)]
theorem smF_upd {f g : Nat → Int} {c : Nat} {v : Int} : ∀ {n : Nat}, c < n → (∀ j, j < n → j ≠ c → g j = f j) → g c = f c + v → smF g n = smF f n + v := by
  intro n
  induction n with
  | zero => intro h; omega
  | succ n ih =>
    intro hc h hv
    simp only [smF]
    by_cases e : n = c
    · subst e
      rw [smF_cong (f := g) (g := f) (fun j hj => h j (by omega) (by omega)), hv]
      omega
    · rw [ih (by omega) (fun j hj => h j (by omega)) hv, h n (by omega) e]
      omega
theorem smF_le {f g : Nat → Int} : ∀ {n : Nat}, (∀ j, j < n → f j ≤ g j) → smF f n ≤ smF g n := by
  intro n
  induction n with
  | zero => intro _; exact Int.le_refl _
  | succ n ih =>
    intro h
    have h1 := ih (fun j hj => h j (by omega))
    have h2 := h n (by omega)
    simp only [smF]
    omega
theorem smF_lt {f g : Nat → Int} {c : Nat} : ∀ {n : Nat}, (∀ j, j < n → f j ≤ g j) → c < n → f c < g c → smF f n < smF g n := by
  intro n
  induction n with
  | zero => intro _ h; omega
  | succ n ih =>
    intro h hc hl
    have h2 := h n (by omega)
    simp only [smF]
    by_cases e : n = c
    · subst e
      have h1 := smF_le (n := n) (fun j hj => h j (by omega))
      omega
    · have h1 := ih (fun j hj => h j (by omega)) (by omega) hl
      omega
theorem smF_const (z : Int) : ∀ n : Nat, smF (fun _ => z) n = n * z := by
  intro n
  induction n with
  | zero => simp [smF]
  | succ n ih => simp only [smF, ih]; rw [Int.natCast_succ, Int.add_mul, Int.one_mul]
theorem smF_0 (n : Nat) : smF (fun _ => 0) n = 0 := by rw [smF_const]; omega
theorem smF_sub (f g : Nat → Int) : ∀ n : Nat, smF (fun j => f j - g j) n = smF f n - smF g n := by
  intro n
  induction n with
  | zero => simp [smF]
  | succ n ih => simp only [smF, ih]; omega
theorem smF_add (f g : Nat → Int) : ∀ n : Nat, smF (fun j => f j + g j) n = smF f n + smF g n := by
  intro n
  induction n with
  | zero => simp [smF]
  | succ n ih => simp only [smF, ih]; omega
theorem smF_nn {f : Nat → Int} : ∀ {n : Nat}, (∀ j, j < n → 0 ≤ f j) → 0 ≤ smF f n := by
  intro n h
  have := smF_le (f := fun _ => 0) (g := f) h
  rw [smF_0] at this
  exact this
theorem lcF_is (σ : Mm) : ∀ n : Nat, lcF σ n = -1 ∨ ∃ j, j < n ∧ rdy σ j ∧ lcF σ n = σ 3 j := by
  intro n
  induction n with
  | zero => exact Or.inl rfl
  | succ n ih =>
    simp only [lcF]
    split
    · rename_i h
      exact Or.inr ⟨n, by omega, h.1, rfl⟩
    · rcases ih with h | ⟨j, h1, h2, h3⟩
      · exact Or.inl h
      · exact Or.inr ⟨j, by omega, h2, h3⟩
theorem lcZ_b {J σ : Mm} {n : Nat} (h : vB J n σ) : 0 ≤ lcZ σ n ∧ lcZ σ n ≤ 2520 * σ 6 6 := by
  have h0 := h.1
  unfold lcZ
  split
  · omega
  · rename_i hc
    rcases lcF_is σ n with h1 | ⟨j, h1, h2, h3⟩
    · exact absurd h1 hc
    · rw [h3]
      exact (h.2 j h1).2.2.2.2.2.2.1
theorem bsF_is (J : Mm) (n : Nat) (K : Nat → Int) (σ : Mm) : ∀ m : Nat, (bsF J n K σ m = -1 ∧ ∀ j, j < m → ¬ okR J n K σ j) ∨ ∃ j, j < m ∧ bsF J n K σ m = (j : Int) ∧ okR J n K σ j ∧ (∀ i, i < m → okR J n K σ i → keyR J n K σ j ≤ keyR J n K σ i) := by
  intro m
  induction m with
  | zero => exact Or.inl ⟨rfl, fun j hj => absurd hj (by omega)⟩
  | succ m ih =>
    rcases ih with ⟨h1, h2⟩ | ⟨j, h1, h2, h3, h4⟩
    · by_cases hm : okR J n K σ m
      · refine Or.inr ⟨m, by omega, ?_, hm, fun i hi hk => ?_⟩
        · rw [bsF, if_pos ⟨hm, Or.inl h1⟩]
        · by_cases e : i = m
          · rw [e]; exact Int.le_refl _
          · exact absurd hk (h2 i (by omega))
      · refine Or.inl ⟨?_, fun i hi hk => ?_⟩
        · rw [bsF, if_neg (fun z => hm z.1)]; exact h1
        · by_cases e : i = m
          · exact hm (e ▸ hk)
          · exact absurd hk (h2 i (by omega))
    · have e2 : (bsF J n K σ m).toNat = j := by rw [h2]; rfl
      by_cases hm : okR J n K σ m ∧ keyR J n K σ m < keyR J n K σ j
      · refine Or.inr ⟨m, by omega, ?_, hm.1, fun i hi hk => ?_⟩
        · rw [bsF, e2, if_pos ⟨hm.1, Or.inr hm.2⟩]
        · by_cases e : i = m
          · rw [e]; exact Int.le_refl _
          · have := h4 i (by omega) hk; omega
      · refine Or.inr ⟨j, by omega, ?_, h3, fun i hi hk => ?_⟩
        · rw [bsF, e2, if_neg (fun z => hm ⟨z.1, by rcases z.2 with q | q; omega; exact q⟩)]; exact h2
        · by_cases e : i = m
          · subst e
            have : ¬ keyR J n K σ i < keyR J n K σ j := fun q => hm ⟨hk, q⟩
            omega
          · exact h4 i (by omega) hk
theorem swF_mono {J σ : Mm} {n : Nat} (hw : ∀ j, j < n → 1 ≤ J 3 j) : ∀ {i j : Nat}, i ≤ j → j ≤ n → swF J σ i ≤ swF J σ j := by
  intro i j hij
  induction j with
  | zero => intro _; rw [show i = 0 by omega]; exact Int.le_refl _
  | succ j ih =>
    intro hj
    by_cases e : i = j + 1
    · rw [e]; exact Int.le_refl _
    · have h1 := ih (by omega) (by omega)
      have h2 := hw j (by omega)
      simp only [swF]
      split <;> omega
theorem ltF_is {J σ : Mm} {z : Int} : ∀ (d j : Nat), swF J σ j ≤ z → z < swF J σ (j + d) → ∃ i : Nat, ltF J σ z d j = (i : Int) ∧ j ≤ i ∧ i < j + d ∧ rdy σ i := by
  intro d
  induction d with
  | zero => intro j h1 h2; exact absurd h2 (by rw [Nat.add_zero]; omega)
  | succ d ih =>
    intro j h1 h2
    simp only [ltF]
    split
    · rename_i hc
      refine ⟨j, rfl, by omega, by omega, ?_⟩
      simp only [swF] at hc
      by_cases hr : rdy σ j
      · exact hr
      · rw [if_neg hr] at hc; omega
    · rename_i hc
      obtain ⟨i, e1, e2, e3, e4⟩ := ih (j + 1) (by omega) (by rw [show j + 1 + d = j + (d + 1) by omega]; exact h2)
      exact ⟨i, e1, by omega, by omega, e4⟩
theorem bus_b (x : Int) : 0 ≤ bus x 16 ∧ bus x 16 < 65536 := by
  unfold bus
  have h : ((Int32.ofInt x).toUInt32 >>> ((Int32.ofInt 16).toUInt32 &&& Int32.toUInt32 31)).toInt32.toBitVec.toNat < 65536 := by
    show ((Int32.ofInt x).toUInt32 >>> ((Int32.ofInt 16).toUInt32 &&& Int32.toUInt32 31)).toBitVec.toNat < 65536
    rw [UInt32.toBitVec_shiftRight]
    have e : (((Int32.ofInt 16).toUInt32 &&& Int32.toUInt32 31).toBitVec % 32) = 16#32 := by decide
    rw [e]
    simp only [BitVec.ushiftRight_eq', BitVec.toNat_ushiftRight, Nat.shiftRight_eq_div_pow]
    have := (Int32.ofInt x).toUInt32.toBitVec.isLt
    have e2 : (16#32 : BitVec 32).toNat = 16 := rfl
    rw [e2]
    omega
  have h2 : ((Int32.ofInt x).toUInt32 >>> ((Int32.ofInt 16).toUInt32 &&& Int32.toUInt32 31)).toInt32.toInt = (((Int32.ofInt x).toUInt32 >>> ((Int32.ofInt 16).toUInt32 &&& Int32.toUInt32 31)).toInt32.toBitVec.toNat : Int) := by
    show BitVec.toInt _ = _
    rw [BitVec.toInt_eq_toNat_of_lt (by omega)]
  rw [h2]
  omega
theorem pkF_is {J : Mm} {n : Nat} {K : Nat → Int} {σ : Mm} (hD : okD J n) : (pkF J n K σ = -1 ∧ ∀ j, j < n → ¬ okR J n K σ j) ∨ ∃ j, j < n ∧ pkF J n K σ = (j : Int) ∧ okR J n K σ j := by
  have hw : ∀ j, j < n → 1 ≤ J 3 j := fun j hj => (hD.2 j (by omega)).2.2.2.1.1
  unfold pkF
  by_cases h7 : K 0 = 7
  · rw [if_pos h7]
    by_cases hs : swF J σ n ≤ 0
    · rw [if_pos hs]
      refine Or.inl ⟨rfl, fun j hj hk => ?_⟩
      have h1 := swF_mono (σ := σ) hw (Nat.zero_le j) (by omega)
      have h2 := swF_mono (σ := σ) hw (i := j + 1) (j := n) (by omega) (Nat.le_refl _)
      have h3 := hw j hj
      have h4 : swF J σ 0 = 0 := rfl
      simp only [swF, if_pos hk.1] at h2
      omega
    · rw [if_neg hs]
      have hb := bus_b (sdN (σ 6 5))
      have hm := Int.emod_lt_of_pos (bus (sdN (σ 6 5)) 16) (show 0 < swF J σ n by omega)
      have hm2 := Int.emod_nonneg (bus (sdN (σ 6 5)) 16) (show swF J σ n ≠ 0 by omega)
      obtain ⟨i, e1, e2, e3, e4⟩ := ltF_is (J := J) (σ := σ) (z := bus (sdN (σ 6 5)) 16 % swF J σ n) n 0 hm2 (by rw [Nat.zero_add]; exact hm)
      exact Or.inr ⟨i, by omega, e1, e4, fun z => by omega⟩
  · rw [if_neg h7]
    rcases bsF_is J n K σ n with h | ⟨j, h1, h2, h3, -⟩
    · exact Or.inl h
    · exact Or.inr ⟨j, h1, h2, h3⟩
/-! locks -/
theorem lkAt_is {lo lf lt : Nat → Int} {j : Nat} {bf dn : Int} : ∀ (c i : Nat), (lkAt lo lf lt j bf dn c i = -1 ∧ ∀ x, i ≤ x → x < i + c → ¬ (lf (3 * j + x) ≤ bf ∧ dn < lt (3 * j + x))) ∨ ∃ x, i ≤ x ∧ x < i + c ∧ (lf (3 * j + x) ≤ bf ∧ dn < lt (3 * j + x)) ∧ lkAt lo lf lt j bf dn c i = lo (3 * j + x) := by
  intro c
  induction c with
  | zero => intro i; exact Or.inl ⟨rfl, fun x h1 h2 => absurd h2 (by omega)⟩
  | succ c ih =>
    intro i
    simp only [lkAt]
    split
    · rename_i h
      exact Or.inr ⟨i, by omega, by omega, h, rfl⟩
    · rename_i h
      rcases ih (i + 1) with ⟨h1, h2⟩ | ⟨x, h1, h2, h3, h4⟩
      · refine Or.inl ⟨h1, fun x q1 q2 => ?_⟩
        by_cases e : x = i
        · rw [e]; exact h
        · exact h2 x (by omega) (by omega)
      · exact Or.inr ⟨x, by omega, by omega, h3, h4⟩
section
variable {J : Mm} {n : Nat} {σ σ' : Mm} {K : Nat → Int}
theorem okD_l (hD : okD J n) {j : Nat} (hj : j < n) : 1 ≤ J 1 j ∧ J 1 j ≤ 30 := (hD.2 j (by omega)).2.1
theorem okD_w (hD : okD J n) {j : Nat} (hj : j < n) : 1 ≤ J 3 j ∧ J 3 j ≤ 9 := (hD.2 j (by omega)).2.2.2.1
theorem okD_c (hD : okD J n) {j : Nat} (hj : j < n) : 0 ≤ J 0 j ∧ J 0 j ≤ 99 := (hD.2 j (by omega)).1
theorem okD_k (hD : okD J n) {j : Nat} (hj : j < n) : 0 ≤ J 5 j ∧ J 5 j ≤ 3 := (hD.2 j (by omega)).2.2.2.2.2.1
theorem okD_s (hD : okD J n) {j i : Nat} (hj : j < n) (hi : i < (J 5 j).toNat) : (0 ≤ J 6 (3 * j + i) ∧ J 6 (3 * j + i) ≤ 2) ∧ 0 ≤ J 7 (3 * j + i) ∧ J 7 (3 * j + i) < J 8 (3 * j + i) ∧ J 8 (3 * j + i) ≤ J 1 j := (hD.2 j (by omega)).2.2.2.2.2.2.1 i (by omega)
theorem okD_o (hD : okD J n) {j i i' : Nat} {z : Int} (hj : j < n) (hi : i < (J 5 j).toNat) (hi' : i' < (J 5 j).toNat) (h1 : J 7 (3 * j + i) ≤ z) (h2 : z < J 8 (3 * j + i)) (h3 : J 7 (3 * j + i') ≤ z) (h4 : z < J 8 (3 * j + i')) : i = i' := by
  by_cases e : i = i'
  · exact e
  · have := (hD.2 j (by omega)).2.2.2.2.2.2.2.1 i i' (by omega) (by omega) e
    omega
/-- the stretch in which a job's next moment lies -/
theorem ndF_is (hD : okD J n) {j : Nat} (hj : j < n) : (ndF J σ j = -1 ∧ ∀ x, x < (J 5 j).toNat → ¬ (J 7 (3 * j + x) ≤ J 1 j - σ 0 j ∧ J 1 j - σ 0 j < J 8 (3 * j + x))) ∨ ∃ x, x < (J 5 j).toNat ∧ (J 7 (3 * j + x) ≤ J 1 j - σ 0 j ∧ J 1 j - σ 0 j < J 8 (3 * j + x)) ∧ ndF J σ j = J 6 (3 * j + x) := by
  unfold ndF
  rcases lkAt_is (lo := J 6) (lf := J 7) (lt := J 8) (j := j) (bf := J 1 j - σ 0 j) (dn := J 1 j - σ 0 j) (J 5 j).toNat 0 with ⟨h1, h2⟩ | ⟨x, h1, h2, h3, h4⟩
  · exact Or.inl ⟨h1, fun x hx => h2 x (by omega) (by omega)⟩
  · exact Or.inr ⟨x, by omega, h3, h4⟩
theorem hdF_is (hD : okD J n) {j : Nat} (hj : j < n) : (hdF J σ j = -1 ∧ ∀ x, x < (J 5 j).toNat → ¬ (J 7 (3 * j + x) < J 1 j - σ 0 j ∧ J 1 j - σ 0 j < J 8 (3 * j + x))) ∨ ∃ x, x < (J 5 j).toNat ∧ (J 7 (3 * j + x) < J 1 j - σ 0 j ∧ J 1 j - σ 0 j < J 8 (3 * j + x)) ∧ hdF J σ j = J 6 (3 * j + x) := by
  unfold hdF
  rcases lkAt_is (lo := J 6) (lf := J 7) (lt := J 8) (j := j) (bf := J 1 j - σ 0 j - 1) (dn := J 1 j - σ 0 j) (J 5 j).toNat 0 with ⟨h1, h2⟩ | ⟨x, h1, h2, h3, h4⟩
  · exact Or.inl ⟨h1, fun x hx q => h2 x (by omega) (by omega) ⟨by omega, q.2⟩⟩
  · exact Or.inr ⟨x, by omega, ⟨by omega, h3.2⟩, h4⟩
theorem nd_of (hD : okD J n) {j x : Nat} (hj : j < n) (hx : x < (J 5 j).toNat) (h1 : J 7 (3 * j + x) ≤ J 1 j - σ 0 j) (h2 : J 1 j - σ 0 j < J 8 (3 * j + x)) : ndF J σ j = J 6 (3 * j + x) := by
  rcases ndF_is (σ := σ) hD hj with ⟨-, q⟩ | ⟨y, q1, q2, q3⟩
  · exact absurd ⟨h1, h2⟩ (q x hx)
  · rw [q3, okD_o hD hj q1 hx q2.1 q2.2 h1 h2]
theorem hd_nd (hD : okD J n) {j : Nat} (hj : j < n) (h : hdF J σ j ≠ -1) : ndF J σ j = hdF J σ j := by
  rcases hdF_is (σ := σ) hD hj with ⟨q, -⟩ | ⟨y, q1, q2, q3⟩
  · exact absurd q h
  · rw [q3]; exact nd_of hD hj q1 (by omega) q2.2
theorem kpF_is {j : Nat} {y : Int} : ∀ (d k : Nat), (kpF J σ j y d k = -1 ∧ ∀ x, k ≤ x → x < k + d → x ≠ j → hdF J σ x ≠ y) ∨ ∃ x, k ≤ x ∧ x < k + d ∧ x ≠ j ∧ hdF J σ x = y ∧ kpF J σ j y d k = (x : Int) := by
  intro d
  induction d with
  | zero => intro k; exact Or.inl ⟨rfl, fun x h1 h2 => absurd h2 (by omega)⟩
  | succ d ih =>
    intro k
    simp only [kpF]
    split
    · rename_i h
      exact Or.inr ⟨k, by omega, by omega, h.1, h.2, rfl⟩
    · rename_i h
      rcases ih (k + 1) with ⟨h1, h2⟩ | ⟨x, h1, h2, h3, h4, h5⟩
      · refine Or.inl ⟨h1, fun x q1 q2 q3 q4 => ?_⟩
        by_cases e : x = k
        · subst e; exact h ⟨q3, q4⟩
        · exact h2 x (by omega) (by omega) q3 q4
      · exact Or.inr ⟨x, by omega, by omega, h3, h4, h5⟩
theorem kpr_is (j : Nat) : (kpr J n σ j = -1 ∧ (ndF J σ j = -1 ∨ ∀ x, x < n → x ≠ j → hdF J σ x ≠ ndF J σ j)) ∨ ∃ x, x < n ∧ x ≠ j ∧ ndF J σ j ≠ -1 ∧ hdF J σ x = ndF J σ j ∧ kpr J n σ j = (x : Int) := by
  unfold kpr
  by_cases h : ndF J σ j = -1
  · rw [if_pos h]; exact Or.inl ⟨rfl, Or.inl h⟩
  · rw [if_neg h]
    rcases kpF_is (J := J) (σ := σ) (j := j) (y := ndF J σ j) n 0 with ⟨h1, h2⟩ | ⟨x, h1, h2, h3, h4, h5⟩
    · exact Or.inl ⟨h1, Or.inr (fun x hx => h2 x (by omega) (by omega))⟩
    · exact Or.inr ⟨x, by omega, h3, h, h4, h5⟩
theorem ndF_c (h : σ' 0 = σ 0) : ndF J σ' = ndF J σ := by funext j; simp only [ndF, h]
theorem hdF_c (h : σ' 0 = σ 0) : hdF J σ' = hdF J σ := by funext j; simp only [hdF, h]
theorem kpF_c (h : σ' 0 = σ 0) (j : Nat) (y : Int) : ∀ (d k : Nat), kpF J σ' j y d k = kpF J σ j y d k := by
  intro d
  induction d with
  | zero => intro k; rfl
  | succ d ih => intro k; simp only [kpF, hdF_c h, ih]
theorem kpr_c (h : σ' 0 = σ 0) (j : Nat) : kpr J n σ' j = kpr J n σ j := by simp only [kpr, ndF_c h, kpF_c h]
/-- who has a lock is ready -/
theorem hd_rdy (hD : okD J n) (hB : vB J n σ) {j : Nat} (hj : j < n) (h : hdF J σ j ≠ -1) : rdy σ j := by
  have h1 := hB.2 j hj
  rcases hdF_is (σ := σ) hD hj with ⟨q, -⟩ | ⟨y, q1, q2, q3⟩
  · exact absurd q h
  · have h2 := okD_s hD hj q1
    refine ⟨?_, by omega⟩
    rcases h1.1 with e | e
    · have := h1.2.2.1 e; omega
    · exact e
/-- where one is ready, one is that is not blocked -/
theorem okR_ex (hD : okD J n) (hB : vB J n σ) (hX : vX J n K σ) {j : Nat} (hj : j < n) (hr : rdy σ j) : ∃ i, i < n ∧ okR J n K σ i := by
  by_cases h8 : K 0 = 8
  · rcases kpr_is (J := J) (n := n) (σ := σ) j with ⟨h1, -⟩ | ⟨x, h1, h2, h3, h4, h5⟩
    · exact ⟨j, hj, hr, fun _ => h1⟩
    · refine ⟨x, h1, hd_rdy hD hB h1 (by rw [h4]; exact h3), fun _ => ?_⟩
      have e := hd_nd hD h1 (σ := σ) (by rw [h4]; exact h3)
      rcases kpr_is (J := J) (n := n) (σ := σ) x with ⟨q1, -⟩ | ⟨y, q1, q2, q3, q4, q5⟩
      · exact q1
      · have := (hX h8).1 x y h1 q1 (Ne.symm q2) (by rw [q4, e])
        exact absurd (by rw [← h4]; exact this) h3
  · exact ⟨j, hj, hr, fun z => absurd z h8⟩
end
