/-! ===== a run is a schedule ===== -/
section
variable {J : Mm} {n : Nat} {K : Nat → Int} {s s' : St} {g g' : Nat → Int} {t : Nat}
theorem cnt_pre {j : Int} : ∀ {t' : Nat}, (∀ b, b < t' → g' b = g b) → cntJ g' j t' = cntJ g j t' := by
  intro t'
  induction t' with
  | zero => intro _; rfl
  | succ t' ih => intro h; simp only [cntJ]; rw [ih (fun b hb => h b (by omega)), h t' (by omega)]
/-- a moment of the log is as it should be -/
def okG (J : Mm) (n : Nat) (K : Nat → Int) (g : Nat → Int) (t : Nat) : Prop :=
  (g t = -1 ∨ ∃ j, j < n ∧ g t = (j : Int) ∧ J 0 j ≤ t ∧ 0 < lfT J g t j ∧ prd J g t j) ∧ (g t = -1 → ∀ j, j < n → J 0 j ≤ t → prd J g t j → lfT J g t j = 0) ∧ (∃ j, j < n ∧ lfT J g t j ≠ 0) ∧ (K 0 = 3 → ∀ s : Nat, g t = (s : Int) → ∀ j, j < n → J 0 j ≤ (t : Int) → prd J g t j → 0 < lfT J g t j → lfT J g t s ≤ lfT J g t j)
theorem okG_c (hh : ∀ b, b < t + 1 → g' b = g b) (h : okG J n K g t) (hn : n ≤ n) : okG J n K g' t := by
  have e : ∀ j, lfT J g' t j = lfT J g t j := fun j => by simp only [lfT]; rw [cnt_pre (fun b hb => hh b (by omega))]
  have ep : ∀ j, prd J g' t j → prd J g t j := fun j q k hk hb => by rw [← e]; exact q k hk hb
  have ep2 : ∀ j, prd J g t j → prd J g' t j := fun j q k hk hb => by rw [e]; exact q k hk hb
  obtain ⟨h1, h2, h3, h4⟩ := h
  unfold okG
  rw [hh t (by omega)]
  refine ⟨?_, fun z j hj q1 q2 => by rw [e]; exact h2 z j hj q1 (ep j q2), ?_, fun q s z j hj q1 q2 q3 => ?_⟩
  · rcases h1 with z | ⟨j, z1, z2, z3, z4, z5⟩
    · exact Or.inl z
    · exact Or.inr ⟨j, z1, z2, z3, by rw [e]; exact z4, ep2 j z5⟩
  · obtain ⟨j, z1, z2⟩ := h3; exact ⟨j, z1, by rw [e]; exact z2⟩
  · rw [e] at q3; rw [e, e]; exact h4 q s z j hj q1 (ep j q2) q3
/-- the run so far, by its log -/
def RI (J : Mm) (n : Nat) (K : Nat → Int) (s : St) (t : Nat) : Prop :=
  s.1 6 6 = (t : Int) ∧ s.1 6 3 = 0 ∧ (K 0 = 3 → s.1 6 0 ≠ -1 → s.1 6 2 ≤ 0) ∧ (∀ j, s.1 0 j = lfT J (s.1 7) t j) ∧ (∀ t', t' < t → okG J n K (s.1 7) t') ∧
  (∀ t', t' ≤ t → ∀ j, j < n → 0 ≤ lfT J (s.1 7) t' j) ∧
  ∀ j, j < n → (0 < s.1 0 j → ∀ t', t' ≤ t → 0 < lfT J (s.1 7) t' j) ∧ (s.1 0 j = 0 → (0 ≤ s.1 1 j ∧ s.1 1 j ≤ (t : Int)) ∧ ∀ t', t' < t → ((t' : Int) < s.1 1 j ↔ 0 < lfT J (s.1 7) t' j))
theorem RI_st (h : RI J n K s t) (hB : ∀ j, j < n → 0 ≤ s.1 0 j) (ho : ¬ ovr n s.1) (hst : stL J n K s s') : RI J n K s' (t + 1) := by
  obtain ⟨h66, h63, h60, hlf, hok, hnn, hen⟩ := h
  obtain ⟨hL, g66, g63, g60⟩ := hst
  have ht : (s.1 6 6).toNat = t := by omega
  have hun : ∃ j, j < n ∧ lfT J (s.1 7) t j ≠ 0 := by
    by_cases q : ∃ j, j < n ∧ lfT J (s.1 7) t j ≠ 0
    · exact q
    · exact absurd (fun j hj => by by_cases z : s.1 0 j = 0; exact z; exact absurd ⟨j, hj, by rw [← hlf]; exact z⟩ q) ho
  have epr : ∀ j, prd J (s.1 7) t j ↔ prS J s.1 j := fun j => ⟨fun q k hk hb => by rw [hlf]; exact q k hk hb, fun q k hk hb => by rw [← hlf]; exact q k hk hb⟩
  rw [ht] at hL
  -- what does not change
  have common : (∀ b, b < t → s'.1 7 b = s.1 7 b) → okG J n K (s'.1 7) t → (∀ j, s'.1 0 j = lfT J (s'.1 7) (t + 1) j) → (∀ j, j < n → 0 ≤ s'.1 0 j) →
      (∀ j, j < n → (0 < s'.1 0 j → 0 < s.1 0 j) ∧ (s'.1 0 j = 0 → (s.1 0 j = 0 ∧ s'.1 1 j = s.1 1 j) ∨ (0 < s.1 0 j ∧ s'.1 1 j = (t : Int) + 1))) → RI J n K s' (t + 1) := by
    intro h7 hokt hl' hb' he'
    have e : ∀ t', t' ≤ t → ∀ j, lfT J (s'.1 7) t' j = lfT J (s.1 7) t' j := fun t' ht' j => by simp only [lfT]; rw [cnt_pre (fun b hb => h7 b (by omega))]
    refine ⟨by rw [g66, h66]; rfl, g63, g60, hl', fun t' ht' => ?_, fun t' ht' j hj => ?_, fun j hj => ⟨fun q t' ht' => ?_, fun q => ?_⟩⟩
    · by_cases q : t' = t
      · rw [q]; exact hokt
      · exact okG_c (fun b hb => h7 b (by omega)) (hok t' (by omega)) (Nat.le_refl _)
    · by_cases q : t' = t + 1
      · rw [q, ← hl']; exact hb' j hj
      · rw [e t' (by omega)]; exact hnn t' (by omega) j hj
    · by_cases q2 : t' = t + 1
      · rw [q2, ← hl']; exact q
      · rw [e t' (by omega)]; exact (hen j hj).1 ((he' j hj).1 q) t' (by omega)
    · rcases (he' j hj).2 q with ⟨z, z2⟩ | ⟨z, z2⟩
      · obtain ⟨y1, y2⟩ := (hen j hj).2 z
        rw [z2]
        refine ⟨by omega, fun t' ht' => ?_⟩
        by_cases q2 : t' = t
        · rw [q2, e t (Nat.le_refl _), ← hlf]; omega
        · rw [e t' (by omega)]; exact y2 t' (by omega)
      · rw [z2]
        refine ⟨by omega, fun t' ht' => ?_⟩
        rw [e t' (by omega)]
        have := (hen j hj).1 z t' (by omega)
        omega
  rcases hL with ⟨l7, l0, l1, lid⟩ | ⟨c, hc, l7, lp, lc, lpr, l0, l1, l3⟩
  · have gt : s'.1 7 t = -1 := by rw [l7, if_pos rfl]
    have h7 : ∀ b, b < t → s'.1 7 b = s.1 7 b := fun b hb => by rw [l7, if_neg (by omega)]
    have e : ∀ j, lfT J (s'.1 7) t j = s.1 0 j := fun j => by rw [hlf]; simp only [lfT]; rw [cnt_pre (fun b hb => h7 b hb)]
    refine common h7 ⟨Or.inl gt, fun _ j hj q1 q2 => ?_, ?_, fun q x z => by omega⟩ (fun j => ?_) (fun j hj => by rw [l0]; exact hB j hj) (fun j hj => ⟨fun q => by rw [l0] at q; exact q, fun q => Or.inl ⟨by rw [l0] at q; exact q, by rw [l1]⟩⟩)
    · rw [e]; exact lid j hj (by omega) (fun k hk hb => by rw [← e]; exact q2 k hk hb)
    · obtain ⟨j, z1, z2⟩ := hun; exact ⟨j, z1, by rw [e, hlf]; exact z2⟩
    · rw [lf_s, e, l0, gt, if_neg (by omega)]; omega
  · have gt : s'.1 7 t = (c : Int) := by rw [l7, if_pos rfl]
    have h7 : ∀ b, b < t → s'.1 7 b = s.1 7 b := fun b hb => by rw [l7, if_neg (by omega)]
    have e : ∀ j, lfT J (s'.1 7) t j = s.1 0 j := fun j => by rw [hlf]; simp only [lfT]; rw [cnt_pre (fun b hb => h7 b hb)]
    refine common h7 ⟨Or.inr ⟨c, hc, gt, by omega, by rw [e]; exact lp, fun k hk hb => by rw [e]; exact lpr k hk hb⟩, fun z => by omega, ⟨c, hc, by rw [e]; omega⟩, fun q x z j hj q1 q2 q3 => ?_⟩ (fun j => ?_) (fun j hj => ?_) (fun j hj => ⟨fun q => ?_, fun q => ?_⟩)
    · have ex : x = c := by omega
      rw [ex, e, e]
      rw [e] at q3
      exact l3 q j hj (by omega) (fun k hk hb => by rw [← e]; exact q2 k hk hb) q3
    · rw [lf_s, e, l0, gt]
      by_cases z : j = c
      · rw [if_pos z, if_pos (by omega), z]
      · rw [if_neg z, if_neg (by omega)]; omega
    · rw [l0]; have := hB j hj; split <;> omega
    · rw [l0] at q
      by_cases z : j = c
      · rw [z]; exact lp
      · rw [if_neg z] at q; exact q
    · rw [l0] at q
      by_cases z : j = c
      · rw [if_pos z] at q
        refine Or.inr ⟨by rw [z]; exact lp, ?_⟩
        rw [l1, if_pos ⟨by omega, z⟩]; omega
      · rw [if_neg z] at q
        refine Or.inl ⟨q, ?_⟩
        rw [l1, if_neg (fun y => z y.2)]
theorem RI_ru (hD : okD J n) (hK : okK K) (h2 : K 2 = 0) : ∀ (d : Nat) (s : St) (t : Nat), vS J n K s → vY K s.1 → vR n s.1 → RI J n K s t → ∃ T, RI J n K (ruF J n K d s) T := by
  intro d
  induction d with
  | zero => intro s t _ _ _ h; exact ⟨t, h⟩
  | succ d ih =>
    intro s t hS hy hr h
    unfold ruF
    by_cases c : ovr n s.1
    · rw [if_pos c]; exact ⟨t, h⟩
    · rw [if_neg c]
      have h1 := vS_st hD hK hS hy c
      exact ih _ (t + 1) h1.1 h1.2 (vR_st hD hK hS) (RI_st h (fun j hj => (hS.1.2 j hj).2.1.1) c (st_log hD hK hS hy h2 h.2.1 h.2.2.1))
theorem RI_in {z : Int} (hD : okD J n) : RI J n K (inS J z) 0 := by
  have e0 : ∀ j, inN J z 0 j = J 1 j := fun j => by simp [inN]
  refine ⟨by simp [inS, inN], by simp [inS, inN], fun _ q => absurd (by simp [inS, inN]) q, fun j => ?_, fun t' ht' => absurd ht' (by omega), fun t' ht' j hj => ?_, fun j hj => ⟨fun q t' ht' => ?_, fun q => ?_⟩⟩
  · show inN J z 0 j = J 1 j - 0
    rw [e0]; omega
  · have e : t' = 0 := by omega
    subst e
    have := okD_l hD hj
    show 0 ≤ J 1 j - 0
    omega
  · have e : t' = 0 := by omega
    subst e
    have := okD_l hD hj
    show 0 < J 1 j - 0
    omega
  · have := okD_l hD hj
    have q : inN J z 0 j = 0 := q
    rw [e0] at q; omega
theorem fn_sch (hD : okD J n) (hK : okK K) (h2 : K 2 = 0) {z : Int} : ∃ T : Nat, (fnF J n K z).1 6 6 = (T : Int) ∧ Sch J n ((fnF J n K z).1 7) T ∧ Ens J n ((fnF J n K z).1 7) T ((fnF J n K z).1 1) ∧ (K 0 = 3 → (∀ j, j < n → J 4 j = 0) → Lst J n ((fnF J n K z).1 7) T) := by
  obtain ⟨T, h⟩ := RI_ru hD hK h2 2304 (inS J z) 0 (vS_in hD) vY_in vR_in (RI_in hD)
  have ho := (fn_is (K := K) hD hK (z := z)).2
  have h : RI J n K (fnF J n K z) T := h
  obtain ⟨h66, -, -, hlf, hok, hnn, hen⟩ := h
  refine ⟨T, h66, ⟨fun t ht => (hok t ht).1, fun t ht => (hok t ht).2.1, fun j hj => by rw [← hlf]; exact ho j hj, fun t ht => (hok t ht).2.2.1, hnn, fun j hj => (okD_l hD hj).1⟩, fun j hj => (hen j hj).2 (ho j hj), fun q hw t ht s hs j hj h1 h3 => (hok t ht).2.2.2 q s hs j hj h1 (fun k hk hb => by rw [hw j hj] at hb; simp at hb) h3⟩
end
