/-! ===== a run's steps, and that it ends ===== -/
/-- rules that choose anew at each moment -/
def vY (K : Nat → Int) (σ : Mm) : Prop := K 0 = 3 ∨ K 0 = 6 ∨ K 0 = 8 → σ 6 0 ≠ -1 → σ 6 2 ≤ 1
/-- who became ready did so earlier -/
def vR (n : Nat) (σ : Mm) : Prop := ∀ j, j < n → σ 5 j = 1 → σ 2 j < σ 6 6
section
variable {J : Mm} {n : Nat} {σ σ' : Mm} {K : Nat → Int} {s : St}
theorem ov_o {a : Nat} (h : a ≠ 6) : (ovF K s).1 a = s.1 a := by
  unfold ovF
  split
  · funext b; exact mup_nk h
  · rfl
theorem ov_6 {b : Nat} (h : b ≠ 0) : (ovF K s).1 6 b = s.1 6 b := by
  unfold ovF
  split
  · exact mup_ne (fun z => h z.2)
  · rfl
theorem bg_o {a : Nat} (h : a ≠ 6) (h5 : a ≠ 5) (h2 : a ≠ 2) (h3 : a ≠ 3) : (bgF J n K s).1 a = s.1 a := by
  unfold bgF
  rw [ov_o h]
  show adN J n (rsF K s).1 a = s.1 a
  rw [ad_o h5 h2 h3, rs_1]
theorem bg_ad {a : Nat} (h : a ≠ 6) : (bgF J n K s).1 a = adN J n s.1 a := by
  unfold bgF
  rw [ov_o h]
  show adN J n (rsF K s).1 a = _
  rw [rs_1]
theorem bg_6 {b : Nat} (h : b ≠ 0) : (bgF J n K s).1 6 b = s.1 6 b := by
  unfold bgF
  rw [ov_6 h]
  show adN J n (rsF K s).1 6 b = s.1 6 b
  rw [ad_o (by decide) (by decide) (by decide), rs_1]
theorem bg_no {j : Nat} (hj : j < n) : ¬ comP J (bgF J n K s).1 ((bgF J n K s).1 6 6) j := by
  rw [bg_6 (by decide)]
  rintro ⟨h1, h2, h3⟩
  rw [bg_ad (by decide), ad_5] at h1
  rw [bg_o (by decide) (by decide) (by decide) (by decide)] at h3
  by_cases c : comP J s.1 (s.1 6 6) j
  · rw [if_pos ⟨hj, c⟩] at h1; exact h1 rfl
  · rw [if_neg (fun z => c z.2)] at h1
    exact c ⟨h1, h2, h3⟩
theorem vS_bg (hD : okD J n) (h : vS J n K s) : vS J n K (bgF J n K s) ∧ ((bgF J n K s).1 6 0 ≠ -1 → 1 ≤ (bgF J n K s).1 6 2) := vS_ov (vS_ad hD (vS_rs h))
theorem bg_60 : (bgF J n K s).1 6 0 = -1 ∨ (bgF J n K s).1 6 0 = s.1 6 0 := by
  have e : (adF J n K (rsF K s)).1 6 0 = s.1 6 0 := by
    show adN J n (rsF K s).1 6 0 = s.1 6 0
    rw [ad_o (by decide) (by decide) (by decide), rs_1]
  unfold bgF ovF
  split
  · exact Or.inl (mup_eq (adF J n K (rsF K s)).1 6 0 (-1))
  · exact Or.inr e
theorem vY_bg (h : vY K s.1) : vY K (bgF J n K s).1 := by
  intro a b
  rw [bg_6 (by decide)]
  rcases bg_60 (J := J) (n := n) (K := K) (s := s) with e | e
  · exact absurd e b
  · rw [e] at b; exact h a b
theorem tn_1 (h : K 0 = 3 ∨ K 0 = 6 ∨ K 0 = 8) {lv : Int} {j : Nat} : tnF J K σ lv j = 1 := by
  unfold tnF
  rw [if_neg (by omega), if_neg (by omega), if_pos h]
theorem vY_ch (h : vY K s.1) : vY K (chF J n K s).1 := by
  intro a b
  unfold chF at b ⊢
  by_cases c : s.1 6 0 ≠ -1
  · rw [if_pos c] at b ⊢; exact h a b
  · rw [if_neg c] at b ⊢
    rw [if_neg (by omega)] at b ⊢
    by_cases d : pkF J n K s.1 = -1
    · rw [if_pos d] at b ⊢; exact h a b
    · rw [if_neg d]
      show tkN J K (seN K s.1) 0 (pkF J n K s.1).toNat 6 2 ≤ 1
      rw [tk_62, tn_1 a]; exact Int.le_refl _
theorem ps_66 : (psF J n K s).1 6 6 = s.1 6 6 + 1 := by
  show psN J n K s.1 6 6 = _
  unfold psN
  split
  · simp [mup]
  · split
    · simp [mup]
    · rw [wk_66, ke_o (by decide)]
theorem ps_60 : (psF J n K s).1 6 0 = s.1 6 0 ∨ (psF J n K s).1 6 0 = -1 := by
  show psN J n K s.1 6 0 = _ ∨ psN J n K s.1 6 0 = _
  unfold psN
  split
  · simp [mup]
  · split
    · have : keN J n K s.1 6 = s.1 6 := ke_o (by decide)
      simp [mup, this]
    · rw [wk_60, ke_o (a := 6) (by decide)]
      split
      · exact Or.inr rfl
      · exact Or.inl rfl
theorem ps_62 : (psF J n K s).1 6 2 ≤ s.1 6 2 := by
  show psN J n K s.1 6 2 ≤ _
  unfold psN
  split
  · simp [mup]
  · split
    · have : keN J n K s.1 6 = s.1 6 := ke_o (by decide)
      simp [mup, this]
    · rw [wk_62, ke_o (a := 6) (by decide)]; omega
theorem vY_ps (h : vY K s.1) : vY K (psF J n K s).1 := by
  intro a b
  have h2 := ps_62 (J := J) (n := n) (K := K) (s := s)
  rcases ps_60 (J := J) (n := n) (K := K) (s := s) with e | e
  · rw [e] at b; have := h a b; omega
  · exact absurd e b
theorem st_66 : (stF J n K s).1 6 6 = s.1 6 6 + 1 := by
  unfold stF
  rw [ps_66, ch_66, bg_6 (by decide)]
theorem vS_st (hD : okD J n) (hK : okK K) (h : vS J n K s) (hy : vY K s.1) (ho : ¬ ovr n s.1) : vS J n K (stF J n K s) ∧ vY K (stF J n K s).1 := by
  have hb := vS_bg (K := K) hD h
  have hc := vS_ch hD hK hb.1 hb.2
  have hyc : vY K (chF J n K (bgF J n K s)).1 := vY_ch (vY_bg hy)
  refine ⟨vS_ps hD hK hc.1 hc.2.1 (fun z => ?_) (fun z8 z => ?_), vY_ps hyc⟩
  · rw [ch_66]
    refine late_busy hD hb.1.1 (fun j hj => bg_no hj) (hc.2.2 z) (fun q => ho ?_)
    intro j hj
    have := q j hj
    rw [bg_o (by decide) (by decide) (by decide) (by decide)] at this
    exact this
  · have h1 := hc.2.1 z
    have h2 := hyc (Or.inr (Or.inr z8)) z
    omega
theorem ps_2r : (psF J n K s).1 2 = s.1 2 := by
  show psN J n K s.1 2 = _
  unfold psN
  split
  · funext b; simp [mup]
  · split
    · have : keN J n K s.1 2 = s.1 2 := ke_o (by decide)
      funext b; simp [mup, this]
    · rw [wk_2, ke_o (by decide)]
theorem ps_5r : (psF J n K s).1 5 = s.1 5 := by
  show psN J n K s.1 5 = _
  unfold psN
  split
  · funext b; simp [mup]
  · split
    · have : keN J n K s.1 5 = s.1 5 := ke_o (by decide)
      funext b; simp [mup, this]
    · rw [wk_5, ke_o (by decide)]
theorem vR_st (hD : okD J n) (hK : okK K) (h : vS J n K s) : vR n (stF J n K s).1 := by
  intro j hj h5
  have hb := vS_bg (K := K) hD h
  have hc := vS_ch hD hK hb.1 hb.2
  rw [st_66]
  unfold stF
  rw [ps_2r, ch_o (by decide)]
  have := (hb.1.1.2 j hj).2.2.2.2.2.1.2
  rw [bg_6 (b := 6) (by decide)] at this
  omega
theorem vS_in (hD : okD J n) {z : Int} : vS J n K (inS J z) := by
  have e0 : inN J z 0 = J 1 := by funext b; simp [inN]
  have eo : ∀ a, a ≠ 0 → a ≠ 6 → ∀ b, inN J z a b = 0 := fun a h1 h2 b => by simp [inN, h1, h2]
  have e66 : inN J z 6 6 = 0 := by simp [inN]
  have e60 : inN J z 6 0 = -1 := by simp [inN]
  have e61 : inN J z 6 1 = -1 := by simp [inN]
  refine ⟨⟨?_, fun j hj => ?_⟩, fun j hj => ?_, fun t ht => ?_, ?_, ⟨fun hk => ⟨List.nodup_nil, fun j => ?_⟩, fun _ => ⟨rfl, rfl⟩, fun _ => ⟨rfl, rfl, rfl⟩⟩, ?_, fun h8 => ⟨fun i j hi hj _ _ => ?_, fun q => absurd e60 q⟩⟩
  · show 0 ≤ inN J z 6 6; rw [e66]; exact Int.le_refl _
  · have h1 := okD_l hD hj
    show vBj J (inN J z) j
    unfold vBj
    rw [e0, e66, eo 5 (by decide) (by decide), eo 1 (by decide) (by decide), eo 2 (by decide) (by decide), eo 3 (by decide) (by decide), eo 4 (by decide) (by decide)]
    omega
  · show vWj J (inN J z) j
    unfold vWj
    rw [eo 5 (by decide) (by decide)]
    intro q; exact absurd q (by decide)
  · have ht : (t : Int) < inN J z 6 6 := ht
    rw [e66] at ht; omega
  · show vA n (inN J z)
    unfold vA
    rw [e60, e61]
    exact ⟨by omega, by omega, fun q => absurd rfl q⟩
  · show j ∈ ([] : List Nat) ++ ([] ++ []) ↔ (j < n ∧ rdy (inN J z) j ∧ (j : Int) ≠ inN J z 6 0)
    unfold rdy
    rw [eo 5 (by decide) (by decide)]
    exact ⟨fun q => absurd q List.not_mem_nil, fun q => absurd q.2.1.1 (by decide)⟩
  · show vT J n (inN J z)
    unfold vT
    have : dnF J (inN J z) n = 0 := by
      unfold dnF
      rw [smF_cong (g := fun _ => 0) (fun j _ => by rw [e0]; omega), smF_0]
    rw [this, e66]
    exact Or.inl (by omega)
  · show hdF J (inN J z) i = -1
    rcases hdF_is (σ := inN J z) hD hi with ⟨q, -⟩ | ⟨x, q1, q2, -⟩
    · exact q
    · have := okD_s hD hi q1
      rw [e0] at q2
      omega
theorem vY_in {z : Int} : vY K (inS J z).1 := fun _ q => absurd (by simp [inS, inN]) q
theorem vR_in {z : Int} : vR n (inS J z).1 := fun j _ q => absurd q (by simp [inS, inN])
theorem dn_le (hD : okD J n) (hB : vB J n σ) : dnF J σ n ≤ 360 := by
  have h1 : dnF J σ n ≤ smF (fun _ => 30) n := smF_le (fun j hj => by have := (hB.2 j hj).2.1; have := okD_l hD hj; omega)
  have h2 := hD.1
  rw [smF_const] at h1
  omega
theorem t_le (hD : okD J n) (h : vS J n K s) : s.1 6 6 ≤ 2264 := by
  have h1 := dn_le hD h.1
  have h2 := h.2.2.2.2.2.1
  have h3 := h.2.2.2.1.2.2
  unfold vT at h2
  rcases h2 with q | q
  · omega
  · have := (h3 q.1).2.2.1; omega
theorem ru_is (hD : okD J n) (hK : okK K) : ∀ (d : Nat) (s : St), vS J n K s → vY K s.1 → vR n s.1 → vS J n K (ruF J n K d s) ∧ vY K (ruF J n K d s).1 ∧ vR n (ruF J n K d s).1 ∧ (ovr n (ruF J n K d s).1 ∨ (ruF J n K d s).1 6 6 = s.1 6 6 + d) := by
  intro d
  induction d with
  | zero => intro s h hy hr; exact ⟨h, hy, hr, Or.inr (by simp [ruF])⟩
  | succ d ih =>
    intro s h hy hr
    unfold ruF
    by_cases c : ovr n s.1
    · rw [if_pos c]; exact ⟨h, hy, hr, Or.inl c⟩
    · rw [if_neg c]
      have h1 := vS_st hD hK h hy c
      have h2 := ih (stF J n K s) h1.1 h1.2 (vR_st hD hK h)
      refine ⟨h2.1, h2.2.1, h2.2.2.1, ?_⟩
      rcases h2.2.2.2 with q | q
      · exact Or.inl q
      · rw [st_66] at q; exact Or.inr (by omega)
theorem fn_is (hD : okD J n) (hK : okK K) {z : Int} : vS J n K (fnF J n K z) ∧ ovr n (fnF J n K z).1 := by
  have h := ru_is hD hK 2304 (inS J z) (vS_in hD) vY_in vR_in
  refine ⟨h.1, ?_⟩
  rcases h.2.2.2 with q | q
  · exact q
  · have h1 := t_le hD h.1
    have h2 : (inS J z).1 6 6 = 0 := by simp [inS, inN]
    unfold fnF
    omega
end
