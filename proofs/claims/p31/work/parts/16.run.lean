/-! ===== a step, a run ===== -/
section
variable {J : Mm} {n : Nat} {σ σ' : Mm} {K : Nat → Int} {s : St}
theorem share_b {w : Int} (h : 1 ≤ w ∧ w ≤ 9) : 0 ≤ 2520 / w ∧ 2520 / w ≤ 2520 := ⟨Int.ediv_nonneg (by omega) (by omega), Int.ediv_le_self _ (by omega)⟩
theorem vX_wk (hD : okD J n) (hA : vA n σ) (hX : vX J n K σ) (c1 : 1 ≤ σ 6 2) (c0 : σ 6 0 ≠ -1) (ht : K 0 = 8 → σ 6 2 = 1) {t : Nat} : vX J n K (wkN J σ (σ 6 0).toNat t) := by
  intro h8
  have hx := hX h8
  have hc : (σ 6 0).toNat < n := by have := hA.1; omega
  have hk := hx.2 c0 c1
  have hd : ∀ j, j ≠ (σ 6 0).toNat → hdF J (wkN J σ (σ 6 0).toNat t) j = hdF J σ j := by
    intro j hj
    unfold hdF
    rw [wk_0, if_neg hj]
  have hcc : ∀ j, j < n → j ≠ (σ 6 0).toNat → hdF J (wkN J σ (σ 6 0).toNat t) (σ 6 0).toNat = hdF J σ j → hdF J σ j = -1 := by
    intro j hj hne e
    rcases hdF_is (σ := wkN J σ (σ 6 0).toNat t) hD hc with ⟨q, -⟩ | ⟨y, q1, q2, q3⟩
    · rw [← e]; exact q
    · rw [wk_0, if_pos rfl] at q2
      have hn := nd_of (σ := σ) hD hc q1 (by omega) (by omega)
      rcases kpr_is (J := J) (n := n) (σ := σ) (σ 6 0).toNat with ⟨-, z⟩ | ⟨x, z1, z2, z3, z4, z5⟩
      · rcases z with z | z
        · rw [← e, q3, ← hn]; exact z
        · exact absurd (by rw [hn, ← q3]; exact e.symm) (z j hj hne)
      · omega
  refine ⟨fun i j hi hj hij e => ?_, fun z1 z2 => ?_⟩
  · by_cases ei : i = (σ 6 0).toNat
    · have := hcc j hj (by omega) (by rw [ei] at e; rw [e]; exact hd j (by omega))
      rw [e, hd j (by omega)]; exact this
    · by_cases ej : j = (σ 6 0).toNat
      · have := hcc i hi ei (by rw [ej] at e; rw [← e]; exact hd i ei)
        rw [hd i ei]; exact this
      · rw [hd i ei]
        exact hx.1 i j hi hj hij (by rw [← hd i ei, ← hd j ej]; exact e)
  · rw [wk_62, ht h8] at z2
    omega
theorem vS_wk (hD : okD J n) (h : vS J n K s) (c0 : s.1 6 0 ≠ -1) (c1 : 1 ≤ s.1 6 2) (c3 : s.1 6 3 = 0) (ht : K 0 = 8 → s.1 6 2 = 1) : vS J n K (wkN J (keN J n K s.1) (s.1 6 0).toNat (s.1 6 6).toNat, s.2) := by
  obtain ⟨hB, hW, hL, hA, hQ, hT, hX⟩ := h
  obtain ⟨σ, Q⟩ := s
  have hB : vB J n σ := hB
  have hW : vW J n σ := hW
  have hL : vL n σ := hL
  have hA : vA n σ := hA
  have hT : vT J n σ := hT
  have hX : vX J n K σ := hX
  have c1 : 1 ≤ σ 6 2 := c1
  have c3 : σ 6 3 = 0 := c3
  have c0 : σ 6 0 ≠ -1 := c0
  have ht : K 0 = 8 → σ 6 2 = 1 := ht
  have hA3 := hA.2.2 c0
  have hc : (σ 6 0).toNat < n := by have := hA.1; show (σ 6 0).toNat < n; omega
  have hcc : (((σ 6 0).toNat : Nat) : Int) = σ 6 0 := by have := hA.1; show (((σ 6 0).toNat : Nat) : Int) = σ 6 0; omega
  have hw := okD_w hD hc
  have hs := share_b hw
  have k0 : keN J n K σ 0 = σ 0 := ke_o (by decide)
  have k1 : keN J n K σ 1 = σ 1 := ke_o (by decide)
  have k2 : keN J n K σ 2 = σ 2 := ke_o (by decide)
  have k3 : keN J n K σ 3 = σ 3 := ke_o (by decide)
  have k5 : keN J n K σ 5 = σ 5 := ke_o (by decide)
  have k6 : keN J n K σ 6 = σ 6 := ke_o (by decide)
  have k7 : keN J n K σ 7 = σ 7 := ke_o (by decide)
  have k4 : ∀ b, keN J n K σ 4 b = σ 4 b ∨ keN J n K σ 4 b = σ 4 b + 1 := fun b => ke_4 b
  have h0 : 0 ≤ σ 6 6 := hB.1
  have hr : rdy σ (σ 6 0).toNat := hA3.1
  generalize hk : keN J n K σ = κ at k0 k1 k2 k3 k4 k5 k6 k7
  have hXk : vX J n K κ := vX_c k0 (by rw [k6]) (by rw [k6]; exact id) hX
  have hAk : vA n κ := by unfold vA rdy; rw [k6, k0, k5]; exact hA
  refine ⟨⟨?_, fun j hj => ?_⟩, fun j hj => ?_, ?_, ?_, ?_, ?_, ?_⟩
  · show 0 ≤ wkN J κ (σ 6 0).toNat _ 6 6
    rw [wk_66, k6]; omega
  · have h1 := hB.2 j hj
    have h4 := k4 j
    have h6 := okD_c hD hj
    have h7 := hW j hj
    show vBj J (wkN J κ (σ 6 0).toNat _) j
    unfold vBj
    rw [wk_0, wk_1, wk_2, wk_3, wk_4, wk_5, wk_66, k0, k1, k2, k3, k5, k6]
    by_cases e : j = (σ 6 0).toNat
    · rw [← e] at hr ⊢
      have h8 := h7 hr.1
      rw [if_pos rfl, if_pos rfl]
      have := hr.1
      have := hr.2
      refine ⟨h1.1, by omega, fun z => by omega, fun z => ?_, fun z => ?_, by omega, by rw [← e] at hs; omega, by omega⟩
      · rw [if_neg (by omega)]; exact h1.2.2.2.1 (by omega)
      · rw [if_pos ⟨by omega, rfl⟩]; omega
    · rw [if_neg e, if_neg e, if_neg (fun z => e z.2)]
      exact ⟨h1.1, h1.2.1, h1.2.2.1, h1.2.2.2.1, fun z => by have := h1.2.2.2.2.1 z; omega, by omega, by omega, by omega⟩
  · have h1 := hW j hj
    show vWj J (wkN J κ (σ 6 0).toNat _) j
    unfold vWj
    rw [wk_5, wk_66, k5, k6]
    intro z
    have h2 := h1 z
    refine ⟨by have := h2.1; omega, fun k hk hb => ?_⟩
    have h3 := h2.2 k hk hb
    rw [wk_0, k0]
    split
    · rename_i e; subst e; omega
    · exact h3
  · show vL n (wkN J κ (σ 6 0).toNat _)
    intro t ht
    have hl := hL t
    rw [wk_66, k6] at ht
    rw [wk_7, k7]
    split
    · have := hA.1; omega
    · rename_i e
      have e : ¬ t = (σ 6 6).toNat := e
      exact hl (by show (t : Int) < σ 6 6; omega)
  · show vA n (wkN J κ (σ 6 0).toNat _)
    unfold vA rdy
    rw [wk_60, wk_61, wk_62, wk_63, wk_64, wk_5, k0, k5, k6]
    by_cases e : σ 0 (σ 6 0).toNat = 1
    · rw [if_pos e]
      exact ⟨by omega, by omega, fun z => absurd rfl z⟩
    · rw [if_neg e, wk_0, if_pos rfl, k0]
      have := hr.2
      exact ⟨hA.1, by omega, fun z => ⟨⟨hr.1, by omega⟩, by omega, by omega, fun _ => c3, hA3.2.2.2.2⟩⟩
  · refine ⟨fun q => ?_, hQ.2.1, hQ.2.2⟩
    have hq := hQ.1 q
    refine ⟨hq.1, fun j => ?_⟩
    show j ∈ Q.1 ++ (Q.2.1 ++ Q.2.2) ↔ (j < n ∧ rdy (wkN J κ (σ 6 0).toNat _) j ∧ (j : Int) ≠ wkN J κ (σ 6 0).toNat _ 6 0)
    rw [hq.2 j]
    unfold rdy
    rw [wk_0, wk_5, wk_60, k0, k5, k6]
    have hr2 := hr.2
    by_cases e : j = (σ 6 0).toNat
    · rw [if_pos e, e]
      constructor
      · rintro ⟨q1, q2, q3⟩; exact absurd hcc q3
      · rintro ⟨q1, q2, q3⟩
        split at q3
        · omega
        · exact absurd hcc q3
    · rw [if_neg e]
      constructor
      · rintro ⟨q1, q2, q3⟩
        exact ⟨q1, q2, by split <;> omega⟩
      · rintro ⟨q1, q2, q3⟩
        exact ⟨q1, q2, fun z => e (by have z : (j : Int) = σ 6 0 := z; omega)⟩
  · show vT J n (wkN J κ (σ 6 0).toNat _)
    unfold vT
    rw [dn_wk hc, wk_66, k6]
    have e : dnF J κ n = dnF J σ n := by unfold dnF; rw [k0]
    rw [e]
    left
    rcases hT with q | q
    · have q : σ 6 6 + 5 ≤ 104 + 6 * dnF J σ n := q
      omega
    · have q : σ 6 6 + σ 6 3 ≤ 104 + 6 * dnF J σ n := q.2.2
      omega
  · have := vX_wk (t := (σ 6 6).toNat) hD hAk hXk (by rw [k6]; exact c1) (by rw [k6]; exact c0) (by rw [k6]; exact ht)
    rw [k6] at this
    exact this
theorem ps_2 : (psF J n K s).2 = s.2 := rfl
/-- a step that isn't one of work: the moment goes on -/
theorem vS_no (h : vS J n K s) (h0 : σ' 0 = s.1 0) (h1 : σ' 1 = s.1 1) (h2 : σ' 2 = s.1 2) (h3 : σ' 3 = s.1 3) (h4 : ∀ b, σ' 4 b = s.1 4 b ∨ σ' 4 b = s.1 4 b + 1) (h5 : σ' 5 = s.1 5)
    (h60 : σ' 6 0 = s.1 6 0) (h61 : σ' 6 1 = s.1 6 1) (h62 : σ' 6 2 = s.1 6 2) (h63 : s.1 6 0 ≠ -1 → (0 ≤ σ' 6 3 ∧ σ' 6 3 ≤ 5) ∧ 1 ≤ s.1 6 2) (h64 : σ' 6 4 = s.1 6 4) (h66 : σ' 6 6 = s.1 6 6 + 1)
    (h7 : ∀ t : Nat, (t : Int) < s.1 6 6 → σ' 7 t = s.1 7 t) (h7' : -2 ≤ σ' 7 (s.1 6 6).toNat ∧ σ' 7 (s.1 6 6).toNat < n) (hT : vT J n σ') : vS J n K (σ', s.2) := by
  obtain ⟨hB, hW, hL, hA, hQ, -, hX⟩ := h
  have hp := hB.1
  refine ⟨⟨by show 0 ≤ σ' 6 6; omega, fun j hj => ?_⟩, fun j hj => ?_, fun t ht => ?_, ?_, ⟨fun q => ?_, hQ.2.1, hQ.2.2⟩, hT, vX_c h0 h60 (by show 1 ≤ σ' 6 2 → 1 ≤ s.1 6 2; rw [h62]; exact id) hX⟩
  · have a1 := hB.2 j hj
    have a4 := h4 j
    show vBj J σ' j
    unfold vBj
    rw [h0, h1, h2, h3, h5, h66]
    exact ⟨a1.1, a1.2.1, a1.2.2.1, a1.2.2.2.1, fun z => by have := a1.2.2.2.2.1 z; omega, by omega, by omega, by omega⟩
  · have a1 := hW j hj
    show vWj J σ' j
    unfold vWj
    rw [h0, h5, h66]
    exact fun z => ⟨by have := (a1 z).1; omega, (a1 z).2⟩
  · have ht : (t : Int) < σ' 6 6 := ht
    show -2 ≤ σ' 7 t ∧ σ' 7 t < n
    by_cases e : t = (s.1 6 6).toNat
    · rw [e]; exact h7'
    · rw [h7 t (by omega)]; exact hL t (by omega)
  · show vA n σ'
    unfold vA rdy
    rw [h60, h61, h62, h64, h0, h5]
    exact ⟨hA.1, hA.2.1, fun z => ⟨(hA.2.2 z).1, (hA.2.2 z).2.1, (h63 z).1, fun y => by have := (h63 z).2; omega, (hA.2.2 z).2.2.2.2⟩⟩
  · have hq := hQ.1 q
    refine ⟨hq.1, fun j => ?_⟩
    show j ∈ s.2.1 ++ (s.2.2.1 ++ s.2.2.2) ↔ (j < n ∧ rdy σ' j ∧ (j : Int) ≠ σ' 6 0)
    unfold rdy
    rw [h60, h0, h5]
    exact hq.2 j
theorem vS_ps (hD : okD J n) (hK : okK K) (h : vS J n K s) (h1 : s.1 6 0 ≠ -1 → 1 ≤ s.1 6 2) (h2 : s.1 6 0 = -1 → s.1 6 6 < 99) (h8 : K 0 = 8 → s.1 6 0 ≠ -1 → s.1 6 2 = 1) : vS J n K (psF J n K s) := by
  have hp := h.1.1
  have hA := h.2.2.2.1
  have hT := h.2.2.2.2.2.1
  have hN : 0 ≤ dnF J s.1 n := smF_nn (fun j hj => by have := (h.1.2 j hj).2.1; omega)
  unfold psF psN
  by_cases c : s.1 6 0 = -1
  · rw [if_pos c]
    refine vS_no h ?_ ?_ ?_ ?_ (fun b => Or.inl ?_) ?_ ?_ ?_ ?_ (fun z => absurd c z) ?_ ?_ (fun t ht => ?_) ?_ (Or.inl ?_)
    · funext b; simp [mup]
    · funext b; simp [mup]
    · funext b; simp [mup]
    · funext b; simp [mup]
    · simp [mup]
    · funext b; simp [mup]
    · simp [mup]
    · simp [mup]
    · simp [mup]
    · simp [mup]
    · simp [mup]
    · simp only [mup]; rw [if_neg (by omega), if_neg (by omega)]
    · simp [mup] <;> omega
    · have e : dnF J (mup (mup s.1 7 (s.1 6 6).toNat (-1)) 6 6 (s.1 6 6 + 1)) n = dnF J s.1 n := by
        unfold dnF
        exact smF_cong (fun j _ => by simp [mup])
      rw [e]
      have := h2 c
      have e6 : (mup (mup s.1 7 (s.1 6 6).toNat (-1)) 6 6 (s.1 6 6 + 1)) 6 6 = s.1 6 6 + 1 := by simp [mup]
      rw [e6]
      omega
  · rw [if_neg c]
    have c1 := h1 c
    have hA3 := hA.2.2 c
    by_cases d : 0 < s.1 6 3
    · rw [if_pos d]
      have k0 : keN J n K s.1 0 = s.1 0 := ke_o (by decide)
      have k1 : keN J n K s.1 1 = s.1 1 := ke_o (by decide)
      have k2 : keN J n K s.1 2 = s.1 2 := ke_o (by decide)
      have k3 : keN J n K s.1 3 = s.1 3 := ke_o (by decide)
      have k5 : keN J n K s.1 5 = s.1 5 := ke_o (by decide)
      have k6 : keN J n K s.1 6 = s.1 6 := ke_o (by decide)
      have k7 : keN J n K s.1 7 = s.1 7 := ke_o (by decide)
      have k4 : ∀ b, keN J n K s.1 4 b = s.1 4 b ∨ keN J n K s.1 4 b = s.1 4 b + 1 := fun b => ke_4 b
      generalize hk : keN J n K s.1 = κ at k0 k1 k2 k3 k4 k5 k6 k7
      refine vS_no h ?_ ?_ ?_ ?_ (fun b => ?_) ?_ ?_ ?_ ?_ (fun z => ⟨?_, c1⟩) ?_ ?_ (fun t ht => ?_) ?_ ?_
      · rw [← k0]; funext b; simp [mup]
      · rw [← k1]; funext b; simp [mup]
      · rw [← k2]; funext b; simp [mup]
      · rw [← k3]; funext b; simp [mup]
      · simp [mup]; exact k4 b
      · rw [← k5]; funext b; simp [mup]
      · rw [← k6]; simp [mup]
      · rw [← k6]; simp [mup]
      · rw [← k6]; simp [mup]
      · simp [mup]; omega
      · rw [← k6]; simp [mup]
      · simp [mup]
      · rw [← k7]; simp only [mup]; rw [if_neg (by omega), if_neg (by omega), if_neg (by omega)]
      · simp [mup] <;> omega
      · have e : dnF J (mup (mup (mup κ 6 3 (s.1 6 3 - 1)) 7 (s.1 6 6).toNat (-2)) 6 6 (s.1 6 6 + 1)) n = dnF J s.1 n := by
          unfold dnF
          exact smF_cong (fun j _ => by rw [← k0]; simp [mup])
        have e0 : (mup (mup (mup κ 6 3 (s.1 6 3 - 1)) 7 (s.1 6 6).toNat (-2)) 6 6 (s.1 6 6 + 1)) 6 0 = s.1 6 0 := by rw [← k6]; simp [mup]
        have e2 : (mup (mup (mup κ 6 3 (s.1 6 3 - 1)) 7 (s.1 6 6).toNat (-2)) 6 6 (s.1 6 6 + 1)) 6 2 = s.1 6 2 := by rw [← k6]; simp [mup]
        have e3 : (mup (mup (mup κ 6 3 (s.1 6 3 - 1)) 7 (s.1 6 6).toNat (-2)) 6 6 (s.1 6 6 + 1)) 6 3 = s.1 6 3 - 1 := by simp [mup]
        have e6 : (mup (mup (mup κ 6 3 (s.1 6 3 - 1)) 7 (s.1 6 6).toNat (-2)) 6 6 (s.1 6 6 + 1)) 6 6 = s.1 6 6 + 1 := by simp [mup]
        unfold vT
        rw [e, e0, e2, e3, e6]
        refine Or.inr ⟨c, c1, ?_⟩
        rcases hT with q | q <;> omega
    · rw [if_neg d]
      exact vS_wk hD h c c1 (by omega) (fun z => h8 z c)
end
