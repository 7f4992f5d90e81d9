/-! ===== choosing, working ===== -/
section
variable {J : Mm} {n : Nat} {σ σ' : Mm} {K : Nat → Int} {s : St}
theorem tk_o {a : Nat} {lv : Int} {j : Nat} (h : a ≠ 6) : tkN J K σ lv j a = σ a := by
  funext b
  simp only [tkN, mup, h, false_and, if_false]
theorem tk_60 {lv : Int} {j : Nat} : tkN J K σ lv j 6 0 = (j : Int) := by simp [tkN, mup]
theorem tk_61 {lv : Int} {j : Nat} : tkN J K σ lv j 6 1 = σ 6 1 := by simp [tkN, mup]
theorem tk_62 {lv : Int} {j : Nat} : tkN J K σ lv j 6 2 = tnF J K σ lv j := by simp [tkN, mup]
theorem tk_63 {lv : Int} {j : Nat} : tkN J K σ lv j 6 3 = if σ 6 1 = -1 ∨ σ 6 1 = (j : Int) then 0 else K 2 := by simp [tkN, mup]
theorem tk_64 {lv : Int} {j : Nat} : tkN J K σ lv j 6 4 = lv := by simp [tkN, mup]
theorem tk_65 {lv : Int} {j : Nat} : tkN J K σ lv j 6 5 = σ 6 5 := by simp [tkN, mup]
theorem tk_66 {lv : Int} {j : Nat} : tkN J K σ lv j 6 6 = σ 6 6 := by simp [tkN, mup]
theorem se_o {a : Nat} (h : a ≠ 6) : seN K σ a = σ a := by
  funext b
  unfold seN
  split
  · exact mup_nk h
  · rfl
theorem se_6 {b : Nat} (h : b ≠ 5) : seN K σ 6 b = σ 6 b := by
  unfold seN
  split
  · exact mup_ne (fun z => h z.2)
  · rfl
theorem tn_b (hD : okD J n) (hK : okK K) (hB : vB J n σ) {j : Nat} (hj : j < n) (hr : rdy σ j) (lv : Int) : 1 ≤ tnF J K σ lv j ∧ tnF J K σ lv j ≤ 80 := by
  have h1 := hB.2 j hj
  have h2 := okD_l hD hj
  have h3 := hr.2
  have h4 := hK.2.1
  unfold tnF
  split
  · omega
  · split
    · split
      · omega
      · split <;> omega
    · split <;> omega
theorem vX_c (h0 : σ' 0 = σ 0) (h60 : σ' 6 0 = σ 6 0) (h62 : 1 ≤ σ' 6 2 → 1 ≤ σ 6 2) (h : vX J n K σ) : vX J n K σ' := by
  intro h8
  rw [hdF_c h0, h60, kpr_c h0]
  exact ⟨(h h8).1, fun a b => (h h8).2 a (h62 b)⟩
theorem vN_tk (hD : okD J n) (hK : okK K) (hB : vB J n σ) (hW : vW J n σ) (hL : vL n σ) (hA : vA n σ) (hT : vT J n σ) (hX : vX J n K σ) (h60 : σ 6 0 = -1) {j : Nat} (hj : j < n) (hr : rdy σ j) (h8 : K 0 = 8 → kpr J n σ j = -1) {lv : Int} (hl : 0 ≤ lv ∧ lv ≤ 2) :
    vB J n (tkN J K σ lv j) ∧ vW J n (tkN J K σ lv j) ∧ vL n (tkN J K σ lv j) ∧ vA n (tkN J K σ lv j) ∧ vT J n (tkN J K σ lv j) ∧ vX J n K (tkN J K σ lv j) := by
  have ht := tn_b hD hK hB hj hr lv
  refine ⟨?_, ?_, ?_, ?_, ?_, ?_⟩
  · unfold vB vBj
    rw [tk_66, tk_o (a := 0) (by decide), tk_o (a := 1) (by decide), tk_o (a := 2) (by decide), tk_o (a := 3) (by decide), tk_o (a := 4) (by decide), tk_o (a := 5) (by decide)]
    exact hB
  · unfold vW vWj
    rw [tk_66, tk_o (a := 0) (by decide), tk_o (a := 5) (by decide)]
    exact hW
  · unfold vL
    rw [tk_66, tk_o (a := 7) (by decide)]
    exact hL
  · unfold vA rdy
    rw [tk_60, tk_61, tk_62, tk_63, tk_64, tk_o (a := 0) (by decide), tk_o (a := 5) (by decide)]
    have := hK.2.2.1
    exact ⟨by omega, hA.2.1, fun _ => ⟨hr, by omega, by split <;> omega, fun z => by omega, hl⟩⟩
  · unfold vT dnF
    rw [tk_66, tk_o (a := 0) (by decide)]
    rcases hT with q | q
    · exact Or.inl q
    · exact absurd h60 q.1
  · intro q8
    rw [hdF_c (tk_o (by decide)), tk_60, kpr_c (tk_o (by decide))]
    exact ⟨(hX q8).1, fun _ _ => h8 q8⟩
theorem ch_o {a : Nat} (h : a ≠ 6) : (chF J n K s).1 a = s.1 a := by
  unfold chF
  split
  · rfl
  · split
    · obtain ⟨σ, a0, a1, a2⟩ := s
      rcases a0 with _ | ⟨j, a0⟩
      · rcases a1 with _ | ⟨j, a1⟩
        · rcases a2 with _ | ⟨j, a2⟩
          · rfl
          · exact tk_o h
        · exact tk_o h
      · exact tk_o h
    · split
      · rfl
      · show tkN J K (seN K s.1) 0 _ a = s.1 a
        rw [tk_o h, se_o h]
theorem ch_66 : (chF J n K s).1 6 6 = s.1 6 6 := by
  unfold chF
  split
  · rfl
  · split
    · obtain ⟨σ, a0, a1, a2⟩ := s
      rcases a0 with _ | ⟨j, a0⟩
      · rcases a1 with _ | ⟨j, a1⟩
        · rcases a2 with _ | ⟨j, a2⟩
          · rfl
          · exact tk_66 (J := J) (K := K) (σ := σ) (lv := 2) (j := j)
        · exact tk_66 (J := J) (K := K) (σ := σ) (lv := 1) (j := j)
      · exact tk_66 (J := J) (K := K) (σ := σ) (lv := 0) (j := j)
    · split
      · rfl
      · show tkN J K (seN K s.1) 0 (pkF J n K s.1).toNat 6 6 = s.1 6 6
        rw [tk_66, se_6 (by decide)]
theorem vS_ch (hD : okD J n) (hK : okK K) (h : vS J n K s) (h1 : s.1 6 0 ≠ -1 → 1 ≤ s.1 6 2) :
    vS J n K (chF J n K s) ∧ ((chF J n K s).1 6 0 ≠ -1 → 1 ≤ (chF J n K s).1 6 2) ∧ ((chF J n K s).1 6 0 = -1 → ∀ j, j < n → ¬ rdy s.1 j) := by
  have h' := h
  obtain ⟨hB, hW, hL, hA, hQ, hT, hX⟩ := h'
  unfold chF
  by_cases c : s.1 6 0 ≠ -1
  · rw [if_pos c]
    exact ⟨h, h1, fun z => absurd z c⟩
  · rw [if_neg c]
    have c : s.1 6 0 = -1 := by omega
    by_cases hk : K 0 = 0 ∨ K 0 = 4
    · rw [if_pos hk]
      have hq := hQ.1 hk
      have hq0 := hQ.2.1
      obtain ⟨σ, a0, a1, a2⟩ := s
      have key : ∀ (j : Nat) (lv : Int) (b0 b1 b2 : List Nat), 0 ≤ lv ∧ lv ≤ 2 → (j :: (b0 ++ (b1 ++ b2))).Perm (a0 ++ (a1 ++ a2)) → (K 0 = 0 → b1 = [] ∧ b2 = []) →
          vS J n K (tkN J K σ lv j, b0, b1, b2) ∧ ((tkN J K σ lv j) 6 0 ≠ -1 → 1 ≤ (tkN J K σ lv j) 6 2) ∧ ((tkN J K σ lv j) 6 0 = -1 → ∀ j, j < n → ¬ rdy σ j) := by
        intro j lv b0 b1 b2 hl hp hb
        have hm := (hq.2 j).mp (hp.mem_iff.mp List.mem_cons_self)
        have hn := List.nodup_cons.mp (hp.nodup_iff.mpr hq.1)
        have ht := tn_b hD hK hB hm.1 hm.2.1 lv
        have hv := vN_tk hD hK hB hW hL hA hT hX c hm.1 hm.2.1 (fun z => by omega) hl
        refine ⟨⟨hv.1, hv.2.1, hv.2.2.1, hv.2.2.2.1, ⟨fun _ => ⟨hn.2, fun i => ?_⟩, hb, fun z => absurd hk z⟩, hv.2.2.2.2.1, hv.2.2.2.2.2⟩, fun _ => by rw [tk_62]; exact ht.1, fun z => ?_⟩
        · show i ∈ b0 ++ (b1 ++ b2) ↔ (i < n ∧ rdy (tkN J K σ lv j) i ∧ (i : Int) ≠ tkN J K σ lv j 6 0)
          unfold rdy
          rw [tk_60, tk_o (a := 0) (by decide), tk_o (a := 5) (by decide)]
          have hi := hq.2 i
          rw [← hp.mem_iff, List.mem_cons] at hi
          constructor
          · intro z
            have := hi.mp (Or.inr z)
            refine ⟨this.1, this.2.1, fun e => ?_⟩
            have e : i = j := by omega
            exact hn.1 (e ▸ z)
          · rintro ⟨z1, z2, z3⟩
            rcases hi.mpr ⟨z1, z2, by show (i : Int) ≠ σ 6 0; rw [show σ 6 0 = -1 from c]; omega⟩ with e | e
            · exact absurd (by rw [e]) z3
            · exact e
        · rw [tk_60] at z; omega
      rcases a0 with _ | ⟨j, a0⟩
      · rcases a1 with _ | ⟨j, a1⟩
        · rcases a2 with _ | ⟨j, a2⟩
          · refine ⟨h, fun z => absurd c z, fun _ j hj hr => ?_⟩
            have := (hq.2 j).mpr ⟨hj, hr, by rw [c]; omega⟩
            exact absurd this List.not_mem_nil
          · exact key j 2 [] [] a2 (by omega) (List.Perm.refl _) (fun z => absurd (hq0 z).2 (List.cons_ne_nil _ _))
        · exact key j 1 [] a1 a2 (by omega) (List.Perm.refl _) (fun z => absurd (hq0 z).1 (List.cons_ne_nil _ _))
      · exact key j 0 a0 a1 a2 (by omega) (List.Perm.refl _) hq0
    · rw [if_neg hk]
      rcases pkF_is (K := K) (σ := s.1) hD with ⟨e1, e2⟩ | ⟨j, e1, e2, e3⟩
      · rw [if_pos e1]
        refine ⟨h, fun z => absurd c z, fun _ j hj hr => ?_⟩
        obtain ⟨i, i1, i2⟩ := okR_ex hD hB hX hj hr
        exact e2 i i1 i2
      · rw [if_neg (by omega)]
        have ej : (pkF J n K s.1).toNat = j := by rw [e2]; rfl
        rw [ej]
        have s0 : ∀ a, a ≠ 6 → seN K s.1 a = s.1 a := fun a ha => se_o ha
        have s6 : ∀ b, b ≠ 5 → seN K s.1 6 b = s.1 6 b := fun b hb => se_6 hb
        have hB' : vB J n (seN K s.1) := by
          unfold vB vBj
          rw [s6 6 (by decide), s0 0 (by decide), s0 1 (by decide), s0 2 (by decide), s0 3 (by decide), s0 4 (by decide), s0 5 (by decide)]; exact hB
        have hW' : vW J n (seN K s.1) := by
          unfold vW vWj
          rw [s6 6 (by decide), s0 0 (by decide), s0 5 (by decide)]; exact hW
        have hL' : vL n (seN K s.1) := by
          unfold vL
          rw [s6 6 (by decide), s0 7 (by decide)]; exact hL
        have hA' : vA n (seN K s.1) := by
          unfold vA rdy
          rw [s6 0 (by decide), s6 1 (by decide), s6 2 (by decide), s6 3 (by decide), s6 4 (by decide), s0 0 (by decide), s0 5 (by decide)]; exact hA
        have hT' : vT J n (seN K s.1) := by
          unfold vT dnF
          rw [s6 6 (by decide), s6 0 (by decide), s6 2 (by decide), s6 3 (by decide), s0 0 (by decide)]; exact hT
        have hX' : vX J n K (seN K s.1) := vX_c (s0 0 (by decide)) (s6 0 (by decide)) (by rw [s6 2 (by decide)]; exact id) hX
        have hr' : rdy (seN K s.1) j := by unfold rdy; rw [s0 0 (by decide), s0 5 (by decide)]; exact e3.1
        have hv := vN_tk hD hK hB' hW' hL' hA' hT' hX' (by rw [s6 0 (by decide)]; exact c) e1 hr' (fun z => by rw [kpr_c (s0 0 (by decide))]; exact e3.2 z) (lv := 0) (by omega)
        have ht := tn_b hD hK hB' e1 hr' 0
        refine ⟨⟨hv.1, hv.2.1, hv.2.2.1, hv.2.2.2.1, ⟨fun z => absurd z hk, fun z => absurd (Or.inl z) hk, hQ.2.2⟩, hv.2.2.2.2.1, hv.2.2.2.2.2⟩, fun _ => by show 1 ≤ tkN J K (seN K s.1) 0 j 6 2; rw [tk_62]; exact ht.1, fun z => ?_⟩
        have z : tkN J K (seN K s.1) 0 j 6 0 = -1 := z
        rw [tk_60] at z; omega
/-! working -/
theorem ke_o {a : Nat} (h : a ≠ 4) : keN J n K σ a = σ a := by
  funext b
  unfold keN kpN
  split
  · exact if_neg (fun z => h z.1)
  · rfl
theorem ke_4 (b : Nat) : keN J n K σ 4 b = σ 4 b ∨ keN J n K σ 4 b = σ 4 b + 1 := by
  unfold keN kpN
  split
  · by_cases c : (4 = 4 ∧ b < n ∧ rdy σ b ∧ kpr J n σ b ≠ -1 ∧ J 3 (σ 6 0).toNat < J 3 b)
    · exact Or.inr (if_pos c)
    · exact Or.inl (if_neg c)
  · exact Or.inl rfl
theorem wk_0 {c t b : Nat} : wkN J σ c t 0 b = if b = c then σ 0 c - 1 else σ 0 b := by
  unfold wkN wk1
  split <;> simp [mup]
theorem wk_1 {c t b : Nat} : wkN J σ c t 1 b = if σ 0 c = 1 ∧ b = c then σ 6 6 + 1 else σ 1 b := by
  unfold wkN wk1
  by_cases h : σ 0 c = 1
  · rw [if_pos h]; simp [mup, h]
  · rw [if_neg h]; simp [mup, h]
theorem wk_2 {c t : Nat} : wkN J σ c t 2 = σ 2 := by
  funext b
  unfold wkN wk1
  split <;> simp [mup]
theorem wk_3 {c t b : Nat} : wkN J σ c t 3 b = if b = c then σ 3 c + 2520 / J 3 c else σ 3 b := by
  unfold wkN wk1
  split <;> simp [mup]
theorem wk_4 {c t : Nat} : wkN J σ c t 4 = σ 4 := by
  funext b
  unfold wkN wk1
  split <;> simp [mup]
theorem wk_5 {c t : Nat} : wkN J σ c t 5 = σ 5 := by
  funext b
  unfold wkN wk1
  split <;> simp [mup]
theorem wk_7 {c t b : Nat} : wkN J σ c t 7 b = if b = t then (c : Int) else σ 7 b := by
  unfold wkN wk1
  split <;> simp [mup]
theorem wk_60 {c t : Nat} : wkN J σ c t 6 0 = if σ 0 c = 1 then -1 else σ 6 0 := by
  unfold wkN wk1
  by_cases h : σ 0 c = 1
  · rw [if_pos h, if_pos h]; simp [mup]
  · rw [if_neg h, if_neg h]; simp [mup]
theorem wk_61 {c t : Nat} : wkN J σ c t 6 1 = (c : Int) := by
  unfold wkN wk1
  split <;> simp [mup]
theorem wk_62 {c t : Nat} : wkN J σ c t 6 2 = σ 6 2 - 1 := by
  unfold wkN wk1
  split <;> simp [mup]
theorem wk_63 {c t : Nat} : wkN J σ c t 6 3 = σ 6 3 := by
  unfold wkN wk1
  split <;> simp [mup]
theorem wk_64 {c t : Nat} : wkN J σ c t 6 4 = σ 6 4 := by
  unfold wkN wk1
  split <;> simp [mup]
theorem wk_65 {c t : Nat} : wkN J σ c t 6 5 = σ 6 5 := by
  unfold wkN wk1
  split <;> simp [mup]
theorem wk_66 {c t : Nat} : wkN J σ c t 6 6 = σ 6 6 + 1 := by
  unfold wkN wk1
  split <;> simp [mup]
/-- nobody idles once all have come -/
theorem late_busy (hD : okD J n) (hB : vB J n σ) (hc : ∀ j, j < n → ¬ comP J σ (σ 6 6) j) (hn : ∀ j, j < n → ¬ rdy σ j) (ho : ¬ ovr n σ) : σ 6 6 < 99 := by
  rcases Int.lt_or_le (σ 6 6) 99 with q | q
  · exact q
  · refine absurd (fun j hj => ?_) ho
    induction j using Nat.strongRecOn with
    | _ j ih =>
      have h1 := hB.2 j hj
      have h2 := hn j hj
      have h3 := hc j hj
      have h4 := okD_c hD hj
      by_cases e : σ 0 j = 0
      · exact e
      · rcases h1.1 with q1 | q1
        · exact absurd ⟨by omega, by omega, fun k hk _ => ih k hk (by omega)⟩ h3
        · exact absurd ⟨q1, by omega⟩ h2
theorem dn_wk {c t : Nat} (hc : c < n) : dnF J (wkN J σ c t) n = dnF J σ n + 1 := by
  unfold dnF
  refine smF_upd hc (fun j _ hj => ?_) ?_
  · show J 1 j - wkN J σ c t 0 j = J 1 j - σ 0 j
    rw [wk_0, if_neg hj]
  · show J 1 c - wkN J σ c t 0 c = J 1 c - σ 0 c + 1
    rw [wk_0, if_pos rfl]; omega
end
