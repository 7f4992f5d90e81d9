/-! ===== what holds stays ===== -/
theorem ndp_app {a b : List Nat} : (a ++ b).Nodup ↔ a.Nodup ∧ b.Nodup ∧ ∀ x ∈ a, ∀ y ∈ b, x ≠ y := List.pairwise_append
theorem ndp_mid {a b c : List Nat} : (a ++ c ++ b).Nodup ↔ (a ++ b ++ c).Nodup := by
  have h : (a ++ c ++ b).Perm (a ++ b ++ c) := by
    rw [List.append_assoc, List.append_assoc]
    exact List.Perm.append_left a List.perm_append_comm
  exact h.nodup_iff
theorem rs_1 (K : Nat → Int) (s : St) : (rsF K s).1 = s.1 := by unfold rsF; split <;> rfl
section
variable {J : Mm} {n : Nat} {σ σ' : Mm} {K : Nat → Int} {s : St}
theorem ad_5 (b : Nat) : adN J n σ 5 b = if b < n ∧ comP J σ (σ 6 6) b then 1 else σ 5 b := by unfold adN; split <;> rfl
theorem ad_2 (b : Nat) : adN J n σ 2 b = if b < n ∧ comP J σ (σ 6 6) b then σ 6 6 else σ 2 b := by unfold adN; split <;> rfl
theorem ad_3 (b : Nat) : adN J n σ 3 b = if b < n ∧ comP J σ (σ 6 6) b then lcZ σ n else σ 3 b := by unfold adN; split <;> rfl
theorem ad_o {a : Nat} (h5 : a ≠ 5) (h2 : a ≠ 2) (h3 : a ≠ 3) : adN J n σ a = σ a := by
  funext b
  unfold adN
  by_cases c : b < n ∧ comP J σ (σ 6 6) b
  · rw [if_pos c, if_neg h5, if_neg h2, if_neg h3]
  · rw [if_neg c]
theorem ad_rdy (hD : okD J n) (hB : vB J n σ) {j : Nat} (hj : j < n) : rdy (adN J n σ) j ↔ rdy σ j ∨ comP J σ (σ 6 6) j := by
  have h1 := hB.2 j hj
  have h2 := okD_l hD hj
  unfold rdy
  rw [ad_5, ad_o (a := 0) (by decide) (by decide) (by decide)]
  by_cases c : comP J σ (σ 6 6) j
  · have := c.1
    have e := h1.2.2.1 (by rcases h1.1 with q | q; exact q; exact absurd q this)
    rw [if_pos ⟨hj, c⟩]
    exact ⟨fun _ => Or.inr c, fun _ => ⟨rfl, by omega⟩⟩
  · rw [if_neg (fun z => c z.2)]
    exact ⟨fun z => Or.inl z, fun z => z.elim id (fun q => absurd q c)⟩
theorem cm_mem {j : Nat} : j ∈ cmL J σ n ↔ j < n ∧ comP J σ (σ 6 6) j := by
  unfold cmL
  rw [List.mem_filter, List.mem_range, decide_eq_true_iff]
theorem cm_nd : (cmL J σ n).Nodup := List.Pairwise.filter _ List.nodup_range
theorem vS_rs (h : vS J n K s) : vS J n K (rsF K s) := by
  obtain ⟨hB, hW, hL, hA, hQ, hT, hX⟩ := h
  unfold rsF
  split
  · rename_i c
    refine ⟨hB, hW, hL, hA, ⟨fun hr => ?_, fun z => ?_, fun z => absurd (Or.inr c.1) z⟩, hT, hX⟩
    · simpa only [List.append_nil] using hQ.1 hr
    · have := c.1; omega
  · exact ⟨hB, hW, hL, hA, hQ, hT, hX⟩
theorem vS_ad (hD : okD J n) (h : vS J n K s) : vS J n K (adF J n K s) := by
  obtain ⟨hB, hW, hL, hA, hQ, hT, hX⟩ := h
  have e0 : adN J n s.1 0 = s.1 0 := ad_o (by decide) (by decide) (by decide)
  have e1 : adN J n s.1 1 = s.1 1 := ad_o (by decide) (by decide) (by decide)
  have e4 : adN J n s.1 4 = s.1 4 := ad_o (by decide) (by decide) (by decide)
  have e6 : adN J n s.1 6 = s.1 6 := ad_o (by decide) (by decide) (by decide)
  have e7 : adN J n s.1 7 = s.1 7 := ad_o (by decide) (by decide) (by decide)
  have hr : ∀ j, j < n → (rdy (adN J n s.1) j ↔ rdy s.1 j ∨ comP J s.1 (s.1 6 6) j) := fun j hj => ad_rdy hD hB hj
  have hz := lcZ_b hB
  refine ⟨⟨by show 0 ≤ adN J n s.1 6 6; rw [e6]; exact hB.1, fun j hj => ?_⟩, fun j hj => ?_, ?_, ?_, ?_, ?_, ?_⟩
  · have h1 := hB.2 j hj
    have h0 := hB.1
    show vBj J (adN J n s.1) j
    unfold vBj
    rw [ad_5, ad_2, ad_3, e0, e1, e4, e6]
    by_cases c : comP J s.1 (s.1 6 6) j
    · have := c.1
      have e := h1.2.2.1 (by rcases h1.1 with q | q; exact q; exact absurd q this)
      rw [if_pos ⟨hj, c⟩, if_pos ⟨hj, c⟩, if_pos ⟨hj, c⟩]
      exact ⟨Or.inr rfl, h1.2.1, fun z => absurd z (by decide), h1.2.2.2.1, h1.2.2.2.2.1, by omega, hz, h1.2.2.2.2.2.2.2⟩
    · rw [if_neg (fun z => c z.2), if_neg (fun z => c z.2), if_neg (fun z => c z.2)]
      exact h1
  · have h1 := hW j hj
    show vWj J (adN J n s.1) j
    unfold vWj
    rw [ad_5, e0, e6]
    by_cases c : comP J s.1 (s.1 6 6) j
    · exact fun _ => ⟨c.2.1, c.2.2⟩
    · rw [if_neg (fun z => c z.2)]; exact h1
  · show vL n (adN J n s.1)
    unfold vL
    rw [e6, e7]; exact hL
  · show vA n (adN J n s.1)
    unfold vA
    rw [e6]
    exact ⟨hA.1, hA.2.1, fun z => ⟨(hr _ (by have := hA.1; omega)).mpr (Or.inl (hA.2.2 z).1), (hA.2.2 z).2⟩⟩
  · refine ⟨fun hk => ?_, hQ.2.1, fun hk => ?_⟩
    · have hq := hQ.1 hk
      show ((s.2.1 ++ if K 0 = 0 ∨ K 0 = 4 then cmL J s.1 n else []) ++ (s.2.2.1 ++ s.2.2.2)).Nodup ∧ ∀ j, j ∈ (s.2.1 ++ if K 0 = 0 ∨ K 0 = 4 then cmL J s.1 n else []) ++ (s.2.2.1 ++ s.2.2.2) ↔ (j < n ∧ rdy (adN J n s.1) j ∧ (j : Int) ≠ adN J n s.1 6 0)
      rw [if_pos hk, e6]
      refine ⟨ndp_mid.mpr (ndp_app.mpr ⟨hq.1, cm_nd, fun x hx y hy e => ?_⟩), fun j => ?_⟩
      · have a1 := (hq.2 x).mp hx
        have a2 := cm_mem.mp hy
        rw [← e] at a2
        exact a2.2.1 a1.2.1.1
      · have a1 := hq.2 j
        have a2 := cm_mem (J := J) (σ := s.1) (n := n) (j := j)
        rw [List.mem_append, List.mem_append, a2]
        rw [List.mem_append] at a1
        constructor
        · rintro ((q | q) | q)
          · have := a1.mp (Or.inl q); exact ⟨this.1, (hr j this.1).mpr (Or.inl this.2.1), this.2.2⟩
          · refine ⟨q.1, (hr j q.1).mpr (Or.inr q.2), fun e => ?_⟩
            have b1 := (hA.2.2 (by omega)).1.1
            rw [← e] at b1
            exact q.2.1 b1
          · have := a1.mp (Or.inr q); exact ⟨this.1, (hr j this.1).mpr (Or.inl this.2.1), this.2.2⟩
        · rintro ⟨q1, q2, q3⟩
          rcases (hr j q1).mp q2 with q | q
          · rcases a1.mpr ⟨q1, q, q3⟩ with z | z
            · exact Or.inl (Or.inl z)
            · exact Or.inr z
          · exact Or.inl (Or.inr ⟨q1, q⟩)
    · show (s.2.1 ++ if K 0 = 0 ∨ K 0 = 4 then cmL J s.1 n else []) = [] ∧ s.2.2.1 = [] ∧ s.2.2.2 = []
      rw [if_neg hk, (hQ.2.2 hk).1]
      exact ⟨rfl, (hQ.2.2 hk).2⟩
  · show vT J n (adN J n s.1)
    unfold vT dnF
    rw [e0, e6]; exact hT
  · intro h8
    show (∀ i j, i < n → j < n → i ≠ j → hdF J (adN J n s.1) i = hdF J (adN J n s.1) j → hdF J (adN J n s.1) i = -1) ∧ (adN J n s.1 6 0 ≠ -1 → 1 ≤ adN J n s.1 6 2 → kpr J n (adN J n s.1) (adN J n s.1 6 0).toNat = -1)
    rw [hdF_c e0, e6, kpr_c e0]
    exact hX h8
/-- a change of row 6 but for the moment, the last one, at one place -/
theorem vS_ov (h : vS J n K s) : vS J n K (ovF K s) ∧ ((ovF K s).1 6 0 ≠ -1 → 1 ≤ (ovF K s).1 6 2) := by
  obtain ⟨hB, hW, hL, hA, hQ, hT, hX⟩ := h
  unfold ovF
  split
  · rename_i c
    obtain ⟨c1, c2⟩ := c
    have hA3 := hA.2.2 c1
    have hc : (s.1 6 0).toNat < n := by have := hA.1; omega
    have hcc : (((s.1 6 0).toNat : Nat) : Int) = s.1 6 0 := by have := hA.1; omega
    have eo : ∀ a, a ≠ 6 → mup s.1 6 0 (-1) a = s.1 a := fun a ha => by funext b; exact mup_nk ha
    have e6 : ∀ b, b ≠ 0 → mup s.1 6 0 (-1) 6 b = s.1 6 b := fun b hb => mup_ne (fun z => hb z.2)
    have e60 : mup s.1 6 0 (-1) 6 0 = -1 := mup_eq _ _ _ _
    refine ⟨⟨?_, ?_, ?_, ?_, ?_, ?_, ?_⟩, fun z => absurd e60 z⟩
    · show vB J n (mup s.1 6 0 (-1))
      unfold vB vBj
      rw [e6 6 (by decide), eo 0 (by decide), eo 1 (by decide), eo 2 (by decide), eo 3 (by decide), eo 4 (by decide), eo 5 (by decide)]
      exact hB
    · show vW J n (mup s.1 6 0 (-1))
      unfold vW vWj
      rw [e6 6 (by decide), eo 0 (by decide), eo 5 (by decide)]
      exact hW
    · show vL n (mup s.1 6 0 (-1))
      unfold vL
      rw [e6 6 (by decide), eo 7 (by decide)]
      exact hL
    · show vA n (mup s.1 6 0 (-1))
      unfold vA
      rw [e60, e6 1 (by decide)]
      exact ⟨by omega, hA.2.1, fun z => absurd rfl z⟩
    · refine ⟨fun hk => ?_, fun hk => ?_, fun hk => ?_⟩
      · have hq := hQ.1 hk
        have hnot : (s.1 6 0).toNat ∉ s.2.1 ++ (s.2.2.1 ++ s.2.2.2) := fun z => ((hq.2 _).mp z).2.2 hcc
        have hp : ((ovQ K s (s.1 6 0).toNat).1 ++ ((ovQ K s (s.1 6 0).toNat).2.1 ++ (ovQ K s (s.1 6 0).toNat).2.2)).Perm ((s.1 6 0).toNat :: (s.2.1 ++ (s.2.2.1 ++ s.2.2.2))) := by
          unfold ovQ
          split
          · show ((s.2.1 ++ [(s.1 6 0).toNat]) ++ (s.2.2.1 ++ s.2.2.2)).Perm _
            rw [List.append_assoc]
            exact List.perm_middle
          · split
            · split
              · show (s.2.1 ++ ((s.2.2.1 ++ [(s.1 6 0).toNat]) ++ s.2.2.2)).Perm _
                rw [show s.2.1 ++ ((s.2.2.1 ++ [(s.1 6 0).toNat]) ++ s.2.2.2) = (s.2.1 ++ s.2.2.1) ++ (s.1 6 0).toNat :: s.2.2.2 by simp, ← List.append_assoc]
                exact List.perm_middle
              · show (s.2.1 ++ (s.2.2.1 ++ (s.2.2.2 ++ [(s.1 6 0).toNat]))).Perm _
                rw [← List.append_assoc, ← List.append_assoc, ← List.append_assoc]
                exact List.perm_append_singleton _ _
            · rename_i q1 q2; exact absurd hk (fun z => z.elim q1 q2)
        refine ⟨hp.nodup_iff.mpr (List.nodup_cons.mpr ⟨hnot, hq.1⟩), fun j => ?_⟩
        show j ∈ (ovQ K s (s.1 6 0).toNat).1 ++ ((ovQ K s (s.1 6 0).toNat).2.1 ++ (ovQ K s (s.1 6 0).toNat).2.2) ↔ (j < n ∧ rdy (mup s.1 6 0 (-1)) j ∧ (j : Int) ≠ mup s.1 6 0 (-1) 6 0)
        unfold rdy
        rw [hp.mem_iff, List.mem_cons, hq.2 j, e60, eo 0 (by decide), eo 5 (by decide)]
        constructor
        · rintro (q | q)
          · rw [q]; exact ⟨hc, hA3.1, by omega⟩
          · exact ⟨q.1, q.2.1, by omega⟩
        · rintro ⟨q1, q2, -⟩
          by_cases e : j = (s.1 6 0).toNat
          · exact Or.inl e
          · exact Or.inr ⟨q1, q2, by omega⟩
      · show (ovQ K s _).2.1 = [] ∧ (ovQ K s _).2.2 = []
        unfold ovQ
        rw [if_pos hk]
        exact hQ.2.1 hk
      · show (ovQ K s _).1 = [] ∧ (ovQ K s _).2.1 = [] ∧ (ovQ K s _).2.2 = []
        unfold ovQ
        rw [if_neg (fun z => hk (Or.inl z)), if_neg (fun z => hk (Or.inr z))]
        exact hQ.2.2 hk
    · show vT J n (mup s.1 6 0 (-1))
      unfold vT dnF
      rw [e6 6 (by decide), eo 0 (by decide)]
      refine Or.inl ?_
      rcases hT with q | q
      · exact q
      · omega
    · intro h8
      refine ⟨?_, fun z => absurd e60 z⟩
      show ∀ i j, i < n → j < n → i ≠ j → hdF J (mup s.1 6 0 (-1)) i = hdF J (mup s.1 6 0 (-1)) j → hdF J (mup s.1 6 0 (-1)) i = -1
      rw [hdF_c (eo 0 (by decide))]
      exact (hX h8).1
  · rename_i c
    exact ⟨⟨hB, hW, hL, hA, hQ, hT, hX⟩, fun z => by omega⟩
end
