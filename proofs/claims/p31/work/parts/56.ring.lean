/-! ===== RING: between two pieces of a job each other one has at most one slice ===== -/
/-- j waits in the row, or is at work; z is the moment, x where its gap began -/
def rgW (n : Nat) (q : Int) (s : St) (j : Nat) (z x : Int) : Prop :=
  (s.1 6 0 = (j : Int) ∧ z = x) ∨ ∃ pre post, s.2.1 = pre ++ j :: post ∧ z - x + (if s.1 6 0 ≠ -1 then s.1 6 2 else 0) + q * pre.length ≤ ((n : Int) - 1) * q
section
variable {J : Mm} {n : Nat} {K : Nat → Int} {s : St} {j : Nat} {z x : Int}
theorem rg_bg (hD : okD J n) (hS : vS J n K s) (h0 : K 0 = 0) (hq : 1 ≤ K 1) (hj : j < n) (h : rgW n (K 1) s j z x) : rgW n (K 1) (bgF J n K s) j z x := by
  have hS1 := vS_ad (K := K) hD (vS_rs hS)
  have hrow : rRow K := Or.inl h0
  have ers : rsF K s = s := by unfold rsF; rw [if_neg (by omega)]
  rw [ers] at hS1
  have hQ := hS1.2.2.2.2.1.1 hrow
  have hQ0 := hS1.2.2.2.2.1.2.1 h0
  have e6 : (adF J n K s).1 6 = s.1 6 := ad_o (by decide) (by decide) (by decide)
  have hA := hS.2.2.2.1
  have erow : (adF J n K s).2.1 = s.2.1 ++ cmL J s.1 n := by show s.2.1 ++ (if K 0 = 0 ∨ K 0 = 4 then cmL J s.1 n else []) = _; rw [if_pos (Or.inl h0)]
  have ebg : bgF J n K s = ovF K (adF J n K s) := by unfold bgF; rw [ers]
  rw [ebg]
  by_cases c : s.1 6 0 ≠ -1 ∧ s.1 6 2 ≤ 0
  · have eov : ovF K (adF J n K s) = (mup (adF J n K s).1 6 0 (-1), ((adF J n K s).2.1 ++ [(s.1 6 0).toNat], (adF J n K s).2.2)) := by
      unfold ovF ovQ; rw [e6, if_pos c, if_pos h0]
    rw [eov]
    unfold rgW
    have e60 : mup (adF J n K s).1 6 0 (-1) 6 0 = -1 := mup_eq _ _ _ _
    rcases h with ⟨h1, h2⟩ | ⟨pre, post, h1, h2⟩
    · refine Or.inr ⟨(adF J n K s).2.1, [], ?_, ?_⟩
      · show (adF J n K s).2.1 ++ [(s.1 6 0).toNat] = _; rw [h1, Int.toNat_natCast]
      · show z - x + (if mup (adF J n K s).1 6 0 (-1) 6 0 ≠ -1 then mup (adF J n K s).1 6 0 (-1) 6 2 else 0) + K 1 * ((adF J n K s).2.1.length : Int) ≤ _
        rw [e60, if_neg (fun y => y rfl)]
        have hlen : (adF J n K s).2.1.length + 1 ≤ n := by
          have hnot : j ∉ (adF J n K s).2.1 ++ ((adF J n K s).2.2.1 ++ (adF J n K s).2.2.2) := fun y => ((hQ.2 j).mp y).2.2 (by rw [e6]; exact h1.symm)
          have hsub : (j :: ((adF J n K s).2.1 ++ ((adF J n K s).2.2.1 ++ (adF J n K s).2.2.2))) ⊆ List.range n := by
            intro y hy
            rw [List.mem_range]
            rcases List.mem_cons.mp hy with e | e
            · rw [e]; exact hj
            · exact ((hQ.2 y).mp e).1
          have hle := (List.nodup_cons.mpr ⟨hnot, hQ.1⟩).length_le_of_subset hsub
          simp only [List.length_cons, List.length_append, List.length_range] at hle
          omega
        have hm : ((adF J n K s).2.1.length : Int) * K 1 ≤ ((n : Int) - 1) * K 1 := Int.mul_le_mul_of_nonneg_right (by omega) (by omega)
        rw [Int.mul_comm] at hm
        omega
    · refine Or.inr ⟨pre, post ++ cmL J s.1 n ++ [(s.1 6 0).toNat], ?_, ?_⟩
      · show (adF J n K s).2.1 ++ [(s.1 6 0).toNat] = _
        rw [erow, h1]; simp
      · show z - x + (if mup (adF J n K s).1 6 0 (-1) 6 0 ≠ -1 then mup (adF J n K s).1 6 0 (-1) 6 2 else 0) + K 1 * (pre.length : Int) ≤ _
        rw [e60, if_neg (fun y => y rfl)]
        rw [if_pos c.1] at h2
        have := (hA.2.2 c.1).2.1.1
        omega
  · have eov : ovF K (adF J n K s) = adF J n K s := by unfold ovF; rw [e6, if_neg c]
    rw [eov]
    unfold rgW
    rw [e6]
    rcases h with ⟨h1, h2⟩ | ⟨pre, post, h1, h2⟩
    · exact Or.inl ⟨h1, h2⟩
    · exact Or.inr ⟨pre, post ++ cmL J s.1 n, by rw [erow, h1]; simp, h2⟩
theorem rg_ch (h0 : K 0 = 0) (h : rgW n (K 1) s j z x) : (((chF J n K s).1 6 0 = (j : Int) ∧ (z = x ∨ z - x ≤ ((n : Int) - 1) * K 1)) ∨ ((chF J n K s).1 6 0 ≠ -1 ∧ rgW n (K 1) (chF J n K s) j z x)) := by
  unfold chF
  by_cases c : s.1 6 0 ≠ -1
  · rw [if_pos c]
    rcases h with ⟨h1, h2⟩ | h
    · exact Or.inl ⟨h1, Or.inl h2⟩
    · exact Or.inr ⟨c, Or.inr h⟩
  · rw [if_neg c, if_pos (Or.inl h0)]
    rcases h with ⟨h1, h2⟩ | ⟨pre, post, h1, h2⟩
    · exact absurd h1 (by omega)
    · obtain ⟨σ, a0, a1, a2⟩ := s
      have h1 : a0 = pre ++ j :: post := h1
      subst h1
      rw [if_neg c] at h2
      rcases pre with _ | ⟨y, pre⟩
      · refine Or.inl ⟨tk_60 (J := J) (K := K) (σ := σ) (lv := 0) (j := j), Or.inr ?_⟩
        simp at h2
        omega
      · refine Or.inr ⟨?_, Or.inr ⟨pre, post, rfl, ?_⟩⟩
        · show tkN J K σ 0 y 6 0 ≠ -1
          rw [tk_60]; omega
        · show z - x + (if tkN J K σ 0 y 6 0 ≠ -1 then tkN J K σ 0 y 6 2 else 0) + K 1 * (pre.length : Int) ≤ _
          rw [tk_60, if_pos (by omega), tk_62]
          have et : tnF J K σ 0 y = K 1 := by unfold tnF; rw [if_neg (by omega), if_neg (by omega), if_neg (by omega)]
          rw [et]
          have el : K 1 * (((y :: pre).length : Nat) : Int) = K 1 * (pre.length : Int) + K 1 := by rw [List.length_cons, Int.natCast_add, Int.mul_add]; simp
          rw [el] at h2
          omega
end
