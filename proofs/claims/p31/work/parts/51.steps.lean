/-! ===== a moment of a run, told by the log ===== -/
section
variable {J : Mm} {n : Nat} {K : Nat → Int} {s : St}
theorem ch_63 (h2 : K 2 = 0) (h3 : s.1 6 3 = 0) : (chF J n K s).1 6 3 = 0 := by
  have key : ∀ (σ : Mm) (lv : Int) (j : Nat), tkN J K σ lv j 6 3 = 0 := fun σ lv j => by rw [tk_63]; split; rfl; exact h2
  unfold chF
  split
  · exact h3
  · split
    · obtain ⟨σ, a0, a1, a2⟩ := s
      rcases a0 with _ | ⟨j, a0⟩
      · rcases a1 with _ | ⟨j, a1⟩
        · rcases a2 with _ | ⟨j, a2⟩
          · exact h3
          · exact key σ 2 j
        · exact key σ 1 j
      · exact key σ 0 j
    · split
      · exact h3
      · exact key (seN K s.1) 0 (pkF J n K s.1).toNat
/-- who is chosen by the least left, newly -/
theorem ch_3 (hD : okD J n) (h3 : K 0 = 3) (h0 : s.1 6 0 = -1) {c : Nat} (hc : (chF J n K s).1 6 0 = (c : Int)) : ∀ j, j < n → rdy s.1 j → s.1 0 c ≤ s.1 0 j := by
  intro j hj hr
  have e : chF J n K s = if pkF J n K s.1 = -1 then s else (tkN J K (seN K s.1) 0 (pkF J n K s.1).toNat, s.2) := by
    unfold chF; rw [if_neg (fun z => z h0), if_neg (by omega)]
  have ep : pkF J n K s.1 = bsF J n K s.1 n := by unfold pkF; rw [if_neg (by omega)]
  have kk : ∀ i, keyR J n K s.1 i = s.1 0 i := fun i => by unfold keyR; rw [if_neg (by omega), if_neg (by omega), if_pos h3]
  have ok : okR J n K s.1 j := ⟨hr, fun z => absurd z (by omega)⟩
  rw [e] at hc
  rcases bsF_is J n K s.1 n with ⟨q, q2⟩ | ⟨i, q1, q2, q3, q4⟩
  · exact absurd ok (q2 j hj)
  · rw [if_neg (by omega)] at hc
    have hci : ((pkF J n K s.1).toNat : Int) = (c : Int) := by rw [← hc]; exact (tk_60 (J := J) (K := K) (σ := seN K s.1) (lv := 0) (j := (pkF J n K s.1).toNat)).symm
    have hic : c = i := by omega
    have h5 := q4 j hj ok
    rw [kk, kk] at h5
    rw [hic]; exact h5
/-- those that j waits for are done, by the numbers σ -/
abbrev prS (J σ : Mm) (j : Nat) : Prop := ∀ k, k < j → (J 4 j).toNat.testBit k = true → σ 0 k = 0
/-- a moment: idle, and nobody could work; or c works -/
def stL (J : Mm) (n : Nat) (K : Nat → Int) (s s' : St) : Prop :=
  (((∀ b, s'.1 7 b = if b = (s.1 6 6).toNat then -1 else s.1 7 b) ∧ s'.1 0 = s.1 0 ∧ s'.1 1 = s.1 1 ∧ ∀ j, j < n → J 0 j ≤ s.1 6 6 → prS J s.1 j → s.1 0 j = 0) ∨
  ∃ c, c < n ∧ (∀ b, s'.1 7 b = if b = (s.1 6 6).toNat then (c : Int) else s.1 7 b) ∧ 0 < s.1 0 c ∧ J 0 c ≤ s.1 6 6 ∧ prS J s.1 c ∧ (∀ b, s'.1 0 b = if b = c then s.1 0 c - 1 else s.1 0 b) ∧ (∀ b, s'.1 1 b = if s.1 0 c = 1 ∧ b = c then s.1 6 6 + 1 else s.1 1 b) ∧ (K 0 = 3 → ∀ j, j < n → J 0 j ≤ s.1 6 6 → prS J s.1 j → 0 < s.1 0 j → s.1 0 c ≤ s.1 0 j)) ∧
  s'.1 6 6 = s.1 6 6 + 1 ∧ s'.1 6 3 = 0 ∧ (K 0 = 3 → s'.1 6 0 ≠ -1 → s'.1 6 2 ≤ 0)
theorem st_log (hD : okD J n) (hK : okK K) (h : vS J n K s) (hy : vY K s.1) (h2 : K 2 = 0) (h3 : s.1 6 3 = 0) (h0 : K 0 = 3 → s.1 6 0 ≠ -1 → s.1 6 2 ≤ 0) : stL J n K s (stF J n K s) := by
  have hb := vS_bg (K := K) hD h
  have hc := vS_ch hD hK hb.1 hb.2
  have hyc : vY K (chF J n K (bgF J n K s)).1 := vY_ch (vY_bg hy)
  have b0 : (bgF J n K s).1 0 = s.1 0 := bg_o (by decide) (by decide) (by decide) (by decide)
  have b1 : (bgF J n K s).1 1 = s.1 1 := bg_o (by decide) (by decide) (by decide) (by decide)
  have b7 : (bgF J n K s).1 7 = s.1 7 := bg_o (by decide) (by decide) (by decide) (by decide)
  have b66 : (bgF J n K s).1 6 6 = s.1 6 6 := bg_6 (by decide)
  have b63 : (bgF J n K s).1 6 3 = 0 := (bg_6 (by decide)).trans h3
  have hno := fun j (hj : j < n) => bg_no (J := J) (K := K) (s := s) hj
  -- who may work is ready
  have hrdy : ∀ j, j < n → J 0 j ≤ s.1 6 6 → prS J s.1 j → 0 < s.1 0 j → rdy (bgF J n K s).1 j := by
    intro j hj h4 h5 h6
    by_cases q : (bgF J n K s).1 5 j = 1
    · exact ⟨q, by rw [b0]; exact h6⟩
    · exact absurd ⟨q, by rw [b66]; exact h4, by rw [b0]; exact h5⟩ (hno j hj)
  have hb60 : K 0 = 3 → (bgF J n K s).1 6 0 = -1 := fun q => by
    by_cases e : (bgF J n K s).1 6 0 = -1
    · exact e
    · exfalso
      rcases bg_60 (J := J) (n := n) (K := K) (s := s) with z | z
      · exact e z
      · have := h0 q (by rw [← z]; exact e)
        have h7 := hb.2 e
        rw [bg_6 (by decide)] at h7
        omega
  have hc3 := fun (q : K 0 = 3) (c : Nat) (e : (chF J n K (bgF J n K s)).1 6 0 = (c : Int)) => ch_3 hD q (hb60 q) e
  have c0 : (chF J n K (bgF J n K s)).1 0 = s.1 0 := (ch_o (by decide)).trans b0
  have c1 : (chF J n K (bgF J n K s)).1 1 = s.1 1 := (ch_o (by decide)).trans b1
  have c7 : (chF J n K (bgF J n K s)).1 7 = s.1 7 := (ch_o (by decide)).trans b7
  have c66 : (chF J n K (bgF J n K s)).1 6 6 = s.1 6 6 := ch_66.trans b66
  have c63 := ch_63 (J := J) (n := n) h2 b63
  have hst : stF J n K s = psF J n K (chF J n K (bgF J n K s)) := rfl
  unfold stL
  rw [hst]
  generalize chF J n K (bgF J n K s) = s2 at *
  have e66 := ps_66 (J := J) (n := n) (K := K) (s := s2)
  by_cases e : s2.1 6 0 = -1
  · have hps : (psF J n K s2).1 = mup (mup s2.1 7 (s2.1 6 6).toNat (-1)) 6 6 (s2.1 6 6 + 1) := by show psN J n K s2.1 = _; unfold psN; rw [if_pos e]
    refine ⟨Or.inl ⟨fun b => ?_, ?_, ?_, fun j hj h4 h5 => ?_⟩, e66.trans (by rw [c66]), ?_, fun _ z => ?_⟩
    · rw [hps, mup_nk (by omega), mup_row, c66, c7]
    · rw [hps, ← c0]; funext b; rw [mup_nk (by omega), mup_nk (by omega)]
    · rw [hps, ← c1]; funext b; rw [mup_nk (by omega), mup_nk (by omega)]
    · have h6 := (h.1.2 j hj).2.1
      by_cases q : 0 < s.1 0 j
      · exact absurd (hrdy j hj h4 h5 q) (hc.2.2 e j hj)
      · omega
    · rw [hps, mup_ne (by omega), mup_nk (by omega)]; exact c63
    · rw [hps, mup_ne (by omega), mup_nk (by omega)] at z; exact absurd e z
  · have hA := hc.1.2.2.2.1
    obtain ⟨c, hcc, hcn⟩ : ∃ c : Nat, s2.1 6 0 = (c : Int) ∧ c < n := ⟨(s2.1 6 0).toNat, by have := hA.1; omega, by have := hA.1; omega⟩
    have hr := (hA.2.2 e).1
    rw [hcc, Int.toNat_natCast] at hr
    have hw := hc.1.2.1 c hcn hr.1
    have hps : (psF J n K s2).1 = wkN J (keN J n K s2.1) c (s2.1 6 6).toNat := by show psN J n K s2.1 = _; unfold psN; rw [if_neg e, if_neg (by omega), hcc, Int.toNat_natCast]
    have k0 : keN J n K s2.1 0 = s2.1 0 := ke_o (by decide)
    have k1 : keN J n K s2.1 1 = s2.1 1 := ke_o (by decide)
    have k6 : keN J n K s2.1 6 = s2.1 6 := ke_o (by decide)
    have k7 : keN J n K s2.1 7 = s2.1 7 := ke_o (by decide)
    refine ⟨Or.inr ⟨c, hcn, fun b => ?_, ?_, ?_, ?_, fun b => ?_, fun b => ?_, fun q3 j hj h4 h5 h6 => ?_⟩, e66.trans (by rw [c66]), ?_, fun q3 z => ?_⟩
    · rw [hps, wk_7, c66, k7, c7]
    · rw [← c0]; exact hr.2
    · rw [← c66]; exact hw.1
    · intro k hk hbk; rw [← c0]; exact hw.2 k hk hbk
    · rw [hps, wk_0, k0, c0]
    · rw [hps, wk_1, k0, k6, k1, c0, c1, c66]
    · have := hc3 q3 c hcc j hj (hrdy j hj h4 h5 h6)
      rw [b0] at this; exact this
    · rw [hps, wk_63, k6]; exact c63
    · have h9 := hyc (Or.inl q3) e
      rw [hps, wk_62, k6]; omega
end
