/-! ===== a run, moment by moment, whatever changing costs ===== -/
def itN (J : Mm) (n : Nat) (K : Nat → Int) (z : Int) : Nat → St
  | 0 => inS J z
  | t + 1 => stF J n K (itN J n K z t)
/-- who may work at the moment, by the numbers σ -/
abbrev rdL (J σ : Mm) (j : Nat) : Prop := J 0 j ≤ σ 6 6 ∧ σ 0 j ≠ 0 ∧ prS J σ j
/-- a moment: idle, or changing, or c works -/
def stG (J : Mm) (n : Nat) (K : Nat → Int) (s s' : St) (g : Int) : Prop :=
  s'.1 6 6 = s.1 6 6 + 1 ∧
  (∀ j, s'.1 5 j = if j < n ∧ comP J s.1 (s.1 6 6) j then 1 else s.1 5 j) ∧
  (∀ j, s'.1 2 j = if j < n ∧ comP J s.1 (s.1 6 6) j then s.1 6 6 else s.1 2 j) ∧
  (∀ b, s'.1 7 b = if b = (s.1 6 6).toNat then g else s.1 7 b) ∧
  ((g = -1 ∧ (s.1 6 0 = -1 ∨ s.1 6 2 ≤ 0) ∧ s'.1 0 = s.1 0 ∧ s'.1 1 = s.1 1 ∧ s'.1 6 0 = -1 ∧ s'.1 6 1 = s.1 6 1 ∧ ∀ j, j < n → ¬ rdL J s.1 j) ∨
  (∃ c, c < n ∧ rdL J s.1 c ∧ g = -2 ∧ s'.1 0 = s.1 0 ∧ s'.1 1 = s.1 1 ∧ s'.1 6 0 = (c : Int) ∧ s'.1 6 1 = s.1 6 1 ∧ 1 ≤ s'.1 6 2 ∧ ((s.1 6 0 = (c : Int) ∧ 1 ≤ s.1 6 2 ∧ 0 < s.1 6 3 ∧ s'.1 6 3 = s.1 6 3 - 1) ∨ ((s.1 6 0 = -1 ∨ s.1 6 2 ≤ 0) ∧ s.1 6 1 ≠ -1 ∧ s.1 6 1 ≠ (c : Int) ∧ 0 < K 2 ∧ s'.1 6 3 = K 2 - 1))) ∨
  (∃ c, c < n ∧ rdL J s.1 c ∧ g = (c : Int) ∧ (∀ b, s'.1 0 b = if b = c then s.1 0 c - 1 else s.1 0 b) ∧ (∀ b, s'.1 1 b = if s.1 0 c = 1 ∧ b = c then s.1 6 6 + 1 else s.1 1 b) ∧ (s'.1 6 0 = -1 ∨ s'.1 6 0 = (c : Int)) ∧ s'.1 6 1 = (c : Int) ∧ s'.1 6 3 = 0 ∧ (K 0 = 8 → kpr J n s.1 c = -1) ∧ (K 0 = 6 → s'.1 6 0 ≠ -1 → s'.1 6 2 ≤ 0) ∧ ((s.1 6 0 = (c : Int) ∧ 1 ≤ s.1 6 2 ∧ s.1 6 3 = 0) ∨ ((s.1 6 0 = -1 ∨ s.1 6 2 ≤ 0) ∧ (s.1 6 1 = -1 ∨ s.1 6 1 = (c : Int) ∨ K 2 = 0) ∧ (K 0 = 6 → ∀ j, j < n → rdL J s.1 j → kyF (J 2) c ≤ kyF (J 2) j)))))
section
variable {J : Mm} {n : Nat} {K : Nat → Int} {s s' : St} {z : Int} {t : Nat}
theorem ru_it : ∀ (d t : Nat), (∀ i, i < t → ¬ ovr n (itN J n K z i).1) → ∃ T, t ≤ T ∧ T ≤ t + d ∧ ruF J n K d (itN J n K z t) = itN J n K z T ∧ ∀ i, i < T → ¬ ovr n (itN J n K z i).1 := by
  intro d
  induction d with
  | zero => intro t h; exact ⟨t, Nat.le_refl _, Nat.le_refl _, rfl, h⟩
  | succ d ih =>
    intro t h
    unfold ruF
    by_cases c : ovr n (itN J n K z t).1
    · rw [if_pos c]; exact ⟨t, Nat.le_refl _, by omega, rfl, h⟩
    · rw [if_neg c]
      obtain ⟨T, h1, h2, h3, h4⟩ := ih (t + 1) (fun i hi => by
        by_cases e : i = t
        · rw [e]; exact c
        · exact h i (by omega))
      exact ⟨T, by omega, by omega, h3, h4⟩
theorem ch_new (h0 : s.1 6 0 = -1) : (chF J n K s).1 6 1 = s.1 6 1 ∧ ((chF J n K s).1 6 0 = -1 ∨ ∃ c : Nat, (chF J n K s).1 6 0 = (c : Int) ∧ (chF J n K s).1 6 3 = if s.1 6 1 = -1 ∨ s.1 6 1 = (c : Int) then 0 else K 2) := by
  have key : ∀ (σ : Mm) (lv : Int) (j : Nat), σ 6 1 = s.1 6 1 → tkN J K σ lv j 6 1 = s.1 6 1 ∧ (tkN J K σ lv j 6 0 = -1 ∨ ∃ c : Nat, tkN J K σ lv j 6 0 = (c : Int) ∧ tkN J K σ lv j 6 3 = if s.1 6 1 = -1 ∨ s.1 6 1 = (c : Int) then 0 else K 2) := fun σ lv j e => ⟨by rw [tk_61, e], Or.inr ⟨j, tk_60, by rw [tk_63, e]⟩⟩
  unfold chF
  rw [if_neg (fun z => z h0)]
  split
  · obtain ⟨σ, a0, a1, a2⟩ := s
    rcases a0 with _ | ⟨j, a0⟩
    · rcases a1 with _ | ⟨j, a1⟩
      · rcases a2 with _ | ⟨j, a2⟩
        · exact ⟨rfl, Or.inl h0⟩
        · exact key σ 2 j rfl
      · exact key σ 1 j rfl
    · exact key σ 0 j rfl
  · split
    · exact ⟨rfl, Or.inl h0⟩
    · exact key (seN K s.1) 0 (pkF J n K s.1).toNat (se_6 (by decide))
/-- who is chosen by the deadline, newly -/
theorem ch_6 (h6 : K 0 = 6) (h0 : s.1 6 0 = -1) {c : Nat} (hc : (chF J n K s).1 6 0 = (c : Int)) : ∀ j, j < n → rdy s.1 j → kyF (J 2) c ≤ kyF (J 2) j := by
  intro j hj hr
  have e : chF J n K s = if pkF J n K s.1 = -1 then s else (tkN J K (seN K s.1) 0 (pkF J n K s.1).toNat, s.2) := by
    unfold chF; rw [if_neg (fun z => z h0), if_neg (by omega)]
  have ep : pkF J n K s.1 = bsF J n K s.1 n := by unfold pkF; rw [if_neg (by omega)]
  have kk : ∀ i, keyR J n K s.1 i = kyF (J 2) i := fun i => by unfold keyR; rw [if_neg (by omega), if_neg (by omega), if_neg (by omega), if_neg (by omega), if_pos h6]; rfl
  have ok : okR J n K s.1 j := ⟨hr, fun z => absurd z (by omega)⟩
  rw [e] at hc
  rcases bsF_is J n K s.1 n with ⟨q, q2⟩ | ⟨i, q1, q2, q3, q4⟩
  · exact absurd ok (q2 j hj)
  · rw [if_neg (by omega)] at hc
    have hci : ((pkF J n K s.1).toNat : Int) = (c : Int) := by rw [← hc]; exact (tk_60 (J := J) (K := K) (σ := seN K s.1) (lv := 0) (j := (pkF J n K s.1).toNat)).symm
    have hic : c = i := by omega
    have h5 := q4 j hj ok
    rw [kk, kk] at h5
    rw [hic]; exact h5
theorem bg_60o : ((bgF J n K s).1 6 0 = -1 ∧ (s.1 6 0 = -1 ∨ s.1 6 2 ≤ 0)) ∨ ((bgF J n K s).1 6 0 = s.1 6 0 ∧ s.1 6 0 ≠ -1 ∧ 1 ≤ s.1 6 2) := by
  have e0 : (adF J n K (rsF K s)).1 6 0 = s.1 6 0 := by
    show adN J n (rsF K s).1 6 0 = s.1 6 0
    rw [ad_o (by decide) (by decide) (by decide), rs_1]
  have e2 : (adF J n K (rsF K s)).1 6 2 = s.1 6 2 := by
    show adN J n (rsF K s).1 6 2 = s.1 6 2
    rw [ad_o (by decide) (by decide) (by decide), rs_1]
  unfold bgF ovF
  by_cases c : (adF J n K (rsF K s)).1 6 0 ≠ -1 ∧ (adF J n K (rsF K s)).1 6 2 ≤ 0
  · rw [if_pos c]
    exact Or.inl ⟨mup_eq (adF J n K (rsF K s)).1 6 0 (-1), Or.inr (by rw [e2] at c; exact c.2)⟩
  · rw [if_neg c, e0]
    rw [e0, e2] at c
    by_cases q : s.1 6 0 = -1
    · exact Or.inl ⟨q, Or.inl q⟩
    · exact Or.inr ⟨rfl, q, by
        by_cases q2 : s.1 6 2 ≤ 0
        · exact absurd ⟨q, q2⟩ c
        · omega⟩
set_option maxHeartbeats 1000000 in
theorem st_gen (hD : okD J n) (hK : okK K) (h : vS J n K s) (hy : vY K s.1) : ∃ g : Int, stG J n K s (stF J n K s) g := by
  have hb := vS_bg (K := K) hD h
  have hc := vS_ch hD hK hb.1 hb.2
  have hyc : vY K (chF J n K (bgF J n K s)).1 := vY_ch (vY_bg hy)
  have b0 : (bgF J n K s).1 0 = s.1 0 := bg_o (by decide) (by decide) (by decide) (by decide)
  have b1 : (bgF J n K s).1 1 = s.1 1 := bg_o (by decide) (by decide) (by decide) (by decide)
  have b7 : (bgF J n K s).1 7 = s.1 7 := bg_o (by decide) (by decide) (by decide) (by decide)
  have b66 : (bgF J n K s).1 6 6 = s.1 6 6 := bg_6 (by decide)
  have b61 : (bgF J n K s).1 6 1 = s.1 6 1 := bg_6 (by decide)
  have b63 : (bgF J n K s).1 6 3 = s.1 6 3 := bg_6 (by decide)
  have b5 : ∀ j, (bgF J n K s).1 5 j = if j < n ∧ comP J s.1 (s.1 6 6) j then 1 else s.1 5 j := fun j => by rw [bg_ad (by decide), ad_5]
  have b2 : ∀ j, (bgF J n K s).1 2 j = if j < n ∧ comP J s.1 (s.1 6 6) j then s.1 6 6 else s.1 2 j := fun j => by rw [bg_ad (by decide), ad_2]
  have hno := fun j (hj : j < n) => bg_no (J := J) (K := K) (s := s) hj
  have hrd : ∀ j, j < n → (rdy (bgF J n K s).1 j ↔ rdL J s.1 j) := by
    intro j hj
    constructor
    · intro q
      have hw := hb.1.2.1 j hj q.1
      rw [b66, b0] at hw
      have := q.2
      rw [b0] at this
      exact ⟨hw.1, by omega, hw.2⟩
    · rintro ⟨h4, h5, h6⟩
      have hp := (h.1.2 j hj).2.1.1
      by_cases q : (bgF J n K s).1 5 j = 1
      · exact ⟨q, by rw [b0]; omega⟩
      · exact absurd ⟨q, by rw [b66]; exact h4, by rw [b0]; exact h6⟩ (hno j hj)
  -- what is chosen
  have hch : (chF J n K (bgF J n K s)).1 6 1 = s.1 6 1 ∧ (((chF J n K (bgF J n K s)).1 6 0 = -1 ∧ (s.1 6 0 = -1 ∨ s.1 6 2 ≤ 0)) ∨ ∃ c : Nat, (chF J n K (bgF J n K s)).1 6 0 = (c : Int) ∧ ((s.1 6 0 = (c : Int) ∧ 1 ≤ s.1 6 2 ∧ (chF J n K (bgF J n K s)).1 6 3 = s.1 6 3) ∨
      ((s.1 6 0 = -1 ∨ s.1 6 2 ≤ 0) ∧ (chF J n K (bgF J n K s)).1 6 3 = (if s.1 6 1 = -1 ∨ s.1 6 1 = (c : Int) then 0 else K 2) ∧ (K 0 = 6 → ∀ j, j < n → rdL J s.1 j → kyF (J 2) c ≤ kyF (J 2) j)))) := by
    rcases bg_60o (J := J) (n := n) (K := K) (s := s) with ⟨e1, e2⟩ | ⟨e1, e2, e3⟩
    · obtain ⟨n1, n2⟩ := ch_new (J := J) (n := n) (K := K) e1
      rw [b61] at n1 n2
      refine ⟨n1, ?_⟩
      rcases n2 with q | ⟨c, q1, q2⟩
      · exact Or.inl ⟨q, e2⟩
      · exact Or.inr ⟨c, q1, Or.inr ⟨e2, q2, fun z6 j hj hr => ch_6 z6 e1 q1 j hj ((hrd j hj).mpr hr)⟩⟩
    · have e : chF J n K (bgF J n K s) = bgF J n K s := by unfold chF; rw [if_pos (by rw [e1]; exact e2)]
      rw [e]
      have hA := h.2.2.2.1.1
      exact ⟨b61, Or.inr ⟨(s.1 6 0).toNat, by rw [e1]; omega, Or.inl ⟨by omega, e3, b63⟩⟩⟩
  have c0 : (chF J n K (bgF J n K s)).1 0 = s.1 0 := (ch_o (by decide)).trans b0
  have c1 : (chF J n K (bgF J n K s)).1 1 = s.1 1 := (ch_o (by decide)).trans b1
  have c7 : (chF J n K (bgF J n K s)).1 7 = s.1 7 := (ch_o (by decide)).trans b7
  have c5 : (chF J n K (bgF J n K s)).1 5 = (bgF J n K s).1 5 := ch_o (by decide)
  have c2 : (chF J n K (bgF J n K s)).1 2 = (bgF J n K s).1 2 := ch_o (by decide)
  have c66 : (chF J n K (bgF J n K s)).1 6 6 = s.1 6 6 := ch_66.trans b66
  have hst : stF J n K s = psF J n K (chF J n K (bgF J n K s)) := rfl
  have hnr : (chF J n K (bgF J n K s)).1 6 0 = -1 → ∀ j, j < n → ¬ rdL J s.1 j := fun q j hj hr => hc.2.2 q j hj ((hrd j hj).mpr hr)
  have hyr : ∀ c : Nat, (chF J n K (bgF J n K s)).1 6 0 = (c : Int) → c < n ∧ rdL J s.1 c ∧ (K 0 = 8 → kpr J n s.1 c = -1) ∧ 0 ≤ (chF J n K (bgF J n K s)).1 6 3 ∧ 1 ≤ (chF J n K (bgF J n K s)).1 6 2 := by
    intro c q
    have hA := hc.1.2.2.2.1
    have hq : (chF J n K (bgF J n K s)).1 6 0 ≠ -1 := by omega
    have hr := hA.2.2 hq
    have e : ((chF J n K (bgF J n K s)).1 6 0).toNat = c := by omega
    have hcn : c < n := by have := hA.1; omega
    rw [e] at hr
    have hr1 : rdy (bgF J n K s).1 c := ⟨by rw [← c5]; exact hr.1.1, by rw [b0, ← c0]; exact hr.1.2⟩
    refine ⟨hcn, (hrd c hcn).mp hr1, fun z8 => ?_, hr.2.2.1.1, hc.2.1 hq⟩
    have := (hc.1.2.2.2.2.2.2 z8).2 hq (hc.2.1 hq)
    rw [e, kpr_c c0] at this
    exact this
  have hy6 : K 0 = 6 → (chF J n K (bgF J n K s)).1 6 0 ≠ -1 → (chF J n K (bgF J n K s)).1 6 2 ≤ 1 := fun z6 q => hyc (Or.inr (Or.inl z6)) q
  rw [hst]
  generalize chF J n K (bgF J n K s) = s2 at *
  have e66 := ps_66 (J := J) (n := n) (K := K) (s := s2)
  have r5 : ∀ j, (psF J n K s2).1 5 j = if j < n ∧ comP J s.1 (s.1 6 6) j then 1 else s.1 5 j := fun j => by rw [ps_5r, c5]; exact b5 j
  have r2 : ∀ j, (psF J n K s2).1 2 j = if j < n ∧ comP J s.1 (s.1 6 6) j then s.1 6 6 else s.1 2 j := fun j => by rw [ps_2r, c2]; exact b2 j
  obtain ⟨g61, hg⟩ := hch
  have k0 : keN J n K s2.1 0 = s2.1 0 := ke_o (by decide)
  have k1 : keN J n K s2.1 1 = s2.1 1 := ke_o (by decide)
  have k6 : keN J n K s2.1 6 = s2.1 6 := ke_o (by decide)
  have k7 : keN J n K s2.1 7 = s2.1 7 := ke_o (by decide)
  rcases hg with ⟨e, e2⟩ | ⟨c, e, hcase⟩
  · have hps : (psF J n K s2).1 = mup (mup s2.1 7 (s2.1 6 6).toNat (-1)) 6 6 (s2.1 6 6 + 1) := by show psN J n K s2.1 = _; unfold psN; rw [if_pos e]
    refine ⟨-1, by rw [e66, c66], r5, r2, fun b => ?_, Or.inl ⟨rfl, e2, ?_, ?_, ?_, ?_, hnr e⟩⟩
    · rw [hps, mup_nk (by omega), mup_row, c66, c7]
    · rw [hps, ← c0]; funext b; rw [mup_nk (by omega), mup_nk (by omega)]
    · rw [hps, ← c1]; funext b; rw [mup_nk (by omega), mup_nk (by omega)]
    · rw [hps, mup_ne (by omega), mup_nk (by omega)]; exact e
    · rw [hps, mup_ne (by omega), mup_nk (by omega)]; exact g61
  · obtain ⟨hcn, hrc, hk8, h63, h62⟩ := hyr c e
    have hq : s2.1 6 0 ≠ -1 := by omega
    by_cases q3 : 0 < s2.1 6 3
    · have hps : (psF J n K s2).1 = mup (mup (mup (keN J n K s2.1) 6 3 (s2.1 6 3 - 1)) 7 (s2.1 6 6).toNat (-2)) 6 6 (s2.1 6 6 + 1) := by show psN J n K s2.1 = _; unfold psN; rw [if_neg hq, if_pos q3]
      refine ⟨-2, by rw [e66, c66], r5, r2, fun b => ?_, Or.inr (Or.inl ⟨c, hcn, hrc, rfl, ?_, ?_, ?_, ?_, ?_, ?_⟩)⟩
      · rw [hps, mup_nk (by omega), mup_row, c66]
        by_cases y : b = (s.1 6 6).toNat
        · rw [if_pos y, if_pos y]
        · rw [if_neg y, if_neg y, mup_nk (by omega), k7, c7]
      · rw [hps, ← c0, ← k0]; funext b; rw [mup_nk (by omega), mup_nk (by omega), mup_nk (by omega)]
      · rw [hps, ← c1, ← k1]; funext b; rw [mup_nk (by omega), mup_nk (by omega), mup_nk (by omega)]
      · rw [hps, mup_ne (by omega), mup_nk (by omega), mup_ne (by omega), k6]; exact e
      · rw [hps, mup_ne (by omega), mup_nk (by omega), mup_ne (by omega), k6]; exact g61
      · rw [hps, mup_ne (by omega), mup_nk (by omega), mup_ne (by omega), k6]; exact h62
      · have e3 : (psF J n K s2).1 6 3 = s2.1 6 3 - 1 := by rw [hps, mup_ne (by omega), mup_nk (by omega), mup_eq]
        rw [e3]
        rcases hcase with ⟨y1, y2, y3⟩ | ⟨y1, y2, y3⟩
        · exact Or.inl ⟨y1, y2, by omega, by omega⟩
        · right
          by_cases w : s.1 6 1 = -1 ∨ s.1 6 1 = (c : Int)
          · rw [if_pos w] at y2; omega
          · rw [if_neg w] at y2
            exact ⟨y1, by omega, by omega, by omega, by omega⟩
    · have hps : (psF J n K s2).1 = wkN J (keN J n K s2.1) c (s2.1 6 6).toNat := by show psN J n K s2.1 = _; unfold psN; rw [if_neg hq, if_neg q3, e, Int.toNat_natCast]
      refine ⟨(c : Int), by rw [e66, c66], r5, r2, fun b => ?_, Or.inr (Or.inr ⟨c, hcn, hrc, rfl, fun b => ?_, fun b => ?_, ?_, ?_, ?_, hk8, fun z6 y => ?_, ?_⟩)⟩
      · rw [hps, wk_7, c66, k7, c7]
      · rw [hps, wk_0, k0, c0]
      · rw [hps, wk_1, k0, k6, k1, c0, c1, c66]
      · rw [hps, wk_60, k0, k6]
        split
        · exact Or.inl rfl
        · exact Or.inr e
      · rw [hps, wk_61]
      · rw [hps, wk_63, k6]; omega
      · have := hy6 z6 hq
        rw [hps, wk_62, k6]; omega
      · rcases hcase with ⟨y1, y2, y3⟩ | ⟨y1, y2, y3⟩
        · exact Or.inl ⟨y1, y2, by omega⟩
        · refine Or.inr ⟨y1, ?_, y3⟩
          by_cases w : s.1 6 1 = -1 ∨ s.1 6 1 = (c : Int)
          · rcases w with w | w
            · exact Or.inl w
            · exact Or.inr (Or.inl w)
          · rw [if_neg w] at y2
            exact Or.inr (Or.inr (by omega))
/-- the run from its beginning to its end T -/
def RunT (J : Mm) (n : Nat) (K : Nat → Int) (z : Int) (T : Nat) : Prop :=
  fnF J n K z = itN J n K z T ∧ (∀ i, i < T → ¬ ovr n (itN J n K z i).1) ∧ ovr n (itN J n K z T).1 ∧ T ≤ 2264 ∧ ∀ i, i ≤ T → vS J n K (itN J n K z i) ∧ vY K (itN J n K z i).1 ∧ (itN J n K z i).1 6 6 = (i : Int)
theorem it_ok (hD : okD J n) (hK : okK K) {T : Nat} (ho : ∀ i, i < T → ¬ ovr n (itN J n K z i).1) : ∀ i, i ≤ T → vS J n K (itN J n K z i) ∧ vY K (itN J n K z i).1 ∧ (itN J n K z i).1 6 6 = (i : Int) := by
  intro i
  induction i with
  | zero => intro _; exact ⟨vS_in hD, vY_in, by simp [itN, inS, inN]⟩
  | succ i ih =>
    intro hi
    obtain ⟨h1, h2, h3⟩ := ih (by omega)
    have h4 := vS_st hD hK h1 h2 (ho i (by omega))
    exact ⟨h4.1, h4.2, by show (stF J n K (itN J n K z i)).1 6 6 = _; rw [st_66, h3]; rfl⟩
theorem fn_run (hD : okD J n) (hK : okK K) (z : Int) : ∃ T, RunT J n K z T := by
  obtain ⟨T, h1, h2, h3, h4⟩ := ru_it (J := J) (n := n) (K := K) (z := z) 2304 0 (fun i hi => absurd hi (by omega))
  have e : fnF J n K z = itN J n K z T := h3
  have h5 := it_ok hD hK h4
  refine ⟨T, e, h4, by rw [← e]; exact (fn_is hD hK).2, ?_, h5⟩
  have := t_le hD (h5 T (Nat.le_refl _)).1
  rw [(h5 T (Nat.le_refl _)).2.2] at this
  omega
theorem it_log {T : Nat} (hD : okD J n) (hK : okK K) (h : RunT J n K z T) : ∀ d t, t + d ≤ T → ∀ b, b < t → (itN J n K z (t + d)).1 7 b = (itN J n K z t).1 7 b := by
  intro d
  induction d with
  | zero => intro t _ b _; rfl
  | succ d ih =>
    intro t ht b hb
    have h5 := h.2.2.2.2 (t + d) (by omega)
    obtain ⟨g, hg⟩ := st_gen hD hK h5.1 h5.2.1
    have := hg.2.2.2.1 b
    rw [h5.2.2, if_neg (by omega)] at this
    exact this.trans (ih t (by omega) b hb)
/-- a moment of the run, by the log of the whole run -/
theorem run_st {T : Nat} (hD : okD J n) (hK : okK K) (h : RunT J n K z T) (ht : t < T) : stG J n K (itN J n K z t) (itN J n K z (t + 1)) ((fnF J n K z).1 7 t) := by
  have h5 := h.2.2.2.2 t (by omega)
  obtain ⟨g, hg⟩ := st_gen hD hK h5.1 h5.2.1
  have e := hg.2.2.2.1 t
  rw [h5.2.2, if_pos (by omega)] at e
  have e2 := it_log hD hK h (T - (t + 1)) (t + 1) (by omega) t (by omega)
  rw [show t + 1 + (T - (t + 1)) = T by omega, ← h.1] at e2
  have e3 : (fnF J n K z).1 7 t = g := e2.trans e
  rw [e3]; exact hg
/-- the job at which it worked last, the moments of changing since -/
def lstN (g : Nat → Int) : Nat → Int
  | 0 => -1
  | t + 1 => if 0 ≤ g t then g t else lstN g t
def chgN (g : Nat → Int) : Nat → Int
  | 0 => 0
  | t + 1 => if g t = -2 then chgN g t + 1 else if 0 ≤ g t then 0 else chgN g t
/-- changes told and still ahead -/
def CIv (K : Nat → Int) (σ : Mm) (ch : Int) : Prop := (σ 6 0 = -1 ∨ σ 6 2 ≤ 0 → ch = 0) ∧ (σ 6 0 ≠ -1 → 1 ≤ σ 6 2 → 0 ≤ σ 6 3 ∧ if σ 6 1 ≠ -1 ∧ σ 6 1 ≠ σ 6 0 then ch + σ 6 3 = K 2 else ch = 0 ∧ σ 6 3 = 0)
theorem run_ch {T : Nat} (hD : okD J n) (hK : okK K) (h : RunT J n K z T) : ∀ t, t ≤ T → (itN J n K z t).1 6 1 = lstN ((fnF J n K z).1 7) t ∧ CIv K (itN J n K z t).1 (chgN ((fnF J n K z).1 7) t) ∧ 0 ≤ chgN ((fnF J n K z).1 7) t := by
  intro t
  induction t with
  | zero =>
    intro _
    have e60 : (itN J n K z 0).1 6 0 = -1 := by simp [itN, inS, inN]
    exact ⟨by simp [itN, inS, inN, lstN], ⟨fun _ => rfl, fun q => absurd e60 q⟩, Int.le_refl _⟩
  | succ t ih =>
    intro ht
    obtain ⟨i1, ⟨i2, i3⟩, i4⟩ := ih (by omega)
    have hs := run_st hD hK h (show t < T by omega)
    generalize itN J n K z (t + 1) = s' at hs ⊢
    generalize itN J n K z t = s at hs i1 i2 i3
    generalize hg : (fnF J n K z).1 7 = g at hs i1 i2 i3 i4 ⊢
    obtain ⟨-, -, -, -, hs⟩ := hs
    rcases hs with ⟨q0, q1, -, -, q4, q5, -⟩ | ⟨c, q1, -, q3, -, -, q6, q7, q8, q9⟩ | ⟨c, q1, -, q3, -, -, q6, q7, q8, -, -, q9⟩
    · have e1 : lstN g (t + 1) = lstN g t := by simp only [lstN]; rw [if_neg (by omega)]
      have e2 : chgN g (t + 1) = chgN g t := by simp only [chgN]; rw [if_neg (by omega), if_neg (by omega)]
      rw [e1, e2]
      exact ⟨by rw [q5, i1], ⟨fun _ => i2 q1, fun q => absurd q4 q⟩, i4⟩
    · have e1 : lstN g (t + 1) = lstN g t := by simp only [lstN]; rw [if_neg (by omega)]
      have e2 : chgN g (t + 1) = chgN g t + 1 := by simp only [chgN]; rw [if_pos q3]
      rw [e1, e2]
      refine ⟨by rw [q7, i1], ⟨fun q => ?_, fun _ _ => ?_⟩, by omega⟩
      · rcases q with q | q <;> omega
      · rw [q6, q7]
        rcases q9 with ⟨y1, y2, y3, y4⟩ | ⟨y1, y2, y3, y4, y5⟩
        · have := i3 (by omega) y2
          rw [y1] at this
          by_cases w : s.1 6 1 ≠ -1 ∧ s.1 6 1 ≠ (c : Int)
          · rw [if_pos w] at this ⊢
            omega
          · rw [if_neg w] at this
            omega
        · have := i2 y1
          rw [if_pos ⟨y2, y3⟩]
          omega
    · have e1 : lstN g (t + 1) = (c : Int) := by simp only [lstN]; rw [if_pos (by omega), q3]
      have e2 : chgN g (t + 1) = 0 := by simp only [chgN]; rw [if_neg (by omega), if_pos (by omega)]
      rw [e1, e2]
      refine ⟨q7, ⟨fun _ => rfl, fun y1 _ => ?_⟩, Int.le_refl _⟩
      rcases q6 with q6 | q6
      · exact absurd q6 y1
      · rw [q7, q6, if_neg (fun w => w.2 rfl)]
        omega
/-- behind the changes that are wanted, it works -/
theorem run_cost {T : Nat} (hD : okD J n) (hK : okK K) (h : RunT J n K z T) (ht : t < T) (hg : 0 ≤ (fnF J n K z).1 7 t) : chgN ((fnF J n K z).1 7) t = if 0 ≤ lstN ((fnF J n K z).1 7) t ∧ lstN ((fnF J n K z).1 7) t ≠ (fnF J n K z).1 7 t then K 2 else 0 := by
  obtain ⟨i1, ⟨i2, i3⟩, i4⟩ := run_ch hD hK h t (by omega)
  have hs := run_st hD hK h ht
  have hA := (h.2.2.2.2 t (by omega)).1.2.2.2.1.2.1
  generalize itN J n K z (t + 1) = s' at hs
  generalize itN J n K z t = s at hs i1 i2 i3 hA
  generalize (fnF J n K z).1 7 = g at *
  obtain ⟨-, -, -, -, hs⟩ := hs
  rw [← i1]
  rcases hs with ⟨q0, -⟩ | ⟨c, q1, -, q3, -⟩ | ⟨c, q1, -, q3, -, -, q6, q7, q8, -, -, q9⟩
  · omega
  · omega
  · rcases q9 with ⟨y1, y2, y3⟩ | ⟨y1, y2, -⟩
    · have := (i3 (by omega) y2).2
      rw [y1] at this
      by_cases w : s.1 6 1 ≠ -1 ∧ s.1 6 1 ≠ (c : Int)
      · rw [if_pos w] at this
        rw [if_pos (by omega)]; omega
      · rw [if_neg w] at this
        rw [if_neg (by omega)]; omega
    · rw [i2 y1]
      rcases y2 with y2 | y2 | y2
      · rw [if_neg (by omega)]
      · rw [if_neg (by omega)]
      · rw [y2]; split <;> rfl
end
