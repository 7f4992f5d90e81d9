/-! ===== RING: the bound along a run ===== -/
/-- the bound for j, behind t moments, told by the log -/
def RG (n : Nat) (q : Int) (s : St) (j t : Nat) : Prop := ∀ f, f < t → (∀ b, b < f → s.1 7 b ≠ (j : Int)) → s.1 7 f = (j : Int) → (gpS (s.1 7) (j : Int) f (t - f)).2 ≤ ((n : Int) - 1) * q ∧ (0 < s.1 0 j → rgW n q s j (t : Int) ((gpS (s.1 7) (j : Int) f (t - f)).1 : Int))
section
variable {J : Mm} {n : Nat} {K : Nat → Int} {s : St} {j t : Nat}
theorem RG_st (hD : okD J n) (hK : okK K) (hS : vS J n K s) (hy : vY K s.1) (h0 : K 0 = 0) (h2 : K 2 = 0) (h3 : s.1 6 3 = 0) (ht : s.1 6 6 = (t : Int)) (hj : j < n) (h : RG n (K 1) s j t) : RG n (K 1) (stF J n K s) j (t + 1) := by
  have hq : 1 ≤ K 1 := hK.2.1.1
  have hnq : 0 ≤ ((n : Int) - 1) * K 1 := Int.mul_nonneg (by omega) (by omega)
  have hb := vS_bg (K := K) hD hS
  have hc := vS_ch hD hK hb.1 hb.2
  have b0 : (bgF J n K s).1 0 = s.1 0 := bg_o (by decide) (by decide) (by decide) (by decide)
  have b7 : (bgF J n K s).1 7 = s.1 7 := bg_o (by decide) (by decide) (by decide) (by decide)
  have b66 : (bgF J n K s).1 6 6 = s.1 6 6 := bg_6 (by decide)
  have b63 : (bgF J n K s).1 6 3 = 0 := (bg_6 (by decide)).trans h3
  have c0 : (chF J n K (bgF J n K s)).1 0 = s.1 0 := (ch_o (by decide)).trans b0
  have c7 : (chF J n K (bgF J n K s)).1 7 = s.1 7 := (ch_o (by decide)).trans b7
  have c66 : (chF J n K (bgF J n K s)).1 6 6 = s.1 6 6 := ch_66.trans b66
  have c63 := ch_63 (J := J) (n := n) h2 b63
  have hrg := fun (x : Int) (hr : rgW n (K 1) s j (t : Int) x) => rg_ch (J := J) h0 (rg_bg (K := K) hD hS h0 hq hj hr)
  have hst : stF J n K s = psF J n K (chF J n K (bgF J n K s)) := rfl
  rw [hst]
  generalize chF J n K (bgF J n K s) = s2 at *
  have t66 : (s2.1 6 6).toNat = t := by rw [c66, ht]; rfl
  intro f hf hf1 hf2
  by_cases e : s2.1 6 0 = -1
  · have hps : (psF J n K s2).1 = mup (mup s2.1 7 t (-1)) 6 6 (s2.1 6 6 + 1) := by show psN J n K s2.1 = _; unfold psN; rw [if_pos e, t66]
    have p7 : ∀ b, (psF J n K s2).1 7 b = if b = t then -1 else s.1 7 b := fun b => by rw [hps, mup_nk (by omega), mup_row, c7]
    have p0 : (psF J n K s2).1 0 j = s.1 0 j := by rw [hps, mup_nk (by omega), mup_nk (by omega), c0]
    have hft : f < t := by
      by_cases q : f = t
      · rw [p7, if_pos q] at hf2; omega
      · omega
    have hpre : ∀ b, b < t → (psF J n K s2).1 7 b = s.1 7 b := fun b hb => by rw [p7, if_neg (by omega)]
    have hh := h f hft (fun b hb => by rw [← hpre b (by omega)]; exact hf1 b hb) (by rw [← hpre f hft]; exact hf2)
    have ek : t + 1 - f = (t - f) + 1 := by omega
    have eg : gpS ((psF J n K s2).1 7) (j : Int) f (t + 1 - f) = gpS (s.1 7) (j : Int) f (t - f) := by
      rw [ek]; simp only [gpS]
      rw [show f + (t - f) = t by omega, p7 t, if_pos rfl, if_neg (by omega)]
      exact gpS_c (fun b hb => hpre b (by omega))
    rw [eg]
    refine ⟨hh.1, fun z => ?_⟩
    rw [p0] at z
    rcases hrg _ (hh.2 z) with ⟨y, -⟩ | ⟨y, -⟩ <;> omega
  · have hA := hc.1.2.2.2.1
    obtain ⟨c, hcc, hcn⟩ : ∃ c : Nat, s2.1 6 0 = (c : Int) ∧ c < n := ⟨(s2.1 6 0).toNat, by have := hA.1; omega, by have := hA.1; omega⟩
    have hr := (hA.2.2 e).1
    have h62 := hc.2.1 e
    rw [hcc, Int.toNat_natCast] at hr
    have hps : (psF J n K s2).1 = wkN J (keN J n K s2.1) c t := by show psN J n K s2.1 = _; unfold psN; rw [if_neg e, if_neg (by omega), hcc, Int.toNat_natCast, t66]
    have hps2 : (psF J n K s2).2 = s2.2 := rfl
    have k0 : keN J n K s2.1 0 = s2.1 0 := ke_o (by decide)
    have k6 : keN J n K s2.1 6 = s2.1 6 := ke_o (by decide)
    have k7 : keN J n K s2.1 7 = s2.1 7 := ke_o (by decide)
    have p7 : ∀ b, (psF J n K s2).1 7 b = if b = t then (c : Int) else s.1 7 b := fun b => by rw [hps, wk_7, k7, c7]
    have p0 : ∀ b, (psF J n K s2).1 0 b = if b = c then s.1 0 c - 1 else s.1 0 b := fun b => by rw [hps, wk_0, k0, c0]
    have p60 : (psF J n K s2).1 6 0 = if s.1 0 c = 1 then -1 else (c : Int) := by rw [hps, wk_60, k0, k6, c0, hcc]
    have p62 : (psF J n K s2).1 6 2 = s2.1 6 2 - 1 := by rw [hps, wk_62, k6]
    have hpre : ∀ b, b < t → (psF J n K s2).1 7 b = s.1 7 b := fun b hb => by rw [p7, if_neg (by omega)]
    have hlc : 0 < s.1 0 c := by rw [← c0]; exact hr.2
    have ek : f < t → t + 1 - f = (t - f) + 1 := fun q => by omega
    by_cases ec : c = j
    · -- j works
      subst ec
      have fin : 0 < (psF J n K s2).1 0 c → (psF J n K s2).1 6 0 = (c : Int) := fun z => by
        rw [p0, if_pos rfl] at z
        rw [p60, if_neg (by omega)]
      by_cases hft : f < t
      · have hh := h f hft (fun b hb => by rw [← hpre b (by omega)]; exact hf1 b hb) (by rw [← hpre f hft]; exact hf2)
        have hgl := gpS_le (g := s.1 7) (j := (c : Int)) (f := f) (t - f)
        have hx := hrg _ (hh.2 hlc)
        have hgap : (t : Int) - ((gpS (s.1 7) (c : Int) f (t - f)).1 : Int) ≤ ((n : Int) - 1) * K 1 := by
          rcases hx with ⟨-, y | y⟩ | ⟨-, ⟨y1, y2⟩ | ⟨pre, post, y1, y2⟩⟩
          · omega
          · exact y
          · omega
          · rw [if_pos e] at y2
            have : 0 ≤ K 1 * (pre.length : Int) := Int.mul_nonneg (by omega) (by omega)
            omega
        have eg : gpS ((psF J n K s2).1 7) (c : Int) f (t + 1 - f) = (t + 1, if (gpS (s.1 7) (c : Int) f (t - f)).2 < (t : Int) - ((gpS (s.1 7) (c : Int) f (t - f)).1 : Int) then (t : Int) - ((gpS (s.1 7) (c : Int) f (t - f)).1 : Int) else (gpS (s.1 7) (c : Int) f (t - f)).2) := by
          rw [ek hft]; simp only [gpS]
          rw [show f + (t - f) = t by omega, p7 t, if_pos rfl, if_pos rfl, gpS_c (g := s.1 7) (fun b hb => hpre b (by omega))]
        rw [eg]
        refine ⟨?_, fun z => Or.inl ⟨fin z, rfl⟩⟩
        show (if _ then _ else _ : Int) ≤ _
        split
        · exact hgap
        · exact hh.1
      · have eft : f = t := by omega
        subst eft
        have eg : gpS ((psF J n K s2).1 7) (c : Int) f (f + 1 - f) = (f + 1, 0) := by
          rw [show f + 1 - f = 0 + 1 by omega]
          have e0 : ∀ G : Nat → Int, gpS G (c : Int) f (0 + 1) = if G (f + 0) = (c : Int) then (f + 0 + 1, if (0 : Int) < ((f + 0 : Nat) : Int) - (f : Int) then ((f + 0 : Nat) : Int) - (f : Int) else 0) else (f, 0) := fun _ => rfl
          rw [e0, Nat.add_zero, p7, if_pos rfl, if_pos rfl, if_neg (by omega)]
        rw [eg]
        exact ⟨hnq, fun z => Or.inl ⟨fin z, rfl⟩⟩
    · -- another one works
      have hft : f < t := by
        by_cases q : f = t
        · rw [p7, if_pos q] at hf2; omega
        · omega
      have hh := h f hft (fun b hb => by rw [← hpre b (by omega)]; exact hf1 b hb) (by rw [← hpre f hft]; exact hf2)
      have eg : gpS ((psF J n K s2).1 7) (j : Int) f (t + 1 - f) = gpS (s.1 7) (j : Int) f (t - f) := by
        rw [ek hft]; simp only [gpS]
        rw [show f + (t - f) = t by omega, p7 t, if_pos rfl, if_neg (by omega)]
        exact gpS_c (fun b hb => hpre b (by omega))
      rw [eg]
      refine ⟨hh.1, fun z => ?_⟩
      rw [p0, if_neg (Ne.symm ec)] at z
      rcases hrg _ (hh.2 z) with ⟨y, -⟩ | ⟨-, ⟨y1, -⟩ | ⟨pre, post, y1, y2⟩⟩
      · omega
      · omega
      · refine Or.inr ⟨pre, post, by rw [hps2]; exact y1, ?_⟩
        rw [if_pos e] at y2
        rw [p62, p60]
        split <;> split <;> omega
theorem RG_ru (hD : okD J n) (hK : okK K) (h0 : K 0 = 0) (h2 : K 2 = 0) (hj : j < n) : ∀ (d : Nat) (s : St) (t : Nat), vS J n K s → vY K s.1 → vR n s.1 → RI J n K s t → RG n (K 1) s j t → ∃ T, RI J n K (ruF J n K d s) T ∧ RG n (K 1) (ruF J n K d s) j T := by
  intro d
  induction d with
  | zero => intro s t _ _ _ h hg; exact ⟨t, h, hg⟩
  | succ d ih =>
    intro s t hS hy hr h hg
    unfold ruF
    by_cases c : ovr n s.1
    · rw [if_pos c]; exact ⟨t, h, hg⟩
    · rw [if_neg c]
      have h1 := vS_st hD hK hS hy c
      exact ih _ (t + 1) h1.1 h1.2 (vR_st hD hK hS) (RI_st h (fun j hj => (hS.1.2 j hj).2.1.1) c (st_log hD hK hS hy h2 h.2.1 h.2.2.1)) (RG_st hD hK hS hy h0 h2 h.2.1 h.1 hj hg)
/-- between two pieces of a job each other one has at most one slice -/
theorem fn_ring (hD : okD J n) (hK : okK K) (h0 : K 0 = 0) (h2 : K 2 = 0) (hj : j < n) {z : Int} : ∀ f, f < ((fnF J n K z).1 6 6).toNat → (∀ b, b < f → (fnF J n K z).1 7 b ≠ (j : Int)) → (fnF J n K z).1 7 f = (j : Int) → gapJ ((fnF J n K z).1 7) (j : Int) (((fnF J n K z).1 6 6).toNat - f) f (f : Int) 0 ≤ ((n : Int) - 1) * K 1 := by
  obtain ⟨T, h, hg⟩ := RG_ru hD hK h0 h2 hj 2304 (inS J z) 0 (vS_in hD) vY_in vR_in (RI_in hD) (fun f hf => absurd hf (by omega))
  have h : RI J n K (fnF J n K z) T := h
  have hg : RG n (K 1) (fnF J n K z) j T := hg
  have e : ((fnF J n K z).1 6 6).toNat = T := by rw [h.1]; rfl
  rw [e]
  intro f hf h3 h4
  rw [gap_0]
  exact (hg f hf h3 h4).1
end
