/-! ===== RANKS, lent: how long the highest is kept waiting ===== -/
/-- what the others' stretches allow, for the stretches of j that have begun before w moments of its work -/
def hsM (J : Mm) (n j : Nat) (w : Int) : Nat → Int
  | 0 => 0
  | i + 1 => hsM J n j w i + if J 7 (3 * j + i) < w then lRest (J 5) (J 6) (J 7) (J 8) j (J 6 (3 * j + i)) (3 * n) else 0
section
variable {J σ σ' : Mm} {n j : Nat} {K : Nat → Int} {s : St} {t : Nat} {w w' : Int} {k lo lf lt : Nat → Int} {y : Int}
theorem lRest_nn : ∀ m : Nat, 0 ≤ lRest k lo lf lt j y m := by
  intro m
  induction m with
  | zero => exact Int.le_refl _
  | succ m ih => simp only [lRest]; split <;> (try split) <;> omega
theorem lRest_ge {x b : Nat} (hb : b < 3) (h1 : (b : Int) < k x) (h2 : x ≠ j) (h3 : lo (3 * x + b) = y) : ∀ m : Nat, 3 * x + b < m → lt (3 * x + b) - lf (3 * x + b) - 1 ≤ lRest k lo lf lt j y m := by
  intro m
  induction m with
  | zero => intro h; omega
  | succ m ih =>
    intro h
    simp only [lRest]
    by_cases e : 3 * x + b = m
    · subst e
      rw [if_pos ⟨by rw [show (3 * x + b) % 3 = b by omega, show (3 * x + b) / 3 = x by omega]; exact h1, by omega, h3⟩]
      split <;> omega
    · have := ih (by omega)
      split <;> (try split) <;> omega
theorem hsM_mono (h : w ≤ w') : ∀ c : Nat, hsM J n j w c ≤ hsM J n j w' c := by
  intro c
  induction c with
  | zero => exact Int.le_refl _
  | succ c ih =>
    simp only [hsM]
    have := lRest_nn (k := J 5) (lo := J 6) (lf := J 7) (lt := J 8) (j := j) (y := J 6 (3 * j + c)) (3 * n)
    split <;> split <;> omega
theorem hsM_step {i : Nat} (h : J 7 (3 * j + i) = w) : ∀ c : Nat, i < c → hsM J n j w c + lRest (J 5) (J 6) (J 7) (J 8) j (J 6 (3 * j + i)) (3 * n) ≤ hsM J n j (w + 1) c := by
  intro c
  induction c with
  | zero => intro q; omega
  | succ c ih =>
    intro q
    simp only [hsM]
    by_cases e : i = c
    · subst e
      have := hsM_mono (J := J) (n := n) (j := j) (w := w) (w' := w + 1) (by omega) i
      rw [if_neg (by omega), if_pos (by omega)]; omega
    · have := ih (by omega)
      have := lRest_nn (k := J 5) (lo := J 6) (lf := J 7) (lt := J 8) (j := j) (y := J 6 (3 * j + c)) (3 * n)
      split <;> split <;> omega
theorem hsM_most : ∀ c : Nat, hsM J n j w c ≤ lMost (J 5) (J 6) (J 7) (J 8) n j c := by
  intro c
  induction c with
  | zero => exact Int.le_refl _
  | succ c ih =>
    simp only [hsM, lMost]
    have := lRest_nn (k := J 5) (lo := J 6) (lf := J 7) (lt := J 8) (j := j) (y := J 6 (3 * j + c)) (3 * n)
    split <;> omega
theorem hd_of (hD : okD J n) {x b : Nat} (hx : x < n) (hb : b < (J 5 x).toNat) (h1 : J 7 (3 * x + b) < J 1 x - σ 0 x) (h2 : J 1 x - σ 0 x < J 8 (3 * x + b)) : hdF J σ x = J 6 (3 * x + b) := by
  rcases hdF_is (σ := σ) hD hx with ⟨-, q⟩ | ⟨z, q1, ⟨q2, q3⟩, q4⟩
  · exact absurd ⟨h1, h2⟩ (q b hb)
  · rw [q4, okD_o (z := J 1 x - σ 0 x) hD hx q1 hb (by omega) q3 (by omega) h2]
/-- what may have been waited for by j, by now -/
def HI (J : Mm) (n j : Nat) (σ : Mm) : Prop :=
  σ 4 j ≤ hsM J n j (J 1 j - σ 0 j) (J 5 j).toNat ∨ (rdy σ j ∧ kpr J n σ j = -1 ∧ σ 4 j ≤ hsM J n j (J 1 j - σ 0 j + 1) (J 5 j).toNat) ∨
  (rdy σ j ∧ ∃ x b : Nat, x < n ∧ kpr J n σ j = (x : Int) ∧ b < (J 5 x).toNat ∧ J 7 (3 * x + b) < J 1 x - σ 0 x ∧ J 1 x - σ 0 x < J 8 (3 * x + b) ∧ σ 4 j + (J 8 (3 * x + b) - (J 1 x - σ 0 x)) ≤ hsM J n j (J 1 j - σ 0 j + 1) (J 5 j).toNat)
theorem HI_c (h0 : σ' 0 = σ 0) (h4 : σ' 4 j = σ 4 j) (hr : rdy σ j → rdy σ' j) (h : HI J n j σ) : HI J n j σ' := by
  unfold HI at h ⊢
  rw [h0, h4, kpr_c h0]
  rcases h with h | ⟨h1, h2⟩ | ⟨h1, h2⟩
  · exact Or.inl h
  · exact Or.inr (Or.inl ⟨hr h1, h2⟩)
  · exact Or.inr (Or.inr ⟨hr h1, h2⟩)
/-- j is kept by x: x has so much left of its stretch -/
theorem HI_blk (hD : okD J n) (hu : ∀ i j, i < n → j < n → i ≠ j → hdF J σ i = hdF J σ j → hdF J σ i = -1) (hj : j < n) {x : Nat} (hk : kpr J n σ j = (x : Int)) (h : HI J n j σ) : ∃ b : Nat, b < (J 5 x).toNat ∧ J 7 (3 * x + b) < J 1 x - σ 0 x ∧ J 1 x - σ 0 x < J 8 (3 * x + b) ∧ ndF J σ j = J 6 (3 * x + b) ∧ σ 4 j + (J 8 (3 * x + b) - (J 1 x - σ 0 x)) ≤ hsM J n j (J 1 j - σ 0 j + 1) (J 5 j).toNat := by
  rcases kpr_is (J := J) (n := n) (σ := σ) j with ⟨q, -⟩ | ⟨x', k1, k2, k3, k4, k5⟩
  · omega
  have ex : x' = x := by omega
  subst ex
  have hxn : hdF J σ x' ≠ -1 := by rw [k4]; exact k3
  rcases hdF_is (σ := σ) hD k1 with ⟨q, -⟩ | ⟨b, b1, ⟨b2, b3⟩, b4⟩
  · exact absurd q hxn
  refine ⟨b, b1, b2, b3, by rw [← k4, b4], ?_⟩
  rcases h with h | ⟨-, h, -⟩ | ⟨-, x, b', h1, h2, h3, h4, h5, h6⟩
  · rcases ndF_is (σ := σ) hD hj with ⟨q, -⟩ | ⟨i, i1, ⟨i2, i3⟩, i4⟩
    · exact absurd q k3
    have e7 : J 7 (3 * j + i) = J 1 j - σ 0 j := by
      by_cases q : J 7 (3 * j + i) < J 1 j - σ 0 j
      · have q2 := hd_of (σ := σ) hD hj i1 q i3
        exact absurd (hu x' j k1 hj k2 (by rw [k4, i4, q2])) hxn
      · omega
    have q1 := hsM_step (n := n) e7 (J 5 j).toNat i1
    have q2 := lRest_ge (k := J 5) (lo := J 6) (lf := J 7) (lt := J 8) (j := j) (x := x') (b := b) (y := J 6 (3 * j + i)) (by have := okD_k hD k1; omega) (by omega) k2 (by rw [← b4, k4, i4]) (3 * n) (by have := okD_k hD k1; omega)
    have q3 := okD_s hD k1 b1
    omega
  · omega
  · have ex : x = x' := by omega
    subst ex
    have eb := okD_o (z := J 1 x - σ 0 x) hD k1 h3 b1 (by omega) h5 (by omega) b3
    subst eb
    exact h6
theorem rk_lt {le : Int} (top : ∀ i, i < n → i ≠ j → J 3 i < J 3 j) {i : Nat} (hi : i < n) (hij : i ≠ j) (hk : kpr J n σ j ≠ (i : Int)) : ∀ m : Nat, m ≤ n → rkF J n σ le i m < J 3 j := by
  intro m
  induction m with
  | zero => intro _; exact top i hi hij
  | succ m ih =>
    intro q
    simp only [rkF]
    split
    · rename_i z
      by_cases e : m = j
      · subst e; exact absurd z.2.2.1 hk
      · exact top m (by omega) e
    · exact ih (by omega)
theorem rk_ge {le : Int} {i : Nat} (h : J 3 j ≤ J 3 i ∨ (le ≠ 0 ∧ rdy σ j ∧ kpr J n σ j = (i : Int))) : ∀ m : Nat, (j < m ∨ J 3 j ≤ J 3 i) → J 3 j ≤ rkF J n σ le i m := by
  intro m
  induction m with
  | zero => intro q; show _ ≤ J 3 i; omega
  | succ m ih =>
    intro q
    simp only [rkF]
    by_cases e : j < m ∨ J 3 j ≤ J 3 i
    · have := ih e
      split <;> omega
    · have em : m = j := by omega
      subst em
      have h := h.resolve_left (fun z => e (Or.inr z))
      split
      · exact Int.le_refl _
      · rename_i z
        by_cases q2 : rkF J n σ le i m < J 3 m
        · exact absurd ⟨h.1, h.2.1, h.2.2, q2⟩ z
        · omega
/-- who is at work where j could be, or is kept -/
theorem ch_8 (hD : okD J n) (hB : vB J n s.1) (hu : ∀ i j, i < n → j < n → i ≠ j → hdF J s.1 i = hdF J s.1 j → hdF J s.1 i = -1) (h8 : K 0 = 8) (hl : K 3 ≠ 0) (h0 : s.1 6 0 = -1) (hj : j < n) (top : ∀ i, i < n → i ≠ j → J 3 i < J 3 j) (hr : rdy s.1 j) {x : Nat} (hx : (kpr J n s.1 j = -1 ∧ x = j) ∨ kpr J n s.1 j = (x : Int)) : (chF J n K s).1 6 0 = (x : Int) := by
  have e : chF J n K s = if pkF J n K s.1 = -1 then s else (tkN J K (seN K s.1) 0 (pkF J n K s.1).toNat, s.2) := by
    unfold chF; rw [if_neg (fun z => z h0), if_neg (by omega)]
  have ep : pkF J n K s.1 = bsF J n K s.1 n := by unfold pkF; rw [if_neg (by omega)]
  have kk : ∀ i, keyR J n K s.1 i = - rkF J n s.1 (K 3) i n := fun i => by unfold keyR; rw [if_neg (by omega), if_neg (by omega), if_neg (by omega), if_neg (by omega), if_neg (by omega)]
  have hxn : x < n ∧ okR J n K s.1 x ∧ J 3 j ≤ rkF J n s.1 (K 3) x n := by
    rcases hx with ⟨h1, h2⟩ | h1
    · subst h2; exact ⟨hj, ⟨hr, fun _ => h1⟩, rk_ge (Or.inl (Int.le_refl _)) n (Or.inl hj)⟩
    · rcases kpr_is (J := J) (n := n) (σ := s.1) j with ⟨q, -⟩ | ⟨x', k1, k2, k3, k4, k5⟩
      · omega
      have ex : x' = x := by omega
      subst ex
      have hxh : hdF J s.1 x' ≠ -1 := by rw [k4]; exact k3
      refine ⟨k1, ⟨hd_rdy hD hB k1 hxh, fun _ => ?_⟩, rk_ge (Or.inr ⟨hl, hr, h1⟩) n (Or.inl hj)⟩
      have e := hd_nd hD k1 hxh
      rcases kpr_is (J := J) (n := n) (σ := s.1) x' with ⟨q1, -⟩ | ⟨y, q1, q2, q3, q4, q5⟩
      · exact q1
      · exact absurd (hu x' y k1 q1 (Ne.symm q2) (by rw [q4, e])) hxh
  have hlt : ∀ i, i < n → i ≠ x → okR J n K s.1 i → rkF J n s.1 (K 3) i n < J 3 j := by
    intro i hi hix hok
    have hij : i ≠ j := by
      intro z; subst z
      have := hok.2 h8
      rcases hx with ⟨-, h2⟩ | h1 <;> omega
    refine rk_lt top hi hij ?_ n (Nat.le_refl _)
    rcases hx with ⟨h1, -⟩ | h1 <;> omega
  rw [e]
  rcases bsF_is J n K s.1 n with ⟨-, q2⟩ | ⟨i, q1, q2, q3, q4⟩
  · exact absurd hxn.2.1 (q2 x hxn.1)
  · have h5 := q4 x hxn.1 hxn.2.1
    rw [kk, kk] at h5
    have eix : i = x := by
      by_cases q : i = x
      · exact q
      · have := hlt i q1 q q3
        have := hxn.2.2
        omega
    rw [if_neg (by omega)]
    show tkN J K (seN K s.1) 0 (pkF J n K s.1).toNat 6 0 = _
    rw [tk_60, ep, q2, eix]; rfl
theorem HI_st (hD : okD J n) (hK : okK K) (hS : vS J n K s) (hy : vY K s.1) (h8 : K 0 = 8) (hl : K 3 ≠ 0) (h2 : K 2 = 0) (h3 : s.1 6 3 = 0) (h6 : s.1 6 0 ≠ -1 → s.1 6 2 ≤ 0) (hj : j < n) (top : ∀ i, i < n → i ≠ j → J 3 i < J 3 j) (h : HI J n j s.1) : HI J n j (stF J n K s).1 ∧ ((stF J n K s).1 6 0 ≠ -1 → (stF J n K s).1 6 2 ≤ 0) := by
  have hb := vS_bg (K := K) hD hS
  have hc := vS_ch hD hK hb.1 hb.2
  have hyc : vY K (chF J n K (bgF J n K s)).1 := vY_ch (vY_bg hy)
  have b0 : (bgF J n K s).1 0 = s.1 0 := bg_o (by decide) (by decide) (by decide) (by decide)
  have b4 : (bgF J n K s).1 4 = s.1 4 := bg_o (by decide) (by decide) (by decide) (by decide)
  have b5 : rdy s.1 j → rdy (bgF J n K s).1 j := fun z => ⟨by rw [bg_ad (by decide), ad_5]; split; rfl; exact z.1, by rw [b0]; exact z.2⟩
  have b63 : (bgF J n K s).1 6 3 = 0 := (bg_6 (by decide)).trans h3
  have b60 : (bgF J n K s).1 6 0 = -1 := by
    by_cases e : (bgF J n K s).1 6 0 = -1
    · exact e
    · exfalso
      rcases bg_60 (J := J) (n := n) (K := K) (s := s) with z | z
      · exact e z
      · have := h6 (by rw [← z]; exact e)
        have h7 := hb.2 e
        rw [bg_6 (by decide)] at h7
        omega
  have hbH : HI J n j (bgF J n K s).1 := HI_c b0 (by rw [b4]) b5 h
  have hub := (hb.1.2.2.2.2.2.2 h8).1
  have hch := fun (x : Nat) (z : rdy (bgF J n K s).1 j) (q : (kpr J n (bgF J n K s).1 j = -1 ∧ x = j) ∨ kpr J n (bgF J n K s).1 j = (x : Int)) => ch_8 (K := K) (s := bgF J n K s) hD hb.1.1 hub h8 hl b60 hj top z q
  have c0 : (chF J n K (bgF J n K s)).1 0 = (bgF J n K s).1 0 := ch_o (by decide)
  have c4 : (chF J n K (bgF J n K s)).1 4 = (bgF J n K s).1 4 := ch_o (by decide)
  have c5 : (chF J n K (bgF J n K s)).1 5 = (bgF J n K s).1 5 := ch_o (by decide)
  have cr : rdy (bgF J n K s).1 j ↔ rdy (chF J n K (bgF J n K s)).1 j := by unfold rdy; rw [c0, c5]
  have ck := kpr_c (J := J) (n := n) c0 j
  rw [← ck] at hch
  have hcH : HI J n j (chF J n K (bgF J n K s)).1 := HI_c c0 (by rw [c4]) cr.1 hbH
  have c63 := ch_63 (J := J) (n := n) h2 b63
  have huc := (hc.1.2.2.2.2.2.2 h8).1
  have hch2 := fun (x : Nat) (z : rdy (chF J n K (bgF J n K s)).1 j) q => hch x (cr.2 z) q
  clear hch hub hbH h b5 b0 b4 b63 b60 c0 c4 c5 cr ck
  have hst : stF J n K s = psF J n K (chF J n K (bgF J n K s)) := rfl
  rw [hst]
  generalize chF J n K (bgF J n K s) = s2 at *
  by_cases e : s2.1 6 0 = -1
  · have hps : (psF J n K s2).1 = mup (mup s2.1 7 (s2.1 6 6).toNat (-1)) 6 6 (s2.1 6 6 + 1) := by show psN J n K s2.1 = _; unfold psN; rw [if_pos e]
    have p : ∀ a, a ≠ 6 → a ≠ 7 → (psF J n K s2).1 a = s2.1 a := fun a q1 q2 => by rw [hps]; funext b; rw [mup_nk (by omega), mup_nk (by omega)]
    refine ⟨HI_c (p 0 (by decide) (by decide)) (by rw [p 4 (by decide) (by decide)]) (fun z => by unfold rdy; rw [p 0 (by decide) (by decide), p 5 (by decide) (by decide)]; exact z) hcH, fun z => ?_⟩
    rw [hps, mup_ne (by omega), mup_nk (by omega)] at z; exact absurd e z
  · have hA := hc.1.2.2.2.1
    obtain ⟨c, hcc, hcn⟩ : ∃ c : Nat, s2.1 6 0 = (c : Int) ∧ c < n := ⟨(s2.1 6 0).toNat, by have := hA.1; omega, by have := hA.1; omega⟩
    have hr := (hA.2.2 e).1
    have h62 := hc.2.1 e
    rw [hcc, Int.toNat_natCast] at hr
    have hps : (psF J n K s2).1 = wkN J (keN J n K s2.1) c (s2.1 6 6).toNat := by show psN J n K s2.1 = _; unfold psN; rw [if_neg e, if_neg (by omega), hcc, Int.toNat_natCast]
    have k0 : keN J n K s2.1 0 = s2.1 0 := ke_o (by decide)
    have k5 : keN J n K s2.1 5 = s2.1 5 := ke_o (by decide)
    have k6 : keN J n K s2.1 6 = s2.1 6 := ke_o (by decide)
    have p0 : ∀ b, (psF J n K s2).1 0 b = if b = c then s2.1 0 c - 1 else s2.1 0 b := fun b => by rw [hps, wk_0, k0]
    have p5 : (psF J n K s2).1 5 = s2.1 5 := by rw [hps, wk_5, k5]
    have p4 : (psF J n K s2).1 4 j = if rdy s2.1 j ∧ kpr J n s2.1 j ≠ -1 ∧ J 3 c < J 3 j then s2.1 4 j + 1 else s2.1 4 j := by
      rw [hps, wk_4]
      unfold keN kpN
      rw [if_pos h8, hcc, Int.toNat_natCast]
      by_cases q : rdy s2.1 j ∧ kpr J n s2.1 j ≠ -1 ∧ J 3 c < J 3 j
      · rw [if_pos q, if_pos ⟨rfl, hj, q⟩]
      · rw [if_neg q, if_neg (fun z => q z.2.2)]
    refine ⟨?_, fun _ => ?_⟩
    · clear hps k0 k5 k6
      generalize (psF J n K s2).1 = σ' at *
      generalize s2.1 = σ at *
      by_cases hrj : rdy σ j
      · by_cases hk : kpr J n σ j = -1
        · have ecj : c = j := by have := hch2 j hrj (Or.inl ⟨hk, rfl⟩); omega
          subst ecj
          rw [if_neg (fun z => z.2.1 hk)] at p4
          refine Or.inl ?_
          rw [p4, p0, if_pos rfl, show J 1 c - (σ 0 c - 1) = J 1 c - σ 0 c + 1 by omega]
          rcases hcH with q | ⟨-, -, q⟩ | ⟨-, x, b, -, q, -⟩
          · have := hsM_mono (J := J) (n := n) (j := c) (w := J 1 c - σ 0 c) (w' := J 1 c - σ 0 c + 1) (by omega) (J 5 c).toNat
            omega
          · exact q
          · omega
        · obtain ⟨x, hx⟩ : ∃ x : Nat, kpr J n σ j = (x : Int) := ⟨(kpr J n σ j).toNat, by have := kpr_b (J := J) (n := n) (σ := σ) j; omega⟩
          have ecx : c = x := by have := hch2 x hrj (Or.inr hx); omega
          subst ecx
          have hcj : c ≠ j := by
            rcases kpr_is (J := J) (n := n) (σ := σ) j with ⟨q, -⟩ | ⟨x', k1, k2, k3, k4, k5⟩
            · omega
            · omega
          rw [if_pos ⟨hrj, hk, top c hcn hcj⟩] at p4
          obtain ⟨b, b1, b2, b3, b4, b5⟩ := HI_blk hD huc hj hx hcH
          have p0j : σ' 0 j = σ 0 j := by rw [p0, if_neg (Ne.symm hcj)]
          have p0c : σ' 0 c = σ 0 c - 1 := by rw [p0, if_pos rfl]
          have hrj' : rdy σ' j := ⟨by rw [p5]; exact hrj.1, by rw [p0j]; exact hrj.2⟩
          have nj : ndF J σ' j = ndF J σ j := by unfold ndF; rw [p0j]
          have hdc : hdF J σ c = J 6 (3 * c + b) := hd_of hD hcn b1 b2 b3
          have hns : ndF J σ j ≠ -1 := by have := okD_s hD hcn b1; omega
          have oth : ∀ y, y < n → y ≠ c → hdF J σ' y ≠ ndF J σ j := by
            intro y hy1 hy2 hy3
            have ey : hdF J σ' y = hdF J σ y := by unfold hdF; rw [p0, if_neg hy2]
            rw [ey] at hy3
            have := huc y c hy1 hcn hy2 (by rw [hy3, hdc, b4])
            omega
          by_cases last : J 1 c - σ 0 c + 1 < J 8 (3 * c + b)
          · have hdc' : hdF J σ' c = J 6 (3 * c + b) := hd_of hD hcn b1 (by rw [p0c]; omega) (by rw [p0c]; omega)
            have hkx : kpr J n σ' j = (c : Int) := by
              rcases kpr_is (J := J) (n := n) (σ := σ') j with ⟨-, q | q⟩ | ⟨y, k1, k2, k3, k4, k5⟩
              · rw [nj] at q; exact absurd q hns
              · exact absurd (by rw [hdc', nj, b4]) (q c hcn hcj)
              · by_cases z : y = c
                · rw [k5, z]
                · rw [nj] at k4; exact absurd k4 (oth y k1 z)
            exact Or.inr (Or.inr ⟨hrj', c, b, hcn, hkx, b1, by rw [p0c]; omega, by rw [p0c]; omega, by rw [p4, p0c, p0j]; omega⟩)
          · have hdc' : hdF J σ' c ≠ ndF J σ j := by
              intro z
              rcases hdF_is (σ := σ') hD hcn with ⟨q, -⟩ | ⟨b', q1, ⟨q2, q3⟩, q4⟩
              · omega
              · have eb := okD_o (z := J 1 c - σ 0 c) hD hcn b1 q1 (by omega) b3 (by omega) (by omega)
                subst eb
                omega
            have hkx : kpr J n σ' j = -1 := by
              rcases kpr_is (J := J) (n := n) (σ := σ') j with ⟨q, -⟩ | ⟨y, k1, k2, k3, k4, k5⟩
              · exact q
              · rw [nj] at k4
                by_cases z : y = c
                · subst z; exact absurd k4 hdc'
                · exact absurd k4 (oth y k1 z)
            exact Or.inr (Or.inl ⟨hrj', hkx, by rw [p4, p0j]; omega⟩)
      · have hcj : c ≠ j := fun z => hrj (by rw [← z]; exact hr)
        have p0j : σ' 0 j = σ 0 j := by rw [p0, if_neg (Ne.symm hcj)]
        rw [if_neg (fun z => hrj z.1)] at p4
        rcases hcH with q | ⟨q, -⟩ | ⟨q, -⟩
        · exact Or.inl (by rw [p4, p0j]; exact q)
        · exact absurd q hrj
        · exact absurd q hrj
    · have h9 := hyc (Or.inr (Or.inr h8)) e
      rw [hps, wk_62, k6]; omega
theorem HI_ru (hD : okD J n) (hK : okK K) (h8 : K 0 = 8) (hl : K 3 ≠ 0) (h2 : K 2 = 0) (hj : j < n) (top : ∀ i, i < n → i ≠ j → J 3 i < J 3 j) : ∀ (d : Nat) (s : St) (t : Nat), vS J n K s → vY K s.1 → vR n s.1 → RI J n K s t → HI J n j s.1 ∧ (s.1 6 0 ≠ -1 → s.1 6 2 ≤ 0) → HI J n j (ruF J n K d s).1 := by
  intro d
  induction d with
  | zero => intro s t _ _ _ h hg; exact hg.1
  | succ d ih =>
    intro s t hS hy hr h hg
    unfold ruF
    by_cases c : ovr n s.1
    · rw [if_pos c]; exact hg.1
    · rw [if_neg c]
      have h1 := vS_st hD hK hS hy c
      exact ih _ (t + 1) h1.1 h1.2 (vR_st hD hK hS) (RI_st h (fun j hj => (hS.1.2 j hj).2.1.1) c (st_log hD hK hS hy h2 h.2.1 h.2.2.1)) (HI_st hD hK hS hy h8 hl h2 h.2.1 hg.2 hj top hg.1)
theorem lMost_nn : ∀ c : Nat, 0 ≤ lMost k lo lf lt n j c := by
  intro c
  induction c with
  | zero => exact Int.le_refl _
  | succ c ih =>
    have := lRest_nn (k := k) (lo := lo) (lf := lf) (lt := lt) (j := j) (y := lo (3 * j + c)) (3 * n)
    simp only [lMost]; omega
/-- a job whose rank is greater than those of all others is kept as long as told, at most -/
theorem fn_top (hD : okD J n) (hK : okK K) (h8 : K 0 = 8) (hl : K 3 ≠ 0) (h2 : K 2 = 0) (hj : j < n) (top : ∀ i, i < n → i ≠ j → J 3 i < J 3 j) {z : Int} : (fnF J n K z).1 4 j ≤ lMost (J 5) (J 6) (J 7) (J 8) n j (J 5 j).toNat := by
  have h : HI J n j (fnF J n K z).1 := HI_ru hD hK h8 hl h2 hj top 2304 (inS J z) 0 (vS_in hD) vY_in vR_in (RI_in hD) ⟨Or.inl (by
    have e1 : (inS J z).1 4 j = 0 := by simp [inS, inN]
    have e2 : (inS J z).1 0 j = J 1 j := by simp [inS, inN]
    rw [e1, e2]
    have : ∀ c : Nat, 0 ≤ hsM J n j (J 1 j - J 1 j) c := by
      intro c
      induction c with
      | zero => exact Int.le_refl _
      | succ c ih =>
        have := lRest_nn (k := J 5) (lo := J 6) (lf := J 7) (lt := J 8) (j := j) (y := J 6 (3 * j + c)) (3 * n)
        simp only [hsM]; split <;> omega
    exact this _), fun q => absurd (by simp [inS, inN]) q⟩
  have ho := (fn_is (K := K) hD hK (z := z)).2 j hj
  rcases h with q | ⟨q, -⟩ | ⟨q, -⟩
  · exact Int.le_trans q (hsM_most _)
  · have := q.2; omega
  · have := q.2; omega
end
