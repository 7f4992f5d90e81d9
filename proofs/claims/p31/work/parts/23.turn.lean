/-! ===== Worker: choosing, passing, a run ===== -/
/-- behind the choice of x, ahead of its turn -/
def ch90 (w n : Nat) (K : Nat → Int) (J : Mm) (μ : Mm) (s : St) (m : Mm) (x : Int) : Prop :=
  (∀ a, a ≠ w → a < w + 4 ∨ w + 10 ≤ a → m a = μ a) ∧ m w 13 = x ∧ (∀ b, b ≠ 12 → b ≠ 13 → b ≠ 14 → m w b = μ w b) ∧
  ((x = -1 ∧ aW w n K m s ∧ chF J n K s = s) ∨ ∃ (j : Nat) (lv : Int) (σ0 : Mm) (Q0 : List Nat × (List Nat × List Nat)), x = (j : Int) ∧ j < n ∧ m w 14 = lv ∧ (0 ≤ lv ∧ lv ≤ 2) ∧ (¬ rRow K → lv = 0) ∧ m w 12 = σ0 6 5 ∧ (∀ a, a ≠ 6 → σ0 a = s.1 a) ∧ (∀ b, b ≠ 5 → σ0 6 b = s.1 6 b) ∧ (qis m (w + 4) Q0.1 ∧ qis m (w + 6) Q0.2.1 ∧ qis m (w + 8) Q0.2.2) ∧ chF J n K s = (tkN J K σ0 lv j, Q0))
section
variable {l : Launch} {B : Nat} {D : va_G} {E : Nat → ClassId} {μ m σ : Mm} {w n : Nat} {K : Nat → Int} {s : St} {J : Mm}
theorem c_X10_choose (hst : l.stackTraces = false) (hr : isW w) (hw : 28 ≤ w) (hs : okJ μ) (hn : μ 1 9 = (n : Int)) (hK : okK K) (ha : aW w n K μ s) (hS : vS (jm μ) n K s) (h0 : s.1 6 0 = -1) (h8 : K 0 = 8 → aK (w + 22) n (jm μ) s.1 (K 3) μ) :
    Ct l B D E yX10_choose (.code yX10_choose cX10_choose 1 none) rm_X10_choose [.ref (pl B w)] μ (fun v m => v = none ∧ (∀ a, a < w ∨ w + 10 ≤ a → m a = μ a) ∧ aW w n K m (chF (jm μ) n K s)) NX := by
  have hb := hs.1
  have hD := okJD hs hn
  have hK0 := hK.1
  have hK2 := hK.2.2.1
  have hk := ha.k
  have hf := ha.f
  have hA := hS.2.2.2.1
  have hA1 := hA.1
  have hA2 := hA.2.1
  have hP := ha.P
  have htt := t_le hD hS
  have a0 := ha.q
  refine ct_of (own := RX10) (lv := [(0, _)]) hst (by decide) rfl rfl (Nat.le_of_ble_eq_true rfl) fun a h r t => ?_
  have go90 : ∀ (m : Mm) (x : Int), ch90 w n K (jm μ) μ s m x → VV a B (SP B D E m) 0 0 90 [(0, .ref (pl B w))] [] := by
    rintro m x ⟨hm, h13, hmb, hx⟩
    have hx' : InR x ∧ (x ≠ -1 → 0 ≤ x ∧ x < 12) := by rcases hx with ⟨e, -⟩ | ⟨j, -, -, -, e, hj, -⟩ <;> omega
    have e17 : m w 17 = s.1 6 1 := by rw [hmb 17 (by decide) (by decide) (by decide)]; exact hf.2.1
    have e10 : m w 10 = K 2 := by rw [hmb 10 (by decide) (by decide) (by decide)]; exact hk.2.2.1
    have e8 : m w 8 = K 0 := by rw [hmb 8 (by decide) (by decide) (by decide)]; exact hk.1
    have e9 : m w 9 = K 1 := by rw [hmb 9 (by decide) (by decide) (by decide)]; exact hk.2.1
    rcases hx with ⟨ex, hxa, hxc⟩ | ⟨j, lv, σ0, Q0, ex, hj, h14, hlv, hlv0, h12, hσ0, hσ6, hq, hch⟩
    ·
      refine v_aload_n (pc := 90) h (dk dt_X10_choose 40 rfl) rfl ?_
      refine v_geti (pc := 91) h ci10 (W_hd hr) (Nat.le_of_ble_eq_true rfl) (j := 13) wF_X10_47 rfl (dk dt_X10_choose 41 rfl) ?_
      refine v_iconst (pc := 94) h (dk dt_X10_choose 42 rfl) ?_
      refine v_icmp_eq (pc := 95) h 141 (dk dt_X10_choose 43 rfl) rfl (by omega) (fun c95 => ?_) (fun c95 => ?_)
      ·
        exact v_vret (pc := 141) h r (dk dt_X10_choose 65 rfl) (Nat.le_of_ble_eq_true rfl) (Nat.le_of_ble_eq_true rfl) ⟨rfl, fun a h => by rcases h with h | h <;> exact hm a (by omega) (by omega), by rw [hxc]; exact hxa⟩
      ·
        exact absurd (h13.trans ex) c95
    · have e0 : m (w + 14) j = σ0 0 j := by rw [hm _ (by omega) (by omega), hσ0 0 (by decide)]; exact (hP.1 j hj).1
      have e61 : σ0 6 1 = s.1 6 1 := hσ6 1 (by decide)
      have e13 : m w 13 = (j : Int) := by rw [h13, ex]
      have fin : ∀ m' c, c = (if s.1 6 1 = -1 ∨ s.1 6 1 = (j : Int) then 0 else K 2) → m' = mup (mup m w 15 (tnF (jm μ) K σ0 lv j)) w 16 c → (∀ a, a < w ∨ w + 10 ≤ a → m' a = μ a) ∧ aW w n K m' (chF (jm μ) n K s) := by
        intro m' c hc hm'
        have o : ∀ a, a ≠ w → m' a = m a := fun a h => by rw [hm']; funext b; rw [mup_nk h, mup_nk h]
        have ow : ∀ b, b ≠ 15 → b ≠ 16 → m' w b = m w b := fun b h1 h2 => by rw [hm', mup_ne (fun z => h2 z.2), mup_ne (fun z => h1 z.2)]
        refine ⟨fun a h => by rw [o a (by omega)]; exact hm a (by omega) (by omega), ?_⟩
        rw [hch]
        refine aW_6 ha hw (fun a h1 h2 => by rw [o a h1]; exact hm a h1 (by omega)) (fun a h => (tk_o h).trans (hσ0 a h)) ((tk_66 (J := jm μ) (K := K) (σ := σ0) (lv := lv) (j := j)).trans (hσ6 6 (by decide))) ?_ ?_ ⟨?_, ?_, ?_, ?_⟩ ?_
        · exact ⟨qis_c (o _ (by omega)) (o _ (by omega)) hq.1, qis_c (o _ (by omega)) (o _ (by omega)) hq.2.1, qis_c (o _ (by omega)) (o _ (by omega)) hq.2.2⟩
        · dsimp only
          rw [tk_60, tk_61, tk_62, tk_63, tk_64, tk_65, ow 13 (by decide) (by decide), ow 17 (by decide) (by decide), ow 12 (by decide) (by decide), ow 14 (by decide) (by decide), e61]
          refine ⟨e13, e17, h12, fun _ => ⟨?_, ?_, h14⟩⟩
          · rw [hm', mup_ne (by omega), mup_eq]
          · rw [hm', mup_eq]; exact hc
        · rw [ow 8 (by decide) (by decide)]; exact hmb 8 (by decide) (by decide) (by decide)
        · rw [ow 9 (by decide) (by decide)]; exact hmb 9 (by decide) (by decide) (by decide)
        · rw [ow 10 (by decide) (by decide)]; exact hmb 10 (by decide) (by decide) (by decide)
        · rw [ow 11 (by decide) (by decide)]; exact hmb 11 (by decide) (by decide) (by decide)
        · intro z; rw [ow 14 (by decide) (by decide), h14]; exact hlv0 z
      have e17' : (mup m w 15 (tnF (jm μ) K σ0 lv j)) w 17 = s.1 6 1 := by rw [mup_ne (by omega)]; exact e17
      have e13' : (mup m w 15 (tnF (jm μ) K σ0 lv j)) w 13 = (j : Int) := by rw [mup_ne (by omega)]; exact e13
      have e10' : (mup m w 15 (tnF (jm μ) K σ0 lv j)) w 10 = K 2 := by rw [mup_ne (by omega)]; exact e10
      refine v_aload_n (pc := 90) h (dk dt_X10_choose 40 rfl) rfl ?_
      refine v_geti (pc := 91) h ci10 (W_hd hr) (Nat.le_of_ble_eq_true rfl) (j := 13) wF_X10_47 rfl (dk dt_X10_choose 41 rfl) ?_
      refine v_iconst (pc := 94) h (dk dt_X10_choose 42 rfl) ?_
      refine v_icmp_eq (pc := 95) h 141 (dk dt_X10_choose 43 rfl) rfl (by omega) (fun c95 => ?_) (fun c95 => ?_)
      ·
        exact absurd c95 (by omega)
      ·
        refine v_aload_n (pc := 98) h (dk dt_X10_choose 44 rfl) rfl ?_
        refine v_aload_n (pc := 99) h (dk dt_X10_choose 45 rfl) rfl ?_
        refine v_aload_n (pc := 100) h (dk dt_X10_choose 46 rfl) rfl ?_
        refine v_geti (pc := 101) h ci10 (W_hd hr) (Nat.le_of_ble_eq_true rfl) (j := 13) wF_X10_47 rfl (dk dt_X10_choose 47 rfl) ?_
        rw [e13]
        refine v_cVi (pc := 104) h (c_X10_turnOf (K := K) (σ := σ0) (J := jm μ) h.quiet hr e8 e9 hK (by omega) e0 (lv := lv) (fun _ => ⟨h14, hlv⟩)) kv_X10_turnOf (W_hd hr) wM_X10_195 rfl rfl (Nat.le_of_ble_eq_true rfl) (RM.of rfl) rfl rfl (dk dt_X10_choose 48 rfl) ?_
        refine v_put (pc := 107) h ci10 (W_hd hr) (Nat.le_of_ble_eq_true rfl) (j := 15) wF_X10_53 rfl rfl rfl rfl (dk dt_X10_choose 49 rfl) ?_
        refine v_aload_n (pc := 110) h (dk dt_X10_choose 50 rfl) rfl ?_
        refine v_aload_n (pc := 111) h (dk dt_X10_choose 51 rfl) rfl ?_
        refine v_geti (pc := 112) h ci10 (W_hd hr) (Nat.le_of_ble_eq_true rfl) (j := 17) wF_X10_59 rfl (dk dt_X10_choose 52 rfl) ?_
        rw [e17']
        refine v_iconst (pc := 115) h (dk dt_X10_choose 53 rfl) ?_
        refine v_icmp_eq (pc := 116) h 130 (dk dt_X10_choose 54 rfl) rfl (by omega) (fun c116 => ?_) (fun c116 => ?_)
        ·
          refine v_iconst (pc := 130) h (dk dt_X10_choose 60 rfl) ?_
          refine v_goto (pc := 131) h 138 (dk dt_X10_choose 61 rfl) rfl ?_
          refine v_put (pc := 138) h ci10 (W_hd hr) (Nat.le_of_ble_eq_true rfl) (j := 16) wF_X10_56 rfl rfl rfl rfl (dk dt_X10_choose 64 rfl) ?_
          exact v_vret (pc := 141) h r (dk dt_X10_choose 65 rfl) (Nat.le_of_ble_eq_true rfl) (Nat.le_of_ble_eq_true rfl) ⟨rfl, fin _ _ (by first | rw [if_pos (Or.inl c116)] | rw [if_pos (Or.inr c127)] | rw [if_neg (fun z => z.elim c116 c127)]) rfl⟩
        ·
          refine v_aload_n (pc := 119) h (dk dt_X10_choose 55 rfl) rfl ?_
          refine v_geti (pc := 120) h ci10 (W_hd hr) (Nat.le_of_ble_eq_true rfl) (j := 17) wF_X10_59 rfl (dk dt_X10_choose 56 rfl) ?_
          rw [e17']
          refine v_aload_n (pc := 123) h (dk dt_X10_choose 57 rfl) rfl ?_
          refine v_geti (pc := 124) h ci10 (W_hd hr) (Nat.le_of_ble_eq_true rfl) (j := 13) wF_X10_47 rfl (dk dt_X10_choose 58 rfl) ?_
          rw [e13']
          refine v_icmp_ne (pc := 127) h 134 (dk dt_X10_choose 59 rfl) rfl (by omega) (fun c127 => ?_) (fun c127 => ?_)
          ·
            refine v_aload_n (pc := 134) h (dk dt_X10_choose 62 rfl) rfl ?_
            refine v_geti (pc := 135) h ci10 (W_hd hr) (Nat.le_of_ble_eq_true rfl) (j := 10) wF_X10_37 rfl (dk dt_X10_choose 63 rfl) ?_
            rw [e10']
            refine v_put (pc := 138) h ci10 (W_hd hr) (Nat.le_of_ble_eq_true rfl) (j := 16) wF_X10_56 rfl rfl rfl rfl (dk dt_X10_choose 64 rfl) ?_
            exact v_vret (pc := 141) h r (dk dt_X10_choose 65 rfl) (Nat.le_of_ble_eq_true rfl) (Nat.le_of_ble_eq_true rfl) ⟨rfl, fin _ _ (by first | rw [if_pos (Or.inl c116)] | rw [if_pos (Or.inr c127)] | rw [if_neg (fun z => z.elim c116 c127)]) rfl⟩
          ·
            refine v_iconst (pc := 130) h (dk dt_X10_choose 60 rfl) ?_
            refine v_goto (pc := 131) h 138 (dk dt_X10_choose 61 rfl) rfl ?_
            refine v_put (pc := 138) h ci10 (W_hd hr) (Nat.le_of_ble_eq_true rfl) (j := 16) wF_X10_56 rfl rfl rfl rfl (dk dt_X10_choose 64 rfl) ?_
            exact v_vret (pc := 141) h r (dk dt_X10_choose 65 rfl) (Nat.le_of_ble_eq_true rfl) (Nat.le_of_ble_eq_true rfl) ⟨rfl, fin _ _ (by first | rw [if_pos (Or.inl c116)] | rw [if_pos (Or.inr c127)] | rw [if_neg (fun z => z.elim c116 c127)]) rfl⟩
  have go15 : ∀ (z : Int) (k : Nat) (L : List Nat), 0 ≤ z ∧ z ≤ 2 → lineAt (w + 3) z = k → k = w + 4 ∨ k = w + 6 ∨ k = w + 8 → qis μ k L → L.length ≤ 12 → (∀ v m', (if (mup μ w 14 z) k 1 = 0 then v = some (iI (-1)) ∧ m' = mup μ w 14 z else v = some (iI ((mup μ w 14 z) (k + 1) 0)) ∧ m' = mtake (mup μ w 14 z) k) → ∃ x, v = some (iI x) ∧ ch90 w n K (jm μ) μ s (mup m' w 13 x) x) → VV a B (SP B D E μ) 0 0 15 [(0, .ref (pl B w))] [iI z, .ref (pl B w)] := by
    intro z k L hz hk hk3 hq hl hfin
    have hkl : isLine k := hk ▸ lineAt_is (W_levels hr) z
    have hq1 := hq.1
    have e1 : (mup μ w 14 z) k 1 = μ k 1 := mup_nk (by omega)
    refine v_put (pc := 15) h ci10 (W_hd hr) (Nat.le_of_ble_eq_true rfl) (j := 14) wF_X10_50 rfl rfl rfl rfl (dk dt_X10_choose 7 rfl) ?_
    refine v_aload_n (pc := 18) h (dk dt_X10_choose 8 rfl) rfl ?_
    refine v_aload_n (pc := 19) h (dk dt_X10_choose 9 rfl) rfl ?_
    refine v_getr (pc := 20) h ci10 (W_hd hr) (Nat.le_of_ble_eq_true rfl) (j := 5) wF_X10_23 rfl (dk dt_X10_choose 10 rfl) ?_
    refine v_aload_n (pc := 23) h (dk dt_X10_choose 11 rfl) rfl ?_
    refine v_geti (pc := 24) h ci10 (W_hd hr) (Nat.le_of_ble_eq_true rfl) (j := 14) wF_X10_50 rfl (dk dt_X10_choose 12 rfl) ?_
    rw [mup_eq]
    refine v_cVi (pc := 27) h (c_X2_lineOf h.quiet (W_levels hr) (by omega)) kv_X2_lineOf (V_hd (W_levels hr)) wM_X10_161 rfl rfl (Nat.le_of_ble_eq_true rfl) (RM.of rfl) rfl rfl (dk dt_X10_choose 13 rfl) ?_
    rw [hk]
    refine v_cV (pc := 30) h (c_X3_takeFirst h.quiet hkl (by omega)) kv_X3_takeFirst hkl.1 wM_X10_183 rfl rfl (Nat.le_of_ble_eq_true rfl) (RM.of rfl) rfl rfl (dk dt_X10_choose 14 rfl) (fun v30 μ30 p30 => ?_)
    obtain ⟨x, rfl, hx⟩ := hfin v30 μ30 p30
    refine v_put (pc := 33) h ci10 (W_hd hr) (Nat.le_of_ble_eq_true rfl) (j := 13) wF_X10_47 rfl rfl rfl rfl (dk dt_X10_choose 15 rfl) ?_
    refine v_goto (pc := 36) h 90 (dk dt_X10_choose 16 rfl) rfl ?_
    exact VV.loc (go90 _ x hx) ⟨rfl, trivial⟩
  have chr : rRow K → chF (jm μ) n K s = chQ (jm μ) K s.1 s.2 := fun q => by unfold chF; rw [if_neg (by omega), if_pos q]
  have chn : ¬ rRow K → chF (jm μ) n K s = if pkF (jm μ) n K s.1 = -1 then s else (tkN (jm μ) K (seN K s.1) 0 (pkF (jm μ) n K s.1).toNat, s.2) := fun q => by unfold chF; rw [if_neg (by omega), if_neg q]
  -- behind a choice by a rule without rows
  have pick : ¬ rRow K → ∀ m, m = mup (if K 0 = 7 ∧ 0 < swF (jm μ) s.1 n then mup μ w 12 (sdN (s.1 6 5)) else μ) w 13 (pkF (jm μ) n K s.1) → ch90 w n K (jm μ) μ s m (pkF (jm μ) n K s.1) := by
    intro hrow m hm
    have o : ∀ a, a ≠ w → m a = μ a := fun a h => by rw [hm]; funext b; rw [mup_nk h]; split; exact mup_nk h; rfl
    have ow : ∀ b, b ≠ 12 → b ≠ 13 → m w b = μ w b := fun b h1 h2 => by rw [hm, mup_ne (fun z => h2 z.2)]; split; exact mup_ne (fun z => h1 z.2); rfl
    have hq : qis m (w + 4) s.2.1 ∧ qis m (w + 6) s.2.2.1 ∧ qis m (w + 8) s.2.2.2 := ⟨qis_c (o _ (by omega)) (o _ (by omega)) a0.1, qis_c (o _ (by omega)) (o _ (by omega)) a0.2.1, qis_c (o _ (by omega)) (o _ (by omega)) a0.2.2⟩
    have m13 : m w 13 = pkF (jm μ) n K s.1 := by rw [hm, mup_eq]
    have m12 : m w 12 = if K 0 = 7 ∧ 0 < swF (jm μ) s.1 n then sdN (s.1 6 5) else s.1 6 5 := by
      rw [hm, mup_ne (by omega)]
      split
      · exact mup_eq _ _ _ _
      · exact hf.2.2.1
    have hpk := pkF_is (K := K) (σ := s.1) hD
    have hsw := swF_b (σ := s.1) (fun j hj => okD_w hD hj) n (Nat.le_refl _)
    refine ⟨fun a h1 _ => o a h1, m13, fun b h1 h2 _ => ow b h1 h2, ?_⟩
    rw [chn hrow]
    rcases hpk with ⟨e, he⟩ | ⟨j, hj, e, he⟩
    · refine Or.inl ⟨e, ?_, by rw [if_pos e]⟩
      refine aW_6 ha hw (fun a h1 _ => o a h1) (fun _ _ => rfl) rfl hq ?_ ⟨ow 8 (by decide) (by decide), ow 9 (by decide) (by decide), ow 10 (by decide) (by decide), ow 11 (by decide) (by decide)⟩ (fun z => by rw [ow 14 (by decide) (by decide)]; exact ha.lv z)
      rw [m13, e, h0, ow 17 (by decide) (by decide), m12]
      refine ⟨rfl, hf.2.1, ?_, fun z => absurd rfl z⟩
      by_cases c : K 0 = 7 ∧ 0 < swF (jm μ) s.1 n
      · have : pkF (jm μ) n K s.1 ≠ -1 := by
          unfold pkF
          rw [if_pos c.1, if_neg (by omega)]
          have hm1 := Int.emod_lt_of_pos (bus (sdN (s.1 6 5)) 16) c.2
          have hm2 := Int.emod_nonneg (bus (sdN (s.1 6 5)) 16) (show swF (jm μ) s.1 n ≠ 0 by omega)
          obtain ⟨i, e1, -⟩ := ltF_is (J := jm μ) (σ := s.1) (z := bus (sdN (s.1 6 5)) 16 % swF (jm μ) s.1 n) n 0 hm2 (by rw [Nat.zero_add]; exact hm1)
          omega
        exact absurd e this
      · rw [if_neg c]
    · refine Or.inr ⟨j, 0, seN K s.1, s.2, e, hj, ?_, by omega, fun _ => rfl, ?_, fun a h => se_o h, fun b h => se_6 h, hq, ?_⟩
      · rw [ow 14 (by decide) (by decide)]; exact ha.lv hrow
      · rw [m12]
        unfold seN
        by_cases c7 : K 0 = 7
        · have : 0 < swF (jm μ) s.1 n := by
            rcases Int.lt_or_le 0 (swF (jm μ) s.1 n) with z | z
            · exact z
            · unfold pkF at e; rw [if_pos c7, if_pos z] at e; omega
          rw [if_pos ⟨c7, this⟩, if_pos c7, mup_eq]
        · rw [if_neg (fun z => c7 z.1), if_neg c7]
      · rw [if_neg (by omega), e]; rfl
  have take : ∀ (z : Int) (k j : Nat) (L : List Nat) (Q0 : List Nat × (List Nat × List Nat)), rRow K → 0 ≤ z ∧ z ≤ 2 → k = w + 4 ∨ k = w + 6 ∨ k = w + 8 → qis μ k (j :: L) → j < n → chF (jm μ) n K s = (tkN (jm μ) K s.1 z j, Q0) → (∀ m, (∀ k', k' = w + 4 ∨ k' = w + 6 ∨ k' = w + 8 → k' ≠ k → m k' = μ k' ∧ m (k' + 1) = μ (k' + 1)) → qis m k L → qis m (w + 4) Q0.1 ∧ qis m (w + 6) Q0.2.1 ∧ qis m (w + 8) Q0.2.2) → ∀ v m', (if (mup μ w 14 z) k 1 = 0 then v = some (iI (-1)) ∧ m' = mup μ w 14 z else v = some (iI ((mup μ w 14 z) (k + 1) 0)) ∧ m' = mtake (mup μ w 14 z) k) → ∃ x, v = some (iI x) ∧ ch90 w n K (jm μ) μ s (mup m' w 13 x) x := by
    intro z k j L Q0 hrow hz hk3 hq hj hch hQ v m' hv
    have hq1 : μ k 1 = (L.length : Int) + 1 := hq.1
    have hqq : qis (mup μ w 14 z) k (j :: L) := qis_c (by funext b; exact mup_nk (by omega)) (by funext b; exact mup_nk (by omega)) hq
    rw [if_neg (by rw [mup_nk (by omega)]; omega)] at hv
    obtain ⟨hv1, hv2⟩ := hv
    have ht := qis_t hqq
    rw [ht.2] at hv1
    refine ⟨(j : Int), hv1, ?_⟩
    have o : ∀ a, a ≠ w → a ≠ k → a ≠ k + 1 → mup m' w 13 (j : Int) a = μ a := fun a h1 h2 h3 => by
      rw [hv2]; funext b; unfold mtake mshift; rw [mup_nk h1, mup_nk h2, if_neg (fun z => h3 z.1), mup_nk h1]
    have ow : ∀ b, b ≠ 13 → mup m' w 13 (j : Int) w b = mup μ w 14 z w b := fun b h => by
      rw [mup_ne (fun z => h z.2), hv2]; unfold mtake mshift; rw [mup_nk (by omega), if_neg (by omega)]
    refine ⟨fun a h1 h2 => o a h1 (by omega) (by omega), mup_eq _ _ _ _, fun b h1 h2 h3 => by rw [ow b h2, mup_ne (fun z => h3 z.2)], Or.inr ⟨j, z, s.1, Q0, rfl, hj, by rw [ow 14 (by decide), mup_eq], hz, fun q => absurd hrow q, by rw [ow 12 (by decide), mup_ne (by omega)]; exact hf.2.2.1, fun _ _ => rfl, fun _ _ => rfl, ?_, hch⟩⟩
    refine hQ _ (fun k' h1 h2 => ⟨o k' (by omega) h2 (by omega), o (k' + 1) (by omega) (by omega) (by omega)⟩) ?_
    refine qis_c ?_ ?_ ht.1
    · rw [hv2]; funext b; exact mup_nk (by omega)
    · rw [hv2]; funext b; exact mup_nk (by omega)
  have rows : rRow K → VV a B (SP B D E μ) 0 0 15 [(0, .ref (pl B w))] [iI (if μ (w + 4) 1 = 0 then if μ (w + 6) 1 = 0 then 2 else 1 else 0), .ref (pl B w)] := by
    intro hrow
    have hq := hS.2.2.2.2.1.1 hrow
    have hsub : (s.2.1 ++ (s.2.2.1 ++ s.2.2.2)) ⊆ List.range n := fun x hx => List.mem_range.mpr ((hq.2 x).mp hx).1
    have hle := hq.1.length_le_of_subset hsub
    simp only [List.length_append, List.length_range] at hle
    have hlt : ∀ j, j ∈ s.2.1 ++ (s.2.2.1 ++ s.2.2.2) → j < n := fun j hj => ((hq.2 j).mp hj).1
    have hc := chr hrow
    obtain ⟨σ, L0, L1, L2⟩ := s
    have b0 : qis μ (w + 4) L0 := a0.1
    have b1 : qis μ (w + 6) L1 := a0.2.1
    have b2 : qis μ (w + 8) L2 := a0.2.2
    have l0 := b0.1
    have l1 := b1.1
    have l2 := b2.1
    rcases L0 with _ | ⟨j, L0⟩
    · have l0 : μ (w + 4) 1 = 0 := l0
      rw [if_pos l0]
      rcases L1 with _ | ⟨j, L1⟩
      · have l1 : μ (w + 6) 1 = 0 := l1
        rw [if_pos l1]
        rcases L2 with _ | ⟨j, L2⟩
        · have l2 : μ (w + 8) 1 = 0 := l2
          refine go15 2 (w + 8) [] (by omega) rfl (by omega) b2 (by simp) (fun v m' hv => ?_)
          rw [if_pos (by rw [mup_nk (by omega)]; exact l2)] at hv
          obtain ⟨hv1, hv2⟩ := hv
          refine ⟨-1, hv1, ?_⟩
          have o : ∀ a, a ≠ w → mup m' w 13 (-1) a = μ a := fun a h => by rw [hv2]; funext b; rw [mup_nk h, mup_nk h]
          have ow : ∀ b, b ≠ 13 → b ≠ 14 → mup m' w 13 (-1) w b = μ w b := fun b h1 h2 => by rw [hv2, mup_ne (fun z => h1 z.2), mup_ne (fun z => h2 z.2)]
          refine ⟨fun a h _ => o a h, mup_eq _ _ _ _, fun b _ h1 h2 => ow b h1 h2, Or.inl ⟨rfl, ?_, hc⟩⟩
          refine aW_6 ha hw (fun a h _ => o a h) (fun _ _ => rfl) rfl ⟨qis_c (o _ (by omega)) (o _ (by omega)) b0, qis_c (o _ (by omega)) (o _ (by omega)) b1, qis_c (o _ (by omega)) (o _ (by omega)) b2⟩ ?_ ⟨ow 8 (by decide) (by decide), ow 9 (by decide) (by decide), ow 10 (by decide) (by decide), ow 11 (by decide) (by decide)⟩ (fun z => absurd hrow z)
          rw [mup_eq, ow 17 (by decide) (by decide), ow 12 (by decide) (by decide)]
          exact ⟨h0.symm, hf.2.1, hf.2.2.1, fun z => absurd h0 z⟩
        · exact go15 2 (w + 8) (j :: L2) (by omega) rfl (by omega) b2 (by simp at hle ⊢; omega) (take 2 (w + 8) j L2 ([], [], L2) hrow (by omega) (by omega) b2 (hlt j (by simp)) hc (fun m o q => ⟨qis_c (o _ (by omega) (by omega)).1 (o _ (by omega) (by omega)).2 b0, qis_c (o _ (by omega) (by omega)).1 (o _ (by omega) (by omega)).2 b1, q⟩))
      · have l1 : μ (w + 6) 1 = (L1.length : Int) + 1 := l1
        rw [if_neg (by omega)]
        exact go15 1 (w + 6) (j :: L1) (by omega) rfl (by omega) b1 (by simp at hle ⊢; omega) (take 1 (w + 6) j L1 ([], L1, L2) hrow (by omega) (by omega) b1 (hlt j (by simp)) hc (fun m o q => ⟨qis_c (o _ (by omega) (by omega)).1 (o _ (by omega) (by omega)).2 b0, q, qis_c (o _ (by omega) (by omega)).1 (o _ (by omega) (by omega)).2 b2⟩))
    · have l0 : μ (w + 4) 1 = (L0.length : Int) + 1 := l0
      rw [if_neg (by omega)]
      exact go15 0 (w + 4) (j :: L0) (by omega) rfl (by omega) b0 (by simp at hle ⊢; omega) (take 0 (w + 4) j L0 (L0, L1, L2) hrow (by omega) (by omega) b0 (hlt j (by simp)) hc (fun m o q => ⟨q, qis_c (o _ (by omega) (by omega)).1 (o _ (by omega) (by omega)).2 b1, qis_c (o _ (by omega) (by omega)).1 (o _ (by omega) (by omega)).2 b2⟩))
  have l01 : rRow K → InR (μ (w + 4) 1) ∧ InR (μ (w + 6) 1) := by
    intro hrow
    have hq := hS.2.2.2.2.1.1 hrow
    have hsub : (s.2.1 ++ (s.2.2.1 ++ s.2.2.2)) ⊆ List.range n := fun x hx => List.mem_range.mpr ((hq.2 x).mp hx).1
    have hle := hq.1.length_le_of_subset hsub
    simp only [List.length_append, List.length_range] at hle
    have l0 := a0.1.1
    have l1 := a0.2.1.1
    omega
  have p7 : K 0 ≠ 7 → pkF (jm μ) n K s.1 = bsF (jm μ) n K s.1 n := fun q => by unfold pkF; rw [if_neg q]
  refine v_aload_n (pc := 0) h (dk dt_X10_choose 0 rfl) rfl ?_
  refine v_cVi (pc := 1) h (c_X10_usesLevels h.quiet hr (by omega)) kv_X10_usesLevels (W_hd hr) wM_X10_158 rfl rfl (Nat.le_of_ble_eq_true rfl) (RM.of rfl) rfl rfl (dk dt_X10_choose 1 rfl) ?_
  refine v_if_eq (pc := 4) h 39 (dk dt_X10_choose 2 rfl) rfl (by split <;> omega) (fun c4 => ?_) (fun c4 => ?_)
  ·
    have d4 : ¬ rRow K := fun q => by rw [if_pos (by omega)] at c4; omega
    refine v_aload_n (pc := 39) h (dk dt_X10_choose 17 rfl) rfl ?_
    refine v_geti (pc := 40) h ci10 (W_hd hr) (Nat.le_of_ble_eq_true rfl) (j := 8) wF_X10_30 rfl (dk dt_X10_choose 18 rfl) ?_
    refine v_bipush (pc := 43) h (dk dt_X10_choose 19 rfl) rfl ?_
    refine v_icmp_ne (pc := 45) h 59 (dk dt_X10_choose 20 rfl) rfl (by omega) (fun c45 => ?_) (fun c45 => ?_)
    ·
      refine v_aload_n (pc := 59) h (dk dt_X10_choose 26 rfl) rfl ?_
      refine v_geti (pc := 60) h ci10 (W_hd hr) (Nat.le_of_ble_eq_true rfl) (j := 8) wF_X10_30 rfl (dk dt_X10_choose 27 rfl) ?_
      refine v_bipush (pc := 63) h (dk dt_X10_choose 28 rfl) rfl ?_
      refine v_icmp_ne (pc := 65) h 82 (dk dt_X10_choose 29 rfl) rfl (by omega) (fun c65 => ?_) (fun c65 => ?_)
      ·
        refine v_aload_n (pc := 82) h (dk dt_X10_choose 36 rfl) rfl ?_
        refine v_aload_n (pc := 83) h (dk dt_X10_choose 37 rfl) rfl ?_
        refine v_cVi (pc := 84) h (c_X10_leastByKey (n := n) (K := K) (s := s) h.quiet hr hs hn ha hS.1 (by omega) (by omega)) kv_X10_leastByKey (W_hd hr) wM_X10_192 rfl rfl (Nat.le_of_ble_eq_true rfl) (RM.of rfl) rfl rfl (dk dt_X10_choose 38 rfl) ?_
        refine v_put (pc := 87) h ci10 (W_hd hr) (Nat.le_of_ble_eq_true rfl) (j := 13) wF_X10_47 rfl rfl rfl rfl (dk dt_X10_choose 39 rfl) ?_
        first
          | exact VV.loc (go90 _ _ pk) ⟨rfl, trivial⟩
          | (have pk := pick d4 _ rfl; rw [p7 (by omega), if_neg (show ¬ (K 0 = 7 ∧ 0 < swF (jm μ) s.1 n) by omega)] at pk; exact VV.loc (go90 _ _ pk) ⟨rfl, trivial⟩)
      ·
        refine v_aload_n (pc := 68) h (dk dt_X10_choose 30 rfl) rfl ?_
        refine v_aload_n (pc := 69) h (dk dt_X10_choose 31 rfl) rfl ?_
        refine v_getr (pc := 70) h ci10 (W_hd hr) (Nat.le_of_ble_eq_true rfl) (j := 7) wF_X10_91 rfl (dk dt_X10_choose 32 rfl) ?_
        refine v_cVi (pc := 73) h (c_X4_greatest (n := n) (σ := s.1) (K := K) h.quiet (W_locks hr) (by omega) hs hn hP (by omega) (h8 (by omega))) kv_X4_greatest (K_hd (W_locks hr)) wM_X10_189 rfl rfl (Nat.le_of_ble_eq_true rfl) (RM.of rfl) rfl rfl (dk dt_X10_choose 33 rfl) ?_
        refine v_put (pc := 76) h ci10 (W_hd hr) (Nat.le_of_ble_eq_true rfl) (j := 13) wF_X10_47 rfl rfl rfl rfl (dk dt_X10_choose 34 rfl) ?_
        refine v_goto (pc := 79) h 90 (dk dt_X10_choose 35 rfl) rfl ?_
        first
          | exact VV.loc (go90 _ _ pk) ⟨rfl, trivial⟩
          | (have pk := pick d4 _ rfl; rw [p7 (by omega), if_neg (show ¬ (K 0 = 7 ∧ 0 < swF (jm μ) s.1 n) by omega)] at pk; exact VV.loc (go90 _ _ pk) ⟨rfl, trivial⟩)
    ·
      refine v_aload_n (pc := 48) h (dk dt_X10_choose 21 rfl) rfl ?_
      refine v_aload_n (pc := 49) h (dk dt_X10_choose 22 rfl) rfl ?_
      refine v_cV (pc := 50) h (c_X10_drawn (n := n) (σ := s.1) h.quiet hr hw hs hn hP hf.2.2.1) kv_X10_drawn (W_hd hr) wM_X10_186 rfl rfl (Nat.le_of_ble_eq_true rfl) (RM.of rfl) rfl rfl (dk dt_X10_choose 23 rfl) (fun v50 μ50 p50 => ?_)
      have pk := pick d4 _ rfl
      unfold pkF at pk
      rw [if_pos (show K 0 = 7 by omega)] at pk
      by_cases dsw : swF (jm μ) s.1 n ≤ 0
      · rw [if_pos dsw] at p50 pk
        obtain ⟨rfl, e50⟩ := p50
        rw [e50]
        rw [if_neg (show ¬ (K 0 = 7 ∧ 0 < swF (jm μ) s.1 n) by omega)] at pk
        refine v_put (pc := 53) h ci10 (W_hd hr) (Nat.le_of_ble_eq_true rfl) (j := 13) wF_X10_47 rfl rfl rfl rfl (dk dt_X10_choose 24 rfl) ?_
        refine v_goto (pc := 56) h 90 (dk dt_X10_choose 25 rfl) rfl ?_
        exact VV.loc (go90 _ _ pk) ⟨rfl, trivial⟩
      rw [if_neg dsw] at p50 pk
      obtain ⟨rfl, rfl⟩ := p50
      rw [if_pos (show K 0 = 7 ∧ 0 < swF (jm μ) s.1 n by omega)] at pk
      refine v_put (pc := 53) h ci10 (W_hd hr) (Nat.le_of_ble_eq_true rfl) (j := 13) wF_X10_47 rfl rfl rfl rfl (dk dt_X10_choose 24 rfl) ?_
      refine v_goto (pc := 56) h 90 (dk dt_X10_choose 25 rfl) rfl ?_
      first
        | exact VV.loc (go90 _ _ pk) ⟨rfl, trivial⟩
        | (have pk := pick d4 _ rfl; rw [p7 (by omega), if_neg (show ¬ (K 0 = 7 ∧ 0 < swF (jm μ) s.1 n) by omega)] at pk; exact VV.loc (go90 _ _ pk) ⟨rfl, trivial⟩)
  ·
    have d4 : rRow K := by by_cases q : rRow K; exact q; rw [if_neg (by omega)] at c4; omega
    have l01 := l01 d4
    refine v_aload_n (pc := 7) h (dk dt_X10_choose 3 rfl) rfl ?_
    refine v_aload_n (pc := 8) h (dk dt_X10_choose 4 rfl) rfl ?_
    refine v_getr (pc := 9) h ci10 (W_hd hr) (Nat.le_of_ble_eq_true rfl) (j := 5) wF_X10_23 rfl (dk dt_X10_choose 5 rfl) ?_
    refine v_cVi (pc := 12) h (c_X2_lowest h.quiet (W_levels hr) l01.1 l01.2) kv_X2_lowest (V_hd (W_levels hr)) wM_X10_179 rfl rfl (Nat.le_of_ble_eq_true rfl) (RM.of rfl) rfl rfl (dk dt_X10_choose 6 rfl) ?_
    exact VV.loc (rows d4) ⟨rfl, trivial⟩
end
/-- kept waiting, up to the job i -/
def mkp (μ : Mm) (w n : Nat) (J σ : Mm) (c i : Nat) : Mm := fun a b => if a = w + 2 ∧ b < i ∧ rdy σ b ∧ kpr J n σ b ≠ -1 ∧ J 3 c < J 3 b then μ a b + 1 else μ a b
theorem mkp_y {μ J σ : Mm} {w n c i : Nat} (h : rdy σ i ∧ kpr J n σ i ≠ -1 ∧ J 3 c < J 3 i) : mup (mkp μ w n J σ c i) (w + 2) i (μ (w + 2) i + 1) = mkp μ w n J σ c (i + 1) := by
  funext a b
  unfold mup mkp
  by_cases e : a = w + 2 ∧ b = i
  · rw [if_pos e, if_pos ⟨e.1, by omega, by rw [e.2]; exact h⟩, e.1, e.2]
  · rw [if_neg e]
    by_cases c : a = w + 2 ∧ b < i ∧ rdy σ b ∧ kpr J n σ b ≠ -1 ∧ J 3 c < J 3 b
    · rw [if_pos c, if_pos ⟨c.1, by omega, c.2.2⟩]
    · rw [if_neg c, if_neg (fun z => c ⟨z.1, by omega, z.2.2⟩)]
theorem mkp_n {μ J σ : Mm} {w n c i : Nat} (h : ¬ (rdy σ i ∧ kpr J n σ i ≠ -1 ∧ J 3 c < J 3 i)) : mkp μ w n J σ c i = mkp μ w n J σ c (i + 1) := by
  funext a b
  unfold mkp
  by_cases c : a = w + 2 ∧ b < i ∧ rdy σ b ∧ kpr J n σ b ≠ -1 ∧ J 3 c < J 3 b
  · rw [if_pos c, if_pos ⟨c.1, by omega, c.2.2⟩]
  · rw [if_neg c, if_neg (fun z => c ⟨z.1, by
      rcases Nat.lt_succ_iff_lt_or_eq.mp z.2.1 with q | q
      · exact q
      · exact absurd (q ▸ z.2.2) h, z.2.2⟩)]
theorem mkp_0 {μ J σ : Mm} {w n c : Nat} : mkp μ w n J σ c 0 = μ := by
  funext a b
  unfold mkp
  rw [if_neg (by omega)]
theorem mkp_o {μ J σ : Mm} {w n c i a : Nat} (h : a ≠ w + 2) : mkp μ w n J σ c i a = μ a := by
  funext b
  unfold mkp
  rw [if_neg (fun z => h z.1)]
section
variable {l : Launch} {B : Nat} {D : va_G} {E : Nat → ClassId} {μ m σ : Mm} {w n : Nat} {K : Nat → Int} {s : St} {J : Mm}
theorem c_X10_countKept (hst : l.stackTraces = false) (hr : isW w) (hw : 28 ≤ w) (hs : okJ μ) (hn : μ 1 9 = (n : Int)) (hP : aP (w + 12) n μ σ) {le : Int} (hk : aK (w + 22) n (jm μ) σ le μ) {c : Nat} (hc : c < n) (h13 : μ w 13 = (c : Int)) (hb4 : ∀ j, j < n → 0 ≤ μ (w + 2) j ∧ μ (w + 2) j ≤ 5000) :
    Ct l B D E yX10_countKept (.code yX10_countKept cX10_countKept 3 none) rm_X10_countKept [.ref (pl B w)] μ (rv (mkp μ w n (jm μ) σ c n)) NX := by
  have hb := hs.1
  have hD := okJD hs hn
  have hww : ∀ j, j < n → 1 ≤ μ 9 j ∧ μ 9 j ≤ 9 := fun j hj => okD_w hD hj
  have e3 : ∀ j, jm μ 3 j = μ 9 j := fun _ => rfl
  refine ct_of (own := RX10) (lv := [(0, _)]) hst (by decide) rfl rfl (Nat.le_of_ble_eq_true rfl) fun a h r t => ?_
  have loop : ∀ (d i : Nat), i + d = n → VV a B (SP B D E (mkp μ w n (jm μ) σ c i)) 0 0 2 [(1, iI (i : Int)), (0, .ref (pl B w))] [] := by
    intro d
    induction d with
    | zero =>
      intro i hi
      have e1 : mkp μ w n (jm μ) σ c i 1 9 = (n : Int) := by rw [mkp_o (by omega)]; exact hn
      refine v_iload_n (pc := 2) h (dk dt_X10_countKept 2 rfl) rfl ?_
      refine v_aload_n (pc := 3) h (dk dt_X10_countKept 3 rfl) rfl ?_
      refine v_getr (pc := 4) h ci10 (W_hd hr) (Nat.le_of_ble_eq_true rfl) (j := 3) wF_X10_62 rfl (dk dt_X10_countKept 4 rfl) ?_
      refine v_geti (pc := 7) h ci1 sh1 (Nat.le_of_ble_eq_true rfl) (j := 9) wF_X10_150 rfl (dk dt_X10_countKept 5 rfl) ?_
      refine v_icmp_ge (pc := 10) h 88 (dk dt_X10_countKept 6 rfl) rfl (by omega) (fun c10 => ?_) (fun c10 => ?_)
      ·
        exact v_vret (pc := 88) h r (dk dt_X10_countKept 42 rfl) (Nat.le_of_ble_eq_true rfl) (Nat.le_of_ble_eq_true rfl) ⟨rfl, by rw [show n = i by omega]⟩
      ·
        exact absurd c10 (by omega)
    | succ d ih =>
      intro i hi
      have hin : i < n := by omega
      have e1 : mkp μ w n (jm μ) σ c i 1 9 = (n : Int) := by rw [mkp_o (by omega)]; exact hn
      have eP : aP (w + 12) n (mkp μ w n (jm μ) σ c i) σ := aP_c (fun a h1 h2 => mkp_o (by omega)) hP
      have eb : mkp μ w n (jm μ) σ c i (w + 22 + 4) i = kpr (jm μ) n σ i := by rw [mkp_o (by omega)]; exact (hk i hin).1
      have e9 : ∀ j, mkp μ w n (jm μ) σ c i 9 j = μ 9 j := fun j => by rw [mkp_o (by omega)]
      have e13 : mkp μ w n (jm μ) σ c i w 13 = (c : Int) := by rw [mkp_o (by omega)]; exact h13
      have e2 : mkp μ w n (jm μ) σ c i (w + 2) i = μ (w + 2) i := by unfold mkp; rw [if_neg (by omega)]
      have hkb := kpr_b (J := jm μ) (n := n) (σ := σ) i
      have h4 := hb4 i hin
      have hwi := hww i hin
      have hwc := hww c hc
      have hio := ih (i + 1) (by omega)
      have fN := fun q => show VV a B (SP B D E (mkp μ w n (jm μ) σ c i)) 0 0 2 [(1, iI ((i : Int) + 1)), (0, .ref (pl B w))] [] by rw [mkp_n q]; exact hio
      refine v_iload_n (pc := 2) h (dk dt_X10_countKept 2 rfl) rfl ?_
      refine v_aload_n (pc := 3) h (dk dt_X10_countKept 3 rfl) rfl ?_
      refine v_getr (pc := 4) h ci10 (W_hd hr) (Nat.le_of_ble_eq_true rfl) (j := 3) wF_X10_62 rfl (dk dt_X10_countKept 4 rfl) ?_
      refine v_geti (pc := 7) h ci1 sh1 (Nat.le_of_ble_eq_true rfl) (j := 9) wF_X10_150 rfl (dk dt_X10_countKept 5 rfl) ?_
      refine v_icmp_ge (pc := 10) h 88 (dk dt_X10_countKept 6 rfl) rfl (by omega) (fun c10 => ?_) (fun c10 => ?_)
      ·
        exact absurd c10 (by omega)
      ·
        refine v_aload_n (pc := 13) h (dk dt_X10_countKept 7 rfl) rfl ?_
        refine v_getr (pc := 14) h ci10 (W_hd hr) (Nat.le_of_ble_eq_true rfl) (j := 0) wF_X10_75 rfl (dk dt_X10_countKept 8 rfl) ?_
        refine v_iload_n (pc := 17) h (dk dt_X10_countKept 9 rfl) rfl ?_
        refine v_cVi (pc := 18) h (c_X6_isReady h.quiet (W_prog hr) (by omega) eP (by omega)) kv_X6_isReady (P_hd (W_prog hr)) wM_X10_201 rfl rfl (Nat.le_of_ble_eq_true rfl) (RM.of rfl) rfl rfl (dk dt_X10_countKept 10 rfl) ?_
        refine v_if_eq (pc := 21) h 39 (dk dt_X10_countKept 11 rfl) rfl (by split <;> omega) (fun c21 => ?_) (fun c21 => ?_)
        ·
          have d21 : ¬ rdy σ i := fun q => by rw [if_pos q] at c21; omega
          refine v_iconst (pc := 39) h (dk dt_X10_countKept 19 rfl) ?_
          refine v_istore_n (lv' := [(2, _), (1, _), (0, _)]) (pc := 40) h (dk dt_X10_countKept 20 rfl) (Nat.le_of_ble_eq_true rfl) rfl ?_
          refine v_iload_n (pc := 41) h (dk dt_X10_countKept 21 rfl) rfl ?_
          refine v_if_eq (pc := 42) h 82 (dk dt_X10_countKept 22 rfl) rfl (by omega) (fun c42 => ?_) (fun c42 => ?_)
          ·
            refine v_iinc (lv' := [(1, _), (2, _), (0, _)]) (pc := 82) h (dk dt_X10_countKept 40 rfl) rfl (Nat.le_of_ble_eq_true rfl) rfl ?_
            refine v_goto (pc := 85) h 2 (dk dt_X10_countKept 41 rfl) rfl ?_
            first
              | exact absurd rfl c42
              | exact absurd c42 (by decide)
              | exact VV.loc (fN (fun q => d21 q.1)) ⟨rfl, rfl, trivial⟩
              | exact VV.loc (fN (fun q => q.2.1 d32)) ⟨rfl, rfl, trivial⟩
              | exact VV.loc (fN (fun q => by have z := q.2.2; rw [e3, e3] at z; omega)) ⟨rfl, rfl, trivial⟩
              | (rw [Int.toNat_natCast, e2, mkp_y ⟨d21, d32, by rw [e3, e3]; omega⟩]; exact VV.loc hio ⟨rfl, rfl, trivial⟩)
          ·
            refine v_aload_n (pc := 45) h (dk dt_X10_countKept 23 rfl) rfl ?_
            refine v_getr (pc := 46) h ci10 (W_hd hr) (Nat.le_of_ble_eq_true rfl) (j := 3) wF_X10_62 rfl (dk dt_X10_countKept 24 rfl) ?_
            refine v_getr (pc := 49) h ci1 sh1 (Nat.le_of_ble_eq_true rfl) (j := 3) wF_X10_205 rfl (dk dt_X10_countKept 25 rfl) ?_
            refine v_aload_n (pc := 52) h (dk dt_X10_countKept 26 rfl) rfl ?_
            refine v_geti (pc := 53) h ci10 (W_hd hr) (Nat.le_of_ble_eq_true rfl) (j := 13) wF_X10_47 rfl (dk dt_X10_countKept 27 rfl) ?_
            rw [e13]
            refine v_cVi (pc := 56) h (c_X7_atn h.quiet jr3 (o1 := 9) rfl (Nat.le_of_ble_eq_true rfl) (by omega)) kv_X7_at jr3.1 wM_X10_170 rfl rfl (Nat.le_of_ble_eq_true rfl) (RM.of rfl) rfl rfl (dk dt_X10_countKept 28 rfl) ?_
            rw [e9]
            refine v_aload_n (pc := 59) h (dk dt_X10_countKept 29 rfl) rfl ?_
            refine v_getr (pc := 60) h ci10 (W_hd hr) (Nat.le_of_ble_eq_true rfl) (j := 3) wF_X10_62 rfl (dk dt_X10_countKept 30 rfl) ?_
            refine v_getr (pc := 63) h ci1 sh1 (Nat.le_of_ble_eq_true rfl) (j := 3) wF_X10_205 rfl (dk dt_X10_countKept 31 rfl) ?_
            refine v_iload_n (pc := 66) h (dk dt_X10_countKept 32 rfl) rfl ?_
            refine v_cVi (pc := 67) h (c_X7_atn h.quiet jr3 (o1 := 9) rfl (Nat.le_of_ble_eq_true rfl) (by omega)) kv_X7_at jr3.1 wM_X10_170 rfl rfl (Nat.le_of_ble_eq_true rfl) (RM.of rfl) rfl rfl (dk dt_X10_countKept 33 rfl) ?_
            rw [e9]
            refine v_icmp_ge (pc := 70) h 82 (dk dt_X10_countKept 34 rfl) rfl (by omega) (fun c70 => ?_) (fun c70 => ?_)
            ·
              refine v_iinc (lv' := [(1, _), (2, _), (0, _)]) (pc := 82) h (dk dt_X10_countKept 40 rfl) rfl (Nat.le_of_ble_eq_true rfl) rfl ?_
              refine v_goto (pc := 85) h 2 (dk dt_X10_countKept 41 rfl) rfl ?_
              first
                | exact absurd rfl c42
                | exact absurd c42 (by decide)
                | exact VV.loc (fN (fun q => d21 q.1)) ⟨rfl, rfl, trivial⟩
                | exact VV.loc (fN (fun q => q.2.1 d32)) ⟨rfl, rfl, trivial⟩
                | exact VV.loc (fN (fun q => by have z := q.2.2; rw [e3, e3] at z; omega)) ⟨rfl, rfl, trivial⟩
                | (rw [Int.toNat_natCast, e2, mkp_y ⟨d21, d32, by rw [e3, e3]; omega⟩]; exact VV.loc hio ⟨rfl, rfl, trivial⟩)
            ·
              refine v_aload_n (pc := 73) h (dk dt_X10_countKept 35 rfl) rfl ?_
              refine v_getr (pc := 74) h ci10 (W_hd hr) (Nat.le_of_ble_eq_true rfl) (j := 2) wF_X10_14 rfl (dk dt_X10_countKept 36 rfl) ?_
              refine v_iload_n (pc := 77) h (dk dt_X10_countKept 37 rfl) rfl ?_
              refine v_iconst (pc := 78) h (dk dt_X10_countKept 38 rfl) ?_
              refine v_cVv (pc := 79) h (c_X7_addi h.quiet (W_kept hr) (o1 := w + 2) rfl (Nat.le_of_ble_eq_true rfl) (by omega)) kv_X7_add (W_kept hr).1 wM_X10_230 rfl rfl (Nat.le_of_ble_eq_true rfl) (RM.of rfl) rfl rfl (dk dt_X10_countKept 39 rfl) ?_
              refine v_iinc (lv' := [(1, _), (2, _), (0, _)]) (pc := 82) h (dk dt_X10_countKept 40 rfl) rfl (Nat.le_of_ble_eq_true rfl) rfl ?_
              refine v_goto (pc := 85) h 2 (dk dt_X10_countKept 41 rfl) rfl ?_
              first
                | exact absurd rfl c42
                | exact absurd c42 (by decide)
                | exact VV.loc (fN (fun q => d21 q.1)) ⟨rfl, rfl, trivial⟩
                | exact VV.loc (fN (fun q => q.2.1 d32)) ⟨rfl, rfl, trivial⟩
                | exact VV.loc (fN (fun q => by have z := q.2.2; rw [e3, e3] at z; omega)) ⟨rfl, rfl, trivial⟩
                | (rw [Int.toNat_natCast, e2, mkp_y ⟨d21, d32, by rw [e3, e3]; omega⟩]; exact VV.loc hio ⟨rfl, rfl, trivial⟩)
        ·
          have d21 : rdy σ i := by by_cases q : rdy σ i; exact q; rw [if_neg q] at c21; omega
          refine v_aload_n (pc := 24) h (dk dt_X10_countKept 12 rfl) rfl ?_
          refine v_getr (pc := 25) h ci10 (W_hd hr) (Nat.le_of_ble_eq_true rfl) (j := 7) wF_X10_91 rfl (dk dt_X10_countKept 13 rfl) ?_
          refine v_iload_n (pc := 28) h (dk dt_X10_countKept 14 rfl) rfl ?_
          refine v_cVi (pc := 29) h (c_X4_isBlocked h.quiet (W_locks hr) (by omega) (by omega)) kv_X4_isBlocked (K_hd (W_locks hr)) wM_X10_236 rfl rfl (Nat.le_of_ble_eq_true rfl) (RM.of rfl) rfl rfl (dk dt_X10_countKept 15 rfl) ?_
          rw [eb]
          refine v_if_eq (pc := 32) h 39 (dk dt_X10_countKept 16 rfl) rfl (by split <;> omega) (fun c32 => ?_) (fun c32 => ?_)
          ·
            have d32 : kpr (jm μ) n σ i = -1 := by by_cases q : kpr (jm μ) n σ i = -1; exact q; rw [if_neg q] at c32; omega
            refine v_iconst (pc := 39) h (dk dt_X10_countKept 19 rfl) ?_
            refine v_istore_n (lv' := [(2, _), (1, _), (0, _)]) (pc := 40) h (dk dt_X10_countKept 20 rfl) (Nat.le_of_ble_eq_true rfl) rfl ?_
            refine v_iload_n (pc := 41) h (dk dt_X10_countKept 21 rfl) rfl ?_
            refine v_if_eq (pc := 42) h 82 (dk dt_X10_countKept 22 rfl) rfl (by omega) (fun c42 => ?_) (fun c42 => ?_)
            ·
              refine v_iinc (lv' := [(1, _), (2, _), (0, _)]) (pc := 82) h (dk dt_X10_countKept 40 rfl) rfl (Nat.le_of_ble_eq_true rfl) rfl ?_
              refine v_goto (pc := 85) h 2 (dk dt_X10_countKept 41 rfl) rfl ?_
              first
                | exact absurd rfl c42
                | exact absurd c42 (by decide)
                | exact VV.loc (fN (fun q => d21 q.1)) ⟨rfl, rfl, trivial⟩
                | exact VV.loc (fN (fun q => q.2.1 d32)) ⟨rfl, rfl, trivial⟩
                | exact VV.loc (fN (fun q => by have z := q.2.2; rw [e3, e3] at z; omega)) ⟨rfl, rfl, trivial⟩
                | (rw [Int.toNat_natCast, e2, mkp_y ⟨d21, d32, by rw [e3, e3]; omega⟩]; exact VV.loc hio ⟨rfl, rfl, trivial⟩)
            ·
              refine v_aload_n (pc := 45) h (dk dt_X10_countKept 23 rfl) rfl ?_
              refine v_getr (pc := 46) h ci10 (W_hd hr) (Nat.le_of_ble_eq_true rfl) (j := 3) wF_X10_62 rfl (dk dt_X10_countKept 24 rfl) ?_
              refine v_getr (pc := 49) h ci1 sh1 (Nat.le_of_ble_eq_true rfl) (j := 3) wF_X10_205 rfl (dk dt_X10_countKept 25 rfl) ?_
              refine v_aload_n (pc := 52) h (dk dt_X10_countKept 26 rfl) rfl ?_
              refine v_geti (pc := 53) h ci10 (W_hd hr) (Nat.le_of_ble_eq_true rfl) (j := 13) wF_X10_47 rfl (dk dt_X10_countKept 27 rfl) ?_
              rw [e13]
              refine v_cVi (pc := 56) h (c_X7_atn h.quiet jr3 (o1 := 9) rfl (Nat.le_of_ble_eq_true rfl) (by omega)) kv_X7_at jr3.1 wM_X10_170 rfl rfl (Nat.le_of_ble_eq_true rfl) (RM.of rfl) rfl rfl (dk dt_X10_countKept 28 rfl) ?_
              rw [e9]
              refine v_aload_n (pc := 59) h (dk dt_X10_countKept 29 rfl) rfl ?_
              refine v_getr (pc := 60) h ci10 (W_hd hr) (Nat.le_of_ble_eq_true rfl) (j := 3) wF_X10_62 rfl (dk dt_X10_countKept 30 rfl) ?_
              refine v_getr (pc := 63) h ci1 sh1 (Nat.le_of_ble_eq_true rfl) (j := 3) wF_X10_205 rfl (dk dt_X10_countKept 31 rfl) ?_
              refine v_iload_n (pc := 66) h (dk dt_X10_countKept 32 rfl) rfl ?_
              refine v_cVi (pc := 67) h (c_X7_atn h.quiet jr3 (o1 := 9) rfl (Nat.le_of_ble_eq_true rfl) (by omega)) kv_X7_at jr3.1 wM_X10_170 rfl rfl (Nat.le_of_ble_eq_true rfl) (RM.of rfl) rfl rfl (dk dt_X10_countKept 33 rfl) ?_
              rw [e9]
              refine v_icmp_ge (pc := 70) h 82 (dk dt_X10_countKept 34 rfl) rfl (by omega) (fun c70 => ?_) (fun c70 => ?_)
              ·
                refine v_iinc (lv' := [(1, _), (2, _), (0, _)]) (pc := 82) h (dk dt_X10_countKept 40 rfl) rfl (Nat.le_of_ble_eq_true rfl) rfl ?_
                refine v_goto (pc := 85) h 2 (dk dt_X10_countKept 41 rfl) rfl ?_
                first
                  | exact absurd rfl c42
                  | exact absurd c42 (by decide)
                  | exact VV.loc (fN (fun q => d21 q.1)) ⟨rfl, rfl, trivial⟩
                  | exact VV.loc (fN (fun q => q.2.1 d32)) ⟨rfl, rfl, trivial⟩
                  | exact VV.loc (fN (fun q => by have z := q.2.2; rw [e3, e3] at z; omega)) ⟨rfl, rfl, trivial⟩
                  | (rw [Int.toNat_natCast, e2, mkp_y ⟨d21, d32, by rw [e3, e3]; omega⟩]; exact VV.loc hio ⟨rfl, rfl, trivial⟩)
              ·
                refine v_aload_n (pc := 73) h (dk dt_X10_countKept 35 rfl) rfl ?_
                refine v_getr (pc := 74) h ci10 (W_hd hr) (Nat.le_of_ble_eq_true rfl) (j := 2) wF_X10_14 rfl (dk dt_X10_countKept 36 rfl) ?_
                refine v_iload_n (pc := 77) h (dk dt_X10_countKept 37 rfl) rfl ?_
                refine v_iconst (pc := 78) h (dk dt_X10_countKept 38 rfl) ?_
                refine v_cVv (pc := 79) h (c_X7_addi h.quiet (W_kept hr) (o1 := w + 2) rfl (Nat.le_of_ble_eq_true rfl) (by omega)) kv_X7_add (W_kept hr).1 wM_X10_230 rfl rfl (Nat.le_of_ble_eq_true rfl) (RM.of rfl) rfl rfl (dk dt_X10_countKept 39 rfl) ?_
                refine v_iinc (lv' := [(1, _), (2, _), (0, _)]) (pc := 82) h (dk dt_X10_countKept 40 rfl) rfl (Nat.le_of_ble_eq_true rfl) rfl ?_
                refine v_goto (pc := 85) h 2 (dk dt_X10_countKept 41 rfl) rfl ?_
                first
                  | exact absurd rfl c42
                  | exact absurd c42 (by decide)
                  | exact VV.loc (fN (fun q => d21 q.1)) ⟨rfl, rfl, trivial⟩
                  | exact VV.loc (fN (fun q => q.2.1 d32)) ⟨rfl, rfl, trivial⟩
                  | exact VV.loc (fN (fun q => by have z := q.2.2; rw [e3, e3] at z; omega)) ⟨rfl, rfl, trivial⟩
                  | (rw [Int.toNat_natCast, e2, mkp_y ⟨d21, d32, by rw [e3, e3]; omega⟩]; exact VV.loc hio ⟨rfl, rfl, trivial⟩)
          ·
            have d32 : kpr (jm μ) n σ i ≠ -1 := fun q => by rw [if_pos q] at c32; omega
            refine v_iconst (pc := 35) h (dk dt_X10_countKept 17 rfl) ?_
            refine v_goto (pc := 36) h 40 (dk dt_X10_countKept 18 rfl) rfl ?_
            refine v_istore_n (lv' := [(2, _), (1, _), (0, _)]) (pc := 40) h (dk dt_X10_countKept 20 rfl) (Nat.le_of_ble_eq_true rfl) rfl ?_
            refine v_iload_n (pc := 41) h (dk dt_X10_countKept 21 rfl) rfl ?_
            refine v_if_eq (pc := 42) h 82 (dk dt_X10_countKept 22 rfl) rfl (by omega) (fun c42 => ?_) (fun c42 => ?_)
            ·
              refine v_iinc (lv' := [(1, _), (2, _), (0, _)]) (pc := 82) h (dk dt_X10_countKept 40 rfl) rfl (Nat.le_of_ble_eq_true rfl) rfl ?_
              refine v_goto (pc := 85) h 2 (dk dt_X10_countKept 41 rfl) rfl ?_
              first
                | exact absurd rfl c42
                | exact absurd c42 (by decide)
                | exact VV.loc (fN (fun q => d21 q.1)) ⟨rfl, rfl, trivial⟩
                | exact VV.loc (fN (fun q => q.2.1 d32)) ⟨rfl, rfl, trivial⟩
                | exact VV.loc (fN (fun q => by have z := q.2.2; rw [e3, e3] at z; omega)) ⟨rfl, rfl, trivial⟩
                | (rw [Int.toNat_natCast, e2, mkp_y ⟨d21, d32, by rw [e3, e3]; omega⟩]; exact VV.loc hio ⟨rfl, rfl, trivial⟩)
            ·
              refine v_aload_n (pc := 45) h (dk dt_X10_countKept 23 rfl) rfl ?_
              refine v_getr (pc := 46) h ci10 (W_hd hr) (Nat.le_of_ble_eq_true rfl) (j := 3) wF_X10_62 rfl (dk dt_X10_countKept 24 rfl) ?_
              refine v_getr (pc := 49) h ci1 sh1 (Nat.le_of_ble_eq_true rfl) (j := 3) wF_X10_205 rfl (dk dt_X10_countKept 25 rfl) ?_
              refine v_aload_n (pc := 52) h (dk dt_X10_countKept 26 rfl) rfl ?_
              refine v_geti (pc := 53) h ci10 (W_hd hr) (Nat.le_of_ble_eq_true rfl) (j := 13) wF_X10_47 rfl (dk dt_X10_countKept 27 rfl) ?_
              rw [e13]
              refine v_cVi (pc := 56) h (c_X7_atn h.quiet jr3 (o1 := 9) rfl (Nat.le_of_ble_eq_true rfl) (by omega)) kv_X7_at jr3.1 wM_X10_170 rfl rfl (Nat.le_of_ble_eq_true rfl) (RM.of rfl) rfl rfl (dk dt_X10_countKept 28 rfl) ?_
              rw [e9]
              refine v_aload_n (pc := 59) h (dk dt_X10_countKept 29 rfl) rfl ?_
              refine v_getr (pc := 60) h ci10 (W_hd hr) (Nat.le_of_ble_eq_true rfl) (j := 3) wF_X10_62 rfl (dk dt_X10_countKept 30 rfl) ?_
              refine v_getr (pc := 63) h ci1 sh1 (Nat.le_of_ble_eq_true rfl) (j := 3) wF_X10_205 rfl (dk dt_X10_countKept 31 rfl) ?_
              refine v_iload_n (pc := 66) h (dk dt_X10_countKept 32 rfl) rfl ?_
              refine v_cVi (pc := 67) h (c_X7_atn h.quiet jr3 (o1 := 9) rfl (Nat.le_of_ble_eq_true rfl) (by omega)) kv_X7_at jr3.1 wM_X10_170 rfl rfl (Nat.le_of_ble_eq_true rfl) (RM.of rfl) rfl rfl (dk dt_X10_countKept 33 rfl) ?_
              rw [e9]
              refine v_icmp_ge (pc := 70) h 82 (dk dt_X10_countKept 34 rfl) rfl (by omega) (fun c70 => ?_) (fun c70 => ?_)
              ·
                refine v_iinc (lv' := [(1, _), (2, _), (0, _)]) (pc := 82) h (dk dt_X10_countKept 40 rfl) rfl (Nat.le_of_ble_eq_true rfl) rfl ?_
                refine v_goto (pc := 85) h 2 (dk dt_X10_countKept 41 rfl) rfl ?_
                first
                  | exact absurd rfl c42
                  | exact absurd c42 (by decide)
                  | exact VV.loc (fN (fun q => d21 q.1)) ⟨rfl, rfl, trivial⟩
                  | exact VV.loc (fN (fun q => q.2.1 d32)) ⟨rfl, rfl, trivial⟩
                  | exact VV.loc (fN (fun q => by have z := q.2.2; rw [e3, e3] at z; omega)) ⟨rfl, rfl, trivial⟩
                  | (rw [Int.toNat_natCast, e2, mkp_y ⟨d21, d32, by rw [e3, e3]; omega⟩]; exact VV.loc hio ⟨rfl, rfl, trivial⟩)
              ·
                refine v_aload_n (pc := 73) h (dk dt_X10_countKept 35 rfl) rfl ?_
                refine v_getr (pc := 74) h ci10 (W_hd hr) (Nat.le_of_ble_eq_true rfl) (j := 2) wF_X10_14 rfl (dk dt_X10_countKept 36 rfl) ?_
                refine v_iload_n (pc := 77) h (dk dt_X10_countKept 37 rfl) rfl ?_
                refine v_iconst (pc := 78) h (dk dt_X10_countKept 38 rfl) ?_
                refine v_cVv (pc := 79) h (c_X7_addi h.quiet (W_kept hr) (o1 := w + 2) rfl (Nat.le_of_ble_eq_true rfl) (by omega)) kv_X7_add (W_kept hr).1 wM_X10_230 rfl rfl (Nat.le_of_ble_eq_true rfl) (RM.of rfl) rfl rfl (dk dt_X10_countKept 39 rfl) ?_
                refine v_iinc (lv' := [(1, _), (2, _), (0, _)]) (pc := 82) h (dk dt_X10_countKept 40 rfl) rfl (Nat.le_of_ble_eq_true rfl) rfl ?_
                refine v_goto (pc := 85) h 2 (dk dt_X10_countKept 41 rfl) rfl ?_
                first
                  | exact absurd rfl c42
                  | exact absurd c42 (by decide)
                  | exact VV.loc (fN (fun q => d21 q.1)) ⟨rfl, rfl, trivial⟩
                  | exact VV.loc (fN (fun q => q.2.1 d32)) ⟨rfl, rfl, trivial⟩
                  | exact VV.loc (fN (fun q => by have z := q.2.2; rw [e3, e3] at z; omega)) ⟨rfl, rfl, trivial⟩
                  | (rw [Int.toNat_natCast, e2, mkp_y ⟨d21, d32, by rw [e3, e3]; omega⟩]; exact VV.loc hio ⟨rfl, rfl, trivial⟩)
  refine v_iconst (pc := 0) h (dk dt_X10_countKept 0 rfl) ?_
  refine v_istore_n (lv' := [(1, _), (0, _)]) (pc := 1) h (dk dt_X10_countKept 1 rfl) (Nat.le_of_ble_eq_true rfl) rfl ?_
  exact VV.of (loop n 0 (by omega)) (fun _ q => by rw [mkp_0]; exact q) ⟨rfl, rfl, trivial⟩
/-- a moment's work of c at the worker w -/
def mwk (μ : Mm) (w n : Nat) (σ : Mm) (c : Nat) : Mm :=
  let M := mup (mup (mspd (mup μ (w + 11) c (μ (w + 11) c + 2520 / μ 9 c)) (w + 12) σ n c (σ 6 6)) w 15 (μ w 15 - 1)) w 17 (c : Int)
  if σ 0 c = 1 then mup M w 13 (-1) else M
theorem spd_o {g : Nat} {c a : Nat} {t : Int} (h : a < g ∨ g + 5 ≤ a) : mspd μ g σ n c t a = μ a := by
  funext b
  unfold mspd
  split
  · rw [mup_nk (by omega), mup_nk (by omega), mup_nk (by omega), mup_nk (by omega)]
  · rw [mup_nk (by omega)]
theorem c_X10_workAtChosen (hst : l.stackTraces = false) (hr : isW w) (hw : 28 ≤ w) (hn12 : n ≤ 12) (hP : aP (w + 12) n μ σ) {c : Nat} (hc : c < n) (h13 : μ w 13 = (c : Int)) (hwc : 1 ≤ μ 9 c ∧ μ 9 c ≤ 9) (hrc : rdy σ c) (h0 : 1 ≤ σ 0 c ∧ σ 0 c ≤ 30) (h15 : InR (μ w 15)) :
    Ct l B D E yX10_workAtChosen (.code yX10_workAtChosen cX10_workAtChosen 3 none) rm_X10_workAtChosen [.ref (pl B w), iI (σ 6 6)] μ (rv (mwk μ w n σ c)) NX := by
  have hP1 : aP (w + 12) n (mup μ (w + 11) c (μ (w + 11) c + 2520 / μ 9 c)) σ := aP_c (fun a h1 h2 => by funext b; exact mup_nk (by omega)) hP
  have hP2 : aP (w + 12) n (mspd (mup μ (w + 11) c (μ (w + 11) c + 2520 / μ 9 c)) (w + 12) σ n c (σ 6 6)) (wkN μ σ c (σ 6 6).toNat) := aP_spd hP1 hc hrc (fun b => wk_0) (fun b => wk_1) wk_2 wk_5
  have o2 : ∀ a, a < w + 11 → mspd (mup μ (w + 11) c (μ (w + 11) c + 2520 / μ 9 c)) (w + 12) σ n c (σ 6 6) a = μ a := fun a h => by rw [spd_o (by omega)]; funext b; exact mup_nk (by omega)
  have hrd : rdy (wkN μ σ c (σ 6 6).toNat) c ↔ ¬ σ 0 c = 1 := by
    unfold rdy
    rw [wk_0, wk_5, if_pos rfl]
    have := hrc.1
    omega
  have hdf : mwk μ w n σ c = if σ 0 c = 1 then mup (mup (mup (mspd (mup μ (w + 11) c (μ (w + 11) c + 2520 / μ 9 c)) (w + 12) σ n c (σ 6 6)) w 15 (μ w 15 - 1)) w 17 (c : Int)) w 13 (-1) else mup (mup (mspd (mup μ (w + 11) c (μ (w + 11) c + 2520 / μ 9 c)) (w + 12) σ n c (σ 6 6)) w 15 (μ w 15 - 1)) w 17 (c : Int) := rfl
  have e13 : (mup μ (w + 11) c (μ (w + 11) c + 2520 / μ 9 c)) w 13 = (c : Int) := by rw [mup_nk (by omega)]; exact h13
  generalize hM : mspd (mup μ (w + 11) c (μ (w + 11) c + 2520 / μ 9 c)) (w + 12) σ n c (σ 6 6) = M at hP2 o2 hdf
  have e15 : M w 15 = μ w 15 := by rw [o2 w (by omega)]
  have e13b : (mup M w 15 (μ w 15 - 1)) w 13 = (c : Int) := by rw [mup_ne (by omega), o2 w (by omega)]; exact h13
  have e13c : (mup (mup M w 15 (μ w 15 - 1)) w 17 (c : Int)) w 13 = (c : Int) := by rw [mup_ne (by omega)]; exact e13b
  have hP3 : aP (w + 12) n (mup (mup M w 15 (μ w 15 - 1)) w 17 (c : Int)) (wkN μ σ c (σ 6 6).toNat) := aP_c (fun a h1 h2 => by funext b; rw [mup_nk (by omega), mup_nk (by omega)]) hP2
  refine ct_of (own := RX10) (lv := [(0, _), (1, _)]) hst (by decide) rfl rfl (Nat.le_of_ble_eq_true rfl) fun a h r t => ?_
  refine v_aload_n (pc := 0) h (dk dt_X10_workAtChosen 0 rfl) rfl ?_
  refine v_getr (pc := 1) h ci10 (W_hd hr) (Nat.le_of_ble_eq_true rfl) (j := 3) wF_X10_62 rfl (dk dt_X10_workAtChosen 1 rfl) ?_
  refine v_getr (pc := 4) h ci1 sh1 (Nat.le_of_ble_eq_true rfl) (j := 3) wF_X10_205 rfl (dk dt_X10_workAtChosen 2 rfl) ?_
  refine v_aload_n (pc := 7) h (dk dt_X10_workAtChosen 3 rfl) rfl ?_
  refine v_geti (pc := 8) h ci10 (W_hd hr) (Nat.le_of_ble_eq_true rfl) (j := 13) wF_X10_47 rfl (dk dt_X10_workAtChosen 4 rfl) ?_
  rw [h13]
  refine v_cVi (pc := 11) h (c_X7_atn h.quiet jr3 (o1 := 9) rfl (Nat.le_of_ble_eq_true rfl) (by omega)) kv_X7_at jr3.1 wM_X10_170 rfl rfl (Nat.le_of_ble_eq_true rfl) (RM.of rfl) rfl rfl (dk dt_X10_workAtChosen 5 rfl) ?_
  refine v_istore_n (lv' := [(2, _), (0, _), (1, _)]) (pc := 14) h (dk dt_X10_workAtChosen 6 rfl) (Nat.le_of_ble_eq_true rfl) rfl ?_
  refine v_aload_n (pc := 15) h (dk dt_X10_workAtChosen 7 rfl) rfl ?_
  refine v_getr (pc := 16) h ci10 (W_hd hr) (Nat.le_of_ble_eq_true rfl) (j := 6) wF_X10_27 rfl (dk dt_X10_workAtChosen 8 rfl) ?_
  refine v_aload_n (pc := 19) h (dk dt_X10_workAtChosen 9 rfl) rfl ?_
  refine v_geti (pc := 20) h ci10 (W_hd hr) (Nat.le_of_ble_eq_true rfl) (j := 13) wF_X10_47 rfl (dk dt_X10_workAtChosen 10 rfl) ?_
  rw [h13]
  refine v_iload_n (pc := 23) h (dk dt_X10_workAtChosen 11 rfl) rfl ?_
  refine v_if_le (pc := 24) h 35 (dk dt_X10_workAtChosen 12 rfl) rfl (by omega) (fun c24 => ?_) (fun c24 => ?_)
  ·
    exact absurd c24 (by omega)
  ·
    refine v_sipush (pc := 27) h (dk dt_X10_workAtChosen 13 rfl) rfl ?_
    refine v_iload_n (pc := 30) h (dk dt_X10_workAtChosen 14 rfl) rfl ?_
    refine v_idiv (pc := 31) h (dk dt_X10_workAtChosen 15 rfl) ⟨by omega, by omega⟩ ⟨by omega, by omega⟩ ?_
    refine v_goto (pc := 32) h 36 (dk dt_X10_workAtChosen 16 rfl) rfl ?_
    refine v_cVv (pc := 36) h (c_X7_addn h.quiet (W_counts hr) (o1 := w + 11) rfl (Nat.le_of_ble_eq_true rfl) (by omega)) kv_X7_add (W_counts hr).1 wM_X10_230 rfl rfl (Nat.le_of_ble_eq_true rfl) (RM.of rfl) rfl rfl (dk dt_X10_workAtChosen 18 rfl) ?_
    refine v_aload_n (pc := 39) h (dk dt_X10_workAtChosen 19 rfl) rfl ?_
    refine v_getr (pc := 40) h ci10 (W_hd hr) (Nat.le_of_ble_eq_true rfl) (j := 0) wF_X10_75 rfl (dk dt_X10_workAtChosen 20 rfl) ?_
    refine v_aload_n (pc := 43) h (dk dt_X10_workAtChosen 21 rfl) rfl ?_
    refine v_geti (pc := 44) h ci10 (W_hd hr) (Nat.le_of_ble_eq_true rfl) (j := 13) wF_X10_47 rfl (dk dt_X10_workAtChosen 22 rfl) ?_
    rw [e13]
    refine v_iload_n (pc := 47) h (dk dt_X10_workAtChosen 23 rfl) rfl ?_
    refine v_cVv (pc := 48) h (c_X6_spendOn (n := n) (σ := σ) h.quiet (W_prog hr) (by omega) hP1 (by omega) (by omega)) kv_X6_spendOn (P_hd (W_prog hr)) wM_X10_233 rfl rfl (Nat.le_of_ble_eq_true rfl) (RM.of rfl) rfl rfl (dk dt_X10_workAtChosen 24 rfl) ?_
    rw [hM]
    refine v_aload_n (pc := 51) h (dk dt_X10_workAtChosen 25 rfl) rfl ?_
    refine v_dup (pc := 52) h (dk dt_X10_workAtChosen 26 rfl) rfl ?_
    refine v_geti (pc := 53) h ci10 (W_hd hr) (Nat.le_of_ble_eq_true rfl) (j := 15) wF_X10_53 rfl (dk dt_X10_workAtChosen 27 rfl) ?_
    rw [e15]
    refine v_iconst (pc := 56) h (dk dt_X10_workAtChosen 28 rfl) ?_
    refine v_isub (pc := 57) h (dk dt_X10_workAtChosen 29 rfl) ?_
    refine v_put (pc := 58) h ci10 (W_hd hr) (Nat.le_of_ble_eq_true rfl) (j := 15) wF_X10_53 rfl rfl rfl rfl (dk dt_X10_workAtChosen 30 rfl) ?_
    refine v_aload_n (pc := 61) h (dk dt_X10_workAtChosen 31 rfl) rfl ?_
    refine v_aload_n (pc := 62) h (dk dt_X10_workAtChosen 32 rfl) rfl ?_
    refine v_geti (pc := 63) h ci10 (W_hd hr) (Nat.le_of_ble_eq_true rfl) (j := 13) wF_X10_47 rfl (dk dt_X10_workAtChosen 33 rfl) ?_
    rw [e13b]
    refine v_put (pc := 66) h ci10 (W_hd hr) (Nat.le_of_ble_eq_true rfl) (j := 17) wF_X10_59 rfl rfl rfl rfl (dk dt_X10_workAtChosen 34 rfl) ?_
    refine v_aload_n (pc := 69) h (dk dt_X10_workAtChosen 35 rfl) rfl ?_
    refine v_getr (pc := 70) h ci10 (W_hd hr) (Nat.le_of_ble_eq_true rfl) (j := 0) wF_X10_75 rfl (dk dt_X10_workAtChosen 36 rfl) ?_
    refine v_aload_n (pc := 73) h (dk dt_X10_workAtChosen 37 rfl) rfl ?_
    refine v_geti (pc := 74) h ci10 (W_hd hr) (Nat.le_of_ble_eq_true rfl) (j := 13) wF_X10_47 rfl (dk dt_X10_workAtChosen 38 rfl) ?_
    rw [e13c]
    refine v_cVi (pc := 77) h (c_X6_isReady (n := n) (σ := wkN μ σ c (σ 6 6).toNat) h.quiet (W_prog hr) (by omega) hP3 (by omega)) kv_X6_isReady (P_hd (W_prog hr)) wM_X10_201 rfl rfl (Nat.le_of_ble_eq_true rfl) (RM.of rfl) rfl rfl (dk dt_X10_workAtChosen 39 rfl) ?_
    refine v_if_ne (pc := 80) h 88 (dk dt_X10_workAtChosen 40 rfl) rfl (by split <;> omega) (fun c80 => ?_) (fun c80 => ?_)
    ·
      have d80 : ¬ σ 0 c = 1 := by by_cases q : rdy (wkN μ σ c (σ 6 6).toNat) c; exact hrd.mp q; rw [if_neg q] at c80; omega
      exact v_vret (pc := 88) h r (dk dt_X10_workAtChosen 44 rfl) (Nat.le_of_ble_eq_true rfl) (Nat.le_of_ble_eq_true rfl) ⟨rfl, by rw [hdf]; first | rw [if_pos d80] | rw [if_neg d80]⟩
    ·
      have d80 : σ 0 c = 1 := by by_cases q : σ 0 c = 1; exact q; rw [if_pos (hrd.mpr q)] at c80; omega
      refine v_aload_n (pc := 83) h (dk dt_X10_workAtChosen 41 rfl) rfl ?_
      refine v_iconst (pc := 84) h (dk dt_X10_workAtChosen 42 rfl) ?_
      refine v_put (pc := 85) h ci10 (W_hd hr) (Nat.le_of_ble_eq_true rfl) (j := 13) wF_X10_47 rfl rfl rfl rfl (dk dt_X10_workAtChosen 43 rfl) ?_
      exact v_vret (pc := 88) h r (dk dt_X10_workAtChosen 44 rfl) (Nat.le_of_ble_eq_true rfl) (Nat.le_of_ble_eq_true rfl) ⟨rfl, by rw [hdf]; first | rw [if_pos d80] | rw [if_neg d80]⟩
end
