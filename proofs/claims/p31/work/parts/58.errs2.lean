/-! ===== errors on the class: RING, the highest ===== -/
section
variable {l : Launch} {B : Nat} {D : va_G} {E : Nat → ClassId} {μ m σ : Mm} {w n : Nat} {K : Nat → Int} {s : St} {J : Mm}
theorem fst_is (g : Nat → Int) (j : Int) : ∀ d t : Nat, (∀ b, t ≤ b → b < fstW g j d t → g b ≠ j) ∧ t ≤ fstW g j d t ∧ fstW g j d t ≤ t + d ∧ (fstW g j d t < t + d → g (fstW g j d t) = j) := by
  intro d
  induction d with
  | zero => intro t; exact ⟨fun b h1 h2 => absurd h2 (by show ¬ b < t; omega), Nat.le_refl _, Nat.le_refl _, fun h => absurd h (by show ¬ t < t + 0; omega)⟩
  | succ d ih =>
    intro t
    simp only [fstW]
    by_cases e : g t = j
    · rw [if_pos e]; exact ⟨fun b h1 h2 => absurd h2 (by omega), Nat.le_refl _, by omega, fun _ => e⟩
    · rw [if_neg e]
      obtain ⟨h1, h2, h3, h4⟩ := ih (t + 1)
      exact ⟨fun b q1 q2 => by by_cases z : b = t; (rw [z]; exact e); exact h1 b (by omega) q2, by omega, by omega, fun q => h4 (by omega)⟩
theorem gap_c {g g' : Nat → Int} {j : Int} : ∀ (d t : Nat) (s m : Int), (∀ b, t ≤ b → b < t + d → g' b = g b) → gapJ g' j d t s m = gapJ g j d t s m := by
  intro d
  induction d with
  | zero => intro t s m _; rfl
  | succ d ih =>
    intro t s m h
    simp only [gapJ]
    rw [h t (Nat.le_refl _) (by omega), ih (t + 1) _ _ (fun b h1 h2 => h b (by omega) (by omega)), ih (t + 1) _ _ (fun b h1 h2 => h b (by omega) (by omega))]
/-- the longest gap of each job, by RING: told of any log that is the run's -/
theorem ring_gap (hD : okD J n) (hK : okK K) (h0 : K 0 = 0) (h2 : K 2 = 0) {j : Nat} (hj : j < n) {z : Int} {g : Nat → Int} {T : Nat} (hT : (fnF J n K z).1 6 6 = (T : Int)) (hg : ∀ t : Nat, t < T → g t = (fnF J n K z).1 7 t) : gapJ g (j : Int) (T - fstW g (j : Int) T 0) (fstW g (j : Int) T 0) ((fstW g (j : Int) T 0 : Nat) : Int) 0 ≤ ((n : Int) - 1) * K 1 := by
  obtain ⟨h1, h3, h4, h5⟩ := fst_is g (j : Int) T 0
  generalize fstW g (j : Int) T 0 = f at *
  have hTn : ((fnF J n K z).1 6 6).toNat = T := by rw [hT]; rfl
  by_cases q : f < T
  · have h := fn_ring hD hK h0 h2 hj (z := z) f (by rw [hTn]; exact q) (fun b hb => by rw [← hg b (by omega)]; exact h1 b (by omega) hb) (by rw [← hg f q]; exact h5 (by omega))
    rw [hTn] at h
    rw [gap_c (g := (fnF J n K z).1 7) _ _ _ _ (fun b q1 q2 => hg b (by omega))]
    exact h
  · rw [show T - f = 0 by omega]
    show (0 : Int) ≤ _
    have := hK.2.1.1
    exact Int.mul_nonneg (by omega) (by omega)
theorem c_X11_isRingFair (hst : l.stackTraces = false) (hO : hOK μ) (hn : μ 1 9 = (n : Int)) :
    Ct l B D E yX11_isRingFair (.code yX11_isRingFair cX11_isRingFair 3 (some .boolean)) rm_X11_isRingFair [.ref (pl B 0)] μ (fun v m => v = some (iI 1) ∧ fq μ m) NX := by
  have hW := hO.W
  have hD := okJD hO.J hn
  have hn12 := hD.1
  have hok := okK_kof (r := 0) (s := μ 27 0) (c := 0) (le := μ 27 4) (ri := μ 27 2) (by omega) hW.1 (by omega) hW.2.2.2 hW.2.2.1
  refine ct_of (own := RX11) (lv := [(0, _)]) hst (by decide) rfl rfl (Nat.le_of_ble_eq_true rfl) fun a h r t => ?_
  have go23 : ∀ m, fq μ m → aR 57 n (kE μ 0) (jm μ) (μ 27 3) m → VV a B (SP B D E m) 0 0 23 [(0, .ref (pl B 0))] [] := by
    intro m fm ha
    have hA := aR_is hD hok ha
    have hnm : m 1 9 = (n : Int) := by rw [fm 1 (by omega)]; exact hn
    have e27 : m 27 = μ 27 := fm 27 (by omega)
    have hC := hA.1.1
    obtain ⟨T, hT⟩ : ∃ T : Nat, m 76 0 = (T : Int) := ⟨(m 76 0).toNat, by have : 0 ≤ m 76 0 := hC.1; omega⟩
    have hgap := fun (j : Nat) (hj : j < n) => ring_gap (z := μ 27 3) (g := m 78) (T := T) hD hok rfl rfl hj (by rw [← hT]; exact hA.2.1.symm) (fun t ht => hA.2.2.1 t (by rw [← hA.2.1]; show (t : Int) < m 76 0; omega))
    have hmul : 0 ≤ (n : Int) * μ 27 0 ∧ (n : Int) * μ 27 0 ≤ 12 * 20 := ⟨Int.mul_nonneg (by omega) (by omega), Int.mul_le_mul (by omega) (by omega) (by omega) (by decide)⟩
    have hsub : ((n : Int) - 1) * μ 27 0 = (n : Int) * μ 27 0 - μ 27 0 := by rw [Int.sub_mul, Int.one_mul]
    have hT2 : T ≤ 2304 := by have : m 76 0 ≤ 2304 := hC.2; omega
    have hmu : (m 76 0).toNat = T := by rw [hT]; rfl
    have loop : ∀ (d i : Nat), i + d = n → VV a B (SP B D E m) 0 0 43 [(2, iI (i : Int)), (1, iI (((n : Int) - 1) * μ 27 0)), (0, .ref (pl B 0))] [] := by
      intro d
      induction d with
      | zero =>
        intro i hi
        refine v_iload_n (pc := 43) h (dk dt_X11_isRingFair 23 rfl) rfl ?_
        refine v_aload_n (pc := 44) h (dk dt_X11_isRingFair 24 rfl) rfl ?_
        refine v_getr (pc := 45) h ci11 sh0 (Nat.le_of_ble_eq_true rfl) (j := 0) wF_X11_10 rfl (dk dt_X11_isRingFair 25 rfl) ?_
        refine v_geti (pc := 48) h ci1 sh1 (Nat.le_of_ble_eq_true rfl) (j := 9) wF_X11_65 rfl (dk dt_X11_isRingFair 26 rfl) ?_
        refine v_icmp_ge (pc := 51) h 88 (dk dt_X11_isRingFair 27 rfl) rfl (by omega) (fun c51 => ?_) (fun c51 => ?_)
        ·
          refine v_iconst (pc := 88) h (dk dt_X11_isRingFair 44 rfl) ?_
          exact v_zret (pc := 89) h r (dk dt_X11_isRingFair 45 rfl) (Nat.le_of_ble_eq_true rfl) (Nat.le_of_ble_eq_true rfl) (by omega) ⟨rfl, fm⟩
        ·
          exact absurd c51 (by omega)
      | succ d ih =>
        intro i hi
        have hg1 := hgap i (by omega)
        have hf := fst_is (m 78) (i : Int) T 0
        have hgl := gpS_le (g := m 78) (j := (i : Int)) (f := fstW (m 78) (i : Int) T 0) (T - fstW (m 78) (i : Int) T 0)
        rw [gap_0] at hg1
        have hb2 : (gpS (m 78) (i : Int) (fstW (m 78) (i : Int) T 0) (T - fstW (m 78) (i : Int) T 0)).2 ≤ ((n : Int) - 1) * μ 27 0 := hg1
        refine v_iload_n (pc := 43) h (dk dt_X11_isRingFair 23 rfl) rfl ?_
        refine v_aload_n (pc := 44) h (dk dt_X11_isRingFair 24 rfl) rfl ?_
        refine v_getr (pc := 45) h ci11 sh0 (Nat.le_of_ble_eq_true rfl) (j := 0) wF_X11_10 rfl (dk dt_X11_isRingFair 25 rfl) ?_
        refine v_geti (pc := 48) h ci1 sh1 (Nat.le_of_ble_eq_true rfl) (j := 9) wF_X11_65 rfl (dk dt_X11_isRingFair 26 rfl) ?_
        refine v_icmp_ge (pc := 51) h 88 (dk dt_X11_isRingFair 27 rfl) rfl (by omega) (fun c51 => ?_) (fun c51 => ?_)
        ·
          exact absurd c51 (by omega)
        ·
          refine v_aload_n (pc := 54) h (dk dt_X11_isRingFair 28 rfl) rfl ?_
          refine v_getr (pc := 55) h ci11 sh0 (Nat.le_of_ble_eq_true rfl) (j := 4) wF_X11_39 rfl (dk dt_X11_isRingFair 29 rfl) ?_
          refine v_getr (pc := 58) h ci10 hd57 (Nat.le_of_ble_eq_true rfl) (j := 1) wF_X11_125 rfl (dk dt_X11_isRingFair 30 rfl) ?_
          refine v_iload_n (pc := 61) h (dk dt_X11_isRingFair 31 rfl) rfl ?_
          refine v_aload_n (pc := 62) h (dk dt_X11_isRingFair 32 rfl) rfl ?_
          refine v_getr (pc := 63) h ci11 sh0 (Nat.le_of_ble_eq_true rfl) (j := 4) wF_X11_39 rfl (dk dt_X11_isRingFair 33 rfl) ?_
          refine v_getr (pc := 66) h ci10 hd57 (Nat.le_of_ble_eq_true rfl) (j := 1) wF_X11_125 rfl (dk dt_X11_isRingFair 34 rfl) ?_
          refine v_iload_n (pc := 69) h (dk dt_X11_isRingFair 35 rfl) rfl ?_
          refine v_cVi (pc := 70) h (c_X0_firstWork h.quiet (W_course W57) hA.1 (by omega)) kv_X0_firstWork hd76 wM_X11_254 rfl rfl (Nat.le_of_ble_eq_true rfl) (RM.of rfl) rfl rfl (dk dt_X11_isRingFair 36 rfl) ?_
          rw [show (m (76 + 2)) = m 78 from rfl, hmu]
          refine v_cVi (pc := 73) h (c_X0_longestGap h.quiet (W_course W57) hA.1 (by omega) (by omega)) kv_X0_longestGap hd76 wM_X11_165 rfl rfl (Nat.le_of_ble_eq_true rfl) (RM.of rfl) rfl rfl (dk dt_X11_isRingFair 37 rfl) ?_
          rw [show (m (76 + 2)) = m 78 from rfl, hmu, gap_0]
          refine v_iload_n (pc := 76) h (dk dt_X11_isRingFair 38 rfl) rfl ?_
          refine v_icmp_le (pc := 77) h 82 (dk dt_X11_isRingFair 39 rfl) rfl (by omega) (fun c77 => ?_) (fun c77 => ?_)
          ·
            refine v_iinc (lv' := [(2, _), (1, _), (0, _)]) (pc := 82) h (dk dt_X11_isRingFair 42 rfl) rfl (Nat.le_of_ble_eq_true rfl) rfl ?_
            refine v_goto (pc := 85) h 43 (dk dt_X11_isRingFair 43 rfl) rfl ?_
            exact VV.loc (ih (i + 1) (by omega)) ⟨rfl, rfl, rfl, trivial⟩
          ·
            exact absurd c77 (by omega)
    refine v_aload_n (pc := 23) h (dk dt_X11_isRingFair 11 rfl) rfl ?_
    refine v_getr (pc := 24) h ci11 sh0 (Nat.le_of_ble_eq_true rfl) (j := 0) wF_X11_10 rfl (dk dt_X11_isRingFair 12 rfl) ?_
    refine v_geti (pc := 27) h ci1 sh1 (Nat.le_of_ble_eq_true rfl) (j := 9) wF_X11_65 rfl (dk dt_X11_isRingFair 13 rfl) ?_
    rw [hnm]
    refine v_iconst (pc := 30) h (dk dt_X11_isRingFair 14 rfl) ?_
    refine v_isub (pc := 31) h (dk dt_X11_isRingFair 15 rfl) ?_
    refine v_aload_n (pc := 32) h (dk dt_X11_isRingFair 16 rfl) rfl ?_
    refine v_getr (pc := 33) h ci11 sh0 (Nat.le_of_ble_eq_true rfl) (j := 2) wF_X11_26 rfl (dk dt_X11_isRingFair 17 rfl) ?_
    refine v_geti (pc := 36) h ci9 sh27 (Nat.le_of_ble_eq_true rfl) (j := 0) wF_X11_106 rfl (dk dt_X11_isRingFair 18 rfl) ?_
    rw [e27]
    refine v_imul (pc := 39) h (dk dt_X11_isRingFair 19 rfl) ?_
    refine v_istore_n (lv' := [(1, _), (0, _)]) (pc := 40) h (dk dt_X11_isRingFair 20 rfl) (Nat.le_of_ble_eq_true rfl) rfl ?_
    refine v_iconst (pc := 41) h (dk dt_X11_isRingFair 21 rfl) ?_
    refine v_istore_n (lv' := [(2, _), (1, _), (0, _)]) (pc := 42) h (dk dt_X11_isRingFair 22 rfl) (Nat.le_of_ble_eq_true rfl) rfl ?_
    exact VV.loc (loop n 0 (by omega)) ⟨rfl, rfl, rfl, trivial⟩
  refine v_aload_n (pc := 0) h (dk dt_X11_isRingFair 0 rfl) rfl ?_
  refine v_getr (pc := 1) h ci11 sh0 (Nat.le_of_ble_eq_true rfl) (j := 4) wF_X11_39 rfl (dk dt_X11_isRingFair 1 rfl) ?_
  refine v_iconst (pc := 4) h (dk dt_X11_isRingFair 2 rfl) ?_
  refine v_aload_n (pc := 5) h (dk dt_X11_isRingFair 3 rfl) rfl ?_
  refine v_getr (pc := 6) h ci11 sh0 (Nat.le_of_ble_eq_true rfl) (j := 2) wF_X11_26 rfl (dk dt_X11_isRingFair 4 rfl) ?_
  refine v_geti (pc := 9) h ci9 sh27 (Nat.le_of_ble_eq_true rfl) (j := 0) wF_X11_106 rfl (dk dt_X11_isRingFair 5 rfl) ?_
  refine v_iconst (pc := 12) h (dk dt_X11_isRingFair 6 rfl) ?_
  refine v_aload_n (pc := 13) h (dk dt_X11_isRingFair 7 rfl) rfl ?_
  refine v_getr (pc := 14) h ci11 sh0 (Nat.le_of_ble_eq_true rfl) (j := 2) wF_X11_26 rfl (dk dt_X11_isRingFair 8 rfl) ?_
  refine v_geti (pc := 17) h ci9 sh27 (Nat.le_of_ble_eq_true rfl) (j := 4) wF_X11_118 rfl (dk dt_X11_isRingFair 9 rfl) ?_
  refine v_cV (pc := 20) h (c_fol (n := n) h.quiet W57 (by omega) hO hn (by omega) hW.1 (by omega) hW.2.2.2) kv_X10_follow hd57 wM_X11_121 rfl rfl (Nat.le_of_ble_eq_true rfl) (RM.of rfl) rfl rfl (dk dt_X11_isRingFair 10 rfl) (fun v20 μ20 p20 => ?_)
  obtain ⟨rfl, f20, a20⟩ := p20
  exact VV.loc (go23 _ (fq_57 f20) a20) ⟨rfl, trivial⟩
theorem higF_top {w : Nat → Int} : ∀ m : Nat, (∀ i, i < m → w i ≤ (higF w m).1) ∧ ∀ c : Nat, (higF w m).2 = (c : Int) → c < m ∧ w c = (higF w m).1 ∧ ∀ i, i < m → i ≠ c → w i < (higF w m).1 := by
  intro m
  induction m with
  | zero => exact ⟨fun i h => absurd h (by omega), fun c h => absurd h (by show ¬ (-1 : Int) = c; omega)⟩
  | succ m ih =>
    obtain ⟨h1, h2⟩ := ih
    simp only [higF]
    by_cases e : (higF w m).1 < w m
    · rw [if_pos e]
      refine ⟨fun i hi => ?_, fun c hc => ?_⟩
      · show w i ≤ w m
        by_cases q : i = m
        · rw [q]; exact Int.le_refl _
        · have := h1 i (by omega); omega
      · have hc : (m : Int) = (c : Int) := hc
        have ec : c = m := by omega
        rw [ec]
        exact ⟨by omega, rfl, fun i hi q => by have := h1 i (by omega); show w i < w m; omega⟩
    · rw [if_neg e]
      by_cases e2 : w m = (higF w m).1
      · rw [if_pos e2]
        refine ⟨fun i hi => ?_, fun c hc => ?_⟩
        · show w i ≤ (higF w m).1
          by_cases q : i = m
          · rw [q]; omega
          · exact h1 i (by omega)
        · have hc : (-1 : Int) = (c : Int) := hc
          omega
      · rw [if_neg e2]
        refine ⟨fun i hi => ?_, fun c hc => ?_⟩
        · by_cases q : i = m
          · rw [q]; omega
          · exact h1 i (by omega)
        · obtain ⟨q1, q2, q3⟩ := h2 c hc
          refine ⟨by omega, q2, fun i hi q => ?_⟩
          by_cases z : i = m
          · rw [z]; omega
          · exact q3 i (by omega) q
theorem lMost_le {k lo lf lt : Nat → Int} {n j : Nat} (h : ∀ x b : Nat, x < n → b < 3 → (b : Int) < k x → lt (3 * x + b) - lf (3 * x + b) ≤ 30) : ∀ c : Nat, lMost k lo lf lt n j c ≤ 30 * c := by
  have h1 : ∀ (y : Int) (m : Nat), m ≤ 3 * n → lRest k lo lf lt j y m ≤ 30 := by
    intro y m
    induction m with
    | zero => intro _; show (0 : Int) ≤ 30; decide
    | succ m ih =>
      intro q
      have := ih (by omega)
      simp only [lRest]
      split
      · rename_i z
        have h5 := h (m / 3) (m % 3) (by omega) (by omega) z.1
        rw [show 3 * (m / 3) + m % 3 = m by omega] at h5
        split <;> omega
      · exact this
  intro c
  induction c with
  | zero => exact Int.le_refl _
  | succ c ih =>
    have := h1 (lo (3 * j + c)) (3 * n) (Nat.le_refl _)
    simp only [lMost]
    omega
theorem c_X11_isHighestFreeInTime (hst : l.stackTraces = false) (hO : hOK μ) (hn : μ 1 9 = (n : Int)) :
    Ct l B D E yX11_isHighestFreeInTime (.code yX11_isHighestFreeInTime cX11_isHighestFreeInTime 2 (some .boolean)) rm_X11_isHighestFreeInTime [.ref (pl B 0)] μ (fun v m => v = some (iI 1) ∧ fq μ m) NX := by
  have hW := hO.W
  have hD := okJD hO.J hn
  have hn12 := hD.1
  have enn : (μ 1 9).toNat = n := by omega
  have hok := okK_kof (r := 8) (s := μ 27 0) (c := 0) (le := 1) (ri := μ 27 2) (by omega) hW.1 (by omega) (by omega) hW.2.2.1
  have hhb := higF_b (w := μ 9) (n := n) (fun j hj => (hO.J.2 j (by omega)).2.2.2.1) n (Nat.le_refl _)
  refine ct_of (own := RX11) (lv := [(0, _)]) hst (by decide) rfl rfl (Nat.le_of_ble_eq_true rfl) fun a h r t => ?_
  have go15 : (higF (μ 9) n).2 ≠ -1 → VV a B (SP B D E μ) 0 0 15 [(1, iI (higF (μ 9) n).2), (0, .ref (pl B 0))] [] := by
    intro hne
    obtain ⟨c, hc⟩ : ∃ c : Nat, (higF (μ 9) n).2 = (c : Int) := ⟨(higF (μ 9) n).2.toNat, by omega⟩
    have hcn : c < n := by omega
    have hq := (hO.J.2 c (by omega)).2.2.2.2.2.1
    have hlb := lMost_le (k := μ 13) (lo := μ 15) (lf := μ 17) (lt := μ 19) (n := n) (j := c) (fun x b hx hb hk => by have := okD_s (J := jm μ) hD hx (i := b) (by show b < (μ 13 x).toNat; omega); have h1 := okD_l (J := jm μ) hD hx; show jm μ 8 (3 * x + b) - jm μ 7 (3 * x + b) ≤ 30; omega) (μ 13 c).toNat
    have hl0 := lMost_nn (k := μ 13) (lo := μ 15) (lf := μ 17) (lt := μ 19) (n := n) (j := c) (μ 13 c).toNat
    have htop : ∀ i, i < n → i ≠ c → jm μ 3 i < jm μ 3 c := fun i hi hic => by
      obtain ⟨-, q2, q3⟩ := (higF_top (w := μ 9) n).2 c hc
      have := q3 i hi hic
      show μ 9 i < μ 9 c
      omega
    have hft := fn_top (K := kof 8 (μ 27 0) 0 1 (μ 27 2)) (z := μ 27 3) hD hok rfl (show (1 : Int) ≠ 0 by decide) rfl hcn htop
    have hft : (fnF (jm μ) n (kof 8 (μ 27 0) 0 1 (μ 27 2)) (μ 27 3)).1 4 c ≤ lMost (μ 13) (μ 15) (μ 17) (μ 19) n c (μ 13 c).toNat := hft
    rw [hc]
    refine v_aload_n (pc := 15) h (dk dt_X11_isHighestFreeInTime 9 rfl) rfl ?_
    refine v_getr (pc := 16) h ci11 sh0 (Nat.le_of_ble_eq_true rfl) (j := 4) wF_X11_39 rfl (dk dt_X11_isHighestFreeInTime 10 rfl) ?_
    refine v_bipush (pc := 19) h (dk dt_X11_isHighestFreeInTime 11 rfl) rfl ?_
    refine v_aload_n (pc := 21) h (dk dt_X11_isHighestFreeInTime 12 rfl) rfl ?_
    refine v_getr (pc := 22) h ci11 sh0 (Nat.le_of_ble_eq_true rfl) (j := 2) wF_X11_26 rfl (dk dt_X11_isHighestFreeInTime 13 rfl) ?_
    refine v_geti (pc := 25) h ci9 sh27 (Nat.le_of_ble_eq_true rfl) (j := 0) wF_X11_106 rfl (dk dt_X11_isHighestFreeInTime 14 rfl) ?_
    refine v_iconst (pc := 28) h (dk dt_X11_isHighestFreeInTime 15 rfl) ?_
    refine v_iconst (pc := 29) h (dk dt_X11_isHighestFreeInTime 16 rfl) ?_
    refine v_cV (pc := 30) h (c_fol (n := n) h.quiet W57 (by omega) hO hn (by omega) hW.1 (by omega) (by omega)) kv_X10_follow hd57 wM_X11_121 rfl rfl (Nat.le_of_ble_eq_true rfl) (RM.of rfl) rfl rfl (dk dt_X11_isHighestFreeInTime 17 rfl) (fun v30 μ30 p30 => ?_)
    obtain ⟨rfl, f30, a30⟩ := p30
    have fm2 := fq_57 f30
    have hk : μ30 59 c = (fnF (jm μ) n (kof 8 (μ 27 0) 0 1 (μ 27 2)) (μ 27 3)).1 4 c := aW.kept a30 hcn
    have hfn := (fn_is (K := kof 8 (μ 27 0) 0 1 (μ 27 2)) hD hok (z := μ 27 3)).1
    have hkb := (hfn.1.2 c hcn).2.2.2.2.2.2.2
    have htt := t_le hD hfn
    refine v_aload_n (pc := 33) h (dk dt_X11_isHighestFreeInTime 18 rfl) rfl ?_
    refine v_getr (pc := 34) h ci11 sh0 (Nat.le_of_ble_eq_true rfl) (j := 4) wF_X11_39 rfl (dk dt_X11_isHighestFreeInTime 19 rfl) ?_
    refine v_getr (pc := 37) h ci10 hd57 (Nat.le_of_ble_eq_true rfl) (j := 2) wF_X11_168 rfl (dk dt_X11_isHighestFreeInTime 20 rfl) ?_
    refine v_iload_n (pc := 40) h (dk dt_X11_isHighestFreeInTime 21 rfl) rfl ?_
    refine v_cVi (pc := 41) h (c_X7_atn h.quiet (W_kept W57) (o1 := 59) rfl (Nat.le_of_ble_eq_true rfl) (by omega)) kv_X7_at (W_kept W57).1 wM_X11_91 rfl rfl (Nat.le_of_ble_eq_true rfl) (RM.of rfl) rfl rfl (dk dt_X11_isHighestFreeInTime 22 rfl) ?_
    rw [hk]
    refine v_aload_n (pc := 44) h (dk dt_X11_isHighestFreeInTime 23 rfl) rfl ?_
    refine v_getr (pc := 45) h ci11 sh0 (Nat.le_of_ble_eq_true rfl) (j := 0) wF_X11_10 rfl (dk dt_X11_isHighestFreeInTime 24 rfl) ?_
    refine v_iload_n (pc := 48) h (dk dt_X11_isHighestFreeInTime 25 rfl) rfl ?_
    refine v_cVi (pc := 49) h (c_X1_mostKept h.quiet (fq_hO hO fm2).J (by rw [fm2 1 (by omega)]; omega)) kv_X1_mostKept sh1 wM_X11_260 rfl rfl (Nat.le_of_ble_eq_true rfl) (RM.of rfl) rfl rfl (dk dt_X11_isHighestFreeInTime 26 rfl) ?_
    rw [fm2 13 (by omega), fm2 15 (by omega), fm2 17 (by omega), fm2 19 (by omega), fm2 1 (by omega), enn]
    refine v_icmp_gt (pc := 52) h 59 (dk dt_X11_isHighestFreeInTime 27 rfl) rfl (by omega) (fun c52 => ?_) (fun c52 => ?_)
    ·
      exact absurd c52 (by omega)
    ·
      refine v_iconst (pc := 55) h (dk dt_X11_isHighestFreeInTime 28 rfl) ?_
      refine v_goto (pc := 56) h 60 (dk dt_X11_isHighestFreeInTime 29 rfl) rfl ?_
      exact v_zret (pc := 60) h r (dk dt_X11_isHighestFreeInTime 31 rfl) (Nat.le_of_ble_eq_true rfl) (Nat.le_of_ble_eq_true rfl) (by omega) ⟨rfl, fm2⟩
  refine v_aload_n (pc := 0) h (dk dt_X11_isHighestFreeInTime 0 rfl) rfl ?_
  refine v_getr (pc := 1) h ci11 sh0 (Nat.le_of_ble_eq_true rfl) (j := 0) wF_X11_10 rfl (dk dt_X11_isHighestFreeInTime 1 rfl) ?_
  refine v_cVi (pc := 4) h (c_X1_highest h.quiet hO.J) kv_X1_highest sh1 wM_X11_257 rfl rfl (Nat.le_of_ble_eq_true rfl) (RM.of rfl) rfl rfl (dk dt_X11_isHighestFreeInTime 2 rfl) ?_
  rw [enn]
  refine v_istore_n (lv' := [(1, _), (0, _)]) (pc := 7) h (dk dt_X11_isHighestFreeInTime 3 rfl) (Nat.le_of_ble_eq_true rfl) rfl ?_
  refine v_iload_n (pc := 8) h (dk dt_X11_isHighestFreeInTime 4 rfl) rfl ?_
  refine v_iconst (pc := 9) h (dk dt_X11_isHighestFreeInTime 5 rfl) ?_
  refine v_icmp_ne (pc := 10) h 15 (dk dt_X11_isHighestFreeInTime 6 rfl) rfl (by omega) (fun c10 => ?_) (fun c10 => ?_)
  ·
    exact VV.loc (go15 c10) ⟨rfl, rfl, trivial⟩
  ·
    refine v_iconst (pc := 13) h (dk dt_X11_isHighestFreeInTime 7 rfl) ?_
    exact v_zret (pc := 14) h r (dk dt_X11_isHighestFreeInTime 8 rfl) (Nat.le_of_ble_eq_true rfl) (Nat.le_of_ble_eq_true rfl) (by omega) ⟨rfl, fq_rf⟩
end
