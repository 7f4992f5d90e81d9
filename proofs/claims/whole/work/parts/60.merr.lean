/-! ===== errors on the model: its helpers ===== -/
section
variable {l : Launch} {B : Nat} {D : va_G} {E : Nat → ClassId} {μ m σ : Mm} {w n : Nat} {K K0 : Nat → Int} {s : St} {J : Mm}
theorem c_X12_longest2 (hst : l.stackTraces = false) {T j f : Nat} (hT : T ≤ 2304) (hg : ∀ t, t < T → -2 ≤ μ 140 t ∧ μ 140 t < 12) (hj : j < 12) (hf : f ≤ 2304) :
    Ct l B D E yX12_longest (.code yX12_longest cX12_longest 7 (some .int)) rm_X12_longest [.ref (pl B 140), iI (T : Int), iI (j : Int), iI (f : Int)] μ (ri (gapJ (μ 140) (j : Int) (T - f) f (f : Int) 0) μ) NX := by
  refine ct_of (own := RX12) (lv := [(0, _), (1, _), (2, _), (3, _)]) hst (by decide) rfl rfl (Nat.le_of_ble_eq_true rfl) fun a h r t => ?_
  have loop : ∀ (d i s : Nat) (m : Int), d = T - i → s ≤ i → i ≤ 2304 → (0 ≤ m ∧ m ≤ 2304) → gapJ (μ 140) (j : Int) (T - f) f (f : Int) 0 = gapJ (μ 140) (j : Int) d i (s : Int) m → VV a B (SP B D E μ) 0 0 9 [(6, iI (i : Int)), (5, iI (s : Int)), (4, iI m), (0, .ref (pl B 140)), (1, iI (T : Int)), (2, iI (j : Int)), (3, iI (f : Int))] [] := by
    intro d
    induction d with
    | zero =>
      intro i s m hd hs hi hm e
      refine v_iload (pc := 9) h (dk dt_X12_longest 6 rfl) rfl ?_
      refine v_iload_n (pc := 11) h (dk dt_X12_longest 7 rfl) rfl ?_
      refine v_icmp_ge (pc := 12) h 57 (dk dt_X12_longest 8 rfl) rfl (by omega) (fun c12 => ?_) (fun c12 => ?_)
      ·
        refine v_iload (pc := 57) h (dk dt_X12_longest 31 rfl) rfl ?_
        exact v_iret (pc := 59) h r (dk dt_X12_longest 32 rfl) (Nat.le_of_ble_eq_true rfl) (Nat.le_of_ble_eq_true rfl) ⟨by rw [e, gapJ], rfl⟩
      ·
        exact absurd c12 (by omega)
    | succ d ih =>
      intro i s m hd hs hi hm e
      have hq : -2 ≤ μ 140 i ∧ μ 140 i < 12 := hg i (by omega)
      have eY : μ 140 i = (j : Int) → gapJ (μ 140) (j : Int) (T - f) f (f : Int) 0 = gapJ (μ 140) (j : Int) d (i + 1) (((i + 1 : Nat) : Nat) : Int) (if m < (i : Int) - s then (i : Int) - s else m) := fun q => by rw [e, gapJ, if_pos q]; rfl
      have eN : ¬ μ 140 i = (j : Int) → gapJ (μ 140) (j : Int) (T - f) f (f : Int) 0 = gapJ (μ 140) (j : Int) d (i + 1) (s : Int) m := fun q => by rw [e, gapJ, if_neg q]
      refine v_iload (pc := 9) h (dk dt_X12_longest 6 rfl) rfl ?_
      refine v_iload_n (pc := 11) h (dk dt_X12_longest 7 rfl) rfl ?_
      refine v_icmp_ge (pc := 12) h 57 (dk dt_X12_longest 8 rfl) rfl (by omega) (fun c12 => ?_) (fun c12 => ?_)
      ·
        exact absurd c12 (by omega)
      ·
        refine v_aload_n (pc := 15) h (dk dt_X12_longest 9 rfl) rfl ?_
        refine v_iload (pc := 16) h (dk dt_X12_longest 10 rfl) rfl ?_
        refine v_iald (pc := 18) h sh140 (Nat.le_of_ble_eq_true rfl) (by omega) (dk dt_X12_longest 11 rfl) ?_
        rw [Int.toNat_natCast]
        refine v_iload_n (pc := 19) h (dk dt_X12_longest 12 rfl) rfl ?_
        refine v_icmp_ne (pc := 20) h 51 (dk dt_X12_longest 13 rfl) rfl (by omega) (fun c20 => ?_) (fun c20 => ?_)
        ·
          refine v_iinc (lv' := [(6, _), (5, _), (4, _), (0, _), (1, _), (2, _), (3, _)]) (pc := 51) h (dk dt_X12_longest 29 rfl) rfl (Nat.le_of_ble_eq_true rfl) rfl ?_
          refine v_goto (pc := 54) h 9 (dk dt_X12_longest 30 rfl) rfl ?_
          first
            | exact VV.loc (ih (i + 1) s m (by omega) (by omega) (by omega) hm (eN c20)) ⟨rfl, rfl, rfl, rfl, rfl, rfl, rfl, trivial⟩
            | exact VV.loc (ih (i + 1) (i + 1) _ (by omega) (by omega) (by omega) (by omega) e30) ⟨rfl, rfl, rfl, rfl, rfl, rfl, rfl, trivial⟩
        ·
          refine v_iload (pc := 23) h (dk dt_X12_longest 14 rfl) rfl ?_
          refine v_iload (pc := 25) h (dk dt_X12_longest 15 rfl) rfl ?_
          refine v_isub (pc := 27) h (dk dt_X12_longest 16 rfl) ?_
          refine v_iload (pc := 28) h (dk dt_X12_longest 17 rfl) rfl ?_
          refine v_icmp_le (pc := 30) h 41 (dk dt_X12_longest 18 rfl) rfl (by omega) (fun c30 => ?_) (fun c30 => ?_)
          ·
            have e30 := eY c20
            rw [if_neg (by omega)] at e30
            refine v_iload (pc := 41) h (dk dt_X12_longest 23 rfl) rfl ?_
            refine v_istore (lv' := [(4, _), (6, _), (5, _), (0, _), (1, _), (2, _), (3, _)]) (pc := 43) h (dk dt_X12_longest 24 rfl) (Nat.le_of_ble_eq_true rfl) rfl ?_
            refine v_iload (pc := 45) h (dk dt_X12_longest 25 rfl) rfl ?_
            refine v_iconst (pc := 47) h (dk dt_X12_longest 26 rfl) ?_
            refine v_iadd (pc := 48) h (dk dt_X12_longest 27 rfl) ?_
            refine v_istore (lv' := [(5, _), (4, _), (6, _), (0, _), (1, _), (2, _), (3, _)]) (pc := 49) h (dk dt_X12_longest 28 rfl) (Nat.le_of_ble_eq_true rfl) rfl ?_
            refine v_iinc (lv' := [(6, _), (5, _), (4, _), (0, _), (1, _), (2, _), (3, _)]) (pc := 51) h (dk dt_X12_longest 29 rfl) rfl (Nat.le_of_ble_eq_true rfl) rfl ?_
            refine v_goto (pc := 54) h 9 (dk dt_X12_longest 30 rfl) rfl ?_
            first
              | exact VV.loc (ih (i + 1) s m (by omega) (by omega) (by omega) hm (eN c20)) ⟨rfl, rfl, rfl, rfl, rfl, rfl, rfl, trivial⟩
              | exact VV.loc (ih (i + 1) (i + 1) _ (by omega) (by omega) (by omega) (by omega) e30) ⟨rfl, rfl, rfl, rfl, rfl, rfl, rfl, trivial⟩
          ·
            have e30 := eY c20
            rw [if_pos (by omega)] at e30
            refine v_iload (pc := 33) h (dk dt_X12_longest 19 rfl) rfl ?_
            refine v_iload (pc := 35) h (dk dt_X12_longest 20 rfl) rfl ?_
            refine v_isub (pc := 37) h (dk dt_X12_longest 21 rfl) ?_
            refine v_goto (pc := 38) h 43 (dk dt_X12_longest 22 rfl) rfl ?_
            refine v_istore (lv' := [(4, _), (6, _), (5, _), (0, _), (1, _), (2, _), (3, _)]) (pc := 43) h (dk dt_X12_longest 24 rfl) (Nat.le_of_ble_eq_true rfl) rfl ?_
            refine v_iload (pc := 45) h (dk dt_X12_longest 25 rfl) rfl ?_
            refine v_iconst (pc := 47) h (dk dt_X12_longest 26 rfl) ?_
            refine v_iadd (pc := 48) h (dk dt_X12_longest 27 rfl) ?_
            refine v_istore (lv' := [(5, _), (4, _), (6, _), (0, _), (1, _), (2, _), (3, _)]) (pc := 49) h (dk dt_X12_longest 28 rfl) (Nat.le_of_ble_eq_true rfl) rfl ?_
            refine v_iinc (lv' := [(6, _), (5, _), (4, _), (0, _), (1, _), (2, _), (3, _)]) (pc := 51) h (dk dt_X12_longest 29 rfl) rfl (Nat.le_of_ble_eq_true rfl) rfl ?_
            refine v_goto (pc := 54) h 9 (dk dt_X12_longest 30 rfl) rfl ?_
            first
              | exact VV.loc (ih (i + 1) s m (by omega) (by omega) (by omega) hm (eN c20)) ⟨rfl, rfl, rfl, rfl, rfl, rfl, rfl, trivial⟩
              | exact VV.loc (ih (i + 1) (i + 1) _ (by omega) (by omega) (by omega) (by omega) e30) ⟨rfl, rfl, rfl, rfl, rfl, rfl, rfl, trivial⟩
  refine v_iconst (pc := 0) h (dk dt_X12_longest 0 rfl) ?_
  refine v_istore (lv' := [(4, _), (0, _), (1, _), (2, _), (3, _)]) (pc := 1) h (dk dt_X12_longest 1 rfl) (Nat.le_of_ble_eq_true rfl) rfl ?_
  refine v_iload_n (pc := 3) h (dk dt_X12_longest 2 rfl) rfl ?_
  refine v_istore (lv' := [(5, _), (4, _), (0, _), (1, _), (2, _), (3, _)]) (pc := 4) h (dk dt_X12_longest 3 rfl) (Nat.le_of_ble_eq_true rfl) rfl ?_
  refine v_iload_n (pc := 6) h (dk dt_X12_longest 4 rfl) rfl ?_
  refine v_istore (lv' := [(6, _), (5, _), (4, _), (0, _), (1, _), (2, _), (3, _)]) (pc := 7) h (dk dt_X12_longest 5 rfl) (Nat.le_of_ble_eq_true rfl) rfl ?_
  exact VV.loc (loop _ f f 0 rfl (Nat.le_refl _) (by omega) ⟨by omega, by omega⟩ rfl) ⟨rfl, rfl, rfl, rfl, rfl, rfl, rfl, trivial⟩
/-- which moments rule 3's run works in, as errors() notes it -/
def bzy (μ : Mm) (g : Nat → Int) (T : Int) : Prop := μ 123 42 = T ∧ ∀ t : Nat, (t : Int) < T → (g t = -1 ∧ μ 150 t = 0) ∨ (g t ≠ -1 ∧ μ 150 t = 1)
theorem c_X12_isLikeBusy (hst : l.stackTraces = false) (hD : okD J n) (hK : okK K) (hK0 : okK K0) (h2 : K 2 = 0) (h20 : K0 2 = 0) {z z0 : Int} (hR : mR n K J z μ) (hb : bzy μ ((fnF J n K0 z0).1 7) ((fnF J n K0 z0).1 6 6)) :
    Ct l B D E yX12_isLikeBusy (.code yX12_isLikeBusy cX12_isLikeBusy 3 (some .boolean)) rm_X12_isLikeBusy [.ref (pl B 123)] μ (ri 1 μ) NX := by
  have hf := fn_is (K := K) hD hK (z := z)
  have htt := t_le hD hf.1
  have ht0 := hf.1.1.1
  obtain ⟨hsm, hsl⟩ := fn_busy (z := z) (z' := z0) hD hK hK0 h2 h20
  have hg : ∀ t : Nat, (t : Int) < (fnF J n K z).1 6 6 → μ 140 t = (fnF J n K z).1 7 t := hR.1.2.2.2.2.1
  obtain ⟨h42, h150⟩ := hb
  rw [← hsm] at h42 h150
  have h33 := hR.2
  generalize hTT : (fnF J n K z).1 6 6 = TT at *
  have hn12 := hD.1
  refine ct_of (own := RX12) (lv := [(0, _)]) hst (by decide) rfl rfl (Nat.le_of_ble_eq_true rfl) fun a h r t => ?_
  have loop : ∀ (d i : Nat), (i : Int) + d = TT → VV a B (SP B D E μ) 0 0 19 [(2, iI (i : Int)), (1, iI 1), (0, .ref (pl B 123))] [] := by
    intro d
    induction d with
    | zero =>
      intro i hi
      refine v_iload_n (pc := 19) h (dk dt_X12_isLikeBusy 11 rfl) rfl ?_
      refine v_aload_n (pc := 20) h (dk dt_X12_isLikeBusy 12 rfl) rfl ?_
      refine v_geti (pc := 21) h ci12 sh123 (Nat.le_of_ble_eq_true rfl) (j := 33) wF_X12_207 rfl (dk dt_X12_isLikeBusy 13 rfl) ?_
      rw [h33]
      refine v_icmp_ge (pc := 24) h 67 (dk dt_X12_isLikeBusy 14 rfl) rfl (by omega) (fun c24 => ?_) (fun c24 => ?_)
      ·
        refine v_iload_n (pc := 67) h (dk dt_X12_isLikeBusy 37 rfl) rfl ?_
        exact v_zret (pc := 68) h r (dk dt_X12_isLikeBusy 38 rfl) (Nat.le_of_ble_eq_true rfl) (Nat.le_of_ble_eq_true rfl) (by omega) ⟨rfl, rfl⟩
      ·
        exact absurd c24 (by omega)
    | succ d ih =>
      intro i hi
      have q1 := hsl i (by omega)
      have q2 := h150 i (by omega)
      have q3 := hg i (by omega)
      refine v_iload_n (pc := 19) h (dk dt_X12_isLikeBusy 11 rfl) rfl ?_
      refine v_aload_n (pc := 20) h (dk dt_X12_isLikeBusy 12 rfl) rfl ?_
      refine v_geti (pc := 21) h ci12 sh123 (Nat.le_of_ble_eq_true rfl) (j := 33) wF_X12_207 rfl (dk dt_X12_isLikeBusy 13 rfl) ?_
      rw [h33]
      refine v_icmp_ge (pc := 24) h 67 (dk dt_X12_isLikeBusy 14 rfl) rfl (by omega) (fun c24 => ?_) (fun c24 => ?_)
      ·
        exact absurd c24 (by omega)
      ·
        refine v_iload_n (pc := 27) h (dk dt_X12_isLikeBusy 15 rfl) rfl ?_
        refine v_if_eq (pc := 28) h 67 (dk dt_X12_isLikeBusy 16 rfl) rfl (by omega) (fun c28 => ?_) (fun c28 => ?_)
        ·
          exact absurd c28 (by decide)
        ·
          refine v_aload_n (pc := 31) h (dk dt_X12_isLikeBusy 17 rfl) rfl ?_
          refine v_getr (pc := 32) h ci12 sh123 (Nat.le_of_ble_eq_true rfl) (j := 26) wF_X12_71 rfl (dk dt_X12_isLikeBusy 18 rfl) ?_
          refine v_iload_n (pc := 35) h (dk dt_X12_isLikeBusy 19 rfl) rfl ?_
          refine v_iald (pc := 36) h sh140 (Nat.le_of_ble_eq_true rfl) (by omega) (dk dt_X12_isLikeBusy 20 rfl) ?_
          rw [Int.toNat_natCast, q3]
          refine v_iconst (pc := 37) h (dk dt_X12_isLikeBusy 21 rfl) ?_
          refine v_icmp_eq (pc := 38) h 45 (dk dt_X12_isLikeBusy 22 rfl) rfl (by omega) (fun c38 => ?_) (fun c38 => ?_)
          ·
            refine v_iconst (pc := 45) h (dk dt_X12_isLikeBusy 25 rfl) ?_
            refine v_aload_n (pc := 46) h (dk dt_X12_isLikeBusy 26 rfl) rfl ?_
            refine v_getr (pc := 47) h ci12 sh123 (Nat.le_of_ble_eq_true rfl) (j := 41) wF_X12_102 rfl (dk dt_X12_isLikeBusy 27 rfl) ?_
            refine v_iload_n (pc := 50) h (dk dt_X12_isLikeBusy 28 rfl) rfl ?_
            refine v_zald (pc := 51) h sh150 (Nat.le_of_ble_eq_true rfl) (by omega) (dk dt_X12_isLikeBusy 29 rfl) ?_
            rw [Int.toNat_natCast]
            refine v_icmp_ne (pc := 52) h 59 (dk dt_X12_isLikeBusy 30 rfl) rfl (by omega) (fun c52 => ?_) (fun c52 => ?_)
            ·
              exfalso
              omega
            ·
              refine v_iconst (pc := 55) h (dk dt_X12_isLikeBusy 31 rfl) ?_
              refine v_goto (pc := 56) h 60 (dk dt_X12_isLikeBusy 32 rfl) rfl ?_
              refine v_istore_n (lv' := [(1, _), (2, _), (0, _)]) (pc := 60) h (dk dt_X12_isLikeBusy 34 rfl) (Nat.le_of_ble_eq_true rfl) rfl ?_
              refine v_iinc (lv' := [(2, _), (1, _), (0, _)]) (pc := 61) h (dk dt_X12_isLikeBusy 35 rfl) rfl (Nat.le_of_ble_eq_true rfl) rfl ?_
              refine v_goto (pc := 64) h 19 (dk dt_X12_isLikeBusy 36 rfl) rfl ?_
              exact VV.loc (ih (i + 1) (by omega)) ⟨rfl, rfl, rfl, trivial⟩
          ·
            refine v_iconst (pc := 41) h (dk dt_X12_isLikeBusy 23 rfl) ?_
            refine v_goto (pc := 42) h 46 (dk dt_X12_isLikeBusy 24 rfl) rfl ?_
            refine v_aload_n (pc := 46) h (dk dt_X12_isLikeBusy 26 rfl) rfl ?_
            refine v_getr (pc := 47) h ci12 sh123 (Nat.le_of_ble_eq_true rfl) (j := 41) wF_X12_102 rfl (dk dt_X12_isLikeBusy 27 rfl) ?_
            refine v_iload_n (pc := 50) h (dk dt_X12_isLikeBusy 28 rfl) rfl ?_
            refine v_zald (pc := 51) h sh150 (Nat.le_of_ble_eq_true rfl) (by omega) (dk dt_X12_isLikeBusy 29 rfl) ?_
            rw [Int.toNat_natCast]
            refine v_icmp_ne (pc := 52) h 59 (dk dt_X12_isLikeBusy 30 rfl) rfl (by omega) (fun c52 => ?_) (fun c52 => ?_)
            ·
              exfalso
              omega
            ·
              refine v_iconst (pc := 55) h (dk dt_X12_isLikeBusy 31 rfl) ?_
              refine v_goto (pc := 56) h 60 (dk dt_X12_isLikeBusy 32 rfl) rfl ?_
              refine v_istore_n (lv' := [(1, _), (2, _), (0, _)]) (pc := 60) h (dk dt_X12_isLikeBusy 34 rfl) (Nat.le_of_ble_eq_true rfl) rfl ?_
              refine v_iinc (lv' := [(2, _), (1, _), (0, _)]) (pc := 61) h (dk dt_X12_isLikeBusy 35 rfl) rfl (Nat.le_of_ble_eq_true rfl) rfl ?_
              refine v_goto (pc := 64) h 19 (dk dt_X12_isLikeBusy 36 rfl) rfl ?_
              exact VV.loc (ih (i + 1) (by omega)) ⟨rfl, rfl, rfl, trivial⟩
  refine v_aload_n (pc := 0) h (dk dt_X12_isLikeBusy 0 rfl) rfl ?_
  refine v_geti (pc := 1) h ci12 sh123 (Nat.le_of_ble_eq_true rfl) (j := 33) wF_X12_207 rfl (dk dt_X12_isLikeBusy 1 rfl) ?_
  rw [h33]
  refine v_aload_n (pc := 4) h (dk dt_X12_isLikeBusy 2 rfl) rfl ?_
  refine v_geti (pc := 5) h ci12 sh123 (Nat.le_of_ble_eq_true rfl) (j := 42) wF_X12_272 rfl (dk dt_X12_isLikeBusy 3 rfl) ?_
  rw [h42]
  refine v_icmp_ne (pc := 8) h 15 (dk dt_X12_isLikeBusy 4 rfl) rfl (by omega) (fun c8 => ?_) (fun c8 => ?_)
  ·
    exact absurd c8 (by omega)
  ·
    refine v_iconst (pc := 11) h (dk dt_X12_isLikeBusy 5 rfl) ?_
    refine v_goto (pc := 12) h 16 (dk dt_X12_isLikeBusy 6 rfl) rfl ?_
    refine v_istore_n (lv' := [(1, _), (0, _)]) (pc := 16) h (dk dt_X12_isLikeBusy 8 rfl) (Nat.le_of_ble_eq_true rfl) rfl ?_
    refine v_iconst (pc := 17) h (dk dt_X12_isLikeBusy 9 rfl) ?_
    refine v_istore_n (lv' := [(2, _), (1, _), (0, _)]) (pc := 18) h (dk dt_X12_isLikeBusy 10 rfl) (Nat.le_of_ble_eq_true rfl) rfl ?_
    exact VV.loc (loop TT.toNat 0 (by omega)) ⟨rfl, rfl, rfl, trivial⟩
/-- the longest of the stretches of others that lock y, as the model tells it -/
def lRM (k lo lf lt : Nat → Int) (j : Nat) (y : Int) : Nat → Int
  | 0 => 0
  | p + 1 => if ((p % 3 : Nat) : Int) < k (p / 3) ∧ p / 3 ≠ j ∧ lo p = y then (if lRM k lo lf lt j y p < lt p - lf p then lt p - lf p else lRM k lo lf lt j y p) else lRM k lo lf lt j y p
def lMM (k lo lf lt : Nat → Int) (n j : Nat) : Nat → Int
  | 0 => 0
  | i + 1 => lMM k lo lf lt n j i + lRM k lo lf lt j (lo (3 * j + i)) (3 * n)
theorem lRM_ge {k lo lf lt : Nat → Int} {j : Nat} {y : Int} : ∀ p, lRest k lo lf lt j y p ≤ lRM k lo lf lt j y p := by
  intro p
  induction p with
  | zero => exact Int.le_refl _
  | succ p ih =>
    simp only [lRest, lRM]
    split
    · split <;> split <;> omega
    · exact ih
theorem lMM_ge {k lo lf lt : Nat → Int} {n j : Nat} : ∀ i, lMost k lo lf lt n j i ≤ lMM k lo lf lt n j i := by
  intro i
  induction i with
  | zero => exact Int.le_refl _
  | succ i ih =>
    have := lRM_ge (k := k) (lo := lo) (lf := lf) (lt := lt) (j := j) (y := lo (3 * j + i)) (3 * n)
    simp only [lMost, lMM]
    omega
theorem lRM_b {k lo lf lt : Nat → Int} {n : Nat} (h : ∀ x b : Nat, x < n → b < 3 → (b : Int) < k x → lt (3 * x + b) - lf (3 * x + b) ≤ 30) {j : Nat} {y : Int} : ∀ m : Nat, m ≤ 3 * n → 0 ≤ lRM k lo lf lt j y m ∧ lRM k lo lf lt j y m ≤ 30 := by
  intro m
  induction m with
  | zero => intro _; exact ⟨Int.le_refl _, by show (0 : Int) ≤ 30; decide⟩
  | succ m ih =>
    intro q
    have := ih (by omega)
    simp only [lRM]
    split
    · rename_i z
      have h5 := h (m / 3) (m % 3) (by omega) (by omega) z.1
      rw [show 3 * (m / 3) + m % 3 = m by omega] at h5
      split <;> omega
    · exact this
theorem lMM_b {k lo lf lt : Nat → Int} {n : Nat} (h : ∀ x b : Nat, x < n → b < 3 → (b : Int) < k x → lt (3 * x + b) - lf (3 * x + b) ≤ 30) {j : Nat} : ∀ c : Nat, 0 ≤ lMM k lo lf lt n j c ∧ lMM k lo lf lt n j c ≤ 30 * c := by
  intro c
  induction c with
  | zero => exact ⟨Int.le_refl _, Int.le_refl _⟩
  | succ c ih =>
    have := lRM_b (lo := lo) h (j := j) (y := lo (3 * j + c)) (3 * n) (Nat.le_refl _)
    simp only [lMM]
    omega
/-- what a job doesn't have changes nothing -/
theorem lRM_skip {k lo lf lt : Nat → Int} {j i : Nat} {y : Int} : ∀ e c : Nat, c + e = 3 → k i ≤ (c : Int) → lRM k lo lf lt j y (3 * i + 3) = lRM k lo lf lt j y (3 * i + c) := by
  intro e
  induction e with
  | zero => intro c h1 _; rw [show c = 3 by omega]
  | succ e ih =>
    intro c h1 h2
    rw [ih (c + 1) (by omega) (by omega)]
    show lRM k lo lf lt j y (3 * i + c + 1) = _
    simp only [lRM]
    rw [if_neg (fun z => by have := z.1; rw [show (3 * i + c) / 3 = i by omega, show (3 * i + c) % 3 = c by omega] at this; omega)]
theorem c_X12_longestFor (hst : l.stackTraces = false) (hE : eqJ μ) (hO : okJ μ) (hn : μ 1 9 = (n : Int)) {j : Nat} {y : Int} (hj : j < 12) (hy : InR y) :
    Ct l B D E yX12_longestFor (.code yX12_longestFor cX12_longestFor 7 (some .int)) rm_X12_longestFor [.ref (pl B 123), iI y, iI (j : Int)] μ (ri (lRM (μ 13) (μ 15) (μ 17) (μ 19) j y (3 * n)) μ) NX := by
  have e9 := eqJ_n hE hn
  have hD := okJD hO hn
  have hn12 := hD.1
  obtain ⟨⟨-, -, -, -, -, e129, e130, e131, e132⟩, -⟩ := hE
  have hk : ∀ x, x < n → 0 ≤ μ 13 x ∧ μ 13 x ≤ 3 := fun x hx => (hO.2 x (by omega)).2.2.2.2.2.1
  have hs : ∀ x b : Nat, x < n → (b : Int) < μ 13 x → (0 ≤ μ 15 (3 * x + b) ∧ μ 15 (3 * x + b) ≤ 2) ∧ (0 ≤ μ 17 (3 * x + b) ∧ μ 17 (3 * x + b) ≤ 30) ∧ (0 ≤ μ 19 (3 * x + b) ∧ μ 19 (3 * x + b) ≤ 30) ∧ μ 17 (3 * x + b) < μ 19 (3 * x + b) := fun x b hx hb => by
    have q1 := okD_s (J := jm μ) hD hx (i := b) (by show b < (μ 13 x).toNat; omega)
    have q2 := okD_l (J := jm μ) hD hx
    have q1 : (0 ≤ μ 15 (3 * x + b) ∧ μ 15 (3 * x + b) ≤ 2) ∧ 0 ≤ μ 17 (3 * x + b) ∧ μ 17 (3 * x + b) < μ 19 (3 * x + b) ∧ μ 19 (3 * x + b) ≤ jm μ 1 x := q1
    omega
  have hlb := lRM_b (k := μ 13) (lo := μ 15) (lf := μ 17) (lt := μ 19) (n := n) (fun x b hx hb hk => by have := hs x b hx hk; omega) (j := j) (y := y)
  have eo : ∀ p, μ 130 p = μ 15 p := fun p => by rw [e130]
  have ef : ∀ p, μ 131 p = μ 17 p := fun p => by rw [e131]
  have et : ∀ p, μ 132 p = μ 19 p := fun p => by rw [e132]
  refine ct_of (own := RX12) (lv := [(0, _), (1, _), (2, _)]) hst (by decide) rfl rfl (Nat.le_of_ble_eq_true rfl) fun a h r t => ?_
  have loop : ∀ (d i : Nat), i + d = n → VV a B (SP B D E μ) 0 0 5 [(4, iI (i : Int)), (3, iI (lRM (μ 13) (μ 15) (μ 17) (μ 19) j y (3 * i))), (0, .ref (pl B 123)), (1, iI y), (2, iI (j : Int))] [] := by
    intro d
    induction d with
    | zero =>
      intro i hi
      refine v_iload (pc := 5) h (dk dt_X12_longestFor 4 rfl) rfl ?_
      refine v_aload_n (pc := 7) h (dk dt_X12_longestFor 5 rfl) rfl ?_
      refine v_geti (pc := 8) h ci12 sh123 (Nat.le_of_ble_eq_true rfl) (j := 9) wF_X12_108 rfl (dk dt_X12_longestFor 6 rfl) ?_
      refine v_icmp_ge (pc := 11) h 96 (dk dt_X12_longestFor 7 rfl) rfl (by omega) (fun c11 => ?_) (fun c11 => ?_)
      ·
        refine v_iload_n (pc := 96) h (dk dt_X12_longestFor 52 rfl) rfl ?_
        exact v_iret (pc := 97) h r (dk dt_X12_longestFor 53 rfl) (Nat.le_of_ble_eq_true rfl) (Nat.le_of_ble_eq_true rfl) ⟨by rw [show i = n by omega], rfl⟩
      ·
        exact absurd c11 (by omega)
    | succ d ih =>
      intro i hi
      have hki := hk i (by omega)
      have eki : μ 129 i = μ 13 i := by rw [e129]
      have inner : ∀ (d c : Nat), (c : Int) + d = μ 13 i → VV a B (SP B D E μ) 0 0 20 [(5, iI ((3 * i + c : Nat) : Int)), (4, iI (i : Int)), (3, iI (lRM (μ 13) (μ 15) (μ 17) (μ 19) j y (3 * i + c))), (0, .ref (pl B 123)), (1, iI y), (2, iI (j : Int))] [] := by
        intro d
        induction d with
        | zero =>
          intro c hc
          have hsk := lRM_skip (k := μ 13) (lo := μ 15) (lf := μ 17) (lt := μ 19) (j := j) (i := i) (y := y) (3 - c) c (by omega) (by omega)
          refine v_iload (pc := 20) h (dk dt_X12_longestFor 12 rfl) rfl ?_
          refine v_iconst (pc := 22) h (dk dt_X12_longestFor 13 rfl) ?_
          refine v_iload (pc := 23) h (dk dt_X12_longestFor 14 rfl) rfl ?_
          refine v_imul (pc := 25) h (dk dt_X12_longestFor 15 rfl) ?_
          refine v_aload_n (pc := 26) h (dk dt_X12_longestFor 16 rfl) rfl ?_
          refine v_getr (pc := 27) h ci12 sh123 (Nat.le_of_ble_eq_true rfl) (j := 5) wF_X12_25 rfl (dk dt_X12_longestFor 17 rfl) ?_
          refine v_iload (pc := 30) h (dk dt_X12_longestFor 18 rfl) rfl ?_
          refine v_iald (pc := 32) h sh129 (Nat.le_of_ble_eq_true rfl) (by omega) (dk dt_X12_longestFor 19 rfl) ?_
          rw [Int.toNat_natCast, eki]
          refine v_iadd (pc := 33) h (dk dt_X12_longestFor 20 rfl) ?_
          refine v_icmp_ge (pc := 34) h 90 (dk dt_X12_longestFor 21 rfl) rfl (by omega) (fun c34 => ?_) (fun c34 => ?_)
          ·
            refine v_iinc (lv' := [(4, _), (5, _), (3, _), (0, _), (1, _), (2, _)]) (pc := 90) h (dk dt_X12_longestFor 50 rfl) rfl (Nat.le_of_ble_eq_true rfl) rfl ?_
            refine v_goto (pc := 93) h 5 (dk dt_X12_longestFor 51 rfl) rfl ?_
            exact VV.loc (lv' := [(4, _), (3, _), (0, _), (1, _), (2, _)]) (ih (i + 1) (by omega)) ⟨rfl, lvI hsk.symm, rfl, rfl, rfl, trivial⟩
          ·
            exact absurd c34 (by omega)
        | succ d ih2 =>
          intro c hc
          have hsc := hs i c (by omega) (by omega)
          have hb0 := hlb (3 * i + c) (by omega)
          have hst : lRM (μ 13) (μ 15) (μ 17) (μ 19) j y (3 * i + (c + 1)) = if i ≠ j ∧ μ 15 (3 * i + c) = y then (if lRM (μ 13) (μ 15) (μ 17) (μ 19) j y (3 * i + c) < μ 19 (3 * i + c) - μ 17 (3 * i + c) then μ 19 (3 * i + c) - μ 17 (3 * i + c) else lRM (μ 13) (μ 15) (μ 17) (μ 19) j y (3 * i + c)) else lRM (μ 13) (μ 15) (μ 17) (μ 19) j y (3 * i + c) := by
            show lRM (μ 13) (μ 15) (μ 17) (μ 19) j y (3 * i + c + 1) = _
            have q1 : (3 * i + c) / 3 = i := by omega
            have q2 : (3 * i + c) % 3 = c := by omega
            simp only [lRM]
            rw [q1, q2]
            by_cases q : i ≠ j ∧ μ 15 (3 * i + c) = y
            · rw [if_pos ⟨by omega, q⟩, if_pos q]
            · rw [if_neg (fun z => q z.2), if_neg q]
          refine v_iload (pc := 20) h (dk dt_X12_longestFor 12 rfl) rfl ?_
          refine v_iconst (pc := 22) h (dk dt_X12_longestFor 13 rfl) ?_
          refine v_iload (pc := 23) h (dk dt_X12_longestFor 14 rfl) rfl ?_
          refine v_imul (pc := 25) h (dk dt_X12_longestFor 15 rfl) ?_
          refine v_aload_n (pc := 26) h (dk dt_X12_longestFor 16 rfl) rfl ?_
          refine v_getr (pc := 27) h ci12 sh123 (Nat.le_of_ble_eq_true rfl) (j := 5) wF_X12_25 rfl (dk dt_X12_longestFor 17 rfl) ?_
          refine v_iload (pc := 30) h (dk dt_X12_longestFor 18 rfl) rfl ?_
          refine v_iald (pc := 32) h sh129 (Nat.le_of_ble_eq_true rfl) (by omega) (dk dt_X12_longestFor 19 rfl) ?_
          rw [Int.toNat_natCast, eki]
          refine v_iadd (pc := 33) h (dk dt_X12_longestFor 20 rfl) ?_
          refine v_icmp_ge (pc := 34) h 90 (dk dt_X12_longestFor 21 rfl) rfl (by omega) (fun c34 => ?_) (fun c34 => ?_)
          ·
            exact absurd c34 (by omega)
          ·
            refine v_aload_n (pc := 37) h (dk dt_X12_longestFor 22 rfl) rfl ?_
            refine v_getr (pc := 38) h ci12 sh123 (Nat.le_of_ble_eq_true rfl) (j := 8) wF_X12_34 rfl (dk dt_X12_longestFor 23 rfl) ?_
            refine v_iload (pc := 41) h (dk dt_X12_longestFor 24 rfl) rfl ?_
            refine v_iald (pc := 43) h sh132 (Nat.le_of_ble_eq_true rfl) (by omega) (dk dt_X12_longestFor 25 rfl) ?_
            rw [Int.toNat_natCast, et]
            refine v_aload_n (pc := 44) h (dk dt_X12_longestFor 26 rfl) rfl ?_
            refine v_getr (pc := 45) h ci12 sh123 (Nat.le_of_ble_eq_true rfl) (j := 7) wF_X12_31 rfl (dk dt_X12_longestFor 27 rfl) ?_
            refine v_iload (pc := 48) h (dk dt_X12_longestFor 28 rfl) rfl ?_
            refine v_iald (pc := 50) h sh131 (Nat.le_of_ble_eq_true rfl) (by omega) (dk dt_X12_longestFor 29 rfl) ?_
            rw [Int.toNat_natCast, ef]
            refine v_isub (pc := 51) h (dk dt_X12_longestFor 30 rfl) ?_
            refine v_istore (lv' := [(6, _), (5, _), (4, _), (3, _), (0, _), (1, _), (2, _)]) (pc := 52) h (dk dt_X12_longestFor 31 rfl) (Nat.le_of_ble_eq_true rfl) rfl ?_
            refine v_iload (pc := 54) h (dk dt_X12_longestFor 32 rfl) rfl ?_
            refine v_iload_n (pc := 56) h (dk dt_X12_longestFor 33 rfl) rfl ?_
            refine v_icmp_eq (pc := 57) h 82 (dk dt_X12_longestFor 34 rfl) rfl (by omega) (fun c57 => ?_) (fun c57 => ?_)
            ·
              rw [if_neg (fun z => z.1 (by omega))] at hst
              refine v_iload_n (pc := 82) h (dk dt_X12_longestFor 46 rfl) rfl ?_
              refine v_istore_n (lv' := [(3, _), (6, _), (5, _), (4, _), (0, _), (1, _), (2, _)]) (pc := 83) h (dk dt_X12_longestFor 47 rfl) (Nat.le_of_ble_eq_true rfl) rfl ?_
              refine v_iinc (lv' := [(5, _), (3, _), (6, _), (4, _), (0, _), (1, _), (2, _)]) (pc := 84) h (dk dt_X12_longestFor 48 rfl) rfl (Nat.le_of_ble_eq_true rfl) rfl ?_
              refine v_goto (pc := 87) h 20 (dk dt_X12_longestFor 49 rfl) rfl ?_
              exact VV.loc (lv' := [(5, _), (4, _), (3, _), (0, _), (1, _), (2, _)]) (ih2 (c + 1) (by omega)) ⟨rfl, rfl, lvI hst.symm, rfl, rfl, rfl, trivial⟩
            ·
              refine v_aload_n (pc := 60) h (dk dt_X12_longestFor 35 rfl) rfl ?_
              refine v_getr (pc := 61) h ci12 sh123 (Nat.le_of_ble_eq_true rfl) (j := 6) wF_X12_28 rfl (dk dt_X12_longestFor 36 rfl) ?_
              refine v_iload (pc := 64) h (dk dt_X12_longestFor 37 rfl) rfl ?_
              refine v_iald (pc := 66) h sh130 (Nat.le_of_ble_eq_true rfl) (by omega) (dk dt_X12_longestFor 38 rfl) ?_
              rw [Int.toNat_natCast, eo]
              refine v_iload_n (pc := 67) h (dk dt_X12_longestFor 39 rfl) rfl ?_
              refine v_icmp_ne (pc := 68) h 82 (dk dt_X12_longestFor 40 rfl) rfl (by omega) (fun c68 => ?_) (fun c68 => ?_)
              ·
                rw [if_neg (fun z => by have := z.2; omega)] at hst
                refine v_iload_n (pc := 82) h (dk dt_X12_longestFor 46 rfl) rfl ?_
                refine v_istore_n (lv' := [(3, _), (6, _), (5, _), (4, _), (0, _), (1, _), (2, _)]) (pc := 83) h (dk dt_X12_longestFor 47 rfl) (Nat.le_of_ble_eq_true rfl) rfl ?_
                refine v_iinc (lv' := [(5, _), (3, _), (6, _), (4, _), (0, _), (1, _), (2, _)]) (pc := 84) h (dk dt_X12_longestFor 48 rfl) rfl (Nat.le_of_ble_eq_true rfl) rfl ?_
                refine v_goto (pc := 87) h 20 (dk dt_X12_longestFor 49 rfl) rfl ?_
                exact VV.loc (lv' := [(5, _), (4, _), (3, _), (0, _), (1, _), (2, _)]) (ih2 (c + 1) (by omega)) ⟨rfl, rfl, lvI hst.symm, rfl, rfl, rfl, trivial⟩
              ·
                refine v_iload (pc := 71) h (dk dt_X12_longestFor 41 rfl) rfl ?_
                refine v_iload_n (pc := 73) h (dk dt_X12_longestFor 42 rfl) rfl ?_
                refine v_icmp_le (pc := 74) h 82 (dk dt_X12_longestFor 43 rfl) rfl (by omega) (fun c74 => ?_) (fun c74 => ?_)
                ·
                  rw [if_pos ⟨by omega, by omega⟩, if_neg (by omega)] at hst
                  refine v_iload_n (pc := 82) h (dk dt_X12_longestFor 46 rfl) rfl ?_
                  refine v_istore_n (lv' := [(3, _), (6, _), (5, _), (4, _), (0, _), (1, _), (2, _)]) (pc := 83) h (dk dt_X12_longestFor 47 rfl) (Nat.le_of_ble_eq_true rfl) rfl ?_
                  refine v_iinc (lv' := [(5, _), (3, _), (6, _), (4, _), (0, _), (1, _), (2, _)]) (pc := 84) h (dk dt_X12_longestFor 48 rfl) rfl (Nat.le_of_ble_eq_true rfl) rfl ?_
                  refine v_goto (pc := 87) h 20 (dk dt_X12_longestFor 49 rfl) rfl ?_
                  exact VV.loc (lv' := [(5, _), (4, _), (3, _), (0, _), (1, _), (2, _)]) (ih2 (c + 1) (by omega)) ⟨rfl, rfl, lvI hst.symm, rfl, rfl, rfl, trivial⟩
                ·
                  rw [if_pos ⟨by omega, by omega⟩, if_pos (by omega)] at hst
                  refine v_iload (pc := 77) h (dk dt_X12_longestFor 44 rfl) rfl ?_
                  refine v_goto (pc := 79) h 83 (dk dt_X12_longestFor 45 rfl) rfl ?_
                  refine v_istore_n (lv' := [(3, _), (6, _), (5, _), (4, _), (0, _), (1, _), (2, _)]) (pc := 83) h (dk dt_X12_longestFor 47 rfl) (Nat.le_of_ble_eq_true rfl) rfl ?_
                  refine v_iinc (lv' := [(5, _), (3, _), (6, _), (4, _), (0, _), (1, _), (2, _)]) (pc := 84) h (dk dt_X12_longestFor 48 rfl) rfl (Nat.le_of_ble_eq_true rfl) rfl ?_
                  refine v_goto (pc := 87) h 20 (dk dt_X12_longestFor 49 rfl) rfl ?_
                  exact VV.loc (lv' := [(5, _), (4, _), (3, _), (0, _), (1, _), (2, _)]) (ih2 (c + 1) (by omega)) ⟨rfl, rfl, lvI hst.symm, rfl, rfl, rfl, trivial⟩
      refine v_iload (pc := 5) h (dk dt_X12_longestFor 4 rfl) rfl ?_
      refine v_aload_n (pc := 7) h (dk dt_X12_longestFor 5 rfl) rfl ?_
      refine v_geti (pc := 8) h ci12 sh123 (Nat.le_of_ble_eq_true rfl) (j := 9) wF_X12_108 rfl (dk dt_X12_longestFor 6 rfl) ?_
      refine v_icmp_ge (pc := 11) h 96 (dk dt_X12_longestFor 7 rfl) rfl (by omega) (fun c11 => ?_) (fun c11 => ?_)
      ·
        exact absurd c11 (by omega)
      ·
        refine v_iconst (pc := 14) h (dk dt_X12_longestFor 8 rfl) ?_
        refine v_iload (pc := 15) h (dk dt_X12_longestFor 9 rfl) rfl ?_
        refine v_imul (pc := 17) h (dk dt_X12_longestFor 10 rfl) ?_
        refine v_istore (lv' := [(5, _), (4, _), (3, _), (0, _), (1, _), (2, _)]) (pc := 18) h (dk dt_X12_longestFor 11 rfl) (Nat.le_of_ble_eq_true rfl) rfl ?_
        exact VV.loc (lv' := [(5, _), (4, _), (3, _), (0, _), (1, _), (2, _)]) (inner (μ 13 i).toNat 0 (by omega)) ⟨lvI (by omega), rfl, rfl, rfl, rfl, rfl, trivial⟩
  refine v_iconst (pc := 0) h (dk dt_X12_longestFor 0 rfl) ?_
  refine v_istore_n (lv' := [(3, _), (0, _), (1, _), (2, _)]) (pc := 1) h (dk dt_X12_longestFor 1 rfl) (Nat.le_of_ble_eq_true rfl) rfl ?_
  refine v_iconst (pc := 2) h (dk dt_X12_longestFor 2 rfl) ?_
  refine v_istore (lv' := [(4, _), (3, _), (0, _), (1, _), (2, _)]) (pc := 3) h (dk dt_X12_longestFor 3 rfl) (Nat.le_of_ble_eq_true rfl) rfl ?_
  exact VV.loc (loop n 0 (by omega)) ⟨rfl, rfl, rfl, rfl, rfl, trivial⟩
end
