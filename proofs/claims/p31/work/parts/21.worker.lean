/-! ===== Worker: small ones ===== -/
/-- nothing changes but the worker at w -/
def fr (w : Nat) (μ m : Mm) : Prop := ∀ a, a < w ∨ w + 29 ≤ a → m a = μ a
theorem fr_rf {w : Nat} {μ : Mm} : fr w μ μ := fun _ _ => rfl
theorem fr_tr {w : Nat} {μ m m' : Mm} (h1 : fr w μ m) (h2 : fr w m m') : fr w μ m' := fun a h => (h2 a h).trans (h1 a h)
theorem aP_s {g n : Nat} {μ σ σ' : Mm} (h0 : σ' 0 = σ 0) (h1 : σ' 1 = σ 1) (h2 : σ' 2 = σ 2) (h5 : σ' 5 = σ 5) (ha : aP g n μ σ) : aP g n μ σ' := by
  obtain ⟨q1, q2, q3, q4⟩ := ha
  refine ⟨fun j hj => ?_, ?_, ?_, q4⟩
  · rw [h0, h1, h2]; exact q1 j hj
  · rw [q2]
    congr 1
    refine bsN_cong (fun i _ => ?_)
    rw [decide_eq_decide]
    unfold rdy
    rw [h0, h5]
  · rw [q3]
    congr 1
    refine bsN_cong (fun i _ => ?_)
    rw [decide_eq_decide, h0]
/-- the worker at w is in the state s of a run by K -/
def aW (w n : Nat) (K : Nat → Int) (μ : Mm) (s : St) : Prop :=
  aP (w + 12) n μ s.1 ∧
  (∀ j, j < n → μ (w + 11) j = s.1 3 j ∧ μ (w + 2) j = s.1 4 j) ∧
  (μ (w + 19) 0 = s.1 6 6 ∧ ∀ t : Nat, (t : Int) < s.1 6 6 → μ (w + 21) t = s.1 7 t) ∧
  (qis μ (w + 4) s.2.1 ∧ qis μ (w + 6) s.2.2.1 ∧ qis μ (w + 8) s.2.2.2) ∧
  (μ w 13 = s.1 6 0 ∧ μ w 17 = s.1 6 1 ∧ μ w 12 = s.1 6 5 ∧ (s.1 6 0 ≠ -1 → μ w 15 = s.1 6 2 ∧ μ w 16 = s.1 6 3 ∧ μ w 14 = s.1 6 4)) ∧
  (μ w 8 = K 0 ∧ μ w 9 = K 1 ∧ μ w 10 = K 2 ∧ μ w 11 = K 3) ∧ μ 27 2 = K 4 ∧ (¬ rRow K → μ w 14 = 0)
section
variable {w n : Nat} {K : Nat → Int} {μ m σ : Mm} {s s' : St}
theorem aW.P (h : aW w n K μ s) : aP (w + 12) n μ s.1 := h.1
theorem aW.cnt (h : aW w n K μ s) {j : Nat} (hj : j < n) : μ (w + 11) j = s.1 3 j := (h.2.1 j hj).1
theorem aW.kept (h : aW w n K μ s) {j : Nat} (hj : j < n) : μ (w + 2) j = s.1 4 j := (h.2.1 j hj).2
theorem aW.len (h : aW w n K μ s) : μ (w + 19) 0 = s.1 6 6 := h.2.2.1.1
theorem aW.log (h : aW w n K μ s) {t : Nat} (ht : (t : Int) < s.1 6 6) : μ (w + 21) t = s.1 7 t := h.2.2.1.2 t ht
theorem aW.q (h : aW w n K μ s) : qis μ (w + 4) s.2.1 ∧ qis μ (w + 6) s.2.2.1 ∧ qis μ (w + 8) s.2.2.2 := h.2.2.2.1
theorem aW.f (h : aW w n K μ s) : μ w 13 = s.1 6 0 ∧ μ w 17 = s.1 6 1 ∧ μ w 12 = s.1 6 5 ∧ (s.1 6 0 ≠ -1 → μ w 15 = s.1 6 2 ∧ μ w 16 = s.1 6 3 ∧ μ w 14 = s.1 6 4) := h.2.2.2.2.1
theorem aW.k (h : aW w n K μ s) : μ w 8 = K 0 ∧ μ w 9 = K 1 ∧ μ w 10 = K 2 ∧ μ w 11 = K 3 := h.2.2.2.2.2.1
theorem aW.rise (h : aW w n K μ s) : μ 27 2 = K 4 := h.2.2.2.2.2.2.1
theorem aW.lv (h : aW w n K μ s) : ¬ rRow K → μ w 14 = 0 := h.2.2.2.2.2.2.2
theorem aW_6 (h : aW w n K μ s) (hw : 28 ≤ w) (hm : ∀ a, a ≠ w → a < w + 4 ∨ (w + 10 ≤ a ∧ a < w + 22) → m a = μ a) (hs : ∀ a, a ≠ 6 → s'.1 a = s.1 a) (h66 : s'.1 6 6 = s.1 6 6) (hq : qis m (w + 4) s'.2.1 ∧ qis m (w + 6) s'.2.2.1 ∧ qis m (w + 8) s'.2.2.2)
    (hf : m w 13 = s'.1 6 0 ∧ m w 17 = s'.1 6 1 ∧ m w 12 = s'.1 6 5 ∧ (s'.1 6 0 ≠ -1 → m w 15 = s'.1 6 2 ∧ m w 16 = s'.1 6 3 ∧ m w 14 = s'.1 6 4)) (hk : m w 8 = μ w 8 ∧ m w 9 = μ w 9 ∧ m w 10 = μ w 10 ∧ m w 11 = μ w 11) (hl : ¬ rRow K → m w 14 = 0) : aW w n K m s' := by
  refine ⟨aP_s (hs 0 (by decide)) (hs 1 (by decide)) (hs 2 (by decide)) (hs 5 (by decide)) (aP_c (fun a h1 h2 => hm a (by omega) (by omega)) h.P), fun j hj => ?_, ⟨?_, fun t ht => ?_⟩, hq, hf, ?_, ?_, hl⟩
  · rw [hm _ (by omega) (by omega), hm _ (by omega) (by omega), hs 3 (by decide), hs 4 (by decide)]; exact h.2.1 j hj
  · rw [hm _ (by omega) (by omega), h66]; exact h.len
  · rw [hm _ (by omega) (by omega), hs 7 (by decide)]; exact h.log (by rw [← h66]; exact ht)
  · rw [hk.1, hk.2.1, hk.2.2.1, hk.2.2.2]; exact h.k
  · rw [hm _ (by omega) (by omega)]; exact h.rise
theorem aW_c (h : aW w n K μ s) (hw : 28 ≤ w) (hm : ∀ a, a < w + 22 → m a = μ a) : aW w n K m s :=
  aW_6 h hw (fun a h1 h2 => hm a (by omega)) (fun _ _ => rfl) rfl ⟨qis_c (hm _ (by omega)) (hm _ (by omega)) h.q.1, qis_c (hm _ (by omega)) (hm _ (by omega)) h.q.2.1, qis_c (hm _ (by omega)) (hm _ (by omega)) h.q.2.2⟩ (by rw [hm w (by omega)]; exact h.f) (by rw [hm w (by omega)]; exact ⟨rfl, rfl, rfl, rfl⟩) (by rw [hm w (by omega)]; exact h.lv)
end
theorem bsl_s : ∀ x : Nat, x ≤ 20 → bsl (x : Int) 0 = (x : Int) * 1 ∧ bsl (x : Int) 1 = (x : Int) * 2 ∧ bsl (x : Int) 2 = (x : Int) * 4 := by decide +kernel
theorem lcF_b {σ : Mm} {n : Nat} {c : Int} (h : ∀ j, j < n → 0 ≤ σ 3 j ∧ σ 3 j ≤ c) : ∀ i, i ≤ n → -1 ≤ lcF σ i ∧ (lcF σ i ≤ c ∨ lcF σ i = -1) := by
  intro i hi
  rcases lcF_is σ i with q | ⟨j, h1, h2, h3⟩
  · omega
  · have := h j (by omega); omega
section
variable {l : Launch} {B : Nat} {D : va_G} {E : Nat → ClassId} {μ m σ : Mm} {w n : Nat} {K : Nat → Int} {s : St}
theorem c_X10_usesLevels (hst : l.stackTraces = false) (hr : isW w) (hk : InR (μ w 8)) :
    Ct l B D E yX10_usesLevels (.code yX10_usesLevels cX10_usesLevels 1 (some .boolean)) rm_X10_usesLevels [.ref (pl B w)] μ (ri (if μ w 8 = 0 ∨ μ w 8 = 4 then 1 else 0) μ) NX := by
  refine ct_of (own := RX10) (lv := [(0, _)]) hst (by decide) rfl rfl (Nat.le_of_ble_eq_true rfl) fun a h r t => ?_
  refine v_aload_n (pc := 0) h (dk dt_X10_usesLevels 0 rfl) rfl ?_
  refine v_geti (pc := 1) h ci10 (W_hd hr) (Nat.le_of_ble_eq_true rfl) (j := 8) wF_X10_30 rfl (dk dt_X10_usesLevels 1 rfl) ?_
  refine v_if_eq (pc := 4) h 15 (dk dt_X10_usesLevels 2 rfl) rfl (by omega) (fun c4 => ?_) (fun c4 => ?_)
  ·
    refine v_iconst (pc := 15) h (dk dt_X10_usesLevels 7 rfl) ?_
    refine v_goto (pc := 16) h 20 (dk dt_X10_usesLevels 8 rfl) rfl ?_
    exact v_zret (pc := 20) h r (dk dt_X10_usesLevels 10 rfl) (Nat.le_of_ble_eq_true rfl) (Nat.le_of_ble_eq_true rfl) (by omega) ⟨by first | rw [if_pos (by omega)] | rw [if_neg (by omega)], rfl⟩
  ·
    refine v_aload_n (pc := 7) h (dk dt_X10_usesLevels 3 rfl) rfl ?_
    refine v_geti (pc := 8) h ci10 (W_hd hr) (Nat.le_of_ble_eq_true rfl) (j := 8) wF_X10_30 rfl (dk dt_X10_usesLevels 4 rfl) ?_
    refine v_iconst (pc := 11) h (dk dt_X10_usesLevels 5 rfl) ?_
    refine v_icmp_ne (pc := 12) h 19 (dk dt_X10_usesLevels 6 rfl) rfl (by omega) (fun c12 => ?_) (fun c12 => ?_)
    ·
      refine v_iconst (pc := 19) h (dk dt_X10_usesLevels 9 rfl) ?_
      exact v_zret (pc := 20) h r (dk dt_X10_usesLevels 10 rfl) (Nat.le_of_ble_eq_true rfl) (Nat.le_of_ble_eq_true rfl) (by omega) ⟨by first | rw [if_pos (by omega)] | rw [if_neg (by omega)], rfl⟩
    ·
      refine v_iconst (pc := 15) h (dk dt_X10_usesLevels 7 rfl) ?_
      refine v_goto (pc := 16) h 20 (dk dt_X10_usesLevels 8 rfl) rfl ?_
      exact v_zret (pc := 20) h r (dk dt_X10_usesLevels 10 rfl) (Nat.le_of_ble_eq_true rfl) (Nat.le_of_ble_eq_true rfl) (by omega) ⟨by first | rw [if_pos (by omega)] | rw [if_neg (by omega)], rfl⟩
theorem c_X10_leastCount (hst : l.stackTraces = false) (hr : isW w) (hs : okJ μ) (hn : μ 1 9 = (n : Int)) (hc : ∀ j, j < n → μ (w + 11) j = σ 3 j) (hb3 : ∀ j, j < n → 0 ≤ σ 3 j ∧ σ 3 j ≤ 10000000) :
    Ct l B D E yX10_leastCount (.code yX10_leastCount cX10_leastCount 4 (some .int)) rm_X10_leastCount [.ref (pl B w), iI ((bsN (fun j => decide (rdy σ j)) n : Nat) : Int)] μ (ri (lcZ σ n) μ) NX := by
  have hb := hs.1
  have h12 := bsN_lt12 (fun j => decide (rdy σ j)) (n := n) (by omega)
  have hR : ∀ i, i < n → ((bsN (fun j => decide (rdy σ j)) n).testBit i = true ↔ rdy σ i) := fun i hi => by rw [bsN_bit]; simp [hi]
  generalize bsN (fun j => decide (rdy σ j)) n = R at h12 hR
  refine ct_of (own := RX10) (lv := [(0, _), (1, _)]) hst (by decide) rfl rfl (Nat.le_of_ble_eq_true rfl) fun a h r t => ?_
  have loop : ∀ (d i : Nat), i + d = n → VV a B (SP B D E μ) 0 0 4 [(3, iI (i : Int)), (2, iI (lcF σ i)), (0, .ref (pl B w)), (1, iI (R : Int))] [] := by
    intro d
    induction d with
    | zero =>
      intro i hi
      have hlb := lcF_b hb3 n (Nat.le_refl _)
      have e : i = n := by omega
      subst e
      refine v_iload_n (pc := 4) h (dk dt_X10_leastCount 4 rfl) rfl ?_
      refine v_aload_n (pc := 5) h (dk dt_X10_leastCount 5 rfl) rfl ?_
      refine v_getr (pc := 6) h ci10 (W_hd hr) (Nat.le_of_ble_eq_true rfl) (j := 3) wF_X10_62 rfl (dk dt_X10_leastCount 6 rfl) ?_
      refine v_geti (pc := 9) h ci1 sh1 (Nat.le_of_ble_eq_true rfl) (j := 9) wF_X10_150 rfl (dk dt_X10_leastCount 7 rfl) ?_
      refine v_icmp_ge (pc := 12) h 55 (dk dt_X10_leastCount 8 rfl) rfl (by omega) (fun c12 => ?_) (fun c12 => ?_)
      ·
        refine v_iload_n (pc := 55) h (dk dt_X10_leastCount 31 rfl) rfl ?_
        refine v_iconst (pc := 56) h (dk dt_X10_leastCount 32 rfl) ?_
        refine v_icmp_ne (pc := 57) h 64 (dk dt_X10_leastCount 33 rfl) rfl (by omega) (fun c57 => ?_) (fun c57 => ?_)
        ·
          refine v_iload_n (pc := 64) h (dk dt_X10_leastCount 36 rfl) rfl ?_
          exact v_iret (pc := 65) h r (dk dt_X10_leastCount 37 rfl) (Nat.le_of_ble_eq_true rfl) (Nat.le_of_ble_eq_true rfl) ⟨by unfold lcZ; first | rw [if_pos c57] | rw [if_neg c57], rfl⟩
        ·
          refine v_iconst (pc := 60) h (dk dt_X10_leastCount 34 rfl) ?_
          refine v_goto (pc := 61) h 65 (dk dt_X10_leastCount 35 rfl) rfl ?_
          exact v_iret (pc := 65) h r (dk dt_X10_leastCount 37 rfl) (Nat.le_of_ble_eq_true rfl) (Nat.le_of_ble_eq_true rfl) ⟨by unfold lcZ; first | rw [if_pos c57] | rw [if_neg c57], rfl⟩
      ·
        exact absurd c12 (by omega)
    | succ d ih =>
      intro i hi
      have hin : i < n := by omega
      have hlb := lcF_b hb3 i (by omega)
      have h3 := hb3 i hin
      have hc3 := hc i hin
      have eN : ¬ (rdy σ i ∧ (lcF σ i = -1 ∨ σ 3 i < lcF σ i)) → lcF σ (i + 1) = lcF σ i := fun q => by rw [lcF, if_neg q]
      have eY : rdy σ i ∧ (lcF σ i = -1 ∨ σ 3 i < lcF σ i) → lcF σ (i + 1) = σ 3 i := fun q => by rw [lcF, if_pos q]
      have hio := ih (i + 1) (by omega)
      have fN := fun q => show VV a B (SP B D E μ) 0 0 4 [(3, iI ((i : Int) + 1)), (2, iI (lcF σ i)), (0, .ref (pl B w)), (1, iI (R : Int))] [] by have z := hio; rw [eN q] at z; exact z
      have fY := fun q => show VV a B (SP B D E μ) 0 0 4 [(3, iI ((i : Int) + 1)), (2, iI (σ 3 i)), (0, .ref (pl B w)), (1, iI (R : Int))] [] by have z := hio; rw [eY q] at z; exact z
      refine v_iload_n (pc := 4) h (dk dt_X10_leastCount 4 rfl) rfl ?_
      refine v_aload_n (pc := 5) h (dk dt_X10_leastCount 5 rfl) rfl ?_
      refine v_getr (pc := 6) h ci10 (W_hd hr) (Nat.le_of_ble_eq_true rfl) (j := 3) wF_X10_62 rfl (dk dt_X10_leastCount 6 rfl) ?_
      refine v_geti (pc := 9) h ci1 sh1 (Nat.le_of_ble_eq_true rfl) (j := 9) wF_X10_150 rfl (dk dt_X10_leastCount 7 rfl) ?_
      refine v_icmp_ge (pc := 12) h 55 (dk dt_X10_leastCount 8 rfl) rfl (by omega) (fun c12 => ?_) (fun c12 => ?_)
      ·
        exact absurd c12 (by omega)
      ·
        refine v_iload_n (pc := 15) h (dk dt_X10_leastCount 9 rfl) rfl ?_
        refine v_iload_n (pc := 16) h (dk dt_X10_leastCount 10 rfl) rfl ?_
        refine v_ishr (pc := 17) h (dk dt_X10_leastCount 11 rfl) ?_
        refine v_iconst (pc := 18) h (dk dt_X10_leastCount 12 rfl) ?_
        refine v_iand (pc := 19) h (dk dt_X10_leastCount 13 rfl) ?_
        rw [bit1 (by omega) (by omega)]
        refine v_if_eq (pc := 20) h 49 (dk dt_X10_leastCount 14 rfl) rfl (by split <;> omega) (fun c20 => ?_) (fun c20 => ?_)
        ·
          have d20 : ¬ rdy σ i := fun q => by rw [if_pos ((hR i hin).mpr q)] at c20; omega
          refine v_iinc (lv' := [(3, _), (2, _), (0, _), (1, _)]) (pc := 49) h (dk dt_X10_leastCount 29 rfl) rfl (Nat.le_of_ble_eq_true rfl) rfl ?_
          refine v_goto (pc := 52) h 4 (dk dt_X10_leastCount 30 rfl) rfl ?_
          first
            | exact VV.loc (fN (fun q => d20 q.1)) ⟨rfl, rfl, rfl, rfl, trivial⟩
            | exact VV.loc (fY ⟨d20, by omega⟩) ⟨rfl, rfl, rfl, rfl, trivial⟩
            | exact VV.loc (fN (fun q => by omega)) ⟨rfl, rfl, rfl, rfl, trivial⟩
        ·
          have d20 : rdy σ i := by by_cases q : rdy σ i; exact q; rw [if_neg (fun z => q ((hR i hin).mp z))] at c20; omega
          refine v_iload_n (pc := 23) h (dk dt_X10_leastCount 15 rfl) rfl ?_
          refine v_iconst (pc := 24) h (dk dt_X10_leastCount 16 rfl) ?_
          refine v_icmp_eq (pc := 25) h 40 (dk dt_X10_leastCount 17 rfl) rfl (by omega) (fun c25 => ?_) (fun c25 => ?_)
          ·
            refine v_aload_n (pc := 40) h (dk dt_X10_leastCount 24 rfl) rfl ?_
            refine v_getr (pc := 41) h ci10 (W_hd hr) (Nat.le_of_ble_eq_true rfl) (j := 6) wF_X10_27 rfl (dk dt_X10_leastCount 25 rfl) ?_
            refine v_iload_n (pc := 44) h (dk dt_X10_leastCount 26 rfl) rfl ?_
            refine v_cVi (pc := 45) h (c_X7_atn h.quiet (W_counts hr) (o1 := w + 11) rfl (Nat.le_of_ble_eq_true rfl) (by omega)) kv_X7_at (W_counts hr).1 wM_X10_170 rfl rfl (Nat.le_of_ble_eq_true rfl) (RM.of rfl) rfl rfl (dk dt_X10_leastCount 27 rfl) ?_
            rw [hc3]
            refine v_istore_n (lv' := [(2, _), (3, _), (0, _), (1, _)]) (pc := 48) h (dk dt_X10_leastCount 28 rfl) (Nat.le_of_ble_eq_true rfl) rfl ?_
            refine v_iinc (lv' := [(3, _), (2, _), (0, _), (1, _)]) (pc := 49) h (dk dt_X10_leastCount 29 rfl) rfl (Nat.le_of_ble_eq_true rfl) rfl ?_
            refine v_goto (pc := 52) h 4 (dk dt_X10_leastCount 30 rfl) rfl ?_
            first
              | exact VV.loc (fN (fun q => d20 q.1)) ⟨rfl, rfl, rfl, rfl, trivial⟩
              | exact VV.loc (fY ⟨d20, by omega⟩) ⟨rfl, rfl, rfl, rfl, trivial⟩
              | exact VV.loc (fN (fun q => by omega)) ⟨rfl, rfl, rfl, rfl, trivial⟩
          ·
            refine v_aload_n (pc := 28) h (dk dt_X10_leastCount 18 rfl) rfl ?_
            refine v_getr (pc := 29) h ci10 (W_hd hr) (Nat.le_of_ble_eq_true rfl) (j := 6) wF_X10_27 rfl (dk dt_X10_leastCount 19 rfl) ?_
            refine v_iload_n (pc := 32) h (dk dt_X10_leastCount 20 rfl) rfl ?_
            refine v_cVi (pc := 33) h (c_X7_atn h.quiet (W_counts hr) (o1 := w + 11) rfl (Nat.le_of_ble_eq_true rfl) (by omega)) kv_X7_at (W_counts hr).1 wM_X10_170 rfl rfl (Nat.le_of_ble_eq_true rfl) (RM.of rfl) rfl rfl (dk dt_X10_leastCount 21 rfl) ?_
            rw [hc3]
            refine v_iload_n (pc := 36) h (dk dt_X10_leastCount 22 rfl) rfl ?_
            refine v_icmp_ge (pc := 37) h 49 (dk dt_X10_leastCount 23 rfl) rfl (by omega) (fun c37 => ?_) (fun c37 => ?_)
            ·
              refine v_iinc (lv' := [(3, _), (2, _), (0, _), (1, _)]) (pc := 49) h (dk dt_X10_leastCount 29 rfl) rfl (Nat.le_of_ble_eq_true rfl) rfl ?_
              refine v_goto (pc := 52) h 4 (dk dt_X10_leastCount 30 rfl) rfl ?_
              first
                | exact VV.loc (fN (fun q => d20 q.1)) ⟨rfl, rfl, rfl, rfl, trivial⟩
                | exact VV.loc (fY ⟨d20, by omega⟩) ⟨rfl, rfl, rfl, rfl, trivial⟩
                | exact VV.loc (fN (fun q => by omega)) ⟨rfl, rfl, rfl, rfl, trivial⟩
            ·
              refine v_aload_n (pc := 40) h (dk dt_X10_leastCount 24 rfl) rfl ?_
              refine v_getr (pc := 41) h ci10 (W_hd hr) (Nat.le_of_ble_eq_true rfl) (j := 6) wF_X10_27 rfl (dk dt_X10_leastCount 25 rfl) ?_
              refine v_iload_n (pc := 44) h (dk dt_X10_leastCount 26 rfl) rfl ?_
              refine v_cVi (pc := 45) h (c_X7_atn h.quiet (W_counts hr) (o1 := w + 11) rfl (Nat.le_of_ble_eq_true rfl) (by omega)) kv_X7_at (W_counts hr).1 wM_X10_170 rfl rfl (Nat.le_of_ble_eq_true rfl) (RM.of rfl) rfl rfl (dk dt_X10_leastCount 27 rfl) ?_
              rw [hc3]
              refine v_istore_n (lv' := [(2, _), (3, _), (0, _), (1, _)]) (pc := 48) h (dk dt_X10_leastCount 28 rfl) (Nat.le_of_ble_eq_true rfl) rfl ?_
              refine v_iinc (lv' := [(3, _), (2, _), (0, _), (1, _)]) (pc := 49) h (dk dt_X10_leastCount 29 rfl) rfl (Nat.le_of_ble_eq_true rfl) rfl ?_
              refine v_goto (pc := 52) h 4 (dk dt_X10_leastCount 30 rfl) rfl ?_
              first
                | exact VV.loc (fN (fun q => d20 q.1)) ⟨rfl, rfl, rfl, rfl, trivial⟩
                | exact VV.loc (fY ⟨d20, by omega⟩) ⟨rfl, rfl, rfl, rfl, trivial⟩
                | exact VV.loc (fN (fun q => by omega)) ⟨rfl, rfl, rfl, rfl, trivial⟩
  refine v_iconst (pc := 0) h (dk dt_X10_leastCount 0 rfl) ?_
  refine v_istore_n (lv' := [(2, _), (0, _), (1, _)]) (pc := 1) h (dk dt_X10_leastCount 1 rfl) (Nat.le_of_ble_eq_true rfl) rfl ?_
  refine v_iconst (pc := 2) h (dk dt_X10_leastCount 2 rfl) ?_
  refine v_istore_n (lv' := [(3, _), (2, _), (0, _), (1, _)]) (pc := 3) h (dk dt_X10_leastCount 3 rfl) (Nat.le_of_ble_eq_true rfl) rfl ?_
  exact VV.loc (loop n 0 (by omega)) ⟨rfl, rfl, rfl, rfl, trivial⟩
theorem filt_s (f : Nat → Bool) (i : Nat) : (List.range (i + 1)).filter f = (List.range i).filter f ++ if f i then [i] else [] := by
  rw [List.range_succ, List.filter_append]
  congr 1
  simp only [List.filter_cons, List.filter_nil]
theorem filt_le (f : Nat → Bool) {i n : Nat} (h : i ≤ n) : ((List.range i).filter f).length ≤ ((List.range n).filter f).length := by
  induction n with
  | zero => rw [show i = 0 by omega]; exact Nat.le_refl _
  | succ n ih =>
    by_cases e : i = n + 1
    · rw [e]; exact Nat.le_refl _
    · rw [filt_s, List.length_append]; have := ih (by omega); omega
theorem c_X10_welcome (hst : l.stackTraces = false) (hr : isW w) (hw : 28 ≤ w) (hs : okJ μ) (hn : μ 1 9 = (n : Int)) (hk8 : μ w 8 = K 0) (hK : okK K) {cm : Nat → Bool} {L : List Nat} (hq : qis μ (w + 4) L) (hL : rRow K → L.length + ((List.range n).filter cm).length ≤ 12) {z : Int} :
    Ct l B D E yX10_welcome (.code yX10_welcome cX10_welcome 4 none) rm_X10_welcome [.ref (pl B w), iI ((bsN cm n : Nat) : Int), iI z] μ (fun v m => v = none ∧ (∀ a, a ≠ w + 11 → a ≠ w + 4 → a ≠ w + 5 → m a = μ a) ∧ (∀ j, j < n → m (w + 11) j = if cm j then z else μ (w + 11) j) ∧ qis m (w + 4) (L ++ if rRow K then (List.range n).filter cm else [])) NX := by
  have hb := hs.1
  have hK0 := hK.1
  have h12 := bsN_lt12 cm (n := n) (by omega)
  have hR : ∀ i, i < n → (bsN cm n).testBit i = cm i := fun i hi => by rw [bsN_bit]; simp [hi]
  generalize bsN cm n = R at h12 hR
  refine ct_of (own := RX10) (lv := [(0, _), (1, _), (2, _)]) hst (by decide) rfl rfl (Nat.le_of_ble_eq_true rfl) fun a h r t => ?_
  have loop : ∀ (d i : Nat) (m : Mm), i + d = n → (∀ a, a ≠ w + 11 → a ≠ w + 4 → a ≠ w + 5 → m a = μ a) → (∀ j, j < n → m (w + 11) j = if j < i ∧ cm j = true then z else μ (w + 11) j) → qis m (w + 4) (L ++ if rRow K then (List.range i).filter cm else []) → VV a B (SP B D E m) 0 0 2 [(3, iI (i : Int)), (0, .ref (pl B w)), (1, iI (R : Int)), (2, iI z)] [] := by
    intro d
    induction d with
    | zero =>
      intro i m hi m1 m2 m3
      have e1 := congrFun (m1 1 (by omega) (by omega) (by omega)) 9
      have e : i = n := by omega
      subst e
      refine v_iload_n (pc := 2) h (dk dt_X10_welcome 2 rfl) rfl ?_
      refine v_aload_n (pc := 3) h (dk dt_X10_welcome 3 rfl) rfl ?_
      refine v_getr (pc := 4) h ci10 (W_hd hr) (Nat.le_of_ble_eq_true rfl) (j := 3) wF_X10_62 rfl (dk dt_X10_welcome 4 rfl) ?_
      refine v_geti (pc := 7) h ci1 sh1 (Nat.le_of_ble_eq_true rfl) (j := 9) wF_X10_150 rfl (dk dt_X10_welcome 5 rfl) ?_
      refine v_icmp_ge (pc := 10) h 55 (dk dt_X10_welcome 6 rfl) rfl (by omega) (fun c10 => ?_) (fun c10 => ?_)
      ·
        exact v_vret (pc := 55) h r (dk dt_X10_welcome 29 rfl) (Nat.le_of_ble_eq_true rfl) (Nat.le_of_ble_eq_true rfl) ⟨rfl, m1, fun j hj => by rw [m2 j hj]; simp [hj], m3⟩
      ·
        exact absurd c10 (by omega)
    | succ d ih =>
      intro i m hi m1 m2 m3
      have hin : i < n := by omega
      have e1 := congrFun (m1 1 (by omega) (by omega) (by omega)) 9
      have e8 : m w 8 = K 0 := by rw [m1 w (by omega) (by omega) (by omega)]; exact hk8
      have hfl := filt_le cm (i := i + 1) (n := n) (by omega)
      rw [filt_s, List.length_append] at hfl
      have hmu : (mup m (w + 11) i z) w 8 = K 0 := by rw [mup_nk (by omega)]; exact e8
      have hms : (mup m (w + 11) i z) (w + 4) 1 = m (w + 4) 1 := mup_nk (by omega)
      have m31 := m3.1
      rw [List.length_append] at m31
      have c2 : cm i = true → ∀ j, j < n → (mup m (w + 11) i z) (w + 11) j = if j < i + 1 ∧ cm j = true then z else μ (w + 11) j := by
        intro q j hj
        rw [mup_row, m2 j hj]
        by_cases e : j = i
        · subst e; rw [if_pos rfl, if_pos ⟨by omega, q⟩]
        · rw [if_neg e]
          by_cases c : j < i ∧ cm j = true
          · rw [if_pos c, if_pos ⟨by omega, c.2⟩]
          · rw [if_neg c, if_neg (fun z => c ⟨by omega, z.2⟩)]
      refine v_iload_n (pc := 2) h (dk dt_X10_welcome 2 rfl) rfl ?_
      refine v_aload_n (pc := 3) h (dk dt_X10_welcome 3 rfl) rfl ?_
      refine v_getr (pc := 4) h ci10 (W_hd hr) (Nat.le_of_ble_eq_true rfl) (j := 3) wF_X10_62 rfl (dk dt_X10_welcome 4 rfl) ?_
      refine v_geti (pc := 7) h ci1 sh1 (Nat.le_of_ble_eq_true rfl) (j := 9) wF_X10_150 rfl (dk dt_X10_welcome 5 rfl) ?_
      refine v_icmp_ge (pc := 10) h 55 (dk dt_X10_welcome 6 rfl) rfl (by omega) (fun c10 => ?_) (fun c10 => ?_)
      ·
        exact absurd c10 (by omega)
      ·
        refine v_iload_n (pc := 13) h (dk dt_X10_welcome 7 rfl) rfl ?_
        refine v_iload_n (pc := 14) h (dk dt_X10_welcome 8 rfl) rfl ?_
        refine v_ishr (pc := 15) h (dk dt_X10_welcome 9 rfl) ?_
        refine v_iconst (pc := 16) h (dk dt_X10_welcome 10 rfl) ?_
        refine v_iand (pc := 17) h (dk dt_X10_welcome 11 rfl) ?_
        rw [bit1 (by omega) (by omega), hR i hin]
        refine v_if_eq (pc := 18) h 49 (dk dt_X10_welcome 12 rfl) rfl (by split <;> omega) (fun c18 => ?_) (fun c18 => ?_)
        ·
          have d18 : cm i = false := by cases q : cm i; rfl; rw [if_pos q] at c18; omega
          refine v_iinc (lv' := [(3, _), (0, _), (1, _), (2, _)]) (pc := 49) h (dk dt_X10_welcome 27 rfl) rfl (Nat.le_of_ble_eq_true rfl) rfl ?_
          refine v_goto (pc := 52) h 2 (dk dt_X10_welcome 28 rfl) rfl ?_
          first
            | exact VV.loc (ih (i + 1) m (by omega) m1 (fun j hj => by rw [m2 j hj]; by_cases e : j = i; (subst e; simp [d18]); (by_cases c : j < i ∧ cm j = true; (rw [if_pos c, if_pos ⟨by omega, c.2⟩]); (rw [if_neg c, if_neg (fun z => c ⟨by omega, z.2⟩)]))) (by rw [filt_s, d18]; simpa using m3)) ⟨rfl, rfl, rfl, rfl, trivial⟩
            | exact VV.loc (ih (i + 1) _ (by omega) (fun a h1 h2 h3 => by funext b; rw [mup_nk h1]; exact congrFun (m1 a h1 h2 h3) b) (c2 d18) (by rw [if_neg d34] at m3 ⊢; exact qis_c (by funext b; exact mup_nk (by omega)) (by funext b; exact mup_nk (by omega)) m3)) ⟨rfl, rfl, rfl, rfl, trivial⟩
            | exact VV.loc (ih (i + 1) _ (by omega) (fun a h1 h2 h3 => by funext b; rw [mup_nk h2, mup_nk (by omega), mup_nk h1]; exact congrFun (m1 a h1 h2 h3) b) (fun j hj => by rw [mup_nk (by omega), mup_nk (by omega)]; exact c2 d18 j hj) (by rw [if_pos d34] at m3 ⊢; rw [filt_s, d18, if_pos rfl, ← List.append_assoc]; exact qis_j (qis_c (by funext b; exact mup_nk (by omega)) (by funext b; exact mup_nk (by omega)) m3))) ⟨rfl, rfl, rfl, rfl, trivial⟩
        ·
          have d18 : cm i = true := by cases q : cm i; rw [q] at c18; exact absurd rfl c18; rfl
          rw [d18, if_pos rfl, List.length_singleton] at hfl
          refine v_aload_n (pc := 21) h (dk dt_X10_welcome 13 rfl) rfl ?_
          refine v_getr (pc := 22) h ci10 (W_hd hr) (Nat.le_of_ble_eq_true rfl) (j := 6) wF_X10_27 rfl (dk dt_X10_welcome 14 rfl) ?_
          refine v_iload_n (pc := 25) h (dk dt_X10_welcome 15 rfl) rfl ?_
          refine v_iload_n (pc := 26) h (dk dt_X10_welcome 16 rfl) rfl ?_
          refine v_cVv (pc := 27) h (c_X7_putn h.quiet (W_counts hr) (o1 := w + 11) rfl (Nat.le_of_ble_eq_true rfl) (by omega)) kv_X7_put (W_counts hr).1 wM_X10_155 rfl rfl (Nat.le_of_ble_eq_true rfl) (RM.of rfl) rfl rfl (dk dt_X10_welcome 17 rfl) ?_
          refine v_aload_n (pc := 30) h (dk dt_X10_welcome 18 rfl) rfl ?_
          refine v_cVi (pc := 31) h (c_X10_usesLevels h.quiet hr (by omega)) kv_X10_usesLevels (W_hd hr) wM_X10_158 rfl rfl (Nat.le_of_ble_eq_true rfl) (RM.of rfl) rfl rfl (dk dt_X10_welcome 19 rfl) ?_
          rw [hmu]
          refine v_if_eq (pc := 34) h 49 (dk dt_X10_welcome 20 rfl) rfl (by split <;> omega) (fun c34 => ?_) (fun c34 => ?_)
          ·
            have d34 : ¬ rRow K := fun q => by rw [if_pos q] at c34; omega
            refine v_iinc (lv' := [(3, _), (0, _), (1, _), (2, _)]) (pc := 49) h (dk dt_X10_welcome 27 rfl) rfl (Nat.le_of_ble_eq_true rfl) rfl ?_
            refine v_goto (pc := 52) h 2 (dk dt_X10_welcome 28 rfl) rfl ?_
            first
              | exact VV.loc (ih (i + 1) m (by omega) m1 (fun j hj => by rw [m2 j hj]; by_cases e : j = i; (subst e; simp [d18]); (by_cases c : j < i ∧ cm j = true; (rw [if_pos c, if_pos ⟨by omega, c.2⟩]); (rw [if_neg c, if_neg (fun z => c ⟨by omega, z.2⟩)]))) (by rw [filt_s, d18]; simpa using m3)) ⟨rfl, rfl, rfl, rfl, trivial⟩
              | exact VV.loc (ih (i + 1) _ (by omega) (fun a h1 h2 h3 => by funext b; rw [mup_nk h1]; exact congrFun (m1 a h1 h2 h3) b) (c2 d18) (by rw [if_neg d34] at m3 ⊢; exact qis_c (by funext b; exact mup_nk (by omega)) (by funext b; exact mup_nk (by omega)) m3)) ⟨rfl, rfl, rfl, rfl, trivial⟩
              | exact VV.loc (ih (i + 1) _ (by omega) (fun a h1 h2 h3 => by funext b; rw [mup_nk h2, mup_nk (by omega), mup_nk h1]; exact congrFun (m1 a h1 h2 h3) b) (fun j hj => by rw [mup_nk (by omega), mup_nk (by omega)]; exact c2 d18 j hj) (by rw [if_pos d34] at m3 ⊢; rw [filt_s, d18, if_pos rfl, ← List.append_assoc]; exact qis_j (qis_c (by funext b; exact mup_nk (by omega)) (by funext b; exact mup_nk (by omega)) m3))) ⟨rfl, rfl, rfl, rfl, trivial⟩
          ·
            have d34 : rRow K := by by_cases q : rRow K; exact q; rw [if_neg q] at c34; omega
            have hL := hL d34
            rw [if_pos d34] at m31
            refine v_aload_n (pc := 37) h (dk dt_X10_welcome 21 rfl) rfl ?_
            refine v_getr (pc := 38) h ci10 (W_hd hr) (Nat.le_of_ble_eq_true rfl) (j := 5) wF_X10_23 rfl (dk dt_X10_welcome 22 rfl) ?_
            refine v_iconst (pc := 41) h (dk dt_X10_welcome 23 rfl) ?_
            refine v_cVi (pc := 42) h (c_X2_lineOf h.quiet (W_levels hr) (by omega)) kv_X2_lineOf (V_hd (W_levels hr)) wM_X10_161 rfl rfl (Nat.le_of_ble_eq_true rfl) (RM.of rfl) rfl rfl (dk dt_X10_welcome 24 rfl) ?_
            rw [show lineAt (w + 3) 0 = w + 4 from rfl]
            refine v_iload_n (pc := 45) h (dk dt_X10_welcome 25 rfl) rfl ?_
            refine v_cVv (pc := 46) h (c_X3_join h.quiet (V_low (W_levels hr)) (by rw [hms]; omega)) kv_X3_join (V_low (W_levels hr)).1 wM_X10_165 rfl rfl (Nat.le_of_ble_eq_true rfl) (RM.of rfl) rfl rfl (dk dt_X10_welcome 26 rfl) ?_
            refine v_iinc (lv' := [(3, _), (0, _), (1, _), (2, _)]) (pc := 49) h (dk dt_X10_welcome 27 rfl) rfl (Nat.le_of_ble_eq_true rfl) rfl ?_
            refine v_goto (pc := 52) h 2 (dk dt_X10_welcome 28 rfl) rfl ?_
            first
              | exact VV.loc (ih (i + 1) m (by omega) m1 (fun j hj => by rw [m2 j hj]; by_cases e : j = i; (subst e; simp [d18]); (by_cases c : j < i ∧ cm j = true; (rw [if_pos c, if_pos ⟨by omega, c.2⟩]); (rw [if_neg c, if_neg (fun z => c ⟨by omega, z.2⟩)]))) (by rw [filt_s, d18]; simpa using m3)) ⟨rfl, rfl, rfl, rfl, trivial⟩
              | exact VV.loc (ih (i + 1) _ (by omega) (fun a h1 h2 h3 => by funext b; rw [mup_nk h1]; exact congrFun (m1 a h1 h2 h3) b) (c2 d18) (by rw [if_neg d34] at m3 ⊢; exact qis_c (by funext b; exact mup_nk (by omega)) (by funext b; exact mup_nk (by omega)) m3)) ⟨rfl, rfl, rfl, rfl, trivial⟩
              | exact VV.loc (ih (i + 1) _ (by omega) (fun a h1 h2 h3 => by funext b; rw [mup_nk h2, mup_nk (by omega), mup_nk h1]; exact congrFun (m1 a h1 h2 h3) b) (fun j hj => by rw [mup_nk (by omega), mup_nk (by omega)]; exact c2 d18 j hj) (by rw [if_pos d34] at m3 ⊢; rw [filt_s, d18, if_pos rfl, ← List.append_assoc]; exact qis_j (qis_c (by funext b; exact mup_nk (by omega)) (by funext b; exact mup_nk (by omega)) m3))) ⟨rfl, rfl, rfl, rfl, trivial⟩
  refine v_iconst (pc := 0) h (dk dt_X10_welcome 0 rfl) ?_
  refine v_istore_n (lv' := [(3, _), (0, _), (1, _), (2, _)]) (pc := 1) h (dk dt_X10_welcome 1 rfl) (Nat.le_of_ble_eq_true rfl) rfl ?_
  exact VV.loc (loop n 0 μ (by omega) (fun _ _ _ _ => rfl) (fun j hj => by rw [if_neg (by omega)]) (by simpa using hq)) ⟨rfl, rfl, rfl, rfl, trivial⟩
theorem c_X10_turnOf (hst : l.stackTraces = false) (hr : isW w) (hk8 : μ w 8 = K 0) (hk9 : μ w 9 = K 1) (hK : okK K) {j : Nat} (hj : j < 12) (h0 : μ (w + 14) j = σ 0 j) {lv : Int} (hlv : K 0 = 4 → μ w 14 = lv ∧ 0 ≤ lv ∧ lv ≤ 2) {J : Mm} :
    Ct l B D E yX10_turnOf (.code yX10_turnOf cX10_turnOf 2 (some .int)) rm_X10_turnOf [.ref (pl B w), iI (j : Int)] μ (ri (tnF J K σ lv j) μ) NX := by
  have hK0 := hK.1
  have hK1 := hK.2.1
  have hsl := bsl_s (K 1).toNat (by omega)
  rw [Int.toNat_of_nonneg (by omega)] at hsl
  unfold tnF
  refine ct_of (own := RX10) (lv := [(0, _), (1, _)]) hst (by decide) rfl rfl (Nat.le_of_ble_eq_true rfl) fun a h r t => ?_
  refine v_aload_n (pc := 0) h (dk dt_X10_turnOf 0 rfl) rfl ?_
  refine v_geti (pc := 1) h ci10 (W_hd hr) (Nat.le_of_ble_eq_true rfl) (j := 8) wF_X10_30 rfl (dk dt_X10_turnOf 1 rfl) ?_
  rcases (show μ w 8 = 0 ∨ μ w 8 = 1 ∨ μ w 8 = 2 ∨ μ w 8 = 3 ∨ μ w 8 = 4 ∨ μ w 8 = 5 ∨ μ w 8 = 6 ∨ μ w 8 = 7 ∨ μ w 8 = 8 by omega) with e | e | e | e | e | e | e | e | e
  ·
    rw [e]
    refine v_switchIn (pc := 4) h 52 (dk dt_X10_turnOf 2 rfl) (by omega) (by omega) (by omega) rfl rfl ?_
    refine v_aload_n (pc := 52) h (dk dt_X10_turnOf 3 rfl) rfl ?_
    refine v_geti (pc := 53) h ci10 (W_hd hr) (Nat.le_of_ble_eq_true rfl) (j := 9) wF_X10_34 rfl (dk dt_X10_turnOf 4 rfl) ?_
    exact v_iret (pc := 56) h r (dk dt_X10_turnOf 5 rfl) (Nat.le_of_ble_eq_true rfl) (Nat.le_of_ble_eq_true rfl) ⟨by rw [if_neg (by omega), if_neg (by omega), if_neg (by omega), hk9], rfl⟩
  ·
    rw [e]
    refine v_switchIn (pc := 4) h 67 (dk dt_X10_turnOf 2 rfl) (by omega) (by omega) (by omega) rfl rfl ?_
    refine v_aload_n (pc := 67) h (dk dt_X10_turnOf 12 rfl) rfl ?_
    refine v_getr (pc := 68) h ci10 (W_hd hr) (Nat.le_of_ble_eq_true rfl) (j := 0) wF_X10_75 rfl (dk dt_X10_turnOf 13 rfl) ?_
    refine v_getr (pc := 71) h ci6 (P_hd (W_prog hr)) (Nat.le_of_ble_eq_true rfl) (j := 0) wF_X10_198 rfl (dk dt_X10_turnOf 14 rfl) ?_
    refine v_iload_n (pc := 74) h (dk dt_X10_turnOf 15 rfl) rfl ?_
    refine v_cVi (pc := 75) h (c_X7_atn h.quiet (P_lefts (W_prog hr)) (o1 := w + 14) rfl (Nat.le_of_ble_eq_true rfl) (by omega)) kv_X7_at (P_lefts (W_prog hr)).1 wM_X10_170 rfl rfl (Nat.le_of_ble_eq_true rfl) (RM.of rfl) rfl rfl (dk dt_X10_turnOf 16 rfl) ?_
    exact v_iret (pc := 78) h r (dk dt_X10_turnOf 17 rfl) (Nat.le_of_ble_eq_true rfl) (Nat.le_of_ble_eq_true rfl) ⟨by rw [if_pos (by omega), h0], rfl⟩
  ·
    rw [e]
    refine v_switchIn (pc := 4) h 67 (dk dt_X10_turnOf 2 rfl) (by omega) (by omega) (by omega) rfl rfl ?_
    refine v_aload_n (pc := 67) h (dk dt_X10_turnOf 12 rfl) rfl ?_
    refine v_getr (pc := 68) h ci10 (W_hd hr) (Nat.le_of_ble_eq_true rfl) (j := 0) wF_X10_75 rfl (dk dt_X10_turnOf 13 rfl) ?_
    refine v_getr (pc := 71) h ci6 (P_hd (W_prog hr)) (Nat.le_of_ble_eq_true rfl) (j := 0) wF_X10_198 rfl (dk dt_X10_turnOf 14 rfl) ?_
    refine v_iload_n (pc := 74) h (dk dt_X10_turnOf 15 rfl) rfl ?_
    refine v_cVi (pc := 75) h (c_X7_atn h.quiet (P_lefts (W_prog hr)) (o1 := w + 14) rfl (Nat.le_of_ble_eq_true rfl) (by omega)) kv_X7_at (P_lefts (W_prog hr)).1 wM_X10_170 rfl rfl (Nat.le_of_ble_eq_true rfl) (RM.of rfl) rfl rfl (dk dt_X10_turnOf 16 rfl) ?_
    exact v_iret (pc := 78) h r (dk dt_X10_turnOf 17 rfl) (Nat.le_of_ble_eq_true rfl) (Nat.le_of_ble_eq_true rfl) ⟨by rw [if_pos (by omega), h0], rfl⟩
  ·
    rw [e]
    refine v_switchIn (pc := 4) h 79 (dk dt_X10_turnOf 2 rfl) (by omega) (by omega) (by omega) rfl rfl ?_
    refine v_iconst (pc := 79) h (dk dt_X10_turnOf 18 rfl) ?_
    exact v_iret (pc := 80) h r (dk dt_X10_turnOf 19 rfl) (Nat.le_of_ble_eq_true rfl) (Nat.le_of_ble_eq_true rfl) ⟨by rw [if_neg (by omega), if_neg (by omega), if_pos (by omega)], rfl⟩
  ·
    rw [e]
    refine v_switchIn (pc := 4) h 57 (dk dt_X10_turnOf 2 rfl) (by omega) (by omega) (by omega) rfl rfl ?_
    refine v_aload_n (pc := 57) h (dk dt_X10_turnOf 6 rfl) rfl ?_
    refine v_geti (pc := 58) h ci10 (W_hd hr) (Nat.le_of_ble_eq_true rfl) (j := 9) wF_X10_34 rfl (dk dt_X10_turnOf 7 rfl) ?_
    refine v_aload_n (pc := 61) h (dk dt_X10_turnOf 8 rfl) rfl ?_
    refine v_geti (pc := 62) h ci10 (W_hd hr) (Nat.le_of_ble_eq_true rfl) (j := 14) wF_X10_50 rfl (dk dt_X10_turnOf 9 rfl) ?_
    refine v_ishl (pc := 65) h (dk dt_X10_turnOf 10 rfl) ?_
    exact v_iret (pc := 66) h r (dk dt_X10_turnOf 11 rfl) (Nat.le_of_ble_eq_true rfl) (Nat.le_of_ble_eq_true rfl) ⟨by have q := hlv (by omega); rw [if_neg (by omega), if_pos (by omega), q.1, hk9]; rcases (show lv = 0 ∨ lv = 1 ∨ lv = 2 by omega) with z | z | z <;> rw [z] <;> simp [hsl], rfl⟩
  ·
    rw [e]
    refine v_switchIn (pc := 4) h 52 (dk dt_X10_turnOf 2 rfl) (by omega) (by omega) (by omega) rfl rfl ?_
    refine v_aload_n (pc := 52) h (dk dt_X10_turnOf 3 rfl) rfl ?_
    refine v_geti (pc := 53) h ci10 (W_hd hr) (Nat.le_of_ble_eq_true rfl) (j := 9) wF_X10_34 rfl (dk dt_X10_turnOf 4 rfl) ?_
    exact v_iret (pc := 56) h r (dk dt_X10_turnOf 5 rfl) (Nat.le_of_ble_eq_true rfl) (Nat.le_of_ble_eq_true rfl) ⟨by rw [if_neg (by omega), if_neg (by omega), if_neg (by omega), hk9], rfl⟩
  ·
    rw [e]
    refine v_switchIn (pc := 4) h 79 (dk dt_X10_turnOf 2 rfl) (by omega) (by omega) (by omega) rfl rfl ?_
    refine v_iconst (pc := 79) h (dk dt_X10_turnOf 18 rfl) ?_
    exact v_iret (pc := 80) h r (dk dt_X10_turnOf 19 rfl) (Nat.le_of_ble_eq_true rfl) (Nat.le_of_ble_eq_true rfl) ⟨by rw [if_neg (by omega), if_neg (by omega), if_pos (by omega)], rfl⟩
  ·
    rw [e]
    refine v_switchIn (pc := 4) h 52 (dk dt_X10_turnOf 2 rfl) (by omega) (by omega) (by omega) rfl rfl ?_
    refine v_aload_n (pc := 52) h (dk dt_X10_turnOf 3 rfl) rfl ?_
    refine v_geti (pc := 53) h ci10 (W_hd hr) (Nat.le_of_ble_eq_true rfl) (j := 9) wF_X10_34 rfl (dk dt_X10_turnOf 4 rfl) ?_
    exact v_iret (pc := 56) h r (dk dt_X10_turnOf 5 rfl) (Nat.le_of_ble_eq_true rfl) (Nat.le_of_ble_eq_true rfl) ⟨by rw [if_neg (by omega), if_neg (by omega), if_neg (by omega), hk9], rfl⟩
  ·
    rw [e]
    refine v_switchOut (pc := 4) h 79 (dk dt_X10_turnOf 2 rfl) (by omega) (by omega) rfl ?_
    refine v_iconst (pc := 79) h (dk dt_X10_turnOf 18 rfl) ?_
    exact v_iret (pc := 80) h r (dk dt_X10_turnOf 19 rfl) (Nat.le_of_ble_eq_true rfl) (Nat.le_of_ble_eq_true rfl) ⟨by rw [if_neg (by omega), if_neg (by omega), if_pos (by omega)], rfl⟩
theorem c_X10_keyOf (hst : l.stackTraces = false) (hr : isW w) (hk8 : μ w 8 = K 0) (h5 : K 0 = 1 ∨ K 0 = 2 ∨ K 0 = 3 ∨ K 0 = 5 ∨ K 0 = 6) {j : Nat} (hj : j < 12) (h0 : μ (w + 14) j = σ 0 j) (h3 : μ (w + 11) j = σ 3 j) (hd : μ 2 j = if μ 7 j = 0 then 401 else μ 7 j) :
    Ct l B D E yX10_keyOf (.code yX10_keyOf cX10_keyOf 2 (some .int)) rm_X10_keyOf [.ref (pl B w), iI (j : Int)] μ (ri (keyR (jm μ) n K σ j) μ) NX := by
  unfold keyR
  refine ct_of (own := RX10) (lv := [(0, _), (1, _)]) hst (by decide) rfl rfl (Nat.le_of_ble_eq_true rfl) fun a h r t => ?_
  refine v_aload_n (pc := 0) h (dk dt_X10_keyOf 0 rfl) rfl ?_
  refine v_geti (pc := 1) h ci10 (W_hd hr) (Nat.le_of_ble_eq_true rfl) (j := 8) wF_X10_30 rfl (dk dt_X10_keyOf 1 rfl) ?_
  rcases (show μ w 8 = 1 ∨ μ w 8 = 2 ∨ μ w 8 = 3 ∨ μ w 8 = 5 ∨ μ w 8 = 6 by omega) with e | e | e | e | e
  ·
    rw [e]
    refine v_switchIn (pc := 4) h 40 (dk dt_X10_keyOf 2 rfl) (by omega) (by omega) (by omega) rfl rfl ?_
    refine v_aload_n (pc := 40) h (dk dt_X10_keyOf 3 rfl) rfl ?_
    refine v_getr (pc := 41) h ci10 (W_hd hr) (Nat.le_of_ble_eq_true rfl) (j := 3) wF_X10_62 rfl (dk dt_X10_keyOf 4 rfl) ?_
    refine v_getr (pc := 44) h ci1 sh1 (Nat.le_of_ble_eq_true rfl) (j := 0) wF_X10_212 rfl (dk dt_X10_keyOf 5 rfl) ?_
    refine v_iload_n (pc := 47) h (dk dt_X10_keyOf 6 rfl) rfl ?_
    refine v_cVi (pc := 48) h (c_X7_atn h.quiet jr0 (o1 := 3) rfl (Nat.le_of_ble_eq_true rfl) (by omega)) kv_X7_at jr0.1 wM_X10_170 rfl rfl (Nat.le_of_ble_eq_true rfl) (RM.of rfl) rfl rfl (dk dt_X10_keyOf 7 rfl) ?_
    exact v_iret (pc := 51) h r (dk dt_X10_keyOf 8 rfl) (Nat.le_of_ble_eq_true rfl) (Nat.le_of_ble_eq_true rfl) ⟨by rw [if_pos (by omega)]; rfl, rfl⟩
  ·
    rw [e]
    refine v_switchIn (pc := 4) h 52 (dk dt_X10_keyOf 2 rfl) (by omega) (by omega) (by omega) rfl rfl ?_
    refine v_aload_n (pc := 52) h (dk dt_X10_keyOf 9 rfl) rfl ?_
    refine v_getr (pc := 53) h ci10 (W_hd hr) (Nat.le_of_ble_eq_true rfl) (j := 3) wF_X10_62 rfl (dk dt_X10_keyOf 10 rfl) ?_
    refine v_getr (pc := 56) h ci1 sh1 (Nat.le_of_ble_eq_true rfl) (j := 1) wF_X10_215 rfl (dk dt_X10_keyOf 11 rfl) ?_
    refine v_iload_n (pc := 59) h (dk dt_X10_keyOf 12 rfl) rfl ?_
    refine v_cVi (pc := 60) h (c_X7_atn h.quiet jr1 (o1 := 5) rfl (Nat.le_of_ble_eq_true rfl) (by omega)) kv_X7_at jr1.1 wM_X10_170 rfl rfl (Nat.le_of_ble_eq_true rfl) (RM.of rfl) rfl rfl (dk dt_X10_keyOf 13 rfl) ?_
    exact v_iret (pc := 63) h r (dk dt_X10_keyOf 14 rfl) (Nat.le_of_ble_eq_true rfl) (Nat.le_of_ble_eq_true rfl) ⟨by rw [if_neg (by omega), if_pos (by omega)]; rfl, rfl⟩
  ·
    rw [e]
    refine v_switchIn (pc := 4) h 64 (dk dt_X10_keyOf 2 rfl) (by omega) (by omega) (by omega) rfl rfl ?_
    refine v_aload_n (pc := 64) h (dk dt_X10_keyOf 15 rfl) rfl ?_
    refine v_getr (pc := 65) h ci10 (W_hd hr) (Nat.le_of_ble_eq_true rfl) (j := 0) wF_X10_75 rfl (dk dt_X10_keyOf 16 rfl) ?_
    refine v_getr (pc := 68) h ci6 (P_hd (W_prog hr)) (Nat.le_of_ble_eq_true rfl) (j := 0) wF_X10_198 rfl (dk dt_X10_keyOf 17 rfl) ?_
    refine v_iload_n (pc := 71) h (dk dt_X10_keyOf 18 rfl) rfl ?_
    refine v_cVi (pc := 72) h (c_X7_atn h.quiet (P_lefts (W_prog hr)) (o1 := w + 14) rfl (Nat.le_of_ble_eq_true rfl) (by omega)) kv_X7_at (P_lefts (W_prog hr)).1 wM_X10_170 rfl rfl (Nat.le_of_ble_eq_true rfl) (RM.of rfl) rfl rfl (dk dt_X10_keyOf 19 rfl) ?_
    exact v_iret (pc := 75) h r (dk dt_X10_keyOf 20 rfl) (Nat.le_of_ble_eq_true rfl) (Nat.le_of_ble_eq_true rfl) ⟨by rw [if_neg (by omega), if_neg (by omega), if_pos (by omega), h0], rfl⟩
  ·
    rw [e]
    refine v_switchIn (pc := 4) h 76 (dk dt_X10_keyOf 2 rfl) (by omega) (by omega) (by omega) rfl rfl ?_
    refine v_aload_n (pc := 76) h (dk dt_X10_keyOf 21 rfl) rfl ?_
    refine v_getr (pc := 77) h ci10 (W_hd hr) (Nat.le_of_ble_eq_true rfl) (j := 6) wF_X10_27 rfl (dk dt_X10_keyOf 22 rfl) ?_
    refine v_iload_n (pc := 80) h (dk dt_X10_keyOf 23 rfl) rfl ?_
    refine v_cVi (pc := 81) h (c_X7_atn h.quiet (W_counts hr) (o1 := w + 11) rfl (Nat.le_of_ble_eq_true rfl) (by omega)) kv_X7_at (W_counts hr).1 wM_X10_170 rfl rfl (Nat.le_of_ble_eq_true rfl) (RM.of rfl) rfl rfl (dk dt_X10_keyOf 24 rfl) ?_
    exact v_iret (pc := 84) h r (dk dt_X10_keyOf 25 rfl) (Nat.le_of_ble_eq_true rfl) (Nat.le_of_ble_eq_true rfl) ⟨by rw [if_neg (by omega), if_neg (by omega), if_neg (by omega), if_pos (by omega), h3], rfl⟩
  ·
    rw [e]
    refine v_switchOut (pc := 4) h 85 (dk dt_X10_keyOf 2 rfl) (by omega) (by omega) rfl ?_
    refine v_aload_n (pc := 85) h (dk dt_X10_keyOf 26 rfl) rfl ?_
    refine v_getr (pc := 86) h ci10 (W_hd hr) (Nat.le_of_ble_eq_true rfl) (j := 3) wF_X10_62 rfl (dk dt_X10_keyOf 27 rfl) ?_
    refine v_getr (pc := 89) h ci1 sh1 (Nat.le_of_ble_eq_true rfl) (j := 10) wF_X10_218 rfl (dk dt_X10_keyOf 28 rfl) ?_
    refine v_iload_n (pc := 92) h (dk dt_X10_keyOf 29 rfl) rfl ?_
    refine v_cVi (pc := 93) h (c_X7_atn h.quiet jr9 (o1 := 2) rfl (Nat.le_of_ble_eq_true rfl) (by omega)) kv_X7_at jr9.1 wM_X10_170 rfl rfl (Nat.le_of_ble_eq_true rfl) (RM.of rfl) rfl rfl (dk dt_X10_keyOf 30 rfl) ?_
    exact v_iret (pc := 96) h r (dk dt_X10_keyOf 31 rfl) (Nat.le_of_ble_eq_true rfl) (Nat.le_of_ble_eq_true rfl) ⟨by rw [hd]; simp [show K 0 = 6 by omega, jm]; rfl, rfl⟩
theorem keyR_b {J : Mm} (hD : okD J n) (hB : vB J n σ) (ht : σ 6 6 ≤ 2304) (h5 : K 0 = 1 ∨ K 0 = 2 ∨ K 0 = 3 ∨ K 0 = 5 ∨ K 0 = 6) {j : Nat} (hj : j < n) : 0 ≤ keyR J n K σ j ∧ keyR J n K σ j ≤ 10000000 := by
  have h1 := okD_c hD hj
  have h2 := okD_l hD hj
  have h3 := hB.2 j hj
  have h4 := (hD.2 j (by omega)).2.2.1
  unfold keyR
  rcases h5 with e | e | e | e | e <;> rw [e] <;> simp <;> first | omega | (split <;> omega)
theorem c_X10_leastByKey (hst : l.stackTraces = false) (hr : isW w) (hs : okJ μ) (hn : μ 1 9 = (n : Int)) (ha : aW w n K μ s) (hB : vB (jm μ) n s.1) (ht : s.1 6 6 ≤ 2304) (h5 : K 0 = 1 ∨ K 0 = 2 ∨ K 0 = 3 ∨ K 0 = 5 ∨ K 0 = 6) :
    Ct l B D E yX10_leastByKey (.code yX10_leastByKey cX10_leastByKey 5 (some .int)) rm_X10_leastByKey [.ref (pl B w)] μ (ri (bsF (jm μ) n K s.1 n) μ) NX := by
  have hb := hs.1
  have hD := okJD hs hn
  have hP := ha.P
  have h8 : K 0 ≠ 8 := by omega
  refine ct_of (own := RX10) (lv := [(0, _)]) hst (by decide) rfl rfl (Nat.le_of_ble_eq_true rfl) fun a h r t => ?_
  have loop : ∀ (d i : Nat), i + d = n → VV a B (SP B D E μ) 0 0 6 [(3, iI (i : Int)), (2, iI (if bsF (jm μ) n K s.1 i = -1 then 0 else keyR (jm μ) n K s.1 (bsF (jm μ) n K s.1 i).toNat)), (1, iI (bsF (jm μ) n K s.1 i)), (0, .ref (pl B w))] [] := by
    intro d
    induction d with
    | zero =>
      intro i hi
      refine v_iload_n (pc := 6) h (dk dt_X10_leastByKey 6 rfl) rfl ?_
      refine v_aload_n (pc := 7) h (dk dt_X10_leastByKey 7 rfl) rfl ?_
      refine v_getr (pc := 8) h ci10 (W_hd hr) (Nat.le_of_ble_eq_true rfl) (j := 3) wF_X10_62 rfl (dk dt_X10_leastByKey 8 rfl) ?_
      refine v_geti (pc := 11) h ci1 sh1 (Nat.le_of_ble_eq_true rfl) (j := 9) wF_X10_150 rfl (dk dt_X10_leastByKey 9 rfl) ?_
      refine v_icmp_ge (pc := 14) h 57 (dk dt_X10_leastByKey 10 rfl) rfl (by omega) (fun c14 => ?_) (fun c14 => ?_)
      ·
        refine v_iload_n (pc := 57) h (dk dt_X10_leastByKey 32 rfl) rfl ?_
        exact v_iret (pc := 58) h r (dk dt_X10_leastByKey 33 rfl) (Nat.le_of_ble_eq_true rfl) (Nat.le_of_ble_eq_true rfl) ⟨by rw [show n = i by omega], rfl⟩
      ·
        exact absurd c14 (by omega)
    | succ d ih =>
      intro i hi
      have hin : i < n := by omega
      have hbb : -1 ≤ bsF (jm μ) n K s.1 i ∧ bsF (jm μ) n K s.1 i < i := by rcases bsF_is (jm μ) n K s.1 i with ⟨q, -⟩ | ⟨y, q1, q2, -⟩ <;> omega
      have hkb := keyR_b (K := K) hD hB ht h5 hin
      have hkx := fun q : 0 ≤ bsF (jm μ) n K s.1 i => keyR_b (K := K) hD hB ht h5 (j := (bsF (jm μ) n K s.1 i).toNat) (by omega)
      have hkd : 0 ≤ (if bsF (jm μ) n K s.1 i = -1 then 0 else keyR (jm μ) n K s.1 (bsF (jm μ) n K s.1 i).toNat) ∧ (if bsF (jm μ) n K s.1 i = -1 then 0 else keyR (jm μ) n K s.1 (bsF (jm μ) n K s.1 i).toNat) ≤ 10000000 := by
        split
        · omega
        · exact hkx (by omega)
      have hdl := (hs.2 i (by omega)).2.2.2.2.2.2.2.2
      have eN : ¬ (okR (jm μ) n K s.1 i ∧ (bsF (jm μ) n K s.1 i = -1 ∨ keyR (jm μ) n K s.1 i < keyR (jm μ) n K s.1 (bsF (jm μ) n K s.1 i).toNat)) → bsF (jm μ) n K s.1 (i + 1) = bsF (jm μ) n K s.1 i := fun q => by rw [bsF, if_neg q]
      have eY : okR (jm μ) n K s.1 i ∧ (bsF (jm μ) n K s.1 i = -1 ∨ keyR (jm μ) n K s.1 i < keyR (jm μ) n K s.1 (bsF (jm μ) n K s.1 i).toNat) → bsF (jm μ) n K s.1 (i + 1) = (i : Int) := fun q => by rw [bsF, if_pos q]
      have hio := ih (i + 1) (by omega)
      have fN := fun q => show VV a B (SP B D E μ) 0 0 6 [(3, iI ((i : Int) + 1)), (2, iI (if bsF (jm μ) n K s.1 i = -1 then 0 else keyR (jm μ) n K s.1 (bsF (jm μ) n K s.1 i).toNat)), (1, iI (bsF (jm μ) n K s.1 i)), (0, .ref (pl B w))] [] by have z := hio; rw [eN q] at z; exact z
      have fY := fun q => show VV a B (SP B D E μ) 0 0 6 [(3, iI ((i : Int) + 1)), (2, iI (keyR (jm μ) n K s.1 i)), (1, iI (i : Int)), (0, .ref (pl B w))] [] by have z := hio; rw [eY q, if_neg (by omega), Int.toNat_natCast] at z; exact z
      refine v_iload_n (pc := 6) h (dk dt_X10_leastByKey 6 rfl) rfl ?_
      refine v_aload_n (pc := 7) h (dk dt_X10_leastByKey 7 rfl) rfl ?_
      refine v_getr (pc := 8) h ci10 (W_hd hr) (Nat.le_of_ble_eq_true rfl) (j := 3) wF_X10_62 rfl (dk dt_X10_leastByKey 8 rfl) ?_
      refine v_geti (pc := 11) h ci1 sh1 (Nat.le_of_ble_eq_true rfl) (j := 9) wF_X10_150 rfl (dk dt_X10_leastByKey 9 rfl) ?_
      refine v_icmp_ge (pc := 14) h 57 (dk dt_X10_leastByKey 10 rfl) rfl (by omega) (fun c14 => ?_) (fun c14 => ?_)
      ·
        exact absurd c14 (by omega)
      ·
        refine v_aload_n (pc := 17) h (dk dt_X10_leastByKey 11 rfl) rfl ?_
        refine v_getr (pc := 18) h ci10 (W_hd hr) (Nat.le_of_ble_eq_true rfl) (j := 0) wF_X10_75 rfl (dk dt_X10_leastByKey 12 rfl) ?_
        refine v_iload_n (pc := 21) h (dk dt_X10_leastByKey 13 rfl) rfl ?_
        refine v_cVi (pc := 22) h (c_X6_isReady h.quiet (W_prog hr) (by omega) hP (by omega)) kv_X6_isReady (P_hd (W_prog hr)) wM_X10_201 rfl rfl (Nat.le_of_ble_eq_true rfl) (RM.of rfl) rfl rfl (dk dt_X10_leastByKey 14 rfl) ?_
        refine v_if_eq (pc := 25) h 51 (dk dt_X10_leastByKey 15 rfl) rfl (by split <;> omega) (fun c25 => ?_) (fun c25 => ?_)
        ·
          have d25 : ¬ rdy s.1 i := fun q => by rw [if_pos q] at c25; omega
          refine v_iinc (lv' := [(3, _), (2, _), (1, _), (0, _)]) (pc := 51) h (dk dt_X10_leastByKey 30 rfl) rfl (Nat.le_of_ble_eq_true rfl) rfl ?_
          refine v_goto (pc := 54) h 6 (dk dt_X10_leastByKey 31 rfl) rfl ?_
          first
            | exact VV.loc (fN (fun q => d25 q.1.1)) ⟨rfl, rfl, rfl, rfl, trivial⟩
            | exact VV.loc (fY ⟨⟨d25, fun q => absurd q h8⟩, Or.inl c37⟩) ⟨rfl, rfl, rfl, rfl, trivial⟩
            | (rw [if_neg c37] at c43; exact VV.loc (fY ⟨⟨d25, fun q => absurd q h8⟩, Or.inr c43⟩) ⟨rfl, rfl, rfl, rfl, trivial⟩)
            | (rw [if_neg c37] at c43; exact VV.loc (fN (fun q => by rcases q.2 with z | z; exact c37 z; omega)) ⟨rfl, rfl, rfl, rfl, trivial⟩)
        ·
          have d25 : rdy s.1 i := by by_cases q : rdy s.1 i; exact q; rw [if_neg q] at c25; omega
          refine v_aload_n (pc := 28) h (dk dt_X10_leastByKey 16 rfl) rfl ?_
          refine v_iload_n (pc := 29) h (dk dt_X10_leastByKey 17 rfl) rfl ?_
          refine v_cVi (pc := 30) h (c_X10_keyOf (n := n) (σ := s.1) h.quiet hr ha.k.1 h5 (by omega) (hP.1 i hin).1 (ha.cnt hin) hdl) kv_X10_keyOf (W_hd hr) wM_X10_209 rfl rfl (Nat.le_of_ble_eq_true rfl) (RM.of rfl) rfl rfl (dk dt_X10_leastByKey 18 rfl) ?_
          refine v_istore (lv' := [(4, _), (3, _), (2, _), (1, _), (0, _)]) (pc := 33) h (dk dt_X10_leastByKey 19 rfl) (Nat.le_of_ble_eq_true rfl) rfl ?_
          refine v_iload_n (pc := 35) h (dk dt_X10_leastByKey 20 rfl) rfl ?_
          refine v_iconst (pc := 36) h (dk dt_X10_leastByKey 21 rfl) ?_
          refine v_icmp_eq (pc := 37) h 46 (dk dt_X10_leastByKey 22 rfl) rfl (by omega) (fun c37 => ?_) (fun c37 => ?_)
          ·
            refine v_iload_n (pc := 46) h (dk dt_X10_leastByKey 26 rfl) rfl ?_
            refine v_istore_n (lv' := [(1, _), (4, _), (3, _), (2, _), (0, _)]) (pc := 47) h (dk dt_X10_leastByKey 27 rfl) (Nat.le_of_ble_eq_true rfl) rfl ?_
            refine v_iload (pc := 48) h (dk dt_X10_leastByKey 28 rfl) rfl ?_
            refine v_istore_n (lv' := [(2, _), (1, _), (4, _), (3, _), (0, _)]) (pc := 50) h (dk dt_X10_leastByKey 29 rfl) (Nat.le_of_ble_eq_true rfl) rfl ?_
            refine v_iinc (lv' := [(3, _), (2, _), (1, _), (4, _), (0, _)]) (pc := 51) h (dk dt_X10_leastByKey 30 rfl) rfl (Nat.le_of_ble_eq_true rfl) rfl ?_
            refine v_goto (pc := 54) h 6 (dk dt_X10_leastByKey 31 rfl) rfl ?_
            first
              | exact VV.loc (fN (fun q => d25 q.1.1)) ⟨rfl, rfl, rfl, rfl, trivial⟩
              | exact VV.loc (fY ⟨⟨d25, fun q => absurd q h8⟩, Or.inl c37⟩) ⟨rfl, rfl, rfl, rfl, trivial⟩
              | (rw [if_neg c37] at c43; exact VV.loc (fY ⟨⟨d25, fun q => absurd q h8⟩, Or.inr c43⟩) ⟨rfl, rfl, rfl, rfl, trivial⟩)
              | (rw [if_neg c37] at c43; exact VV.loc (fN (fun q => by rcases q.2 with z | z; exact c37 z; omega)) ⟨rfl, rfl, rfl, rfl, trivial⟩)
          ·
            refine v_iload (pc := 40) h (dk dt_X10_leastByKey 23 rfl) rfl ?_
            refine v_iload_n (pc := 42) h (dk dt_X10_leastByKey 24 rfl) rfl ?_
            refine v_icmp_ge (pc := 43) h 51 (dk dt_X10_leastByKey 25 rfl) rfl ⟨by omega, by omega⟩ (fun c43 => ?_) (fun c43 => ?_)
            ·
              refine v_iinc (lv' := [(3, _), (4, _), (2, _), (1, _), (0, _)]) (pc := 51) h (dk dt_X10_leastByKey 30 rfl) rfl (Nat.le_of_ble_eq_true rfl) rfl ?_
              refine v_goto (pc := 54) h 6 (dk dt_X10_leastByKey 31 rfl) rfl ?_
              first
                | exact VV.loc (fN (fun q => d25 q.1.1)) ⟨rfl, rfl, rfl, rfl, trivial⟩
                | exact VV.loc (fY ⟨⟨d25, fun q => absurd q h8⟩, Or.inl c37⟩) ⟨rfl, rfl, rfl, rfl, trivial⟩
                | (rw [if_neg c37] at c43; exact VV.loc (fY ⟨⟨d25, fun q => absurd q h8⟩, Or.inr c43⟩) ⟨rfl, rfl, rfl, rfl, trivial⟩)
                | (rw [if_neg c37] at c43; exact VV.loc (fN (fun q => by rcases q.2 with z | z; exact c37 z; omega)) ⟨rfl, rfl, rfl, rfl, trivial⟩)
            ·
              refine v_iload_n (pc := 46) h (dk dt_X10_leastByKey 26 rfl) rfl ?_
              refine v_istore_n (lv' := [(1, _), (4, _), (3, _), (2, _), (0, _)]) (pc := 47) h (dk dt_X10_leastByKey 27 rfl) (Nat.le_of_ble_eq_true rfl) rfl ?_
              refine v_iload (pc := 48) h (dk dt_X10_leastByKey 28 rfl) rfl ?_
              refine v_istore_n (lv' := [(2, _), (1, _), (4, _), (3, _), (0, _)]) (pc := 50) h (dk dt_X10_leastByKey 29 rfl) (Nat.le_of_ble_eq_true rfl) rfl ?_
              refine v_iinc (lv' := [(3, _), (2, _), (1, _), (4, _), (0, _)]) (pc := 51) h (dk dt_X10_leastByKey 30 rfl) rfl (Nat.le_of_ble_eq_true rfl) rfl ?_
              refine v_goto (pc := 54) h 6 (dk dt_X10_leastByKey 31 rfl) rfl ?_
              first
                | exact VV.loc (fN (fun q => d25 q.1.1)) ⟨rfl, rfl, rfl, rfl, trivial⟩
                | exact VV.loc (fY ⟨⟨d25, fun q => absurd q h8⟩, Or.inl c37⟩) ⟨rfl, rfl, rfl, rfl, trivial⟩
                | (rw [if_neg c37] at c43; exact VV.loc (fY ⟨⟨d25, fun q => absurd q h8⟩, Or.inr c43⟩) ⟨rfl, rfl, rfl, rfl, trivial⟩)
                | (rw [if_neg c37] at c43; exact VV.loc (fN (fun q => by rcases q.2 with z | z; exact c37 z; omega)) ⟨rfl, rfl, rfl, rfl, trivial⟩)
  refine v_iconst (pc := 0) h (dk dt_X10_leastByKey 0 rfl) ?_
  refine v_istore_n (lv' := [(1, _), (0, _)]) (pc := 1) h (dk dt_X10_leastByKey 1 rfl) (Nat.le_of_ble_eq_true rfl) rfl ?_
  refine v_iconst (pc := 2) h (dk dt_X10_leastByKey 2 rfl) ?_
  refine v_istore_n (lv' := [(2, _), (1, _), (0, _)]) (pc := 3) h (dk dt_X10_leastByKey 3 rfl) (Nat.le_of_ble_eq_true rfl) rfl ?_
  refine v_iconst (pc := 4) h (dk dt_X10_leastByKey 4 rfl) ?_
  refine v_istore_n (lv' := [(3, _), (2, _), (1, _), (0, _)]) (pc := 5) h (dk dt_X10_leastByKey 5 rfl) (Nat.le_of_ble_eq_true rfl) rfl ?_
  exact VV.loc (loop n 0 (by omega)) ⟨rfl, rfl, rfl, rfl, trivial⟩
theorem swF_b {J : Mm} {σ : Mm} {n : Nat} (hw : ∀ j, j < n → 1 ≤ J 3 j ∧ J 3 j ≤ 9) : ∀ i, i ≤ n → 0 ≤ swF J σ i ∧ swF J σ i ≤ 9 * i := by
  intro i
  induction i with
  | zero => intro _; simp [swF]
  | succ i ih =>
    intro hi
    have := ih (by omega)
    have := hw i (by omega)
    simp only [swF]
    split <;> omega
theorem c_X10_drawn (hst : l.stackTraces = false) (hr : isW w) (hw : 28 ≤ w) (hs : okJ μ) (hn : μ 1 9 = (n : Int)) (hP : aP (w + 12) n μ σ) (h12 : μ w 12 = σ 6 5) :
    Ct l B D E yX10_drawn (.code yX10_drawn cX10_drawn 4 (some .int)) rm_X10_drawn [.ref (pl B w)] μ (fun v m => if swF (jm μ) σ n ≤ 0 then v = some (iI (-1)) ∧ m = μ else v = some (iI (ltF (jm μ) σ (bus (sdN (σ 6 5)) 16 % swF (jm μ) σ n) n 0)) ∧ m = mup μ w 12 (sdN (σ 6 5))) NX := by
  have hb := hs.1
  have hD := okJD hs hn
  have hww : ∀ j, j < n → 1 ≤ jm μ 3 j ∧ jm μ 3 j ≤ 9 := fun j hj => okD_w hD hj
  have hwv : ∀ j, jm μ 3 j = μ 9 j := fun _ => rfl
  have hsw := swF_b (σ := σ) hww
  have hbb := bus_b (sdN (σ 6 5))
  refine ct_of (own := RX10) (lv := [(0, _)]) hst (by decide) rfl rfl (Nat.le_of_ble_eq_true rfl) fun a h r t => ?_
  have loop2 : 0 < swF (jm μ) σ n → ∀ (d i : Nat), i + d = n → ltF (jm μ) σ (bus (sdN (σ 6 5)) 16 % swF (jm μ) σ n) n 0 = ltF (jm μ) σ (bus (sdN (σ 6 5)) 16 % swF (jm μ) σ n) d i → VV a B (SP B D E (mup μ w 12 (sdN (σ 6 5)))) 0 0 83 [(3, iI (i : Int)), (2, iI (bus (sdN (σ 6 5)) 16 % swF (jm μ) σ n - swF (jm μ) σ i)), (0, .ref (pl B w))] [] := by
    intro hpos d
    have hm1 := Int.emod_nonneg (bus (sdN (σ 6 5)) 16) (show swF (jm μ) σ n ≠ 0 by omega)
    have hm2 := Int.emod_lt_of_pos (bus (sdN (σ 6 5)) 16) hpos
    have hsn := hsw n (Nat.le_refl _)
    generalize hz : bus (sdN (σ 6 5)) 16 % swF (jm μ) σ n = z at hm1 hm2
    have e1 : mup μ w 12 (sdN (σ 6 5)) 1 9 = (n : Int) := by rw [mup_nk (by omega)]; exact hn
    have hP2 : aP (w + 12) n (mup μ w 12 (sdN (σ 6 5))) σ := aP_c (fun a h1 h2 => by funext b; exact mup_nk (by omega)) hP
    have e9 : ∀ j, mup μ w 12 (sdN (σ 6 5)) 9 j = μ 9 j := fun j => mup_nk (by omega)
    induction d with
    | zero =>
      intro i hi e
      refine v_iload_n (pc := 83) h (dk dt_X10_drawn 47 rfl) rfl ?_
      refine v_aload_n (pc := 84) h (dk dt_X10_drawn 48 rfl) rfl ?_
      refine v_getr (pc := 85) h ci10 (W_hd hr) (Nat.le_of_ble_eq_true rfl) (j := 3) wF_X10_62 rfl (dk dt_X10_drawn 49 rfl) ?_
      refine v_geti (pc := 88) h ci1 sh1 (Nat.le_of_ble_eq_true rfl) (j := 9) wF_X10_150 rfl (dk dt_X10_drawn 50 rfl) ?_
      refine v_icmp_ge (pc := 91) h 135 (dk dt_X10_drawn 51 rfl) rfl (by omega) (fun c91 => ?_) (fun c91 => ?_)
      ·
        refine v_iconst (pc := 135) h (dk dt_X10_drawn 73 rfl) ?_
        exact v_iret (pc := 136) h r (dk dt_X10_drawn 74 rfl) (Nat.le_of_ble_eq_true rfl) (Nat.le_of_ble_eq_true rfl) (by rw [if_neg (by omega)]; exact ⟨by rw [hz, e, ltF], rfl⟩)
      ·
        exact absurd c91 (by omega)
    | succ d ih =>
      intro i hi e
      have hin : i < n := by omega
      have hsi := hsw i (by omega)
      have hsi1 := hsw (i + 1) (by omega)
      have hwi := hww i hin
      have hwv := hwv i
      have eN : ¬ z < swF (jm μ) σ (i + 1) → ltF (jm μ) σ z n 0 = ltF (jm μ) σ z d (i + 1) := fun q => by rw [e, ltF, if_neg q]
      have eY : z < swF (jm μ) σ (i + 1) → ltF (jm μ) σ z n 0 = (i : Int) := fun q => by rw [e, ltF, if_pos q]
      have swY : rdy σ i → swF (jm μ) σ (i + 1) = swF (jm μ) σ i + μ 9 i := fun q => by rw [swF, if_pos q, hwv]
      have swN : ¬ rdy σ i → swF (jm μ) σ (i + 1) = swF (jm μ) σ i := fun q => by rw [swF, if_neg q, Int.add_zero]
      refine v_iload_n (pc := 83) h (dk dt_X10_drawn 47 rfl) rfl ?_
      refine v_aload_n (pc := 84) h (dk dt_X10_drawn 48 rfl) rfl ?_
      refine v_getr (pc := 85) h ci10 (W_hd hr) (Nat.le_of_ble_eq_true rfl) (j := 3) wF_X10_62 rfl (dk dt_X10_drawn 49 rfl) ?_
      refine v_geti (pc := 88) h ci1 sh1 (Nat.le_of_ble_eq_true rfl) (j := 9) wF_X10_150 rfl (dk dt_X10_drawn 50 rfl) ?_
      refine v_icmp_ge (pc := 91) h 135 (dk dt_X10_drawn 51 rfl) rfl (by omega) (fun c91 => ?_) (fun c91 => ?_)
      ·
        exact absurd c91 (by omega)
      ·
        refine v_iload_n (pc := 94) h (dk dt_X10_drawn 52 rfl) rfl ?_
        refine v_aload_n (pc := 95) h (dk dt_X10_drawn 53 rfl) rfl ?_
        refine v_getr (pc := 96) h ci10 (W_hd hr) (Nat.le_of_ble_eq_true rfl) (j := 0) wF_X10_75 rfl (dk dt_X10_drawn 54 rfl) ?_
        refine v_iload_n (pc := 99) h (dk dt_X10_drawn 55 rfl) rfl ?_
        refine v_cVi (pc := 100) h (c_X6_isReady h.quiet (W_prog hr) (by omega) hP2 (by omega)) kv_X6_isReady (P_hd (W_prog hr)) wM_X10_201 rfl rfl (Nat.le_of_ble_eq_true rfl) (RM.of rfl) rfl rfl (dk dt_X10_drawn 56 rfl) ?_
        refine v_if_eq (pc := 103) h 120 (dk dt_X10_drawn 57 rfl) rfl (by split <;> omega) (fun c103 => ?_) (fun c103 => ?_)
        ·
          have d103 : ¬ rdy σ i := fun q => by rw [if_pos q] at c103; omega
          have hsw1 := swN d103
          refine v_iconst (pc := 120) h (dk dt_X10_drawn 64 rfl) ?_
          refine v_isub (pc := 121) h (dk dt_X10_drawn 65 rfl) ?_
          refine v_istore_n (lv' := [(2, _), (3, _), (0, _)]) (pc := 122) h (dk dt_X10_drawn 66 rfl) (Nat.le_of_ble_eq_true rfl) rfl ?_
          refine v_iload_n (pc := 123) h (dk dt_X10_drawn 67 rfl) rfl ?_
          refine v_if_ge (pc := 124) h 129 (dk dt_X10_drawn 68 rfl) rfl (by omega) (fun c124 => ?_) (fun c124 => ?_)
          ·
            refine v_iinc (lv' := [(3, _), (2, _), (0, _)]) (pc := 129) h (dk dt_X10_drawn 71 rfl) rfl (Nat.le_of_ble_eq_true rfl) rfl ?_
            refine v_goto (pc := 132) h 83 (dk dt_X10_drawn 72 rfl) rfl ?_
            exact VV.loc (ih (i + 1) (by omega) (eN (by omega))) ⟨rfl, lvI (by omega), rfl, trivial⟩
          ·
            refine v_iload_n (pc := 127) h (dk dt_X10_drawn 69 rfl) rfl ?_
            exact v_iret (pc := 128) h r (dk dt_X10_drawn 70 rfl) (Nat.le_of_ble_eq_true rfl) (Nat.le_of_ble_eq_true rfl) (by rw [if_neg (by omega)]; exact ⟨by rw [hz, eY (by omega)], rfl⟩)
        ·
          have d103 : rdy σ i := by by_cases q : rdy σ i; exact q; rw [if_neg q] at c103; omega
          have hsw1 := swY d103
          refine v_aload_n (pc := 106) h (dk dt_X10_drawn 58 rfl) rfl ?_
          refine v_getr (pc := 107) h ci10 (W_hd hr) (Nat.le_of_ble_eq_true rfl) (j := 3) wF_X10_62 rfl (dk dt_X10_drawn 59 rfl) ?_
          refine v_getr (pc := 110) h ci1 sh1 (Nat.le_of_ble_eq_true rfl) (j := 3) wF_X10_205 rfl (dk dt_X10_drawn 60 rfl) ?_
          refine v_iload_n (pc := 113) h (dk dt_X10_drawn 61 rfl) rfl ?_
          refine v_cVi (pc := 114) h (c_X7_atn h.quiet jr3 (o1 := 9) rfl (Nat.le_of_ble_eq_true rfl) (by omega)) kv_X7_at jr3.1 wM_X10_170 rfl rfl (Nat.le_of_ble_eq_true rfl) (RM.of rfl) rfl rfl (dk dt_X10_drawn 62 rfl) ?_
          rw [e9]
          refine v_goto (pc := 117) h 121 (dk dt_X10_drawn 63 rfl) rfl ?_
          refine v_isub (pc := 121) h (dk dt_X10_drawn 65 rfl) ?_
          refine v_istore_n (lv' := [(2, _), (3, _), (0, _)]) (pc := 122) h (dk dt_X10_drawn 66 rfl) (Nat.le_of_ble_eq_true rfl) rfl ?_
          refine v_iload_n (pc := 123) h (dk dt_X10_drawn 67 rfl) rfl ?_
          refine v_if_ge (pc := 124) h 129 (dk dt_X10_drawn 68 rfl) rfl (by omega) (fun c124 => ?_) (fun c124 => ?_)
          ·
            refine v_iinc (lv' := [(3, _), (2, _), (0, _)]) (pc := 129) h (dk dt_X10_drawn 71 rfl) rfl (Nat.le_of_ble_eq_true rfl) rfl ?_
            refine v_goto (pc := 132) h 83 (dk dt_X10_drawn 72 rfl) rfl ?_
            exact VV.loc (ih (i + 1) (by omega) (eN (by omega))) ⟨rfl, lvI (by omega), rfl, trivial⟩
          ·
            refine v_iload_n (pc := 127) h (dk dt_X10_drawn 69 rfl) rfl ?_
            exact v_iret (pc := 128) h r (dk dt_X10_drawn 70 rfl) (Nat.le_of_ble_eq_true rfl) (Nat.le_of_ble_eq_true rfl) (by rw [if_neg (by omega)]; exact ⟨by rw [hz, eY (by omega)], rfl⟩)
  have loop1 : ∀ (d i : Nat), i + d = n → VV a B (SP B D E μ) 0 0 4 [(2, iI (i : Int)), (1, iI (swF (jm μ) σ i)), (0, .ref (pl B w))] [] := by
    intro d
    induction d with
    | zero =>
      intro i hi
      have e : i = n := by omega
      subst e
      have hsn := hsw i (Nat.le_refl _)
      have hm1 := Int.emod_nonneg (bus (sdN (σ 6 5)) 16) (b := swF (jm μ) σ i)
      have hsd : σ 6 5 * 1103515245 + 12345 = sdN (σ 6 5) := rfl
      refine v_iload_n (pc := 4) h (dk dt_X10_drawn 4 rfl) rfl ?_
      refine v_aload_n (pc := 5) h (dk dt_X10_drawn 5 rfl) rfl ?_
      refine v_getr (pc := 6) h ci10 (W_hd hr) (Nat.le_of_ble_eq_true rfl) (j := 3) wF_X10_62 rfl (dk dt_X10_drawn 6 rfl) ?_
      refine v_geti (pc := 9) h ci1 sh1 (Nat.le_of_ble_eq_true rfl) (j := 9) wF_X10_150 rfl (dk dt_X10_drawn 7 rfl) ?_
      refine v_icmp_ge (pc := 12) h 50 (dk dt_X10_drawn 8 rfl) rfl (by omega) (fun c12 => ?_) (fun c12 => ?_)
      ·
        refine v_iload_n (pc := 50) h (dk dt_X10_drawn 26 rfl) rfl ?_
        refine v_if_gt (pc := 51) h 56 (dk dt_X10_drawn 27 rfl) rfl (by omega) (fun c51 => ?_) (fun c51 => ?_)
        ·
          refine v_aload_n (pc := 56) h (dk dt_X10_drawn 30 rfl) rfl ?_
          refine v_aload_n (pc := 57) h (dk dt_X10_drawn 31 rfl) rfl ?_
          refine v_geti (pc := 58) h ci10 (W_hd hr) (Nat.le_of_ble_eq_true rfl) (j := 12) wF_X10_44 rfl (dk dt_X10_drawn 32 rfl) ?_
          refine v_ldc (pc := 61) (z := 1103515245) h wK_X10_208 (dk dt_X10_drawn 33 rfl) ?_
          refine v_imul (pc := 63) h (dk dt_X10_drawn 34 rfl) ?_
          refine v_sipush (pc := 64) h (dk dt_X10_drawn 35 rfl) rfl ?_
          refine v_iadd (pc := 67) h (dk dt_X10_drawn 36 rfl) ?_
          rw [h12, hsd]
          refine v_put (pc := 68) h ci10 (W_hd hr) (Nat.le_of_ble_eq_true rfl) (j := 12) wF_X10_44 rfl rfl rfl rfl (dk dt_X10_drawn 37 rfl) ?_
          refine v_aload_n (pc := 71) h (dk dt_X10_drawn 38 rfl) rfl ?_
          refine v_geti (pc := 72) h ci10 (W_hd hr) (Nat.le_of_ble_eq_true rfl) (j := 12) wF_X10_44 rfl (dk dt_X10_drawn 39 rfl) ?_
          rw [mup_eq]
          refine v_bipush (pc := 75) h (dk dt_X10_drawn 40 rfl) rfl ?_
          refine v_iushr (pc := 77) h (dk dt_X10_drawn 41 rfl) ?_
          refine v_iload_n (pc := 78) h (dk dt_X10_drawn 42 rfl) rfl ?_
          refine v_irem (pc := 79) h (dk dt_X10_drawn 43 rfl) (by omega) (by omega) ?_
          refine v_istore_n (lv' := [(2, _), (1, _), (0, _)]) (pc := 80) h (dk dt_X10_drawn 44 rfl) (Nat.le_of_ble_eq_true rfl) rfl ?_
          refine v_iconst (pc := 81) h (dk dt_X10_drawn 45 rfl) ?_
          refine v_istore_n (lv' := [(3, _), (2, _), (1, _), (0, _)]) (pc := 82) h (dk dt_X10_drawn 46 rfl) (Nat.le_of_ble_eq_true rfl) rfl ?_
          exact VV.loc (loop2 (by omega) i 0 (by omega) rfl) ⟨rfl, lvI (by simp [swF]), rfl, trivial⟩
        ·
          refine v_iconst (pc := 54) h (dk dt_X10_drawn 28 rfl) ?_
          exact v_iret (pc := 55) h r (dk dt_X10_drawn 29 rfl) (Nat.le_of_ble_eq_true rfl) (Nat.le_of_ble_eq_true rfl) (by rw [if_pos (by omega)]; exact ⟨rfl, rfl⟩)
      ·
        exact absurd c12 (by omega)
    | succ d ih =>
      intro i hi
      have hin : i < n := by omega
      have hsi := hsw i (by omega)
      have hwi := hww i hin
      have hwv := hwv i
      have swY : rdy σ i → swF (jm μ) σ (i + 1) = swF (jm μ) σ i + μ 9 i := fun q => by rw [swF, if_pos q, hwv]
      have swN : ¬ rdy σ i → swF (jm μ) σ (i + 1) = swF (jm μ) σ i := fun q => by rw [swF, if_neg q, Int.add_zero]
      refine v_iload_n (pc := 4) h (dk dt_X10_drawn 4 rfl) rfl ?_
      refine v_aload_n (pc := 5) h (dk dt_X10_drawn 5 rfl) rfl ?_
      refine v_getr (pc := 6) h ci10 (W_hd hr) (Nat.le_of_ble_eq_true rfl) (j := 3) wF_X10_62 rfl (dk dt_X10_drawn 6 rfl) ?_
      refine v_geti (pc := 9) h ci1 sh1 (Nat.le_of_ble_eq_true rfl) (j := 9) wF_X10_150 rfl (dk dt_X10_drawn 7 rfl) ?_
      refine v_icmp_ge (pc := 12) h 50 (dk dt_X10_drawn 8 rfl) rfl (by omega) (fun c12 => ?_) (fun c12 => ?_)
      ·
        exact absurd c12 (by omega)
      ·
        refine v_iload_n (pc := 15) h (dk dt_X10_drawn 9 rfl) rfl ?_
        refine v_aload_n (pc := 16) h (dk dt_X10_drawn 10 rfl) rfl ?_
        refine v_getr (pc := 17) h ci10 (W_hd hr) (Nat.le_of_ble_eq_true rfl) (j := 0) wF_X10_75 rfl (dk dt_X10_drawn 11 rfl) ?_
        refine v_iload_n (pc := 20) h (dk dt_X10_drawn 12 rfl) rfl ?_
        refine v_cVi (pc := 21) h (c_X6_isReady h.quiet (W_prog hr) (by omega) hP (by omega)) kv_X6_isReady (P_hd (W_prog hr)) wM_X10_201 rfl rfl (Nat.le_of_ble_eq_true rfl) (RM.of rfl) rfl rfl (dk dt_X10_drawn 13 rfl) ?_
        refine v_if_eq (pc := 24) h 41 (dk dt_X10_drawn 14 rfl) rfl (by split <;> omega) (fun c24 => ?_) (fun c24 => ?_)
        ·
          have d24 : ¬ rdy σ i := fun q => by rw [if_pos q] at c24; omega
          have hsw1 := swN d24
          refine v_iconst (pc := 41) h (dk dt_X10_drawn 21 rfl) ?_
          refine v_iadd (pc := 42) h (dk dt_X10_drawn 22 rfl) ?_
          refine v_istore_n (lv' := [(1, _), (2, _), (0, _)]) (pc := 43) h (dk dt_X10_drawn 23 rfl) (Nat.le_of_ble_eq_true rfl) rfl ?_
          refine v_iinc (lv' := [(2, _), (1, _), (0, _)]) (pc := 44) h (dk dt_X10_drawn 24 rfl) rfl (Nat.le_of_ble_eq_true rfl) rfl ?_
          refine v_goto (pc := 47) h 4 (dk dt_X10_drawn 25 rfl) rfl ?_
          exact VV.loc (ih (i + 1) (by omega)) ⟨rfl, lvI (by omega), rfl, trivial⟩
        ·
          have d24 : rdy σ i := by by_cases q : rdy σ i; exact q; rw [if_neg q] at c24; omega
          have hsw1 := swY d24
          refine v_aload_n (pc := 27) h (dk dt_X10_drawn 15 rfl) rfl ?_
          refine v_getr (pc := 28) h ci10 (W_hd hr) (Nat.le_of_ble_eq_true rfl) (j := 3) wF_X10_62 rfl (dk dt_X10_drawn 16 rfl) ?_
          refine v_getr (pc := 31) h ci1 sh1 (Nat.le_of_ble_eq_true rfl) (j := 3) wF_X10_205 rfl (dk dt_X10_drawn 17 rfl) ?_
          refine v_iload_n (pc := 34) h (dk dt_X10_drawn 18 rfl) rfl ?_
          refine v_cVi (pc := 35) h (c_X7_atn h.quiet jr3 (o1 := 9) rfl (Nat.le_of_ble_eq_true rfl) (by omega)) kv_X7_at jr3.1 wM_X10_170 rfl rfl (Nat.le_of_ble_eq_true rfl) (RM.of rfl) rfl rfl (dk dt_X10_drawn 19 rfl) ?_
          refine v_goto (pc := 38) h 42 (dk dt_X10_drawn 20 rfl) rfl ?_
          refine v_iadd (pc := 42) h (dk dt_X10_drawn 22 rfl) ?_
          refine v_istore_n (lv' := [(1, _), (2, _), (0, _)]) (pc := 43) h (dk dt_X10_drawn 23 rfl) (Nat.le_of_ble_eq_true rfl) rfl ?_
          refine v_iinc (lv' := [(2, _), (1, _), (0, _)]) (pc := 44) h (dk dt_X10_drawn 24 rfl) rfl (Nat.le_of_ble_eq_true rfl) rfl ?_
          refine v_goto (pc := 47) h 4 (dk dt_X10_drawn 25 rfl) rfl ?_
          exact VV.loc (ih (i + 1) (by omega)) ⟨rfl, lvI (by omega), rfl, trivial⟩
  refine v_iconst (pc := 0) h (dk dt_X10_drawn 0 rfl) ?_
  refine v_istore_n (lv' := [(1, _), (0, _)]) (pc := 1) h (dk dt_X10_drawn 1 rfl) (Nat.le_of_ble_eq_true rfl) rfl ?_
  refine v_iconst (pc := 2) h (dk dt_X10_drawn 2 rfl) ?_
  refine v_istore_n (lv' := [(2, _), (1, _), (0, _)]) (pc := 3) h (dk dt_X10_drawn 3 rfl) (Nat.le_of_ble_eq_true rfl) rfl ?_
  exact VV.loc (loop1 n 0 (by omega)) ⟨rfl, rfl, rfl, trivial⟩
end
