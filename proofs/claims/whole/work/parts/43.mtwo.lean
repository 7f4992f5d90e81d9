/-! ===== the model: two workers ===== -/
/-- the model's moment of work at j -/
def Mwk (μ : Mm) (j : Nat) (t : Int) : Mm := if μ 141 j = 1 then mup (mup (mup μ 141 j 0) 142 j (t + 1)) 123 34 (μ 123 34 + 1) else mup μ 141 j (μ 141 j - 1)
section
variable {l : Launch} {B : Nat} {D : va_G} {E : Nat → ClassId} {μ m σ : Mm} {w n : Nat} {K : Nat → Int} {s : St} {J : Mm}
theorem Mwk_o {j : Nat} {t : Int} {a : Nat} (h1 : a ≠ 123) (h2 : a ≠ 141) (h3 : a ≠ 142) : Mwk μ j t a = μ a := by
  funext b; unfold Mwk; split
  · rw [mup_nk h1, mup_nk h3, mup_nk h2]
  · rw [mup_nk h2]
theorem Mwk_123 {j : Nat} {t : Int} {b : Nat} (h : b ≠ 34) : Mwk μ j t 123 b = μ 123 b := by
  unfold Mwk; split
  · rw [mup_ne (fun z => h z.2), mup_nk (by omega), mup_nk (by omega)]
  · rw [mup_nk (by omega)]
theorem Mwk_p {j : Nat} (hb : bP n μ σ) (hj : j < n) (h0 : 1 ≤ σ 0 j) (h34 : μ 123 34 = cN σ n) : bP n (Mwk μ j (σ 6 6)) (p1N σ (j : Int)) ∧ Mwk μ j (σ 6 6) 123 34 = cN (p1N σ (j : Int)) n := by
  have hbj := hb j hj
  have e0 : ∀ b, p1N σ (j : Int) 0 b = if b = j then σ 0 j - 1 else σ 0 b := fun b => by
    rw [p1_0]
    by_cases e : b = j
    · rw [if_pos ⟨by omega, by omega⟩, if_pos e, e]
    · rw [if_neg (fun z => e (by omega)), if_neg e]
  have e1 : ∀ b, p1N σ (j : Int) 1 b = if b = j ∧ σ 0 j = 1 then σ 6 6 + 1 else σ 1 b := fun b => by
    rw [p1_1]
    by_cases e : b = j
    · rw [e]
      by_cases e2 : σ 0 j = 1
      · rw [if_pos ⟨by omega, by omega, e2⟩, if_pos ⟨rfl, e2⟩]
      · rw [if_neg (fun z => e2 z.2.2), if_neg (fun z => e2 z.2)]
    · rw [if_neg (fun z => e (by omega)), if_neg (fun z => e z.1)]
  have c0 := cN_w (σ := σ) (σ' := p1N σ (j : Int)) hj h0 e0
  constructor
  · intro i hi
    have hbi := hb i hi
    rw [e0, e1, p1_o _ (a := 2) (by decide) (by decide), p1_o _ (a := 3) (by decide) (by decide), p1_o _ (a := 4) (by decide) (by decide), p1_o _ (a := 5) (by decide) (by decide), Mwk_o (a := 143) (by decide) (by decide) (by decide), Mwk_o (a := 145) (by decide) (by decide) (by decide), Mwk_o (a := 144) (by decide) (by decide) (by decide), Mwk_o (a := 146) (by decide) (by decide) (by decide)]
    refine ⟨?_, ?_, hbi.2.2.1, hbi.2.2.2.1, hbi.2.2.2.2.1, hbi.2.2.2.2.2⟩
    · unfold Mwk
      by_cases e : i = j
      · rw [e, if_pos rfl]
        split
        · rename_i q
          rw [mup_nk (by omega), mup_nk (by omega), mup_eq]
          have := hbj.1; omega
        · rw [mup_eq, hbj.1]
      · rw [if_neg e]
        split
        · rw [mup_nk (by omega), mup_nk (by omega), mup_ne (fun z => e z.2)]; exact hbi.1
        · rw [mup_ne (fun z => e z.2)]; exact hbi.1
    · unfold Mwk
      split
      · rename_i q
        rw [mup_nk (by omega), mup_row]
        by_cases e : i = j
        · rw [if_pos e, if_pos ⟨e, by rw [← hbj.1]; exact q⟩]
        · rw [if_neg e, if_neg (fun z => e z.1), mup_nk (by omega)]; exact hbi.2.1
      · rename_i q
        rw [mup_nk (by omega), if_neg (fun z => q (by rw [hbj.1]; exact z.2))]; exact hbi.2.1
  · rw [c0]
    unfold Mwk
    by_cases e : μ 141 j = 1
    · rw [if_pos e, mup_eq, if_pos (by rw [← hbj.1]; exact e), h34]
    · rw [if_neg e, mup_nk (by omega), if_neg (by rw [← hbj.1]; exact e), h34]; omega
theorem c_X12_works (hst : l.stackTraces = false) {j : Nat} (hj : j < 12) {t' : Int} (h1 : 1 ≤ μ 141 j ∧ μ 141 j ≤ 30) :
    Ct l B D E yX12_works (.code yX12_works cX12_works 3 none) rm_X12_works [.ref (B + 123), iI (j : Int), iI t'] μ (rv (Mwk μ j t')) NX := by
  have eY : μ 141 j = 1 → Mwk μ j t' = mup (mup (mup μ 141 j (μ 141 j - 1)) 142 j (t' + 1)) 123 34 (μ 123 34 + 1) := fun q => by unfold Mwk; rw [if_pos q, q]; rfl
  have eN : μ 141 j ≠ 1 → Mwk μ j t' = mup μ 141 j (μ 141 j - 1) := fun q => by unfold Mwk; rw [if_neg q]
  refine ct_of (own := RX12) (lv := [(0, _), (1, _), (2, _)]) hst (by decide) rfl rfl (Nat.le_of_ble_eq_true rfl) fun a h r t => ?_
  refine v_aload_n (pc := 0) h (dk dt_X12_works 0 rfl) rfl ?_
  refine v_getr (pc := 1) h ci12 sh123 (Nat.le_of_ble_eq_true rfl) (j := 27) wF_X12_74 rfl (dk dt_X12_works 1 rfl) ?_
  refine v_iload_n (pc := 4) h (dk dt_X12_works 2 rfl) rfl ?_
  refine v_dup2 (pc := 5) h (dk dt_X12_works 3 rfl) rfl rfl ?_
  refine v_iald (pc := 6) h sh141 (Nat.le_of_ble_eq_true rfl) (by omega) (dk dt_X12_works 4 rfl) ?_
  rw [Int.toNat_natCast]
  refine v_iconst (pc := 7) h (dk dt_X12_works 5 rfl) ?_
  refine v_isub (pc := 8) h (dk dt_X12_works 6 rfl) ?_
  refine v_iast (pc := 9) h sh141 (Nat.le_of_ble_eq_true rfl) (by omega) (dk dt_X12_works 7 rfl) ?_
  rw [Int.toNat_natCast]
  refine v_aload_n (pc := 10) h (dk dt_X12_works 8 rfl) rfl ?_
  refine v_getr (pc := 11) h ci12 sh123 (Nat.le_of_ble_eq_true rfl) (j := 27) wF_X12_74 rfl (dk dt_X12_works 9 rfl) ?_
  refine v_iload_n (pc := 14) h (dk dt_X12_works 10 rfl) rfl ?_
  refine v_iald (pc := 15) h sh141 (Nat.le_of_ble_eq_true rfl) (by omega) (dk dt_X12_works 11 rfl) ?_
  rw [Int.toNat_natCast, mup_eq]
  refine v_if_ne (pc := 16) h 38 (dk dt_X12_works 12 rfl) rfl (by omega) (fun c16 => ?_) (fun c16 => ?_)
  ·
    rw [eN (by omega)] at r
    exact v_vret (pc := 38) h r (dk dt_X12_works 26 rfl) (Nat.le_of_ble_eq_true rfl) (Nat.le_of_ble_eq_true rfl) ⟨rfl, rfl⟩
  ·
    rw [eY (by omega)] at r
    refine v_aload_n (pc := 19) h (dk dt_X12_works 13 rfl) rfl ?_
    refine v_getr (pc := 20) h ci12 sh123 (Nat.le_of_ble_eq_true rfl) (j := 28) wF_X12_77 rfl (dk dt_X12_works 14 rfl) ?_
    refine v_iload_n (pc := 23) h (dk dt_X12_works 15 rfl) rfl ?_
    refine v_iload_n (pc := 24) h (dk dt_X12_works 16 rfl) rfl ?_
    refine v_iconst (pc := 25) h (dk dt_X12_works 17 rfl) ?_
    refine v_iadd (pc := 26) h (dk dt_X12_works 18 rfl) ?_
    refine v_iast (pc := 27) h sh142 (Nat.le_of_ble_eq_true rfl) (by omega) (dk dt_X12_works 19 rfl) ?_
    rw [Int.toNat_natCast]
    refine v_aload_n (pc := 28) h (dk dt_X12_works 20 rfl) rfl ?_
    refine v_dup (pc := 29) h (dk dt_X12_works 21 rfl) rfl ?_
    refine v_geti (pc := 30) h ci12 sh123 (Nat.le_of_ble_eq_true rfl) (j := 34) wF_X12_184 rfl (dk dt_X12_works 22 rfl) ?_
    rw [mup_nk (by omega), mup_nk (by omega)]
    refine v_iconst (pc := 33) h (dk dt_X12_works 23 rfl) ?_
    refine v_iadd (pc := 34) h (dk dt_X12_works 24 rfl) ?_
    refine v_put (pc := 35) h ci12 sh123 (Nat.le_of_ble_eq_true rfl) (j := 34) wF_X12_184 rfl rfl rfl rfl (dk dt_X12_works 25 rfl) ?_
    exact v_vret (pc := 38) h r (dk dt_X12_works 26 rfl) (Nat.le_of_ble_eq_true rfl) (Nat.le_of_ble_eq_true rfl) ⟨rfl, rfl⟩
theorem c_X12_key2 (hst : l.stackTraces = false) (hE : eqJ μ) {j : Nat} (hj : j < 12) {ru : Int} (hru : ru = 3 ∨ ru = 6) (h7 : 0 ≤ μ 7 j ∧ μ 7 j ≤ 400) :
    Ct l B D E yX12_keyOf (.code yX12_keyOf cX12_keyOf 4 (some .int)) rm_X12_keyOf [.ref (B + 123), iI ru, iI (j : Int), iI 0] μ (ri (if ru = 3 then μ 141 j else if μ 7 j = 0 then 401 else μ 7 j) μ) NX := by
  have e126 := hE.1.2.2.1
  refine ct_of (own := RX12) (lv := [(0, _), (1, _), (2, _), (3, _)]) hst (by decide) rfl rfl (Nat.le_of_ble_eq_true rfl) fun a h r t => ?_
  refine v_iload_n (pc := 0) h (dk dt_X12_keyOf 0 rfl) rfl ?_
  rcases hru with e | e
  ·
    rw [e]
    refine v_switchIn (pc := 1) h 54 (dk dt_X12_keyOf 1 rfl) (by omega) (by omega) (by omega) rfl rfl ?_
    refine v_aload_n (pc := 54) h (dk dt_X12_keyOf 12 rfl) rfl ?_
    refine v_getr (pc := 55) h ci12 sh123 (Nat.le_of_ble_eq_true rfl) (j := 27) wF_X12_74 rfl (dk dt_X12_keyOf 13 rfl) ?_
    refine v_iload_n (pc := 58) h (dk dt_X12_keyOf 14 rfl) rfl ?_
    refine v_iald (pc := 59) h sh141 (Nat.le_of_ble_eq_true rfl) (by omega) (dk dt_X12_keyOf 15 rfl) ?_
    rw [Int.toNat_natCast]
    exact v_iret (pc := 60) h r (dk dt_X12_keyOf 16 rfl) (Nat.le_of_ble_eq_true rfl) (Nat.le_of_ble_eq_true rfl) ⟨by rw [if_pos e], rfl⟩
  ·
    rw [e]
    refine v_switchIn (pc := 1) h 68 (dk dt_X12_keyOf 1 rfl) (by omega) (by omega) (by omega) rfl rfl ?_
    refine v_aload_n (pc := 68) h (dk dt_X12_keyOf 22 rfl) rfl ?_
    refine v_getr (pc := 69) h ci12 sh123 (Nat.le_of_ble_eq_true rfl) (j := 2) wF_X12_16 rfl (dk dt_X12_keyOf 23 rfl) ?_
    refine v_iload_n (pc := 72) h (dk dt_X12_keyOf 24 rfl) rfl ?_
    refine v_iald (pc := 73) h sh126 (Nat.le_of_ble_eq_true rfl) (by omega) (dk dt_X12_keyOf 25 rfl) ?_
    rw [Int.toNat_natCast, e126]
    refine v_if_ne (pc := 74) h 83 (dk dt_X12_keyOf 26 rfl) rfl (by omega) (fun c74 => ?_) (fun c74 => ?_)
    ·
      refine v_aload_n (pc := 83) h (dk dt_X12_keyOf 29 rfl) rfl ?_
      refine v_getr (pc := 84) h ci12 sh123 (Nat.le_of_ble_eq_true rfl) (j := 2) wF_X12_16 rfl (dk dt_X12_keyOf 30 rfl) ?_
      refine v_iload_n (pc := 87) h (dk dt_X12_keyOf 31 rfl) rfl ?_
      refine v_iald (pc := 88) h sh126 (Nat.le_of_ble_eq_true rfl) (by omega) (dk dt_X12_keyOf 32 rfl) ?_
      rw [Int.toNat_natCast, e126]
      exact v_iret (pc := 89) h r (dk dt_X12_keyOf 33 rfl) (Nat.le_of_ble_eq_true rfl) (Nat.le_of_ble_eq_true rfl) ⟨by rw [if_neg (by omega)]; first | rw [if_pos c74] | rw [if_neg c74], rfl⟩
    ·
      refine v_sipush (pc := 77) h (dk dt_X12_keyOf 27 rfl) rfl ?_
      refine v_goto (pc := 80) h 89 (dk dt_X12_keyOf 28 rfl) rfl ?_
      exact v_iret (pc := 89) h r (dk dt_X12_keyOf 33 rfl) (Nat.le_of_ble_eq_true rfl) (Nat.le_of_ble_eq_true rfl) ⟨by rw [if_neg (by omega)]; first | rw [if_pos c74] | rw [if_neg c74], rfl⟩
end
