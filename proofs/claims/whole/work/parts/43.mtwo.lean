/-! ===== the model: two workers ===== -/
/-- the model's moment of work at j -/
def Mwk (μ : Mm) (j : Nat) (t : Int) : Mm := if μ 141 j = 1 then mup (mup (mup μ 141 j 0) 142 j (t + 1)) 123 34 (μ 123 34 + 1) else mup μ 141 j (μ 141 j - 1)
section
variable {l : Launch} {B : Nat} {D : va_G} {E : Nat → ClassId} {μ m σ : Mm} {w n : Nat} {K : Nat → Int} {s : St} {J : Mm}
theorem Mwk_o {j : Nat} {t : Int} {a : Nat} (h1 : a ≠ 123) (h2 : a ≠ 141) (h3 : a ≠ 142) : Mwk μ j t a = μ a := by
  funext b; unfold Mwk; split
  · rw [mup_nk h1, mup_nk h3, mup_nk h2]
  · rw [mup_nk h2]
theorem Mwk_123 {j : Nat} {t : Int} {b : Nat} (h : b ≠ 34) : Mwk μ j t 123 b = μ 123 b := by
  unfold Mwk; split
  · rw [mup_ne (fun z => h z.2), mup_nk (by omega), mup_nk (by omega)]
  · rw [mup_nk (by omega)]
theorem Mwk_p {j : Nat} (hb : bP n μ σ) (hj : j < n) (h0 : 1 ≤ σ 0 j) (h34 : μ 123 34 = cN σ n) : bP n (Mwk μ j (σ 6 6)) (p1N σ (j : Int)) ∧ Mwk μ j (σ 6 6) 123 34 = cN (p1N σ (j : Int)) n := by
  have hbj := hb j hj
  have e0 : ∀ b, p1N σ (j : Int) 0 b = if b = j then σ 0 j - 1 else σ 0 b := fun b => by
    rw [p1_0]
    by_cases e : b = j
    · rw [if_pos ⟨by omega, by omega⟩, if_pos e, e]
    · rw [if_neg (fun z => e (by omega)), if_neg e]
  have e1 : ∀ b, p1N σ (j : Int) 1 b = if b = j ∧ σ 0 j = 1 then σ 6 6 + 1 else σ 1 b := fun b => by
    rw [p1_1]
    by_cases e : b = j
    · rw [e]
      by_cases e2 : σ 0 j = 1
      · rw [if_pos ⟨by omega, by omega, e2⟩, if_pos ⟨rfl, e2⟩]
      · rw [if_neg (fun z => e2 z.2.2), if_neg (fun z => e2 z.2)]
    · rw [if_neg (fun z => e (by omega)), if_neg (fun z => e z.1)]
  have c0 := cN_w (σ := σ) (σ' := p1N σ (j : Int)) hj h0 e0
  constructor
  · intro i hi
    have hbi := hb i hi
    rw [e0, e1, p1_o _ (a := 2) (by decide) (by decide), p1_o _ (a := 3) (by decide) (by decide), p1_o _ (a := 4) (by decide) (by decide), p1_o _ (a := 5) (by decide) (by decide), Mwk_o (a := 143) (by decide) (by decide) (by decide), Mwk_o (a := 145) (by decide) (by decide) (by decide), Mwk_o (a := 144) (by decide) (by decide) (by decide), Mwk_o (a := 146) (by decide) (by decide) (by decide)]
    refine ⟨?_, ?_, hbi.2.2.1, hbi.2.2.2.1, hbi.2.2.2.2.1, hbi.2.2.2.2.2⟩
    · unfold Mwk
      by_cases e : i = j
      · rw [e, if_pos rfl]
        split
        · rename_i q
          rw [mup_nk (by omega), mup_nk (by omega), mup_eq]
          have := hbj.1; omega
        · rw [mup_eq, hbj.1]
      · rw [if_neg e]
        split
        · rw [mup_nk (by omega), mup_nk (by omega), mup_ne (fun z => e z.2)]; exact hbi.1
        · rw [mup_ne (fun z => e z.2)]; exact hbi.1
    · unfold Mwk
      split
      · rename_i q
        rw [mup_nk (by omega), mup_row]
        by_cases e : i = j
        · rw [if_pos e, if_pos ⟨e, by rw [← hbj.1]; exact q⟩]
        · rw [if_neg e, if_neg (fun z => e z.1), mup_nk (by omega)]; exact hbi.2.1
      · rename_i q
        rw [mup_nk (by omega), if_neg (fun z => q (by rw [hbj.1]; exact z.2))]; exact hbi.2.1
  · rw [c0]
    unfold Mwk
    by_cases e : μ 141 j = 1
    · rw [if_pos e, mup_eq, if_pos (by rw [← hbj.1]; exact e), h34]
    · rw [if_neg e, mup_nk (by omega), if_neg (by rw [← hbj.1]; exact e), h34]; omega
theorem c_X12_works (hst : l.stackTraces = false) {j : Nat} (hj : j < 12) {t' : Int} (h1 : 1 ≤ μ 141 j ∧ μ 141 j ≤ 30) :
    Ct l B D E yX12_works (.code yX12_works cX12_works 3 none) rm_X12_works [.ref (pl B 123), iI (j : Int), iI t'] μ (rv (Mwk μ j t')) NX := by
  have eY : μ 141 j = 1 → Mwk μ j t' = mup (mup (mup μ 141 j (μ 141 j - 1)) 142 j (t' + 1)) 123 34 (μ 123 34 + 1) := fun q => by unfold Mwk; rw [if_pos q, q]; rfl
  have eN : μ 141 j ≠ 1 → Mwk μ j t' = mup μ 141 j (μ 141 j - 1) := fun q => by unfold Mwk; rw [if_neg q]
  refine ct_of (own := RX12) (lv := [(0, _), (1, _), (2, _)]) hst (by decide) rfl rfl (Nat.le_of_ble_eq_true rfl) fun a h r t => ?_
  refine v_aload_n (pc := 0) h (dk dt_X12_works 0 rfl) rfl ?_
  refine v_getr (pc := 1) h ci12 sh123 (Nat.le_of_ble_eq_true rfl) (j := 27) wF_X12_74 rfl (dk dt_X12_works 1 rfl) ?_
  refine v_iload_n (pc := 4) h (dk dt_X12_works 2 rfl) rfl ?_
  refine v_dup2 (pc := 5) h (dk dt_X12_works 3 rfl) rfl rfl ?_
  refine v_iald (pc := 6) h sh141 (Nat.le_of_ble_eq_true rfl) (by omega) (dk dt_X12_works 4 rfl) ?_
  rw [Int.toNat_natCast]
  refine v_iconst (pc := 7) h (dk dt_X12_works 5 rfl) ?_
  refine v_isub (pc := 8) h (dk dt_X12_works 6 rfl) ?_
  refine v_iast (pc := 9) h sh141 (Nat.le_of_ble_eq_true rfl) (by omega) (dk dt_X12_works 7 rfl) ?_
  rw [Int.toNat_natCast]
  refine v_aload_n (pc := 10) h (dk dt_X12_works 8 rfl) rfl ?_
  refine v_getr (pc := 11) h ci12 sh123 (Nat.le_of_ble_eq_true rfl) (j := 27) wF_X12_74 rfl (dk dt_X12_works 9 rfl) ?_
  refine v_iload_n (pc := 14) h (dk dt_X12_works 10 rfl) rfl ?_
  refine v_iald (pc := 15) h sh141 (Nat.le_of_ble_eq_true rfl) (by omega) (dk dt_X12_works 11 rfl) ?_
  rw [Int.toNat_natCast, mup_eq]
  refine v_if_ne (pc := 16) h 38 (dk dt_X12_works 12 rfl) rfl (by omega) (fun c16 => ?_) (fun c16 => ?_)
  ·
    rw [eN (by omega)] at r
    exact v_vret (pc := 38) h r (dk dt_X12_works 26 rfl) (Nat.le_of_ble_eq_true rfl) (Nat.le_of_ble_eq_true rfl) ⟨rfl, rfl⟩
  ·
    rw [eY (by omega)] at r
    refine v_aload_n (pc := 19) h (dk dt_X12_works 13 rfl) rfl ?_
    refine v_getr (pc := 20) h ci12 sh123 (Nat.le_of_ble_eq_true rfl) (j := 28) wF_X12_77 rfl (dk dt_X12_works 14 rfl) ?_
    refine v_iload_n (pc := 23) h (dk dt_X12_works 15 rfl) rfl ?_
    refine v_iload_n (pc := 24) h (dk dt_X12_works 16 rfl) rfl ?_
    refine v_iconst (pc := 25) h (dk dt_X12_works 17 rfl) ?_
    refine v_iadd (pc := 26) h (dk dt_X12_works 18 rfl) ?_
    refine v_iast (pc := 27) h sh142 (Nat.le_of_ble_eq_true rfl) (by omega) (dk dt_X12_works 19 rfl) ?_
    rw [Int.toNat_natCast]
    refine v_aload_n (pc := 28) h (dk dt_X12_works 20 rfl) rfl ?_
    refine v_dup (pc := 29) h (dk dt_X12_works 21 rfl) rfl ?_
    refine v_geti (pc := 30) h ci12 sh123 (Nat.le_of_ble_eq_true rfl) (j := 34) wF_X12_184 rfl (dk dt_X12_works 22 rfl) ?_
    rw [mup_nk (by omega), mup_nk (by omega)]
    refine v_iconst (pc := 33) h (dk dt_X12_works 23 rfl) ?_
    refine v_iadd (pc := 34) h (dk dt_X12_works 24 rfl) ?_
    refine v_put (pc := 35) h ci12 sh123 (Nat.le_of_ble_eq_true rfl) (j := 34) wF_X12_184 rfl rfl rfl rfl (dk dt_X12_works 25 rfl) ?_
    exact v_vret (pc := 38) h r (dk dt_X12_works 26 rfl) (Nat.le_of_ble_eq_true rfl) (Nat.le_of_ble_eq_true rfl) ⟨rfl, rfl⟩
theorem c_X12_key2 (hst : l.stackTraces = false) (hE : eqJ μ) {j : Nat} (hj : j < 12) {ru : Int} (hru : ru = 3 ∨ ru = 6) (h7 : 0 ≤ μ 7 j ∧ μ 7 j ≤ 400) :
    Ct l B D E yX12_keyOf (.code yX12_keyOf cX12_keyOf 4 (some .int)) rm_X12_keyOf [.ref (pl B 123), iI ru, iI (j : Int), iI 0] μ (ri (if ru = 3 then μ 141 j else if μ 7 j = 0 then 401 else μ 7 j) μ) NX := by
  have e126 := hE.1.2.2.1
  refine ct_of (own := RX12) (lv := [(0, _), (1, _), (2, _), (3, _)]) hst (by decide) rfl rfl (Nat.le_of_ble_eq_true rfl) fun a h r t => ?_
  refine v_iload_n (pc := 0) h (dk dt_X12_keyOf 0 rfl) rfl ?_
  rcases hru with e | e
  ·
    rw [e]
    refine v_switchIn (pc := 1) h 54 (dk dt_X12_keyOf 1 rfl) (by omega) (by omega) (by omega) rfl rfl ?_
    refine v_aload_n (pc := 54) h (dk dt_X12_keyOf 12 rfl) rfl ?_
    refine v_getr (pc := 55) h ci12 sh123 (Nat.le_of_ble_eq_true rfl) (j := 27) wF_X12_74 rfl (dk dt_X12_keyOf 13 rfl) ?_
    refine v_iload_n (pc := 58) h (dk dt_X12_keyOf 14 rfl) rfl ?_
    refine v_iald (pc := 59) h sh141 (Nat.le_of_ble_eq_true rfl) (by omega) (dk dt_X12_keyOf 15 rfl) ?_
    rw [Int.toNat_natCast]
    exact v_iret (pc := 60) h r (dk dt_X12_keyOf 16 rfl) (Nat.le_of_ble_eq_true rfl) (Nat.le_of_ble_eq_true rfl) ⟨by rw [if_pos e], rfl⟩
  ·
    rw [e]
    refine v_switchIn (pc := 1) h 68 (dk dt_X12_keyOf 1 rfl) (by omega) (by omega) (by omega) rfl rfl ?_
    refine v_aload_n (pc := 68) h (dk dt_X12_keyOf 22 rfl) rfl ?_
    refine v_getr (pc := 69) h ci12 sh123 (Nat.le_of_ble_eq_true rfl) (j := 2) wF_X12_16 rfl (dk dt_X12_keyOf 23 rfl) ?_
    refine v_iload_n (pc := 72) h (dk dt_X12_keyOf 24 rfl) rfl ?_
    refine v_iald (pc := 73) h sh126 (Nat.le_of_ble_eq_true rfl) (by omega) (dk dt_X12_keyOf 25 rfl) ?_
    rw [Int.toNat_natCast, e126]
    refine v_if_ne (pc := 74) h 83 (dk dt_X12_keyOf 26 rfl) rfl (by omega) (fun c74 => ?_) (fun c74 => ?_)
    ·
      refine v_aload_n (pc := 83) h (dk dt_X12_keyOf 29 rfl) rfl ?_
      refine v_getr (pc := 84) h ci12 sh123 (Nat.le_of_ble_eq_true rfl) (j := 2) wF_X12_16 rfl (dk dt_X12_keyOf 30 rfl) ?_
      refine v_iload_n (pc := 87) h (dk dt_X12_keyOf 31 rfl) rfl ?_
      refine v_iald (pc := 88) h sh126 (Nat.le_of_ble_eq_true rfl) (by omega) (dk dt_X12_keyOf 32 rfl) ?_
      rw [Int.toNat_natCast, e126]
      exact v_iret (pc := 89) h r (dk dt_X12_keyOf 33 rfl) (Nat.le_of_ble_eq_true rfl) (Nat.le_of_ble_eq_true rfl) ⟨by rw [if_neg (by omega)]; first | rw [if_pos c74] | rw [if_neg c74], rfl⟩
    ·
      refine v_sipush (pc := 77) h (dk dt_X12_keyOf 27 rfl) rfl ?_
      refine v_goto (pc := 80) h 89 (dk dt_X12_keyOf 28 rfl) rfl ?_
      exact v_iret (pc := 89) h r (dk dt_X12_keyOf 33 rfl) (Nat.le_of_ble_eq_true rfl) (Nat.le_of_ble_eq_true rfl) ⟨by rw [if_neg (by omega)]; first | rw [if_pos c74] | rw [if_neg c74], rfl⟩
theorem c_X12_there2 (hst : l.stackTraces = false) {j : Nat} (hj : j < 12) (h41 : 0 ≤ μ 141 j ∧ μ 141 j ≤ 30) (h46 : μ 146 j = 0 ∨ μ 146 j = 1) :
    Ct l B D E yX12_isThere (.code yX12_isThere cX12_isThere 2 (some .boolean)) rm_X12_isThere [.ref (pl B 123), iI (j : Int)] μ (ri (if μ 146 j ≠ 0 ∧ 0 < μ 141 j then 1 else 0) μ) NX := by
  refine ct_of (own := RX12) (lv := [(0, _), (1, _)]) hst (by decide) rfl rfl (Nat.le_of_ble_eq_true rfl) fun a h r t => ?_
  refine v_aload_n (pc := 0) h (dk dt_X12_isThere 0 rfl) rfl ?_
  refine v_getr (pc := 1) h ci12 sh123 (Nat.le_of_ble_eq_true rfl) (j := 32) wF_X12_89 rfl (dk dt_X12_isThere 1 rfl) ?_
  refine v_iload_n (pc := 4) h (dk dt_X12_isThere 2 rfl) rfl ?_
  refine v_zald (pc := 5) h sh146 (Nat.le_of_ble_eq_true rfl) (by omega) (dk dt_X12_isThere 3 rfl) ?_
  rw [Int.toNat_natCast]
  refine v_if_eq (pc := 6) h 22 (dk dt_X12_isThere 4 rfl) rfl (by omega) (fun c6 => ?_) (fun c6 => ?_)
  ·
    refine v_iconst (pc := 22) h (dk dt_X12_isThere 12 rfl) ?_
    exact v_zret (pc := 23) h r (dk dt_X12_isThere 13 rfl) (Nat.le_of_ble_eq_true rfl) (Nat.le_of_ble_eq_true rfl) (by omega) ⟨by first | rw [if_pos (show μ 146 j ≠ 0 ∧ 0 < μ 141 j from ⟨by omega, by omega⟩)] | rw [if_neg (show ¬ (μ 146 j ≠ 0 ∧ 0 < μ 141 j) from fun q => by have := q.1; have := q.2; omega)], rfl⟩
  ·
    refine v_aload_n (pc := 9) h (dk dt_X12_isThere 5 rfl) rfl ?_
    refine v_getr (pc := 10) h ci12 sh123 (Nat.le_of_ble_eq_true rfl) (j := 27) wF_X12_74 rfl (dk dt_X12_isThere 6 rfl) ?_
    refine v_iload_n (pc := 13) h (dk dt_X12_isThere 7 rfl) rfl ?_
    refine v_iald (pc := 14) h sh141 (Nat.le_of_ble_eq_true rfl) (by omega) (dk dt_X12_isThere 8 rfl) ?_
    rw [Int.toNat_natCast]
    refine v_if_le (pc := 15) h 22 (dk dt_X12_isThere 9 rfl) rfl (by omega) (fun c15 => ?_) (fun c15 => ?_)
    ·
      refine v_iconst (pc := 22) h (dk dt_X12_isThere 12 rfl) ?_
      exact v_zret (pc := 23) h r (dk dt_X12_isThere 13 rfl) (Nat.le_of_ble_eq_true rfl) (Nat.le_of_ble_eq_true rfl) (by omega) ⟨by first | rw [if_pos (show μ 146 j ≠ 0 ∧ 0 < μ 141 j from ⟨by omega, by omega⟩)] | rw [if_neg (show ¬ (μ 146 j ≠ 0 ∧ 0 < μ 141 j) from fun q => by have := q.1; have := q.2; omega)], rfl⟩
    ·
      refine v_iconst (pc := 18) h (dk dt_X12_isThere 10 rfl) ?_
      refine v_goto (pc := 19) h 23 (dk dt_X12_isThere 11 rfl) rfl ?_
      exact v_zret (pc := 23) h r (dk dt_X12_isThere 13 rfl) (Nat.le_of_ble_eq_true rfl) (Nat.le_of_ble_eq_true rfl) (by omega) ⟨by first | rw [if_pos (show μ 146 j ≠ 0 ∧ 0 < μ 141 j from ⟨by omega, by omega⟩)] | rw [if_neg (show ¬ (μ 146 j ≠ 0 ∧ 0 < μ 141 j) from fun q => by have := q.1; have := q.2; omega)], rfl⟩
theorem c_X12_choose2 (hst : l.stackTraces = false) (hE : eqJ μ) (hs : okJ μ) (hn : μ 1 9 = (n : Int)) (hB : vB (jm μ) n σ) {x : Int} (h46 : ∀ j, j < n → μ 146 j = σ 5 j) (h41 : ∀ j, j < n → μ 141 j = if (j : Int) = x then 0 else σ 0 j) {le ru : Int} (hru : (le = 1 ∧ ru = 3) ∨ (le = 0 ∧ ru = 6)) :
    Ct l B D E yX12_chooses (.code yX12_chooses cX12_chooses 6 (some .int)) rm_X12_chooses [.ref (pl B 123), iI ru, iI 0] μ (ri (lsF (jm μ) n (K2 le) σ x n) μ) NX := by
  have hn12 := hs.1
  have e9 := eqJ_n hE hn
  have hD := okJD hs hn
  have hd : ∀ j : Nat, j < n → 0 ≤ μ 7 j ∧ μ 7 j ≤ 400 := fun j hj => (hs.2 j (by omega)).2.2.1
  have k3 : ru = 3 → ∀ j, keyR (jm μ) n (K2 le) σ j = σ 0 j := fun q j => by unfold keyR; rw [K2_0, if_neg (show ¬ le = 0 by omega)]; simp
  have k6 : ru = 6 → ∀ j, keyR (jm μ) n (K2 le) σ j = if μ 7 j = 0 then 401 else μ 7 j := fun q j => by unfold keyR; rw [K2_0, if_pos (show le = 0 by omega)]; simp [jm]; rfl
  have hb0 : ∀ j, j < n → 0 ≤ σ 0 j ∧ σ 0 j ≤ 30 := fun j hj => by have h1 := (hB.2 j hj).2.1; have h2 := okD_l hD hj; omega
  have hkey : ∀ j, j < n → (j : Int) ≠ x → (if ru = 3 then μ 141 j else if μ 7 j = 0 then 401 else μ 7 j) = keyR (jm μ) n (K2 le) σ j := fun j hj hx => by
    by_cases q : ru = 3
    · rw [if_pos q, k3 q, h41 j hj, if_neg hx]
    · rw [if_neg q, k6 (by omega)]
  have hkI : ∀ j, j < n → 0 ≤ keyR (jm μ) n (K2 le) σ j ∧ keyR (jm μ) n (K2 le) σ j ≤ 401 := fun j hj => by
    by_cases q : ru = 3
    · rw [k3 q]; have := hb0 j hj; omega
    · rw [k6 (by omega)]; have := hd j hj; split <;> omega
  refine ct_of (own := RX12) (lv := [(0, _), (1, _), (2, _)]) hst (by decide) rfl rfl (Nat.le_of_ble_eq_true rfl) fun a h r t => ?_
  have there : ∀ j, j < n → ((if μ 146 j ≠ 0 ∧ 0 < μ 141 j then True else False) ↔ (rdy σ j ∧ (j : Int) ≠ x)) := by
    intro j hj
    have h1 := h46 j hj
    have h2 := h41 j hj
    have h3 := (hB.2 j hj).1
    unfold rdy
    by_cases e : (j : Int) = x
    · rw [if_pos e] at h2
      rw [if_neg (fun z => by omega)]
      exact ⟨fun z => z.elim, fun z => absurd e z.2⟩
    · rw [if_neg e] at h2
      constructor
      · intro z
        by_cases q : μ 146 j ≠ 0 ∧ 0 < μ 141 j
        · exact ⟨⟨by omega, by omega⟩, e⟩
        · rw [if_neg q] at z; exact z.elim
      · intro z; rw [if_pos ⟨by omega, by omega⟩]; trivial
  have loop : ∀ (d i : Nat), i + d = n → VV a B (SP B D E μ) 0 0 44 [(4, iI (i : Int)), (3, iI (lsF (jm μ) n (K2 le) σ x i)), (0, .ref (pl B 123)), (1, iI ru), (2, iI 0)] [] := by
    intro d
    induction d with
    | zero =>
      intro i hi
      have e : i = n := by omega
      have hls : -1 ≤ lsF (jm μ) n (K2 le) σ x i ∧ lsF (jm μ) n (K2 le) σ x i < i := by rcases lsF_is (jm μ) n (K2 le) σ x i with ⟨q, -⟩ | ⟨y, q1, q2, -⟩ <;> omega
      refine v_iload (pc := 44) h (dk dt_X12_chooses 27 rfl) rfl ?_
      refine v_aload_n (pc := 46) h (dk dt_X12_chooses 28 rfl) rfl ?_
      refine v_geti (pc := 47) h ci12 sh123 (Nat.le_of_ble_eq_true rfl) (j := 9) wF_X12_108 rfl (dk dt_X12_chooses 29 rfl) ?_
      refine v_icmp_ge (pc := 50) h 122 (dk dt_X12_chooses 30 rfl) rfl (by omega) (fun c50 => ?_) (fun c50 => ?_)
      ·
        refine v_iload_n (pc := 122) h (dk dt_X12_chooses 67 rfl) rfl ?_
        refine v_iconst (pc := 123) h (dk dt_X12_chooses 68 rfl) ?_
        refine v_icmp_eq (pc := 124) h 140 (dk dt_X12_chooses 69 rfl) rfl (by omega) (fun c124 => ?_) (fun c124 => ?_)
        ·
          refine v_iload_n (pc := 140) h (dk dt_X12_chooses 76 rfl) rfl ?_
          exact v_iret (pc := 141) h r (dk dt_X12_chooses 77 rfl) (Nat.le_of_ble_eq_true rfl) (Nat.le_of_ble_eq_true rfl) ⟨by rw [e], rfl⟩
        ·
          refine v_iload_n (pc := 127) h (dk dt_X12_chooses 70 rfl) rfl ?_
          refine v_bipush (pc := 128) h (dk dt_X12_chooses 71 rfl) rfl ?_
          refine v_icmp_ne (pc := 130) h 140 (dk dt_X12_chooses 72 rfl) rfl (by omega) (fun c130 => ?_) (fun c130 => ?_)
          ·
            refine v_iload_n (pc := 140) h (dk dt_X12_chooses 76 rfl) rfl ?_
            exact v_iret (pc := 141) h r (dk dt_X12_chooses 77 rfl) (Nat.le_of_ble_eq_true rfl) (Nat.le_of_ble_eq_true rfl) ⟨by rw [e], rfl⟩
          ·
            exact absurd c130 (by omega)
      ·
        exact absurd c50 (by omega)
    | succ d ih =>
      intro i hi
      have hin : i < n := by omega
      have hls := lsF_is (jm μ) n (K2 le) σ x i
      have hlb : -1 ≤ lsF (jm μ) n (K2 le) σ x i ∧ lsF (jm μ) n (K2 le) σ x i < i := by rcases hls with ⟨q, -⟩ | ⟨y, q1, q2, -⟩ <;> omega
      have hlx : lsF (jm μ) n (K2 le) σ x i ≠ -1 → ((lsF (jm μ) n (K2 le) σ x i).toNat : Int) ≠ x := fun q => by rcases hls with ⟨q1, -⟩ | ⟨y, q1, q2, q3, q4⟩; exact absurd q1 q; rw [q2, Int.toNat_natCast]; exact q4
      clear hls
      have eN : ¬ ((rdy σ i ∧ (i : Int) ≠ x) ∧ (lsF (jm μ) n (K2 le) σ x i = -1 ∨ keyR (jm μ) n (K2 le) σ i < keyR (jm μ) n (K2 le) σ (lsF (jm μ) n (K2 le) σ x i).toNat)) → lsF (jm μ) n (K2 le) σ x (i + 1) = lsF (jm μ) n (K2 le) σ x i := fun q => by rw [lsF, if_neg q]
      have eY : (rdy σ i ∧ (i : Int) ≠ x) ∧ (lsF (jm μ) n (K2 le) σ x i = -1 ∨ keyR (jm μ) n (K2 le) σ i < keyR (jm μ) n (K2 le) σ (lsF (jm μ) n (K2 le) σ x i).toNat) → lsF (jm μ) n (K2 le) σ x (i + 1) = (i : Int) := fun q => by rw [lsF, if_pos q]
      have hio := ih (i + 1) (by omega)
      have fN := fun q => show VV a B (SP B D E μ) 0 0 44 [(4, iI ((i : Int) + 1)), (3, iI (lsF (jm μ) n (K2 le) σ x i)), (0, .ref (pl B 123)), (1, iI ru), (2, iI 0)] [] by have z := hio; rw [eN q] at z; exact z
      have fY := fun q => show VV a B (SP B D E μ) 0 0 44 [(4, iI ((i : Int) + 1)), (3, iI (i : Int)), (0, .ref (pl B 123)), (1, iI ru), (2, iI 0)] [] by have z := hio; rw [eY q] at z; exact z
      have hti := there i hin
      have hkI1 := hkI i hin
      have go116 : ¬ (rdy σ i ∧ (i : Int) ≠ x) → VV a B (SP B D E μ) 0 0 116 [(4, iI (i : Int)), (3, iI (lsF (jm μ) n (K2 le) σ x i)), (0, .ref (pl B 123)), (1, iI ru), (2, iI 0)] [] := by
        intro d59
        have z := fN (fun q => d59 q.1)
        refine v_iinc (lv' := [(4, _), (3, _), (0, _), (1, _), (2, _)]) (pc := 116) h (dk dt_X12_chooses 65 rfl) rfl (Nat.le_of_ble_eq_true rfl) rfl ?_
        refine v_goto (pc := 119) h 44 (dk dt_X12_chooses 66 rfl) rfl ?_
        exact VV.loc z ⟨rfl, rfl, rfl, rfl, rfl, trivial⟩
      have go90 : rdy σ i ∧ (i : Int) ≠ x → VV a B (SP B D E μ) 0 0 90 [(4, iI (i : Int)), (3, iI (lsF (jm μ) n (K2 le) σ x i)), (0, .ref (pl B 123)), (1, iI ru), (2, iI 0)] [] := by
        intro d59
        have h3e := hkey i hin d59.2
        by_cases e : lsF (jm μ) n (K2 le) σ x i = -1
        · have z := fY ⟨d59, Or.inl e⟩
          clear fN fY eN eY there ih
          refine v_iload_n (pc := 90) h (dk dt_X12_chooses 49 rfl) rfl ?_
          refine v_iconst (pc := 91) h (dk dt_X12_chooses 50 rfl) ?_
          refine v_icmp_eq (pc := 92) h 113 (dk dt_X12_chooses 51 rfl) rfl (by omega) (fun c92 => ?_) (fun c92 => ?_)
          ·
            refine v_iload (pc := 113) h (dk dt_X12_chooses 63 rfl) rfl ?_
            refine v_istore_n (lv' := [(3, _), (4, _), (0, _), (1, _), (2, _)]) (pc := 115) h (dk dt_X12_chooses 64 rfl) (Nat.le_of_ble_eq_true rfl) rfl ?_
            refine v_iinc (lv' := [(4, _), (3, _), (0, _), (1, _), (2, _)]) (pc := 116) h (dk dt_X12_chooses 65 rfl) rfl (Nat.le_of_ble_eq_true rfl) rfl ?_
            refine v_goto (pc := 119) h 44 (dk dt_X12_chooses 66 rfl) rfl ?_
            exact VV.loc z ⟨rfl, rfl, rfl, rfl, rfl, trivial⟩
          ·
            exact absurd e c92
        · obtain ⟨y, hy⟩ : ∃ y : Nat, lsF (jm μ) n (K2 le) σ x i = (y : Int) := ⟨(lsF (jm μ) n (K2 le) σ x i).toNat, by omega⟩
          have hyn : y < n := by omega
          have hkI2 := hkI y hyn
          have ey : (lsF (jm μ) n (K2 le) σ x i).toNat = y := by omega
          have hyx : (y : Int) ≠ x := by rw [← ey]; exact hlx e
          have h3y := hkey y hyn hyx
          have zY := fun q : keyR (jm μ) n (K2 le) σ i < keyR (jm μ) n (K2 le) σ y => fY ⟨d59, Or.inr (by rw [ey]; exact q)⟩
          have zN := fun q : ¬ keyR (jm μ) n (K2 le) σ i < keyR (jm μ) n (K2 le) σ y => fN (fun q2 => by rcases q2.2 with z | z; exact e z; rw [ey] at z; exact q z)
          have hdi := hd i hin
          have hdy := hd y hyn
          rw [hy] at zN ⊢
          clear fN fY eN eY there ih hio hti hkey hlx hd hb0 k3 k6 h41 h46
          refine v_iload_n (pc := 90) h (dk dt_X12_chooses 49 rfl) rfl ?_
          refine v_iconst (pc := 91) h (dk dt_X12_chooses 50 rfl) ?_
          refine v_icmp_eq (pc := 92) h 113 (dk dt_X12_chooses 51 rfl) rfl (by omega) (fun c92 => ?_) (fun c92 => ?_)
          ·
            exact absurd c92 (by omega)
          ·
            refine v_aload_n (pc := 95) h (dk dt_X12_chooses 52 rfl) rfl ?_
            refine v_iload_n (pc := 96) h (dk dt_X12_chooses 53 rfl) rfl ?_
            refine v_iload (pc := 97) h (dk dt_X12_chooses 54 rfl) rfl ?_
            refine v_iload_n (pc := 99) h (dk dt_X12_chooses 55 rfl) rfl ?_
            refine v_cVi (pc := 100) h (c_X12_key2 h.quiet hE (by omega) (by omega) hdi) kv_X12_keyOf sh123 wM_X12_176 rfl rfl (Nat.le_of_ble_eq_true rfl) (RM.of rfl) rfl rfl (dk dt_X12_chooses 56 rfl) ?_
            rw [h3e]
            refine v_aload_n (pc := 103) h (dk dt_X12_chooses 57 rfl) rfl ?_
            refine v_iload_n (pc := 104) h (dk dt_X12_chooses 58 rfl) rfl ?_
            refine v_iload_n (pc := 105) h (dk dt_X12_chooses 59 rfl) rfl ?_
            refine v_iload_n (pc := 106) h (dk dt_X12_chooses 60 rfl) rfl ?_
            refine v_cVi (pc := 107) h (c_X12_key2 h.quiet hE (by omega) (by omega) hdy) kv_X12_keyOf sh123 wM_X12_176 rfl rfl (Nat.le_of_ble_eq_true rfl) (RM.of rfl) rfl rfl (dk dt_X12_chooses 61 rfl) ?_
            rw [h3y]
            refine v_icmp_ge (pc := 110) h 116 (dk dt_X12_chooses 62 rfl) rfl (by omega) (fun c110 => ?_) (fun c110 => ?_)
            ·
              have z := zN (by omega)
              refine v_iinc (lv' := [(4, _), (3, _), (0, _), (1, _), (2, _)]) (pc := 116) h (dk dt_X12_chooses 65 rfl) rfl (Nat.le_of_ble_eq_true rfl) rfl ?_
              refine v_goto (pc := 119) h 44 (dk dt_X12_chooses 66 rfl) rfl ?_
              exact VV.loc z ⟨rfl, rfl, rfl, rfl, rfl, trivial⟩
            ·
              have z := zY (by omega)
              refine v_iload (pc := 113) h (dk dt_X12_chooses 63 rfl) rfl ?_
              refine v_istore_n (lv' := [(3, _), (4, _), (0, _), (1, _), (2, _)]) (pc := 115) h (dk dt_X12_chooses 64 rfl) (Nat.le_of_ble_eq_true rfl) rfl ?_
              refine v_iinc (lv' := [(4, _), (3, _), (0, _), (1, _), (2, _)]) (pc := 116) h (dk dt_X12_chooses 65 rfl) rfl (Nat.le_of_ble_eq_true rfl) rfl ?_
              refine v_goto (pc := 119) h 44 (dk dt_X12_chooses 66 rfl) rfl ?_
              exact VV.loc z ⟨rfl, rfl, rfl, rfl, rfl, trivial⟩
      refine v_iload (pc := 44) h (dk dt_X12_chooses 27 rfl) rfl ?_
      refine v_aload_n (pc := 46) h (dk dt_X12_chooses 28 rfl) rfl ?_
      refine v_geti (pc := 47) h ci12 sh123 (Nat.le_of_ble_eq_true rfl) (j := 9) wF_X12_108 rfl (dk dt_X12_chooses 29 rfl) ?_
      refine v_icmp_ge (pc := 50) h 122 (dk dt_X12_chooses 30 rfl) rfl (by omega) (fun c50 => ?_) (fun c50 => ?_)
      ·
        exact absurd c50 (by omega)
      ·
        refine v_aload_n (pc := 53) h (dk dt_X12_chooses 31 rfl) rfl ?_
        refine v_iload (pc := 54) h (dk dt_X12_chooses 32 rfl) rfl ?_
        refine v_cVi (pc := 56) h (c_X12_there2 h.quiet (by omega) (by rw [h41 i hin]; have := hb0 i hin; split <;> omega) (by rw [h46 i hin]; exact (hB.2 i hin).1)) kv_X12_isThere sh123 wM_X12_159 rfl rfl (Nat.le_of_ble_eq_true rfl) (RM.of rfl) rfl rfl (dk dt_X12_chooses 33 rfl) ?_
        refine v_if_eq (pc := 59) h 82 (dk dt_X12_chooses 34 rfl) rfl (by split <;> omega) (fun c59 => ?_) (fun c59 => ?_)
        ·
          have d59 : ¬ (rdy σ i ∧ (i : Int) ≠ x) := fun q => by have z := hti.mpr q; by_cases g : μ 146 i ≠ 0 ∧ 0 < μ 141 i; (rw [if_pos g] at c59; omega); (rw [if_neg g] at z; exact z)
          refine v_iconst (pc := 82) h (dk dt_X12_chooses 45 rfl) ?_
          refine v_istore (lv' := [(5, _), (4, _), (3, _), (0, _), (1, _), (2, _)]) (pc := 83) h (dk dt_X12_chooses 46 rfl) (Nat.le_of_ble_eq_true rfl) rfl ?_
          refine v_iload (pc := 85) h (dk dt_X12_chooses 47 rfl) rfl ?_
          refine v_if_eq (pc := 87) h 116 (dk dt_X12_chooses 48 rfl) rfl (by omega) (fun c87 => ?_) (fun c87 => ?_)
          ·
            first
              | exact absurd c87 (by decide)
              | exact VV.loc (go116 d59) ⟨rfl, rfl, rfl, rfl, rfl, trivial⟩
          ·
            first
              | exact absurd rfl c87
              | exact VV.loc (go90 d59) ⟨rfl, rfl, rfl, rfl, rfl, trivial⟩
        ·
          have d59 : rdy σ i ∧ (i : Int) ≠ x := by by_cases g : μ 146 i ≠ 0 ∧ 0 < μ 141 i; exact hti.mp (by rw [if_pos g]; trivial); (rw [if_neg g] at c59; omega)
          refine v_iload_n (pc := 62) h (dk dt_X12_chooses 35 rfl) rfl ?_
          refine v_bipush (pc := 63) h (dk dt_X12_chooses 36 rfl) rfl ?_
          refine v_icmp_ne (pc := 65) h 78 (dk dt_X12_chooses 37 rfl) rfl (by omega) (fun c65 => ?_) (fun c65 => ?_)
          ·
            refine v_iconst (pc := 78) h (dk dt_X12_chooses 43 rfl) ?_
            refine v_goto (pc := 79) h 83 (dk dt_X12_chooses 44 rfl) rfl ?_
            refine v_istore (lv' := [(5, _), (4, _), (3, _), (0, _), (1, _), (2, _)]) (pc := 83) h (dk dt_X12_chooses 46 rfl) (Nat.le_of_ble_eq_true rfl) rfl ?_
            refine v_iload (pc := 85) h (dk dt_X12_chooses 47 rfl) rfl ?_
            refine v_if_eq (pc := 87) h 116 (dk dt_X12_chooses 48 rfl) rfl (by omega) (fun c87 => ?_) (fun c87 => ?_)
            ·
              first
                | exact absurd c87 (by decide)
                | exact VV.loc (go116 d59) ⟨rfl, rfl, rfl, rfl, rfl, trivial⟩
            ·
              first
                | exact absurd rfl c87
                | exact VV.loc (go90 d59) ⟨rfl, rfl, rfl, rfl, rfl, trivial⟩
          ·
            exact absurd c65 (by omega)
  refine v_iload_n (pc := 0) h (dk dt_X12_chooses 0 rfl) rfl ?_
  refine v_if_eq (pc := 1) h 9 (dk dt_X12_chooses 1 rfl) rfl (by omega) (fun c1 => ?_) (fun c1 => ?_)
  ·
    exact absurd c1 (by omega)
  ·
    refine v_iload_n (pc := 4) h (dk dt_X12_chooses 2 rfl) rfl ?_
    refine v_iconst (pc := 5) h (dk dt_X12_chooses 3 rfl) ?_
    refine v_icmp_ne (pc := 6) h 39 (dk dt_X12_chooses 4 rfl) rfl (by omega) (fun c6 => ?_) (fun c6 => ?_)
    ·
      refine v_iconst (pc := 39) h (dk dt_X12_chooses 23 rfl) ?_
      refine v_istore_n (lv' := [(3, _), (0, _), (1, _), (2, _)]) (pc := 40) h (dk dt_X12_chooses 24 rfl) (Nat.le_of_ble_eq_true rfl) rfl ?_
      refine v_iconst (pc := 41) h (dk dt_X12_chooses 25 rfl) ?_
      refine v_istore (lv' := [(4, _), (3, _), (0, _), (1, _), (2, _)]) (pc := 42) h (dk dt_X12_chooses 26 rfl) (Nat.le_of_ble_eq_true rfl) rfl ?_
      exact VV.loc (loop n 0 (by omega)) ⟨rfl, rfl, rfl, rfl, rfl, trivial⟩
    ·
      exact absurd c6 (by omega)
end
