/-! ===== the model's run: what is asked of its numbers ===== -/
/-- both have been told the same jobs -/
def eqJ (μ : Mm) : Prop := (μ 124 = μ 3 ∧ μ 125 = μ 5 ∧ μ 126 = μ 7 ∧ μ 127 = μ 9 ∧ μ 128 = μ 11 ∧ μ 129 = μ 13 ∧ μ 130 = μ 15 ∧ μ 131 = μ 17 ∧ μ 132 = μ 19) ∧ μ 123 9 = μ 1 9
/-- the model's numbers of a run are σ -/
def bP (n : Nat) (μ σ : Mm) : Prop := ∀ j, j < n → μ 141 j = σ 0 j ∧ μ 142 j = σ 1 j ∧ μ 143 j = σ 2 j ∧ μ 145 j = σ 3 j ∧ μ 144 j = σ 4 j ∧ μ 146 j = σ 5 j
/-- of these, what is asked for choosing -/
def bR (n : Nat) (μ σ : Mm) : Prop := ∀ j, j < n → μ 141 j = σ 0 j ∧ μ 146 j = σ 5 j
theorem bR_of {n : Nat} {μ σ : Mm} (h : bP n μ σ) : bR n μ σ := fun j hj => ⟨(h j hj).1, (h j hj).2.2.2.2.2⟩
section
variable {μ m σ σ' J : Mm} {n : Nat}
theorem eqJ_n (h : eqJ μ) (hn : μ 1 9 = (n : Int)) : μ 123 9 = (n : Int) := h.2.trans hn
theorem eqJ_c (hm : ∀ a, (a < 20 ∨ 124 ≤ a ∧ a < 133) → m a = μ a) (h9 : m 123 9 = μ 123 9) (h : eqJ μ) : eqJ m := by
  unfold eqJ
  rw [hm 124 (by omega), hm 125 (by omega), hm 126 (by omega), hm 127 (by omega), hm 128 (by omega), hm 129 (by omega), hm 130 (by omega), hm 131 (by omega), hm 132 (by omega), hm 3 (by omega), hm 5 (by omega), hm 7 (by omega), hm 9 (by omega), hm 11 (by omega), hm 13 (by omega), hm 15 (by omega), hm 17 (by omega), hm 19 (by omega), hm 1 (by omega), h9]
  exact h
theorem bP_c (hm : ∀ a, 141 ≤ a → a < 147 → m a = μ a) (h : bP n μ σ) : bP n m σ := by
  intro j hj
  rw [hm 141 (by omega) (by omega), hm 142 (by omega) (by omega), hm 143 (by omega) (by omega), hm 144 (by omega) (by omega), hm 145 (by omega) (by omega), hm 146 (by omega) (by omega)]
  exact h j hj
/-- has the lock y: told by its stretches -/
theorem hd_has (hD : okD J n) {j : Nat} (hj : j < n) {y : Int} (hy : 0 ≤ y) : (∃ x, x < (J 5 j).toNat ∧ J 6 (3 * j + x) = y ∧ J 7 (3 * j + x) < J 1 j - σ 0 j ∧ J 1 j - σ 0 j < J 8 (3 * j + x)) ↔ hdF J σ j = y := by
  rcases hdF_is (σ := σ) hD hj with ⟨q, q2⟩ | ⟨x, q1, q2, q3⟩
  · constructor
    · rintro ⟨x, h1, -, h3⟩; exact absurd h3 (q2 x h1)
    · intro h; omega
  · constructor
    · rintro ⟨x', h1, h2, h3⟩
      have : x = x' := okD_o (z := J 1 j - σ 0 j) hD hj q1 h1 (by omega) q2.2 (by omega) h3.2
      rw [q3, this]; exact h2
    · intro h; exact ⟨x, q1, by rw [← q3]; exact h, q2⟩
end
section
variable {l : Launch} {B : Nat} {D : va_G} {E : Nat → ClassId} {μ m σ : Mm} {w n : Nat} {K : Nat → Int} {s : St} {J : Mm}
theorem c_X12_isThere (hst : l.stackTraces = false) (hb : bR n μ σ) (hB : vB J n σ) (hl : ∀ j, j < n → J 1 j ≤ 30) {j : Nat} (hj : j < n) (hn : n ≤ 12) :
    Ct l B D E yX12_isThere (.code yX12_isThere cX12_isThere 2 (some .boolean)) rm_X12_isThere [.ref (pl B 123), iI (j : Int)] μ (ri (if rdy σ j then 1 else 0) μ) NX := by
  have h1 := hb j hj
  have h2 := hB.2 j hj
  have h3 := hl j hj
  refine ct_of (own := RX12) (lv := [(0, _), (1, _)]) hst (by decide) rfl rfl (Nat.le_of_ble_eq_true rfl) fun a h r t => ?_
  refine v_aload_n (pc := 0) h (dk dt_X12_isThere 0 rfl) rfl ?_
  refine v_getr (pc := 1) h ci12 sh123 (Nat.le_of_ble_eq_true rfl) (j := 32) wF_X12_89 rfl (dk dt_X12_isThere 1 rfl) ?_
  refine v_iload_n (pc := 4) h (dk dt_X12_isThere 2 rfl) rfl ?_
  refine v_zald (pc := 5) h sh146 (Nat.le_of_ble_eq_true rfl) (by omega) (dk dt_X12_isThere 3 rfl) ?_
  rw [Int.toNat_natCast, h1.2]
  refine v_if_eq (pc := 6) h 22 (dk dt_X12_isThere 4 rfl) rfl (by omega) (fun c6 => ?_) (fun c6 => ?_)
  ·
    refine v_iconst (pc := 22) h (dk dt_X12_isThere 12 rfl) ?_
    exact v_zret (pc := 23) h r (dk dt_X12_isThere 13 rfl) (Nat.le_of_ble_eq_true rfl) (Nat.le_of_ble_eq_true rfl) (by omega) ⟨by first | rw [if_pos (show rdy σ j from ⟨by omega, by omega⟩)] | rw [if_neg (show ¬ rdy σ j from fun q => by have := q.1; have := q.2; omega)], rfl⟩
  ·
    refine v_aload_n (pc := 9) h (dk dt_X12_isThere 5 rfl) rfl ?_
    refine v_getr (pc := 10) h ci12 sh123 (Nat.le_of_ble_eq_true rfl) (j := 27) wF_X12_74 rfl (dk dt_X12_isThere 6 rfl) ?_
    refine v_iload_n (pc := 13) h (dk dt_X12_isThere 7 rfl) rfl ?_
    refine v_iald (pc := 14) h sh141 (Nat.le_of_ble_eq_true rfl) (by omega) (dk dt_X12_isThere 8 rfl) ?_
    rw [Int.toNat_natCast, h1.1]
    refine v_if_le (pc := 15) h 22 (dk dt_X12_isThere 9 rfl) rfl (by omega) (fun c15 => ?_) (fun c15 => ?_)
    ·
      refine v_iconst (pc := 22) h (dk dt_X12_isThere 12 rfl) ?_
      exact v_zret (pc := 23) h r (dk dt_X12_isThere 13 rfl) (Nat.le_of_ble_eq_true rfl) (Nat.le_of_ble_eq_true rfl) (by omega) ⟨by first | rw [if_pos (show rdy σ j from ⟨by omega, by omega⟩)] | rw [if_neg (show ¬ rdy σ j from fun q => by have := q.1; have := q.2; omega)], rfl⟩
    ·
      refine v_iconst (pc := 18) h (dk dt_X12_isThere 10 rfl) ?_
      refine v_goto (pc := 19) h 23 (dk dt_X12_isThere 11 rfl) rfl ?_
      exact v_zret (pc := 23) h r (dk dt_X12_isThere 13 rfl) (Nat.le_of_ble_eq_true rfl) (Nat.le_of_ble_eq_true rfl) (by omega) ⟨by first | rw [if_pos (show rdy σ j from ⟨by omega, by omega⟩)] | rw [if_neg (show ¬ rdy σ j from fun q => by have := q.1; have := q.2; omega)], rfl⟩
theorem c_X12_needs (hst : l.stackTraces = false) (hE : eqJ μ) (hs : okJ μ) (hn : μ 1 9 = (n : Int)) (hb : bR n μ σ) (hB : vB (jm μ) n σ) {j : Nat} (hj : j < n) :
    Ct l B D E yX12_needs (.code yX12_needs cX12_needs 4 (some .int)) rm_X12_needs [.ref (pl B 123), iI (j : Int)] μ (ri (ndF (jm μ) σ j) μ) NX := by
  have hn12 := hs.1
  have h1 := (hb j hj).1
  have h2 := (hB.2 j hj).2.1
  have hq := hs.2 j (by omega)
  have hg := hq.2.2.2.2.2.2.1
  have e1 : jm μ 1 j = μ 5 j := rfl
  have e129 := hE.1.2.2.2.2.2.1
  have e130 := hE.1.2.2.2.2.2.2.1
  have e131 := hE.1.2.2.2.2.2.2.2.1
  have e132 := hE.1.2.2.2.2.2.2.2.2
  have e0 : ndF (jm μ) σ j = lkAt (μ 15) (μ 17) (μ 19) j (μ 5 j - σ 0 j) (μ 5 j - σ 0 j) (μ 13 j).toNat 0 := rfl
  refine ct_of (own := RX12) (lv := [(0, _), (1, _)]) hst (by decide) rfl rfl (Nat.le_of_ble_eq_true rfl) fun a h r t => ?_
  have loop : ∀ (d i : Nat), i + d = (μ 13 j).toNat → ndF (jm μ) σ j = lkAt (μ 15) (μ 17) (μ 19) j (μ 5 j - σ 0 j) (μ 5 j - σ 0 j) d i → VV a B (SP B D E μ) 0 0 18 [(3, iI ((3 * j + i : Nat) : Int)), (2, iI (μ 5 j - σ 0 j)), (0, .ref (pl B 123)), (1, iI (j : Int))] [] := by
    intro d
    induction d with
    | zero =>
      intro i hi q
      refine v_iload_n (pc := 18) h (dk dt_X12_needs 14 rfl) rfl ?_
      refine v_iconst (pc := 19) h (dk dt_X12_needs 15 rfl) ?_
      refine v_iload_n (pc := 20) h (dk dt_X12_needs 16 rfl) rfl ?_
      refine v_imul (pc := 21) h (dk dt_X12_needs 17 rfl) ?_
      refine v_aload_n (pc := 22) h (dk dt_X12_needs 18 rfl) rfl ?_
      refine v_getr (pc := 23) h ci12 sh123 (Nat.le_of_ble_eq_true rfl) (j := 5) wF_X12_25 rfl (dk dt_X12_needs 19 rfl) ?_
      refine v_iload_n (pc := 26) h (dk dt_X12_needs 20 rfl) rfl ?_
      refine v_iald (pc := 27) h sh129 (Nat.le_of_ble_eq_true rfl) (by omega) (dk dt_X12_needs 21 rfl) ?_
      rw [Int.toNat_natCast, e129]
      refine v_iadd (pc := 28) h (dk dt_X12_needs 22 rfl) ?_
      refine v_icmp_ge (pc := 29) h 65 (dk dt_X12_needs 23 rfl) rfl (by omega) (fun c29 => ?_) (fun c29 => ?_)
      ·
        refine v_iconst (pc := 65) h (dk dt_X12_needs 43 rfl) ?_
        exact v_iret (pc := 66) h r (dk dt_X12_needs 44 rfl) (Nat.le_of_ble_eq_true rfl) (Nat.le_of_ble_eq_true rfl) ⟨by rw [q, lkAt], rfl⟩
      ·
        exact absurd c29 (by omega)
    | succ d ih =>
      intro i hi q
      have hgi := hg i (by omega)
      refine v_iload_n (pc := 18) h (dk dt_X12_needs 14 rfl) rfl ?_
      refine v_iconst (pc := 19) h (dk dt_X12_needs 15 rfl) ?_
      refine v_iload_n (pc := 20) h (dk dt_X12_needs 16 rfl) rfl ?_
      refine v_imul (pc := 21) h (dk dt_X12_needs 17 rfl) ?_
      refine v_aload_n (pc := 22) h (dk dt_X12_needs 18 rfl) rfl ?_
      refine v_getr (pc := 23) h ci12 sh123 (Nat.le_of_ble_eq_true rfl) (j := 5) wF_X12_25 rfl (dk dt_X12_needs 19 rfl) ?_
      refine v_iload_n (pc := 26) h (dk dt_X12_needs 20 rfl) rfl ?_
      refine v_iald (pc := 27) h sh129 (Nat.le_of_ble_eq_true rfl) (by omega) (dk dt_X12_needs 21 rfl) ?_
      rw [Int.toNat_natCast, e129]
      refine v_iadd (pc := 28) h (dk dt_X12_needs 22 rfl) ?_
      refine v_icmp_ge (pc := 29) h 65 (dk dt_X12_needs 23 rfl) rfl (by omega) (fun c29 => ?_) (fun c29 => ?_)
      ·
        exact absurd c29 (by omega)
      ·
        refine v_aload_n (pc := 32) h (dk dt_X12_needs 24 rfl) rfl ?_
        refine v_getr (pc := 33) h ci12 sh123 (Nat.le_of_ble_eq_true rfl) (j := 7) wF_X12_31 rfl (dk dt_X12_needs 25 rfl) ?_
        refine v_iload_n (pc := 36) h (dk dt_X12_needs 26 rfl) rfl ?_
        refine v_iald (pc := 37) h sh131 (Nat.le_of_ble_eq_true rfl) (by omega) (dk dt_X12_needs 27 rfl) ?_
        rw [Int.toNat_natCast, e131]
        refine v_iload_n (pc := 38) h (dk dt_X12_needs 28 rfl) rfl ?_
        refine v_icmp_gt (pc := 39) h 59 (dk dt_X12_needs 29 rfl) rfl (by omega) (fun c39 => ?_) (fun c39 => ?_)
        ·
          refine v_iinc (lv' := [(3, _), (2, _), (0, _), (1, _)]) (pc := 59) h (dk dt_X12_needs 41 rfl) rfl (Nat.le_of_ble_eq_true rfl) rfl ?_
          refine v_goto (pc := 62) h 18 (dk dt_X12_needs 42 rfl) rfl ?_
          exact VV.loc (ih (i + 1) (by omega) (by rw [q, lkAt, if_neg (by omega)])) ⟨lvI (by omega), rfl, rfl, rfl, trivial⟩
        ·
          refine v_iload_n (pc := 42) h (dk dt_X12_needs 30 rfl) rfl ?_
          refine v_aload_n (pc := 43) h (dk dt_X12_needs 31 rfl) rfl ?_
          refine v_getr (pc := 44) h ci12 sh123 (Nat.le_of_ble_eq_true rfl) (j := 8) wF_X12_34 rfl (dk dt_X12_needs 32 rfl) ?_
          refine v_iload_n (pc := 47) h (dk dt_X12_needs 33 rfl) rfl ?_
          refine v_iald (pc := 48) h sh132 (Nat.le_of_ble_eq_true rfl) (by omega) (dk dt_X12_needs 34 rfl) ?_
          rw [Int.toNat_natCast, e132]
          refine v_icmp_ge (pc := 49) h 59 (dk dt_X12_needs 35 rfl) rfl (by omega) (fun c49 => ?_) (fun c49 => ?_)
          ·
            refine v_iinc (lv' := [(3, _), (2, _), (0, _), (1, _)]) (pc := 59) h (dk dt_X12_needs 41 rfl) rfl (Nat.le_of_ble_eq_true rfl) rfl ?_
            refine v_goto (pc := 62) h 18 (dk dt_X12_needs 42 rfl) rfl ?_
            exact VV.loc (ih (i + 1) (by omega) (by rw [q, lkAt, if_neg (by omega)])) ⟨lvI (by omega), rfl, rfl, rfl, trivial⟩
          ·
            refine v_aload_n (pc := 52) h (dk dt_X12_needs 36 rfl) rfl ?_
            refine v_getr (pc := 53) h ci12 sh123 (Nat.le_of_ble_eq_true rfl) (j := 6) wF_X12_28 rfl (dk dt_X12_needs 37 rfl) ?_
            refine v_iload_n (pc := 56) h (dk dt_X12_needs 38 rfl) rfl ?_
            refine v_iald (pc := 57) h sh130 (Nat.le_of_ble_eq_true rfl) (by omega) (dk dt_X12_needs 39 rfl) ?_
            rw [Int.toNat_natCast, e130]
            exact v_iret (pc := 58) h r (dk dt_X12_needs 40 rfl) (Nat.le_of_ble_eq_true rfl) (Nat.le_of_ble_eq_true rfl) ⟨by rw [q, lkAt, if_pos (by omega)], rfl⟩
  refine v_aload_n (pc := 0) h (dk dt_X12_needs 0 rfl) rfl ?_
  refine v_getr (pc := 1) h ci12 sh123 (Nat.le_of_ble_eq_true rfl) (j := 1) wF_X12_13 rfl (dk dt_X12_needs 1 rfl) ?_
  refine v_iload_n (pc := 4) h (dk dt_X12_needs 2 rfl) rfl ?_
  refine v_iald (pc := 5) h sh125 (Nat.le_of_ble_eq_true rfl) (by omega) (dk dt_X12_needs 3 rfl) ?_
  rw [Int.toNat_natCast, hE.1.2.1]
  refine v_aload_n (pc := 6) h (dk dt_X12_needs 4 rfl) rfl ?_
  refine v_getr (pc := 7) h ci12 sh123 (Nat.le_of_ble_eq_true rfl) (j := 27) wF_X12_74 rfl (dk dt_X12_needs 5 rfl) ?_
  refine v_iload_n (pc := 10) h (dk dt_X12_needs 6 rfl) rfl ?_
  refine v_iald (pc := 11) h sh141 (Nat.le_of_ble_eq_true rfl) (by omega) (dk dt_X12_needs 7 rfl) ?_
  rw [Int.toNat_natCast, h1]
  refine v_isub (pc := 12) h (dk dt_X12_needs 8 rfl) ?_
  refine v_istore_n (lv' := [(2, _), (0, _), (1, _)]) (pc := 13) h (dk dt_X12_needs 9 rfl) (Nat.le_of_ble_eq_true rfl) rfl ?_
  refine v_iconst (pc := 14) h (dk dt_X12_needs 10 rfl) ?_
  refine v_iload_n (pc := 15) h (dk dt_X12_needs 11 rfl) rfl ?_
  refine v_imul (pc := 16) h (dk dt_X12_needs 12 rfl) ?_
  refine v_istore_n (lv' := [(3, _), (2, _), (0, _), (1, _)]) (pc := 17) h (dk dt_X12_needs 13 rfl) (Nat.le_of_ble_eq_true rfl) rfl ?_
  exact VV.loc (loop (μ 13 j).toNat 0 (by omega) e0) ⟨lvI (by omega), rfl, rfl, rfl, trivial⟩
theorem c_X12_has (hst : l.stackTraces = false) (hE : eqJ μ) (hs : okJ μ) (hn : μ 1 9 = (n : Int)) (hb : bR n μ σ) (hB : vB (jm μ) n σ) {j : Nat} (hj : j < n) {y : Int} (hy : 0 ≤ y ∧ y ≤ 2) :
    Ct l B D E yX12_has (.code yX12_has cX12_has 6 (some .boolean)) rm_X12_has [.ref (pl B 123), iI (j : Int), iI y] μ (ri (if hdF (jm μ) σ j = y then 1 else 0) μ) NX := by
  have hn12 := hs.1
  have h1 := (hb j hj).1
  have h2 := (hB.2 j hj).2.1
  have hq := hs.2 j (by omega)
  have hg := hq.2.2.2.2.2.2.1
  have e1 : jm μ 1 j = μ 5 j := rfl
  have e129 := hE.1.2.2.2.2.2.1
  have e130 := hE.1.2.2.2.2.2.2.1
  have e131 := hE.1.2.2.2.2.2.2.2.1
  have e132 := hE.1.2.2.2.2.2.2.2.2
  have hhas := hd_has (σ := σ) (okJD hs hn) hj hy.1
  have hP : ∀ x, (jm μ 6 (3 * j + x) = y ∧ jm μ 7 (3 * j + x) < jm μ 1 j - σ 0 j ∧ jm μ 1 j - σ 0 j < jm μ 8 (3 * j + x)) ↔ (μ 15 (3 * j + x) = y ∧ μ 17 (3 * j + x) < μ 5 j - σ 0 j ∧ μ 5 j - σ 0 j < μ 19 (3 * j + x)) := fun x => Iff.rfl
  obtain ⟨HE, hmk, hex⟩ : ∃ HE : Prop, (∀ x, x < (μ 13 j).toNat → (μ 15 (3 * j + x) = y ∧ μ 17 (3 * j + x) < μ 5 j - σ 0 j ∧ μ 5 j - σ 0 j < μ 19 (3 * j + x)) → HE) ∧ (HE → hdF (jm μ) σ j = y) :=
    ⟨∃ x, x < (μ 13 j).toNat ∧ (μ 15 (3 * j + x) = y ∧ μ 17 (3 * j + x) < μ 5 j - σ 0 j ∧ μ 5 j - σ 0 j < μ 19 (3 * j + x)), fun x h1 h2 => ⟨x, h1, h2⟩, fun ⟨x, q1, q2⟩ => hhas.mp ⟨x, q1, (hP x).mpr q2⟩⟩
  have hno : (∀ x, x < (μ 13 j).toNat → ¬ (μ 15 (3 * j + x) = y ∧ μ 17 (3 * j + x) < μ 5 j - σ 0 j ∧ μ 5 j - σ 0 j < μ 19 (3 * j + x))) → ¬ hdF (jm μ) σ j = y := fun q z => by
    obtain ⟨x, z1, z2⟩ := hhas.mpr z
    exact q x z1 ((hP x).mp z2)
  clear hhas hP
  refine ct_of (own := RX12) (lv := [(0, _), (1, _), (2, _)]) hst (by decide) rfl rfl (Nat.le_of_ble_eq_true rfl) fun a h r t => ?_
  have loop : ∀ (d i : Nat) (b : Int), i + d = (μ 13 j).toNat → (b = 1 ∧ HE ∨ b = 0 ∧ ∀ x, x < i → ¬ (μ 15 (3 * j + x) = y ∧ μ 17 (3 * j + x) < μ 5 j - σ 0 j ∧ μ 5 j - σ 0 j < μ 19 (3 * j + x))) → VV a B (SP B D E μ) 0 0 22 [(5, iI ((3 * j + i : Nat) : Int)), (4, iI b), (3, iI (μ 5 j - σ 0 j)), (0, .ref (pl B 123)), (1, iI (j : Int)), (2, iI y)] [] := by
    intro d
    induction d with
    | zero =>
      intro i b hi hbb
      have hb01 : b = 0 ∨ b = 1 := by rcases hbb with ⟨q, -⟩ | ⟨q, -⟩ <;> omega
      refine v_iload (pc := 22) h (dk dt_X12_has 16 rfl) rfl ?_
      refine v_iconst (pc := 24) h (dk dt_X12_has 17 rfl) ?_
      refine v_iload_n (pc := 25) h (dk dt_X12_has 18 rfl) rfl ?_
      refine v_imul (pc := 26) h (dk dt_X12_has 19 rfl) ?_
      refine v_aload_n (pc := 27) h (dk dt_X12_has 20 rfl) rfl ?_
      refine v_getr (pc := 28) h ci12 sh123 (Nat.le_of_ble_eq_true rfl) (j := 5) wF_X12_25 rfl (dk dt_X12_has 21 rfl) ?_
      refine v_iload_n (pc := 31) h (dk dt_X12_has 22 rfl) rfl ?_
      refine v_iald (pc := 32) h sh129 (Nat.le_of_ble_eq_true rfl) (by omega) (dk dt_X12_has 23 rfl) ?_
      rw [Int.toNat_natCast, e129]
      refine v_iadd (pc := 33) h (dk dt_X12_has 24 rfl) ?_
      refine v_icmp_ge (pc := 34) h 88 (dk dt_X12_has 25 rfl) rfl (by omega) (fun c34 => ?_) (fun c34 => ?_)
      ·
        refine v_iload (pc := 88) h (dk dt_X12_has 52 rfl) rfl ?_
        exact v_zret (pc := 90) h r (dk dt_X12_has 53 rfl) (Nat.le_of_ble_eq_true rfl) (Nat.le_of_ble_eq_true rfl) (by omega) ⟨by rcases hbb with ⟨q, q1⟩ | ⟨q, q2⟩; (rw [if_pos (hex q1), q]); (rw [if_neg (hno (fun x hx => q2 x (by omega))), q]), rfl⟩
      ·
        exact absurd c34 (by omega)
    | succ d ih =>
      intro i b hi hbb
      have hb01 : b = 0 ∨ b = 1 := by rcases hbb with ⟨q, -⟩ | ⟨q, -⟩ <;> omega
      have hgi := hg i (by omega)
      have hN : b = 0 → ¬ (μ 15 (3 * j + i) = y ∧ μ 17 (3 * j + i) < μ 5 j - σ 0 j ∧ μ 5 j - σ 0 j < μ 19 (3 * j + i)) → VV a B (SP B D E μ) 0 0 22 [(5, iI ((3 * j + (i + 1) : Nat) : Int)), (4, iI 0), (3, iI (μ 5 j - σ 0 j)), (0, .ref (pl B 123)), (1, iI (j : Int)), (2, iI y)] [] := fun q1 q2 => ih (i + 1) 0 (by omega) (Or.inr ⟨rfl, fun x hx => by
        rcases Nat.lt_succ_iff_lt_or_eq.mp hx with z | z
        · rcases hbb with ⟨q, -⟩ | ⟨-, q⟩
          · omega
          · exact q x z
        · rw [z]; exact q2⟩)
      have hY : b = 1 ∨ (μ 15 (3 * j + i) = y ∧ μ 17 (3 * j + i) < μ 5 j - σ 0 j ∧ μ 5 j - σ 0 j < μ 19 (3 * j + i)) → VV a B (SP B D E μ) 0 0 22 [(5, iI ((3 * j + (i + 1) : Nat) : Int)), (4, iI 1), (3, iI (μ 5 j - σ 0 j)), (0, .ref (pl B 123)), (1, iI (j : Int)), (2, iI y)] [] := fun q => ih (i + 1) 1 (by omega) (Or.inl ⟨rfl, by
        rcases q with q | q
        · rcases hbb with ⟨-, z⟩ | ⟨z, -⟩
          · exact z
          · omega
        · exact hmk i (by omega) q⟩)
      refine v_iload (pc := 22) h (dk dt_X12_has 16 rfl) rfl ?_
      refine v_iconst (pc := 24) h (dk dt_X12_has 17 rfl) ?_
      refine v_iload_n (pc := 25) h (dk dt_X12_has 18 rfl) rfl ?_
      refine v_imul (pc := 26) h (dk dt_X12_has 19 rfl) ?_
      refine v_aload_n (pc := 27) h (dk dt_X12_has 20 rfl) rfl ?_
      refine v_getr (pc := 28) h ci12 sh123 (Nat.le_of_ble_eq_true rfl) (j := 5) wF_X12_25 rfl (dk dt_X12_has 21 rfl) ?_
      refine v_iload_n (pc := 31) h (dk dt_X12_has 22 rfl) rfl ?_
      refine v_iald (pc := 32) h sh129 (Nat.le_of_ble_eq_true rfl) (by omega) (dk dt_X12_has 23 rfl) ?_
      rw [Int.toNat_natCast, e129]
      refine v_iadd (pc := 33) h (dk dt_X12_has 24 rfl) ?_
      refine v_icmp_ge (pc := 34) h 88 (dk dt_X12_has 25 rfl) rfl (by omega) (fun c34 => ?_) (fun c34 => ?_)
      ·
        exact absurd c34 (by omega)
      ·
        refine v_iload (pc := 37) h (dk dt_X12_has 26 rfl) rfl ?_
        refine v_if_ne (pc := 39) h 75 (dk dt_X12_has 27 rfl) rfl (by omega) (fun c39 => ?_) (fun c39 => ?_)
        ·
          refine v_iconst (pc := 75) h (dk dt_X12_has 46 rfl) ?_
          refine v_goto (pc := 76) h 80 (dk dt_X12_has 47 rfl) rfl ?_
          refine v_istore (lv' := [(4, _), (5, _), (3, _), (0, _), (1, _), (2, _)]) (pc := 80) h (dk dt_X12_has 49 rfl) (Nat.le_of_ble_eq_true rfl) rfl ?_
          refine v_iinc (lv' := [(5, _), (4, _), (3, _), (0, _), (1, _), (2, _)]) (pc := 82) h (dk dt_X12_has 50 rfl) rfl (Nat.le_of_ble_eq_true rfl) rfl ?_
          refine v_goto (pc := 85) h 22 (dk dt_X12_has 51 rfl) rfl ?_
          first
            | exact VV.loc (hY (Or.inl (by omega))) ⟨lvI (by omega), rfl, rfl, rfl, rfl, rfl, trivial⟩
            | exact VV.loc (hN (by omega) (by omega)) ⟨lvI (by omega), rfl, rfl, rfl, rfl, rfl, trivial⟩
            | exact VV.loc (hY (Or.inr (by omega))) ⟨lvI (by omega), rfl, rfl, rfl, rfl, rfl, trivial⟩
        ·
          refine v_aload_n (pc := 42) h (dk dt_X12_has 28 rfl) rfl ?_
          refine v_getr (pc := 43) h ci12 sh123 (Nat.le_of_ble_eq_true rfl) (j := 6) wF_X12_28 rfl (dk dt_X12_has 29 rfl) ?_
          refine v_iload (pc := 46) h (dk dt_X12_has 30 rfl) rfl ?_
          refine v_iald (pc := 48) h sh130 (Nat.le_of_ble_eq_true rfl) (by omega) (dk dt_X12_has 31 rfl) ?_
          rw [Int.toNat_natCast, e130]
          refine v_iload_n (pc := 49) h (dk dt_X12_has 32 rfl) rfl ?_
          refine v_icmp_ne (pc := 50) h 79 (dk dt_X12_has 33 rfl) rfl (by omega) (fun c50 => ?_) (fun c50 => ?_)
          ·
            refine v_iconst (pc := 79) h (dk dt_X12_has 48 rfl) ?_
            refine v_istore (lv' := [(4, _), (5, _), (3, _), (0, _), (1, _), (2, _)]) (pc := 80) h (dk dt_X12_has 49 rfl) (Nat.le_of_ble_eq_true rfl) rfl ?_
            refine v_iinc (lv' := [(5, _), (4, _), (3, _), (0, _), (1, _), (2, _)]) (pc := 82) h (dk dt_X12_has 50 rfl) rfl (Nat.le_of_ble_eq_true rfl) rfl ?_
            refine v_goto (pc := 85) h 22 (dk dt_X12_has 51 rfl) rfl ?_
            first
              | exact VV.loc (hY (Or.inl (by omega))) ⟨lvI (by omega), rfl, rfl, rfl, rfl, rfl, trivial⟩
              | exact VV.loc (hN (by omega) (by omega)) ⟨lvI (by omega), rfl, rfl, rfl, rfl, rfl, trivial⟩
              | exact VV.loc (hY (Or.inr (by omega))) ⟨lvI (by omega), rfl, rfl, rfl, rfl, rfl, trivial⟩
          ·
            refine v_aload_n (pc := 53) h (dk dt_X12_has 34 rfl) rfl ?_
            refine v_getr (pc := 54) h ci12 sh123 (Nat.le_of_ble_eq_true rfl) (j := 7) wF_X12_31 rfl (dk dt_X12_has 35 rfl) ?_
            refine v_iload (pc := 57) h (dk dt_X12_has 36 rfl) rfl ?_
            refine v_iald (pc := 59) h sh131 (Nat.le_of_ble_eq_true rfl) (by omega) (dk dt_X12_has 37 rfl) ?_
            rw [Int.toNat_natCast, e131]
            refine v_iload_n (pc := 60) h (dk dt_X12_has 38 rfl) rfl ?_
            refine v_icmp_ge (pc := 61) h 79 (dk dt_X12_has 39 rfl) rfl (by omega) (fun c61 => ?_) (fun c61 => ?_)
            ·
              refine v_iconst (pc := 79) h (dk dt_X12_has 48 rfl) ?_
              refine v_istore (lv' := [(4, _), (5, _), (3, _), (0, _), (1, _), (2, _)]) (pc := 80) h (dk dt_X12_has 49 rfl) (Nat.le_of_ble_eq_true rfl) rfl ?_
              refine v_iinc (lv' := [(5, _), (4, _), (3, _), (0, _), (1, _), (2, _)]) (pc := 82) h (dk dt_X12_has 50 rfl) rfl (Nat.le_of_ble_eq_true rfl) rfl ?_
              refine v_goto (pc := 85) h 22 (dk dt_X12_has 51 rfl) rfl ?_
              first
                | exact VV.loc (hY (Or.inl (by omega))) ⟨lvI (by omega), rfl, rfl, rfl, rfl, rfl, trivial⟩
                | exact VV.loc (hN (by omega) (by omega)) ⟨lvI (by omega), rfl, rfl, rfl, rfl, rfl, trivial⟩
                | exact VV.loc (hY (Or.inr (by omega))) ⟨lvI (by omega), rfl, rfl, rfl, rfl, rfl, trivial⟩
            ·
              refine v_iload_n (pc := 64) h (dk dt_X12_has 40 rfl) rfl ?_
              refine v_aload_n (pc := 65) h (dk dt_X12_has 41 rfl) rfl ?_
              refine v_getr (pc := 66) h ci12 sh123 (Nat.le_of_ble_eq_true rfl) (j := 8) wF_X12_34 rfl (dk dt_X12_has 42 rfl) ?_
              refine v_iload (pc := 69) h (dk dt_X12_has 43 rfl) rfl ?_
              refine v_iald (pc := 71) h sh132 (Nat.le_of_ble_eq_true rfl) (by omega) (dk dt_X12_has 44 rfl) ?_
              rw [Int.toNat_natCast, e132]
              refine v_icmp_ge (pc := 72) h 79 (dk dt_X12_has 45 rfl) rfl (by omega) (fun c72 => ?_) (fun c72 => ?_)
              ·
                refine v_iconst (pc := 79) h (dk dt_X12_has 48 rfl) ?_
                refine v_istore (lv' := [(4, _), (5, _), (3, _), (0, _), (1, _), (2, _)]) (pc := 80) h (dk dt_X12_has 49 rfl) (Nat.le_of_ble_eq_true rfl) rfl ?_
                refine v_iinc (lv' := [(5, _), (4, _), (3, _), (0, _), (1, _), (2, _)]) (pc := 82) h (dk dt_X12_has 50 rfl) rfl (Nat.le_of_ble_eq_true rfl) rfl ?_
                refine v_goto (pc := 85) h 22 (dk dt_X12_has 51 rfl) rfl ?_
                first
                  | exact VV.loc (hY (Or.inl (by omega))) ⟨lvI (by omega), rfl, rfl, rfl, rfl, rfl, trivial⟩
                  | exact VV.loc (hN (by omega) (by omega)) ⟨lvI (by omega), rfl, rfl, rfl, rfl, rfl, trivial⟩
                  | exact VV.loc (hY (Or.inr (by omega))) ⟨lvI (by omega), rfl, rfl, rfl, rfl, rfl, trivial⟩
              ·
                refine v_iconst (pc := 75) h (dk dt_X12_has 46 rfl) ?_
                refine v_goto (pc := 76) h 80 (dk dt_X12_has 47 rfl) rfl ?_
                refine v_istore (lv' := [(4, _), (5, _), (3, _), (0, _), (1, _), (2, _)]) (pc := 80) h (dk dt_X12_has 49 rfl) (Nat.le_of_ble_eq_true rfl) rfl ?_
                refine v_iinc (lv' := [(5, _), (4, _), (3, _), (0, _), (1, _), (2, _)]) (pc := 82) h (dk dt_X12_has 50 rfl) rfl (Nat.le_of_ble_eq_true rfl) rfl ?_
                refine v_goto (pc := 85) h 22 (dk dt_X12_has 51 rfl) rfl ?_
                first
                  | exact VV.loc (hY (Or.inl (by omega))) ⟨lvI (by omega), rfl, rfl, rfl, rfl, rfl, trivial⟩
                  | exact VV.loc (hN (by omega) (by omega)) ⟨lvI (by omega), rfl, rfl, rfl, rfl, rfl, trivial⟩
                  | exact VV.loc (hY (Or.inr (by omega))) ⟨lvI (by omega), rfl, rfl, rfl, rfl, rfl, trivial⟩
  refine v_aload_n (pc := 0) h (dk dt_X12_has 0 rfl) rfl ?_
  refine v_getr (pc := 1) h ci12 sh123 (Nat.le_of_ble_eq_true rfl) (j := 1) wF_X12_13 rfl (dk dt_X12_has 1 rfl) ?_
  refine v_iload_n (pc := 4) h (dk dt_X12_has 2 rfl) rfl ?_
  refine v_iald (pc := 5) h sh125 (Nat.le_of_ble_eq_true rfl) (by omega) (dk dt_X12_has 3 rfl) ?_
  rw [Int.toNat_natCast, hE.1.2.1]
  refine v_aload_n (pc := 6) h (dk dt_X12_has 4 rfl) rfl ?_
  refine v_getr (pc := 7) h ci12 sh123 (Nat.le_of_ble_eq_true rfl) (j := 27) wF_X12_74 rfl (dk dt_X12_has 5 rfl) ?_
  refine v_iload_n (pc := 10) h (dk dt_X12_has 6 rfl) rfl ?_
  refine v_iald (pc := 11) h sh141 (Nat.le_of_ble_eq_true rfl) (by omega) (dk dt_X12_has 7 rfl) ?_
  rw [Int.toNat_natCast, h1]
  refine v_isub (pc := 12) h (dk dt_X12_has 8 rfl) ?_
  refine v_istore_n (lv' := [(3, _), (0, _), (1, _), (2, _)]) (pc := 13) h (dk dt_X12_has 9 rfl) (Nat.le_of_ble_eq_true rfl) rfl ?_
  refine v_iconst (pc := 14) h (dk dt_X12_has 10 rfl) ?_
  refine v_istore (lv' := [(4, _), (3, _), (0, _), (1, _), (2, _)]) (pc := 15) h (dk dt_X12_has 11 rfl) (Nat.le_of_ble_eq_true rfl) rfl ?_
  refine v_iconst (pc := 17) h (dk dt_X12_has 12 rfl) ?_
  refine v_iload_n (pc := 18) h (dk dt_X12_has 13 rfl) rfl ?_
  refine v_imul (pc := 19) h (dk dt_X12_has 14 rfl) ?_
  refine v_istore (lv' := [(5, _), (4, _), (3, _), (0, _), (1, _), (2, _)]) (pc := 20) h (dk dt_X12_has 15 rfl) (Nat.le_of_ble_eq_true rfl) rfl ?_
  exact VV.loc (loop (μ 13 j).toNat 0 0 (by omega) (Or.inr ⟨rfl, fun x hx => absurd hx (by omega)⟩)) ⟨lvI (by omega), rfl, rfl, rfl, rfl, rfl, trivial⟩
theorem c_X12_keeper (hst : l.stackTraces = false) (hE : eqJ μ) (hs : okJ μ) (hn : μ 1 9 = (n : Int)) (hb : bR n μ σ) (hB : vB (jm μ) n σ) {j : Nat} (hj : j < n) :
    Ct l B D E yX12_keeper (.code yX12_keeper cX12_keeper 4 (some .int)) rm_X12_keeper [.ref (pl B 123), iI (j : Int)] μ (ri (kpr (jm μ) n σ j) μ) NX := by
  have hn12 := hs.1
  have e9 := eqJ_n hE hn
  have hnd := nd_b (σ := σ) (okJD hs hn) hj
  refine ct_of (own := RX12) (lv := [(0, _), (1, _)]) hst (by decide) rfl rfl (Nat.le_of_ble_eq_true rfl) fun a h r t => ?_
  have loop : ∀ (d i : Nat), i + d = n → kpr (jm μ) n σ j = (if ndF (jm μ) σ j = -1 then -1 else kpF (jm μ) σ j (ndF (jm μ) σ j) d i) → VV a B (SP B D E μ) 0 0 8 [(3, iI (i : Int)), (2, iI (ndF (jm μ) σ j)), (0, .ref (pl B 123)), (1, iI (j : Int))] [] := by
    intro d
    induction d with
    | zero =>
      intro i hi q
      refine v_iload_n (pc := 8) h (dk dt_X12_keeper 6 rfl) rfl ?_
      refine v_aload_n (pc := 9) h (dk dt_X12_keeper 7 rfl) rfl ?_
      refine v_geti (pc := 10) h ci12 sh123 (Nat.le_of_ble_eq_true rfl) (j := 9) wF_X12_108 rfl (dk dt_X12_keeper 8 rfl) ?_
      refine v_icmp_ge (pc := 13) h 43 (dk dt_X12_keeper 9 rfl) rfl (by omega) (fun c13 => ?_) (fun c13 => ?_)
      ·
        refine v_iconst (pc := 43) h (dk dt_X12_keeper 25 rfl) ?_
        exact v_iret (pc := 44) h r (dk dt_X12_keeper 26 rfl) (Nat.le_of_ble_eq_true rfl) (Nat.le_of_ble_eq_true rfl) ⟨by rw [q, kpF, ite_self], rfl⟩
      ·
        exact absurd c13 (by omega)
    | succ d ih =>
      intro i hi q
      have hin : i < n := by omega
      have eN : ndF (jm μ) σ j ≠ -1 → ¬ (i ≠ j ∧ hdF (jm μ) σ i = ndF (jm μ) σ j) → kpr (jm μ) n σ j = (if ndF (jm μ) σ j = -1 then -1 else kpF (jm μ) σ j (ndF (jm μ) σ j) d (i + 1)) := fun z1 z2 => by rw [q, if_neg z1, if_neg z1, kpF, if_neg z2]
      refine v_iload_n (pc := 8) h (dk dt_X12_keeper 6 rfl) rfl ?_
      refine v_aload_n (pc := 9) h (dk dt_X12_keeper 7 rfl) rfl ?_
      refine v_geti (pc := 10) h ci12 sh123 (Nat.le_of_ble_eq_true rfl) (j := 9) wF_X12_108 rfl (dk dt_X12_keeper 8 rfl) ?_
      refine v_icmp_ge (pc := 13) h 43 (dk dt_X12_keeper 9 rfl) rfl (by omega) (fun c13 => ?_) (fun c13 => ?_)
      ·
        exact absurd c13 (by omega)
      ·
        refine v_iload_n (pc := 16) h (dk dt_X12_keeper 10 rfl) rfl ?_
        refine v_iconst (pc := 17) h (dk dt_X12_keeper 11 rfl) ?_
        refine v_icmp_eq (pc := 18) h 43 (dk dt_X12_keeper 12 rfl) rfl (by omega) (fun c18 => ?_) (fun c18 => ?_)
        ·
          refine v_iconst (pc := 43) h (dk dt_X12_keeper 25 rfl) ?_
          exact v_iret (pc := 44) h r (dk dt_X12_keeper 26 rfl) (Nat.le_of_ble_eq_true rfl) (Nat.le_of_ble_eq_true rfl) ⟨by rw [q, if_pos c18], rfl⟩
        ·
          refine v_iload_n (pc := 21) h (dk dt_X12_keeper 13 rfl) rfl ?_
          refine v_iload_n (pc := 22) h (dk dt_X12_keeper 14 rfl) rfl ?_
          refine v_icmp_eq (pc := 23) h 37 (dk dt_X12_keeper 15 rfl) rfl (by omega) (fun c23 => ?_) (fun c23 => ?_)
          ·
            refine v_iinc (lv' := [(3, _), (2, _), (0, _), (1, _)]) (pc := 37) h (dk dt_X12_keeper 23 rfl) rfl (Nat.le_of_ble_eq_true rfl) rfl ?_
            refine v_goto (pc := 40) h 8 (dk dt_X12_keeper 24 rfl) rfl ?_
            first
              | exact VV.loc (ih (i + 1) (by omega) (eN c18 (fun z => z.1 (by omega)))) ⟨rfl, rfl, rfl, rfl, trivial⟩
              | exact VV.loc (ih (i + 1) (by omega) (eN c18 (fun z => d32 z.2))) ⟨rfl, rfl, rfl, rfl, trivial⟩
          ·
            refine v_aload_n (pc := 26) h (dk dt_X12_keeper 16 rfl) rfl ?_
            refine v_iload_n (pc := 27) h (dk dt_X12_keeper 17 rfl) rfl ?_
            refine v_iload_n (pc := 28) h (dk dt_X12_keeper 18 rfl) rfl ?_
            refine v_cVi (pc := 29) h (c_X12_has h.quiet hE hs hn hb hB (by omega) (by omega)) kv_X12_has sh123 wM_X12_156 rfl rfl (Nat.le_of_ble_eq_true rfl) (RM.of rfl) rfl rfl (dk dt_X12_keeper 19 rfl) ?_
            refine v_if_eq (pc := 32) h 37 (dk dt_X12_keeper 20 rfl) rfl (by split <;> omega) (fun c32 => ?_) (fun c32 => ?_)
            ·
              have d32 : ¬ hdF (jm μ) σ i = ndF (jm μ) σ j := fun z => by rw [if_pos z] at c32; omega
              refine v_iinc (lv' := [(3, _), (2, _), (0, _), (1, _)]) (pc := 37) h (dk dt_X12_keeper 23 rfl) rfl (Nat.le_of_ble_eq_true rfl) rfl ?_
              refine v_goto (pc := 40) h 8 (dk dt_X12_keeper 24 rfl) rfl ?_
              first
                | exact VV.loc (ih (i + 1) (by omega) (eN c18 (fun z => z.1 (by omega)))) ⟨rfl, rfl, rfl, rfl, trivial⟩
                | exact VV.loc (ih (i + 1) (by omega) (eN c18 (fun z => d32 z.2))) ⟨rfl, rfl, rfl, rfl, trivial⟩
            ·
              have d32 : hdF (jm μ) σ i = ndF (jm μ) σ j := by by_cases z : hdF (jm μ) σ i = ndF (jm μ) σ j; exact z; rw [if_neg z] at c32; omega
              refine v_iload_n (pc := 35) h (dk dt_X12_keeper 21 rfl) rfl ?_
              exact v_iret (pc := 36) h r (dk dt_X12_keeper 22 rfl) (Nat.le_of_ble_eq_true rfl) (Nat.le_of_ble_eq_true rfl) ⟨by rw [q, if_neg c18, kpF, if_pos ⟨by omega, d32⟩], rfl⟩
  refine v_aload_n (pc := 0) h (dk dt_X12_keeper 0 rfl) rfl ?_
  refine v_iload_n (pc := 1) h (dk dt_X12_keeper 1 rfl) rfl ?_
  refine v_cVi (pc := 2) h (c_X12_needs h.quiet (by assumption) (by assumption) (by assumption) (by assumption) (by assumption) (by omega)) kv_X12_needs sh123 wM_X12_153 rfl rfl (Nat.le_of_ble_eq_true rfl) (RM.of rfl) rfl rfl (dk dt_X12_keeper 2 rfl) ?_
  refine v_istore_n (lv' := [(2, _), (0, _), (1, _)]) (pc := 5) h (dk dt_X12_keeper 3 rfl) (Nat.le_of_ble_eq_true rfl) rfl ?_
  refine v_iconst (pc := 6) h (dk dt_X12_keeper 4 rfl) ?_
  refine v_istore_n (lv' := [(3, _), (2, _), (0, _), (1, _)]) (pc := 7) h (dk dt_X12_keeper 5 rfl) (Nat.le_of_ble_eq_true rfl) rfl ?_
  exact VV.loc (loop n 0 (by omega) rfl) ⟨rfl, rfl, rfl, rfl, trivial⟩
theorem c_X12_rankOf (hst : l.stackTraces = false) (hE : eqJ μ) (hs : okJ μ) (hn : μ 1 9 = (n : Int)) (hb : bP n μ σ) (hB : vB (jm μ) n σ) {j : Nat} (hj : j < n) {le : Int} (hle : le = 0 ∨ le = 1) :
    Ct l B D E yX12_rankOf (.code yX12_rankOf cX12_rankOf 5 (some .int)) rm_X12_rankOf [.ref (pl B 123), iI (j : Int), iI le] μ (ri (rkF (jm μ) n σ le j n) μ) NX := by
  have hn12 := hs.1
  have e9 := eqJ_n hE hn
  have hD := okJD hs hn
  have e127 := hE.1.2.2.2.1
  have hl : ∀ j, j < n → jm μ 1 j ≤ 30 := fun j hj => (okD_l hD hj).2
  have r0 : le = 0 → ∀ k, rkF (jm μ) n σ le j k = μ 9 j := by
    intro q k
    induction k with
    | zero => rfl
    | succ k ih => rw [rkF, if_neg (fun z => z.1 q)]; exact ih
  refine ct_of (own := RX12) (lv := [(0, _), (1, _), (2, _)]) hst (by decide) rfl rfl (Nat.le_of_ble_eq_true rfl) fun a h r t => ?_
  have loop : ∀ (d i : Nat), i + d = n → VV a B (SP B D E μ) 0 0 10 [(4, iI (i : Int)), (3, iI (rkF (jm μ) n σ le j i)), (0, .ref (pl B 123)), (1, iI (j : Int)), (2, iI le)] [] := by
    intro d
    induction d with
    | zero =>
      intro i hi
      refine v_iload (pc := 10) h (dk dt_X12_rankOf 7 rfl) rfl ?_
      refine v_aload_n (pc := 12) h (dk dt_X12_rankOf 8 rfl) rfl ?_
      refine v_geti (pc := 13) h ci12 sh123 (Nat.le_of_ble_eq_true rfl) (j := 9) wF_X12_108 rfl (dk dt_X12_rankOf 9 rfl) ?_
      refine v_icmp_ge (pc := 16) h 67 (dk dt_X12_rankOf 10 rfl) rfl (by omega) (fun c16 => ?_) (fun c16 => ?_)
      ·
        refine v_iload_n (pc := 67) h (dk dt_X12_rankOf 35 rfl) rfl ?_
        exact v_iret (pc := 68) h r (dk dt_X12_rankOf 36 rfl) (Nat.le_of_ble_eq_true rfl) (Nat.le_of_ble_eq_true rfl) ⟨by rw [show n = i by omega], rfl⟩
      ·
        exact absurd c16 (by omega)
    | succ d ih =>
      intro i hi
      have hin : i < n := by omega
      have hkb := kpr_b (J := jm μ) (n := n) (σ := σ) i
      have hwi : 1 ≤ μ 9 i ∧ μ 9 i ≤ 9 := okD_w hD hin
      have hrb := rkF_b (J := jm μ) (σ := σ) (n := n) (le := le) (j := j) (fun j hj => okD_w hD hj) hj i (by omega)
      have e3 : jm μ 3 i = μ 9 i := rfl
      have eN : ¬ (le ≠ 0 ∧ rdy σ i ∧ kpr (jm μ) n σ i = (j : Int) ∧ rkF (jm μ) n σ le j i < μ 9 i) → rkF (jm μ) n σ le j (i + 1) = rkF (jm μ) n σ le j i := fun q => by rw [rkF, e3, if_neg q]
      have eY : le ≠ 0 ∧ rdy σ i ∧ kpr (jm μ) n σ i = (j : Int) ∧ rkF (jm μ) n σ le j i < μ 9 i → rkF (jm μ) n σ le j (i + 1) = μ 9 i := fun q => by rw [rkF, e3, if_pos q]
      have hio := ih (i + 1) (by omega)
      have fN := fun q => show VV a B (SP B D E μ) 0 0 10 [(4, iI ((i : Int) + 1)), (3, iI (rkF (jm μ) n σ le j i)), (0, .ref (pl B 123)), (1, iI (j : Int)), (2, iI le)] [] by have z := hio; rw [eN q] at z; exact z
      have fY := fun q => show VV a B (SP B D E μ) 0 0 10 [(4, iI ((i : Int) + 1)), (3, iI (μ 9 i)), (0, .ref (pl B 123)), (1, iI (j : Int)), (2, iI le)] [] by have z := hio; rw [eY q] at z; exact z
      refine v_iload (pc := 10) h (dk dt_X12_rankOf 7 rfl) rfl ?_
      refine v_aload_n (pc := 12) h (dk dt_X12_rankOf 8 rfl) rfl ?_
      refine v_geti (pc := 13) h ci12 sh123 (Nat.le_of_ble_eq_true rfl) (j := 9) wF_X12_108 rfl (dk dt_X12_rankOf 9 rfl) ?_
      refine v_icmp_ge (pc := 16) h 67 (dk dt_X12_rankOf 10 rfl) rfl (by omega) (fun c16 => ?_) (fun c16 => ?_)
      ·
        exact absurd c16 (by omega)
      ·
        refine v_iload_n (pc := 19) h (dk dt_X12_rankOf 11 rfl) rfl ?_
        refine v_if_eq (pc := 20) h 67 (dk dt_X12_rankOf 12 rfl) rfl (by omega) (fun c20 => ?_) (fun c20 => ?_)
        ·
          refine v_iload_n (pc := 67) h (dk dt_X12_rankOf 35 rfl) rfl ?_
          exact v_iret (pc := 68) h r (dk dt_X12_rankOf 36 rfl) (Nat.le_of_ble_eq_true rfl) (Nat.le_of_ble_eq_true rfl) ⟨by rw [r0 c20, r0 c20], rfl⟩
        ·
          refine v_aload_n (pc := 23) h (dk dt_X12_rankOf 13 rfl) rfl ?_
          refine v_iload (pc := 24) h (dk dt_X12_rankOf 14 rfl) rfl ?_
          refine v_cVi (pc := 26) h (c_X12_isThere h.quiet (bR_of hb) hB hl hin (by omega)) kv_X12_isThere sh123 wM_X12_159 rfl rfl (Nat.le_of_ble_eq_true rfl) (RM.of rfl) rfl rfl (dk dt_X12_rankOf 15 rfl) ?_
          refine v_if_eq (pc := 29) h 61 (dk dt_X12_rankOf 16 rfl) rfl (by split <;> omega) (fun c29 => ?_) (fun c29 => ?_)
          ·
            have d29 : ¬ rdy σ i := fun q => by rw [if_pos q] at c29; omega
            refine v_iinc (lv' := [(4, _), (3, _), (0, _), (1, _), (2, _)]) (pc := 61) h (dk dt_X12_rankOf 33 rfl) rfl (Nat.le_of_ble_eq_true rfl) rfl ?_
            refine v_goto (pc := 64) h 10 (dk dt_X12_rankOf 34 rfl) rfl ?_
            first
              | exact VV.loc (fN (fun q => d29 q.2.1)) ⟨rfl, rfl, rfl, rfl, rfl, trivial⟩
              | exact VV.loc (fN (fun q => c39 q.2.2.1)) ⟨rfl, rfl, rfl, rfl, rfl, trivial⟩
              | exact VV.loc (fY ⟨c20, d29, c39, c50⟩) ⟨rfl, rfl, rfl, rfl, rfl, trivial⟩
              | exact VV.loc (fN (fun q => by have := q.2.2.2; omega)) ⟨rfl, rfl, rfl, rfl, rfl, trivial⟩
          ·
            have d29 : rdy σ i := by by_cases q : rdy σ i; exact q; rw [if_neg q] at c29; omega
            refine v_aload_n (pc := 32) h (dk dt_X12_rankOf 17 rfl) rfl ?_
            refine v_iload (pc := 33) h (dk dt_X12_rankOf 18 rfl) rfl ?_
            refine v_cVi (pc := 35) h (c_X12_keeper h.quiet hE hs hn (bR_of hb) hB (by omega)) kv_X12_keeper sh123 wM_X12_162 rfl rfl (Nat.le_of_ble_eq_true rfl) (RM.of rfl) rfl rfl (dk dt_X12_rankOf 19 rfl) ?_
            refine v_iload_n (pc := 38) h (dk dt_X12_rankOf 20 rfl) rfl ?_
            refine v_icmp_ne (pc := 39) h 61 (dk dt_X12_rankOf 21 rfl) rfl ⟨by omega, by omega⟩ (fun c39 => ?_) (fun c39 => ?_)
            ·
              refine v_iinc (lv' := [(4, _), (3, _), (0, _), (1, _), (2, _)]) (pc := 61) h (dk dt_X12_rankOf 33 rfl) rfl (Nat.le_of_ble_eq_true rfl) rfl ?_
              refine v_goto (pc := 64) h 10 (dk dt_X12_rankOf 34 rfl) rfl ?_
              first
                | exact VV.loc (fN (fun q => d29 q.2.1)) ⟨rfl, rfl, rfl, rfl, rfl, trivial⟩
                | exact VV.loc (fN (fun q => c39 q.2.2.1)) ⟨rfl, rfl, rfl, rfl, rfl, trivial⟩
                | exact VV.loc (fY ⟨c20, d29, c39, c50⟩) ⟨rfl, rfl, rfl, rfl, rfl, trivial⟩
                | exact VV.loc (fN (fun q => by have := q.2.2.2; omega)) ⟨rfl, rfl, rfl, rfl, rfl, trivial⟩
            ·
              refine v_aload_n (pc := 42) h (dk dt_X12_rankOf 22 rfl) rfl ?_
              refine v_getr (pc := 43) h ci12 sh123 (Nat.le_of_ble_eq_true rfl) (j := 3) wF_X12_19 rfl (dk dt_X12_rankOf 23 rfl) ?_
              refine v_iload (pc := 46) h (dk dt_X12_rankOf 24 rfl) rfl ?_
              refine v_iald (pc := 48) h sh127 (Nat.le_of_ble_eq_true rfl) (by omega) (dk dt_X12_rankOf 25 rfl) ?_
              rw [Int.toNat_natCast, e127]
              refine v_iload_n (pc := 49) h (dk dt_X12_rankOf 26 rfl) rfl ?_
              refine v_icmp_le (pc := 50) h 61 (dk dt_X12_rankOf 27 rfl) rfl (by omega) (fun c50 => ?_) (fun c50 => ?_)
              ·
                refine v_iinc (lv' := [(4, _), (3, _), (0, _), (1, _), (2, _)]) (pc := 61) h (dk dt_X12_rankOf 33 rfl) rfl (Nat.le_of_ble_eq_true rfl) rfl ?_
                refine v_goto (pc := 64) h 10 (dk dt_X12_rankOf 34 rfl) rfl ?_
                first
                  | exact VV.loc (fN (fun q => d29 q.2.1)) ⟨rfl, rfl, rfl, rfl, rfl, trivial⟩
                  | exact VV.loc (fN (fun q => c39 q.2.2.1)) ⟨rfl, rfl, rfl, rfl, rfl, trivial⟩
                  | exact VV.loc (fY ⟨c20, d29, c39, c50⟩) ⟨rfl, rfl, rfl, rfl, rfl, trivial⟩
                  | exact VV.loc (fN (fun q => by have := q.2.2.2; omega)) ⟨rfl, rfl, rfl, rfl, rfl, trivial⟩
              ·
                refine v_aload_n (pc := 53) h (dk dt_X12_rankOf 28 rfl) rfl ?_
                refine v_getr (pc := 54) h ci12 sh123 (Nat.le_of_ble_eq_true rfl) (j := 3) wF_X12_19 rfl (dk dt_X12_rankOf 29 rfl) ?_
                refine v_iload (pc := 57) h (dk dt_X12_rankOf 30 rfl) rfl ?_
                refine v_iald (pc := 59) h sh127 (Nat.le_of_ble_eq_true rfl) (by omega) (dk dt_X12_rankOf 31 rfl) ?_
                rw [Int.toNat_natCast, e127]
                refine v_istore_n (lv' := [(3, _), (4, _), (0, _), (1, _), (2, _)]) (pc := 60) h (dk dt_X12_rankOf 32 rfl) (Nat.le_of_ble_eq_true rfl) rfl ?_
                refine v_iinc (lv' := [(4, _), (3, _), (0, _), (1, _), (2, _)]) (pc := 61) h (dk dt_X12_rankOf 33 rfl) rfl (Nat.le_of_ble_eq_true rfl) rfl ?_
                refine v_goto (pc := 64) h 10 (dk dt_X12_rankOf 34 rfl) rfl ?_
                first
                  | exact VV.loc (fN (fun q => d29 q.2.1)) ⟨rfl, rfl, rfl, rfl, rfl, trivial⟩
                  | exact VV.loc (fN (fun q => c39 q.2.2.1)) ⟨rfl, rfl, rfl, rfl, rfl, trivial⟩
                  | exact VV.loc (fY ⟨c20, d29, c39, c50⟩) ⟨rfl, rfl, rfl, rfl, rfl, trivial⟩
                  | exact VV.loc (fN (fun q => by have := q.2.2.2; omega)) ⟨rfl, rfl, rfl, rfl, rfl, trivial⟩
  refine v_aload_n (pc := 0) h (dk dt_X12_rankOf 0 rfl) rfl ?_
  refine v_getr (pc := 1) h ci12 sh123 (Nat.le_of_ble_eq_true rfl) (j := 3) wF_X12_19 rfl (dk dt_X12_rankOf 1 rfl) ?_
  refine v_iload_n (pc := 4) h (dk dt_X12_rankOf 2 rfl) rfl ?_
  refine v_iald (pc := 5) h sh127 (Nat.le_of_ble_eq_true rfl) (by omega) (dk dt_X12_rankOf 3 rfl) ?_
  rw [Int.toNat_natCast, e127]
  refine v_istore_n (lv' := [(3, _), (0, _), (1, _), (2, _)]) (pc := 6) h (dk dt_X12_rankOf 4 rfl) (Nat.le_of_ble_eq_true rfl) rfl ?_
  refine v_iconst (pc := 7) h (dk dt_X12_rankOf 5 rfl) ?_
  refine v_istore (lv' := [(4, _), (3, _), (0, _), (1, _), (2, _)]) (pc := 8) h (dk dt_X12_rankOf 6 rfl) (Nat.le_of_ble_eq_true rfl) rfl ?_
  exact VV.loc (loop n 0 (by omega)) ⟨rfl, rfl, rfl, rfl, rfl, trivial⟩
theorem c_X12_keyOf (hst : l.stackTraces = false) (hE : eqJ μ) (hs : okJ μ) (hn : μ 1 9 = (n : Int)) (hb : bP n μ σ) (hB : vB (jm μ) n σ) (hK : okK K) (hr : ¬ rRow K) {j : Nat} (hj : j < n) :
    Ct l B D E yX12_keyOf (.code yX12_keyOf cX12_keyOf 4 (some .int)) rm_X12_keyOf [.ref (pl B 123), iI (K 0), iI (j : Int), iI (K 3)] μ (ri (keyR (jm μ) n K σ j) μ) NX := by
  have hn12 := hs.1
  have hK0 := hK.1
  have hle := hK.2.2.2.1
  have h1 := hb j hj
  have hq := hs.2 j (by omega)
  have e124 := hE.1.1
  have e125 := hE.1.2.1
  have e126 := hE.1.2.2.1
  have kd : K 0 = 6 → keyR (jm μ) n K σ j = if μ 7 j = 0 then 401 else μ 7 j := fun q => by unfold keyR; rw [q]; simp [jm]; rfl
  unfold keyR at *
  refine ct_of (own := RX12) (lv := [(0, _), (1, _), (2, _), (3, _)]) hst (by decide) rfl rfl (Nat.le_of_ble_eq_true rfl) fun a h r t => ?_
  refine v_iload_n (pc := 0) h (dk dt_X12_keyOf 0 rfl) rfl ?_
  rcases (show K 0 = 1 ∨ K 0 = 2 ∨ K 0 = 3 ∨ K 0 = 5 ∨ K 0 = 6 ∨ K 0 = 7 ∨ K 0 = 8 by omega) with e | e | e | e | e | e | e
  ·
    rw [e]
    refine v_switchIn (pc := 1) h 40 (dk dt_X12_keyOf 1 rfl) (by omega) (by omega) (by omega) rfl rfl ?_
    refine v_aload_n (pc := 40) h (dk dt_X12_keyOf 2 rfl) rfl ?_
    refine v_getr (pc := 41) h ci12 sh123 (Nat.le_of_ble_eq_true rfl) (j := 0) wF_X12_7 rfl (dk dt_X12_keyOf 3 rfl) ?_
    refine v_iload_n (pc := 44) h (dk dt_X12_keyOf 4 rfl) rfl ?_
    refine v_iald (pc := 45) h sh124 (Nat.le_of_ble_eq_true rfl) (by omega) (dk dt_X12_keyOf 5 rfl) ?_
    rw [Int.toNat_natCast, e124]
    exact v_iret (pc := 46) h r (dk dt_X12_keyOf 6 rfl) (Nat.le_of_ble_eq_true rfl) (Nat.le_of_ble_eq_true rfl) ⟨by rw [if_pos e]; rfl, rfl⟩
  ·
    rw [e]
    refine v_switchIn (pc := 1) h 47 (dk dt_X12_keyOf 1 rfl) (by omega) (by omega) (by omega) rfl rfl ?_
    refine v_aload_n (pc := 47) h (dk dt_X12_keyOf 7 rfl) rfl ?_
    refine v_getr (pc := 48) h ci12 sh123 (Nat.le_of_ble_eq_true rfl) (j := 1) wF_X12_13 rfl (dk dt_X12_keyOf 8 rfl) ?_
    refine v_iload_n (pc := 51) h (dk dt_X12_keyOf 9 rfl) rfl ?_
    refine v_iald (pc := 52) h sh125 (Nat.le_of_ble_eq_true rfl) (by omega) (dk dt_X12_keyOf 10 rfl) ?_
    rw [Int.toNat_natCast, e125]
    exact v_iret (pc := 53) h r (dk dt_X12_keyOf 11 rfl) (Nat.le_of_ble_eq_true rfl) (Nat.le_of_ble_eq_true rfl) ⟨by rw [if_neg (by omega), if_pos e]; rfl, rfl⟩
  ·
    rw [e]
    refine v_switchIn (pc := 1) h 54 (dk dt_X12_keyOf 1 rfl) (by omega) (by omega) (by omega) rfl rfl ?_
    refine v_aload_n (pc := 54) h (dk dt_X12_keyOf 12 rfl) rfl ?_
    refine v_getr (pc := 55) h ci12 sh123 (Nat.le_of_ble_eq_true rfl) (j := 27) wF_X12_74 rfl (dk dt_X12_keyOf 13 rfl) ?_
    refine v_iload_n (pc := 58) h (dk dt_X12_keyOf 14 rfl) rfl ?_
    refine v_iald (pc := 59) h sh141 (Nat.le_of_ble_eq_true rfl) (by omega) (dk dt_X12_keyOf 15 rfl) ?_
    rw [Int.toNat_natCast, h1.1]
    exact v_iret (pc := 60) h r (dk dt_X12_keyOf 16 rfl) (Nat.le_of_ble_eq_true rfl) (Nat.le_of_ble_eq_true rfl) ⟨by rw [if_neg (by omega), if_neg (by omega), if_pos e], rfl⟩
  ·
    rw [e]
    refine v_switchIn (pc := 1) h 61 (dk dt_X12_keyOf 1 rfl) (by omega) (by omega) (by omega) rfl rfl ?_
    refine v_aload_n (pc := 61) h (dk dt_X12_keyOf 17 rfl) rfl ?_
    refine v_getr (pc := 62) h ci12 sh123 (Nat.le_of_ble_eq_true rfl) (j := 31) wF_X12_86 rfl (dk dt_X12_keyOf 18 rfl) ?_
    refine v_iload_n (pc := 65) h (dk dt_X12_keyOf 19 rfl) rfl ?_
    refine v_iald (pc := 66) h sh145 (Nat.le_of_ble_eq_true rfl) (by omega) (dk dt_X12_keyOf 20 rfl) ?_
    rw [Int.toNat_natCast, h1.2.2.2.1]
    exact v_iret (pc := 67) h r (dk dt_X12_keyOf 21 rfl) (Nat.le_of_ble_eq_true rfl) (Nat.le_of_ble_eq_true rfl) ⟨by rw [if_neg (by omega), if_neg (by omega), if_neg (by omega), if_pos e], rfl⟩
  ·
    rw [e]
    refine v_switchIn (pc := 1) h 68 (dk dt_X12_keyOf 1 rfl) (by omega) (by omega) (by omega) rfl rfl ?_
    refine v_aload_n (pc := 68) h (dk dt_X12_keyOf 22 rfl) rfl ?_
    refine v_getr (pc := 69) h ci12 sh123 (Nat.le_of_ble_eq_true rfl) (j := 2) wF_X12_16 rfl (dk dt_X12_keyOf 23 rfl) ?_
    refine v_iload_n (pc := 72) h (dk dt_X12_keyOf 24 rfl) rfl ?_
    refine v_iald (pc := 73) h sh126 (Nat.le_of_ble_eq_true rfl) (by omega) (dk dt_X12_keyOf 25 rfl) ?_
    rw [Int.toNat_natCast, e126]
    refine v_if_ne (pc := 74) h 83 (dk dt_X12_keyOf 26 rfl) rfl (by omega) (fun c74 => ?_) (fun c74 => ?_)
    ·
      refine v_aload_n (pc := 83) h (dk dt_X12_keyOf 29 rfl) rfl ?_
      refine v_getr (pc := 84) h ci12 sh123 (Nat.le_of_ble_eq_true rfl) (j := 2) wF_X12_16 rfl (dk dt_X12_keyOf 30 rfl) ?_
      refine v_iload_n (pc := 87) h (dk dt_X12_keyOf 31 rfl) rfl ?_
      refine v_iald (pc := 88) h sh126 (Nat.le_of_ble_eq_true rfl) (by omega) (dk dt_X12_keyOf 32 rfl) ?_
      rw [Int.toNat_natCast, e126]
      exact v_iret (pc := 89) h r (dk dt_X12_keyOf 33 rfl) (Nat.le_of_ble_eq_true rfl) (Nat.le_of_ble_eq_true rfl) ⟨by rw [kd e]; first | rw [if_pos c74] | rw [if_neg c74], rfl⟩
    ·
      refine v_sipush (pc := 77) h (dk dt_X12_keyOf 27 rfl) rfl ?_
      refine v_goto (pc := 80) h 89 (dk dt_X12_keyOf 28 rfl) rfl ?_
      exact v_iret (pc := 89) h r (dk dt_X12_keyOf 33 rfl) (Nat.le_of_ble_eq_true rfl) (Nat.le_of_ble_eq_true rfl) ⟨by rw [kd e]; first | rw [if_pos c74] | rw [if_neg c74], rfl⟩
  ·
    rw [e]
    refine v_switchOut (pc := 1) h 90 (dk dt_X12_keyOf 1 rfl) (by omega) (by omega) rfl ?_
    refine v_aload_n (pc := 90) h (dk dt_X12_keyOf 34 rfl) rfl ?_
    refine v_iload_n (pc := 91) h (dk dt_X12_keyOf 35 rfl) rfl ?_
    refine v_iload_n (pc := 92) h (dk dt_X12_keyOf 36 rfl) rfl ?_
    refine v_cVi (pc := 93) h (c_X12_rankOf h.quiet hE hs hn hb hB (by omega) hle) kv_X12_rankOf sh123 wM_X12_172 rfl rfl (Nat.le_of_ble_eq_true rfl) (RM.of rfl) rfl rfl (dk dt_X12_keyOf 37 rfl) ?_
    refine v_ineg (pc := 96) h (dk dt_X12_keyOf 38 rfl) ?_
    exact v_iret (pc := 97) h r (dk dt_X12_keyOf 39 rfl) (Nat.le_of_ble_eq_true rfl) (Nat.le_of_ble_eq_true rfl) ⟨by rw [if_neg (by omega), if_neg (by omega), if_neg (by omega), if_neg (by omega), if_neg (by omega)], rfl⟩
  ·
    rw [e]
    refine v_switchOut (pc := 1) h 90 (dk dt_X12_keyOf 1 rfl) (by omega) (by omega) rfl ?_
    refine v_aload_n (pc := 90) h (dk dt_X12_keyOf 34 rfl) rfl ?_
    refine v_iload_n (pc := 91) h (dk dt_X12_keyOf 35 rfl) rfl ?_
    refine v_iload_n (pc := 92) h (dk dt_X12_keyOf 36 rfl) rfl ?_
    refine v_cVi (pc := 93) h (c_X12_rankOf h.quiet hE hs hn hb hB (by omega) hle) kv_X12_rankOf sh123 wM_X12_172 rfl rfl (Nat.le_of_ble_eq_true rfl) (RM.of rfl) rfl rfl (dk dt_X12_keyOf 37 rfl) ?_
    refine v_ineg (pc := 96) h (dk dt_X12_keyOf 38 rfl) ?_
    exact v_iret (pc := 97) h r (dk dt_X12_keyOf 39 rfl) (Nat.le_of_ble_eq_true rfl) (Nat.le_of_ble_eq_true rfl) ⟨by rw [if_neg (by omega), if_neg (by omega), if_neg (by omega), if_neg (by omega), if_neg (by omega)], rfl⟩
theorem c_X12_draws (hst : l.stackTraces = false) (h35 : μ 123 35 = σ 6 5) {z : Int} (hz : 1 ≤ z ∧ z ≤ 1000) :
    Ct l B D E yX12_draws (.code yX12_draws cX12_draws 2 (some .int)) rm_X12_draws [.ref (pl B 123), iI z] μ (ri (bus (sdN (σ 6 5)) 16 % z) (mup μ 123 35 (sdN (σ 6 5)))) NX := by
  have hbb := bus_b (sdN (σ 6 5))
  have hsd : σ 6 5 * 1103515245 + 12345 = sdN (σ 6 5) := rfl
  refine ct_of (own := RX12) (lv := [(0, _), (1, _)]) hst (by decide) rfl rfl (Nat.le_of_ble_eq_true rfl) fun a h r t => ?_
  refine v_aload_n (pc := 0) h (dk dt_X12_draws 0 rfl) rfl ?_
  refine v_aload_n (pc := 1) h (dk dt_X12_draws 1 rfl) rfl ?_
  refine v_geti (pc := 2) h ci12 sh123 (Nat.le_of_ble_eq_true rfl) (j := 35) wF_X12_165 rfl (dk dt_X12_draws 2 rfl) ?_
  refine v_ldc (pc := 5) (z := 1103515245) h wK_X12_168 (dk dt_X12_draws 3 rfl) ?_
  refine v_imul (pc := 7) h (dk dt_X12_draws 4 rfl) ?_
  refine v_sipush (pc := 8) h (dk dt_X12_draws 5 rfl) rfl ?_
  refine v_iadd (pc := 11) h (dk dt_X12_draws 6 rfl) ?_
  rw [h35, hsd]
  refine v_put (pc := 12) h ci12 sh123 (Nat.le_of_ble_eq_true rfl) (j := 35) wF_X12_165 rfl rfl rfl rfl (dk dt_X12_draws 7 rfl) ?_
  refine v_aload_n (pc := 15) h (dk dt_X12_draws 8 rfl) rfl ?_
  refine v_geti (pc := 16) h ci12 sh123 (Nat.le_of_ble_eq_true rfl) (j := 35) wF_X12_165 rfl (dk dt_X12_draws 9 rfl) ?_
  rw [mup_eq]
  refine v_bipush (pc := 19) h (dk dt_X12_draws 10 rfl) rfl ?_
  refine v_iushr (pc := 21) h (dk dt_X12_draws 11 rfl) ?_
  refine v_iload_n (pc := 22) h (dk dt_X12_draws 12 rfl) rfl ?_
  refine v_irem (pc := 23) h (dk dt_X12_draws 13 rfl) (by omega) (by omega) ?_
  exact v_iret (pc := 24) h r (dk dt_X12_draws 14 rfl) (Nat.le_of_ble_eq_true rfl) (Nat.le_of_ble_eq_true rfl) ⟨rfl, rfl⟩
theorem c_X12_drawnJob (hst : l.stackTraces = false) (hE : eqJ μ) (hs : okJ μ) (hn : μ 1 9 = (n : Int)) (hb : bP n μ σ) (hB : vB (jm μ) n σ) (h35 : μ 123 35 = σ 6 5) (hpos : 0 < swF (jm μ) σ n) :
    Ct l B D E yX12_drawnJob (.code yX12_drawnJob cX12_drawnJob 5 (some .int)) rm_X12_drawnJob [.ref (pl B 123)] μ (ri (ltF (jm μ) σ (bus (sdN (σ 6 5)) 16 % swF (jm μ) σ n) n 0) (mup μ 123 35 (sdN (σ 6 5)))) NX := by
  have hn12 := hs.1
  have e9 := eqJ_n hE hn
  have hD := okJD hs hn
  have e127 := hE.1.2.2.2.1
  have hl : ∀ j, j < n → jm μ 1 j ≤ 30 := fun j hj => (okD_l hD hj).2
  have hww : ∀ j, j < n → 1 ≤ jm μ 3 j ∧ jm μ 3 j ≤ 9 := fun j hj => okD_w hD hj
  have hsw := swF_b (σ := σ) hww
  have hbb := bus_b (sdN (σ 6 5))
  have hwv : ∀ j, jm μ 3 j = μ 9 j := fun _ => rfl
  have swY : ∀ i, rdy σ i → swF (jm μ) σ (i + 1) = swF (jm μ) σ i + μ 9 i := fun i q => by rw [swF, if_pos q, hwv]
  have swN : ∀ i, ¬ rdy σ i → swF (jm μ) σ (i + 1) = swF (jm μ) σ i := fun i q => by rw [swF, if_neg q, Int.add_zero]
  have hsn := hsw n (Nat.le_refl _)
  have hm1 := Int.emod_nonneg (bus (sdN (σ 6 5)) 16) (show swF (jm μ) σ n ≠ 0 by omega)
  have hm2 := Int.emod_lt_of_pos (bus (sdN (σ 6 5)) 16) hpos
  have hsd : σ 6 5 * 1103515245 + 12345 = sdN (σ 6 5) := rfl
  refine ct_of (own := RX12) (lv := [(0, _)]) hst (by decide) rfl rfl (Nat.le_of_ble_eq_true rfl) fun a h r t => ?_
  have loop2 : ∀ (d i : Nat), i + d = n → ltF (jm μ) σ (bus (sdN (σ 6 5)) 16 % swF (jm μ) σ n) n 0 = ltF (jm μ) σ (bus (sdN (σ 6 5)) 16 % swF (jm μ) σ n) d i → VV a B (SP B D E (mup μ 123 35 (sdN (σ 6 5)))) 0 0 50 [(4, iI (i : Int)), (3, iI (swF (jm μ) σ i)), (2, iI (bus (sdN (σ 6 5)) 16 % swF (jm μ) σ n)), (0, .ref (pl B 123))] [] := by
    have hb2 : bP n (mup μ 123 35 (sdN (σ 6 5))) σ := bP_c (fun a h1 h2 => by funext b; exact mup_nk (by omega)) hb
    have e92 : (mup μ 123 35 (sdN (σ 6 5))) 123 9 = (n : Int) := by rw [mup_ne (by omega)]; exact e9
    have e127b : ∀ j, (mup μ 123 35 (sdN (σ 6 5))) 127 j = μ 9 j := fun j => by rw [mup_nk (by omega), e127]
    generalize hz : bus (sdN (σ 6 5)) 16 % swF (jm μ) σ n = z at *
    intro d
    induction d with
    | zero =>
      intro i hi e
      refine v_iload (pc := 50) h (dk dt_X12_drawnJob 31 rfl) rfl ?_
      refine v_aload_n (pc := 52) h (dk dt_X12_drawnJob 32 rfl) rfl ?_
      refine v_geti (pc := 53) h ci12 sh123 (Nat.le_of_ble_eq_true rfl) (j := 9) wF_X12_108 rfl (dk dt_X12_drawnJob 33 rfl) ?_
      refine v_icmp_ge (pc := 56) h 96 (dk dt_X12_drawnJob 34 rfl) rfl (by omega) (fun c56 => ?_) (fun c56 => ?_)
      ·
        refine v_iconst (pc := 96) h (dk dt_X12_drawnJob 55 rfl) ?_
        exact v_iret (pc := 97) h r (dk dt_X12_drawnJob 56 rfl) (Nat.le_of_ble_eq_true rfl) (Nat.le_of_ble_eq_true rfl) ⟨by rw [e, ltF], rfl⟩
      ·
        exact absurd c56 (by omega)
    | succ d ih =>
      intro i hi e
      have hin : i < n := by omega
      have hsi := hsw i (by omega)
      have hsi1 := hsw (i + 1) (by omega)
      have hwi := hww i hin
      have hwv := hwv i
      have eN : ¬ z < swF (jm μ) σ (i + 1) → ltF (jm μ) σ z n 0 = ltF (jm μ) σ z d (i + 1) := fun q => by rw [e, ltF, if_neg q]
      have eY : z < swF (jm μ) σ (i + 1) → ltF (jm μ) σ z n 0 = (i : Int) := fun q => by rw [e, ltF, if_pos q]
      refine v_iload (pc := 50) h (dk dt_X12_drawnJob 31 rfl) rfl ?_
      refine v_aload_n (pc := 52) h (dk dt_X12_drawnJob 32 rfl) rfl ?_
      refine v_geti (pc := 53) h ci12 sh123 (Nat.le_of_ble_eq_true rfl) (j := 9) wF_X12_108 rfl (dk dt_X12_drawnJob 33 rfl) ?_
      refine v_icmp_ge (pc := 56) h 96 (dk dt_X12_drawnJob 34 rfl) rfl (by omega) (fun c56 => ?_) (fun c56 => ?_)
      ·
        exact absurd c56 (by omega)
      ·
        refine v_iload_n (pc := 59) h (dk dt_X12_drawnJob 35 rfl) rfl ?_
        refine v_aload_n (pc := 60) h (dk dt_X12_drawnJob 36 rfl) rfl ?_
        refine v_iload (pc := 61) h (dk dt_X12_drawnJob 37 rfl) rfl ?_
        refine v_cVi (pc := 63) h (c_X12_isThere h.quiet (bR_of hb2) hB hl hin (by omega)) kv_X12_isThere sh123 wM_X12_159 rfl rfl (Nat.le_of_ble_eq_true rfl) (RM.of rfl) rfl rfl (dk dt_X12_drawnJob 38 rfl) ?_
        refine v_if_eq (pc := 66) h 79 (dk dt_X12_drawnJob 39 rfl) rfl (by split <;> omega) (fun c66 => ?_) (fun c66 => ?_)
        ·
          have d66 : ¬ rdy σ i := fun q => by rw [if_pos q] at c66; omega
          have hsw1 := swN i d66
          refine v_iconst (pc := 79) h (dk dt_X12_drawnJob 45 rfl) ?_
          refine v_iadd (pc := 80) h (dk dt_X12_drawnJob 46 rfl) ?_
          refine v_istore_n (lv' := [(3, _), (4, _), (2, _), (0, _)]) (pc := 81) h (dk dt_X12_drawnJob 47 rfl) (Nat.le_of_ble_eq_true rfl) rfl ?_
          refine v_iload_n (pc := 82) h (dk dt_X12_drawnJob 48 rfl) rfl ?_
          refine v_iload_n (pc := 83) h (dk dt_X12_drawnJob 49 rfl) rfl ?_
          refine v_icmp_le (pc := 84) h 90 (dk dt_X12_drawnJob 50 rfl) rfl (by omega) (fun c84 => ?_) (fun c84 => ?_)
          ·
            refine v_iinc (lv' := [(4, _), (3, _), (2, _), (0, _)]) (pc := 90) h (dk dt_X12_drawnJob 53 rfl) rfl (Nat.le_of_ble_eq_true rfl) rfl ?_
            refine v_goto (pc := 93) h 50 (dk dt_X12_drawnJob 54 rfl) rfl ?_
            exact VV.loc (ih (i + 1) (by omega) (eN (by omega))) ⟨rfl, lvI (by omega), rfl, rfl, trivial⟩
          ·
            refine v_iload (pc := 87) h (dk dt_X12_drawnJob 51 rfl) rfl ?_
            exact v_iret (pc := 89) h r (dk dt_X12_drawnJob 52 rfl) (Nat.le_of_ble_eq_true rfl) (Nat.le_of_ble_eq_true rfl) ⟨by rw [eY (by omega)], rfl⟩
        ·
          have d66 : rdy σ i := by by_cases q : rdy σ i; exact q; rw [if_neg q] at c66; omega
          have hsw1 := swY i d66
          refine v_aload_n (pc := 69) h (dk dt_X12_drawnJob 40 rfl) rfl ?_
          refine v_getr (pc := 70) h ci12 sh123 (Nat.le_of_ble_eq_true rfl) (j := 3) wF_X12_19 rfl (dk dt_X12_drawnJob 41 rfl) ?_
          refine v_iload (pc := 73) h (dk dt_X12_drawnJob 42 rfl) rfl ?_
          refine v_iald (pc := 75) h sh127 (Nat.le_of_ble_eq_true rfl) (by omega) (dk dt_X12_drawnJob 43 rfl) ?_
          rw [Int.toNat_natCast, e127b]
          refine v_goto (pc := 76) h 80 (dk dt_X12_drawnJob 44 rfl) rfl ?_
          refine v_iadd (pc := 80) h (dk dt_X12_drawnJob 46 rfl) ?_
          refine v_istore_n (lv' := [(3, _), (4, _), (2, _), (0, _)]) (pc := 81) h (dk dt_X12_drawnJob 47 rfl) (Nat.le_of_ble_eq_true rfl) rfl ?_
          refine v_iload_n (pc := 82) h (dk dt_X12_drawnJob 48 rfl) rfl ?_
          refine v_iload_n (pc := 83) h (dk dt_X12_drawnJob 49 rfl) rfl ?_
          refine v_icmp_le (pc := 84) h 90 (dk dt_X12_drawnJob 50 rfl) rfl (by omega) (fun c84 => ?_) (fun c84 => ?_)
          ·
            refine v_iinc (lv' := [(4, _), (3, _), (2, _), (0, _)]) (pc := 90) h (dk dt_X12_drawnJob 53 rfl) rfl (Nat.le_of_ble_eq_true rfl) rfl ?_
            refine v_goto (pc := 93) h 50 (dk dt_X12_drawnJob 54 rfl) rfl ?_
            exact VV.loc (ih (i + 1) (by omega) (eN (by omega))) ⟨rfl, lvI (by omega), rfl, rfl, trivial⟩
          ·
            refine v_iload (pc := 87) h (dk dt_X12_drawnJob 51 rfl) rfl ?_
            exact v_iret (pc := 89) h r (dk dt_X12_drawnJob 52 rfl) (Nat.le_of_ble_eq_true rfl) (Nat.le_of_ble_eq_true rfl) ⟨by rw [eY (by omega)], rfl⟩
  have loop1 : ∀ (d i : Nat), i + d = n → VV a B (SP B D E μ) 0 0 4 [(2, iI (i : Int)), (1, iI (swF (jm μ) σ i)), (0, .ref (pl B 123))] [] := by
    intro d
    induction d with
    | zero =>
      intro i hi
      have e : n = i := by omega
      refine v_iload_n (pc := 4) h (dk dt_X12_drawnJob 4 rfl) rfl ?_
      refine v_aload_n (pc := 5) h (dk dt_X12_drawnJob 5 rfl) rfl ?_
      refine v_geti (pc := 6) h ci12 sh123 (Nat.le_of_ble_eq_true rfl) (j := 9) wF_X12_108 rfl (dk dt_X12_drawnJob 6 rfl) ?_
      refine v_icmp_ge (pc := 9) h 39 (dk dt_X12_drawnJob 7 rfl) rfl (by omega) (fun c9 => ?_) (fun c9 => ?_)
      ·
        refine v_aload_n (pc := 39) h (dk dt_X12_drawnJob 23 rfl) rfl ?_
        refine v_iload_n (pc := 40) h (dk dt_X12_drawnJob 24 rfl) rfl ?_
        rw [← e]
        refine v_cVi (pc := 41) h (c_X12_draws (σ := σ) h.quiet h35 (by omega)) kv_X12_draws sh123 wM_X12_169 rfl rfl (Nat.le_of_ble_eq_true rfl) (RM.of rfl) rfl rfl (dk dt_X12_drawnJob 25 rfl) ?_
        refine v_istore_n (lv' := [(2, _), (1, _), (0, _)]) (pc := 44) h (dk dt_X12_drawnJob 26 rfl) (Nat.le_of_ble_eq_true rfl) rfl ?_
        refine v_iconst (pc := 45) h (dk dt_X12_drawnJob 27 rfl) ?_
        refine v_istore_n (lv' := [(3, _), (2, _), (1, _), (0, _)]) (pc := 46) h (dk dt_X12_drawnJob 28 rfl) (Nat.le_of_ble_eq_true rfl) rfl ?_
        refine v_iconst (pc := 47) h (dk dt_X12_drawnJob 29 rfl) ?_
        refine v_istore (lv' := [(4, _), (3, _), (2, _), (1, _), (0, _)]) (pc := 48) h (dk dt_X12_drawnJob 30 rfl) (Nat.le_of_ble_eq_true rfl) rfl ?_
        exact VV.loc (loop2 n 0 (by omega) rfl) ⟨rfl, rfl, rfl, rfl, trivial⟩
      ·
        exact absurd c9 (by omega)
    | succ d ih =>
      intro i hi
      have hin : i < n := by omega
      have hsi := hsw i (by omega)
      have hwi := hww i hin
      have hwv := hwv i
      refine v_iload_n (pc := 4) h (dk dt_X12_drawnJob 4 rfl) rfl ?_
      refine v_aload_n (pc := 5) h (dk dt_X12_drawnJob 5 rfl) rfl ?_
      refine v_geti (pc := 6) h ci12 sh123 (Nat.le_of_ble_eq_true rfl) (j := 9) wF_X12_108 rfl (dk dt_X12_drawnJob 6 rfl) ?_
      refine v_icmp_ge (pc := 9) h 39 (dk dt_X12_drawnJob 7 rfl) rfl (by omega) (fun c9 => ?_) (fun c9 => ?_)
      ·
        exact absurd c9 (by omega)
      ·
        refine v_iload_n (pc := 12) h (dk dt_X12_drawnJob 8 rfl) rfl ?_
        refine v_aload_n (pc := 13) h (dk dt_X12_drawnJob 9 rfl) rfl ?_
        refine v_iload_n (pc := 14) h (dk dt_X12_drawnJob 10 rfl) rfl ?_
        refine v_cVi (pc := 15) h (c_X12_isThere h.quiet (bR_of hb) hB hl hin (by omega)) kv_X12_isThere sh123 wM_X12_159 rfl rfl (Nat.le_of_ble_eq_true rfl) (RM.of rfl) rfl rfl (dk dt_X12_drawnJob 11 rfl) ?_
        refine v_if_eq (pc := 18) h 30 (dk dt_X12_drawnJob 12 rfl) rfl (by split <;> omega) (fun c18 => ?_) (fun c18 => ?_)
        ·
          have d18 : ¬ rdy σ i := fun q => by rw [if_pos q] at c18; omega
          have hsw1 := swN i d18
          refine v_iconst (pc := 30) h (dk dt_X12_drawnJob 18 rfl) ?_
          refine v_iadd (pc := 31) h (dk dt_X12_drawnJob 19 rfl) ?_
          refine v_istore_n (lv' := [(1, _), (2, _), (0, _)]) (pc := 32) h (dk dt_X12_drawnJob 20 rfl) (Nat.le_of_ble_eq_true rfl) rfl ?_
          refine v_iinc (lv' := [(2, _), (1, _), (0, _)]) (pc := 33) h (dk dt_X12_drawnJob 21 rfl) rfl (Nat.le_of_ble_eq_true rfl) rfl ?_
          refine v_goto (pc := 36) h 4 (dk dt_X12_drawnJob 22 rfl) rfl ?_
          exact VV.loc (ih (i + 1) (by omega)) ⟨rfl, lvI (by omega), rfl, trivial⟩
        ·
          have d18 : rdy σ i := by by_cases q : rdy σ i; exact q; rw [if_neg q] at c18; omega
          have hsw1 := swY i d18
          refine v_aload_n (pc := 21) h (dk dt_X12_drawnJob 13 rfl) rfl ?_
          refine v_getr (pc := 22) h ci12 sh123 (Nat.le_of_ble_eq_true rfl) (j := 3) wF_X12_19 rfl (dk dt_X12_drawnJob 14 rfl) ?_
          refine v_iload_n (pc := 25) h (dk dt_X12_drawnJob 15 rfl) rfl ?_
          refine v_iald (pc := 26) h sh127 (Nat.le_of_ble_eq_true rfl) (by omega) (dk dt_X12_drawnJob 16 rfl) ?_
          rw [Int.toNat_natCast, e127]
          refine v_goto (pc := 27) h 31 (dk dt_X12_drawnJob 17 rfl) rfl ?_
          refine v_iadd (pc := 31) h (dk dt_X12_drawnJob 19 rfl) ?_
          refine v_istore_n (lv' := [(1, _), (2, _), (0, _)]) (pc := 32) h (dk dt_X12_drawnJob 20 rfl) (Nat.le_of_ble_eq_true rfl) rfl ?_
          refine v_iinc (lv' := [(2, _), (1, _), (0, _)]) (pc := 33) h (dk dt_X12_drawnJob 21 rfl) rfl (Nat.le_of_ble_eq_true rfl) rfl ?_
          refine v_goto (pc := 36) h 4 (dk dt_X12_drawnJob 22 rfl) rfl ?_
          exact VV.loc (ih (i + 1) (by omega)) ⟨rfl, lvI (by omega), rfl, trivial⟩
  refine v_iconst (pc := 0) h (dk dt_X12_drawnJob 0 rfl) ?_
  refine v_istore_n (lv' := [(1, _), (0, _)]) (pc := 1) h (dk dt_X12_drawnJob 1 rfl) (Nat.le_of_ble_eq_true rfl) rfl ?_
  refine v_iconst (pc := 2) h (dk dt_X12_drawnJob 2 rfl) ?_
  refine v_istore_n (lv' := [(2, _), (1, _), (0, _)]) (pc := 3) h (dk dt_X12_drawnJob 3 rfl) (Nat.le_of_ble_eq_true rfl) rfl ?_
  exact VV.loc (loop1 n 0 (by omega)) ⟨rfl, rfl, rfl, trivial⟩
end
