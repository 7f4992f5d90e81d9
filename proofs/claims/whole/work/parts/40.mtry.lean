/-! ===== the model: which, best, isFeasible ===== -/
section
variable {l : Launch} {B : Nat} {D : va_G} {E : Nat → ClassId} {μ m σ : Mm} {w n : Nat} {K : Nat → Int} {s : St} {J : Mm}
theorem bor_0 {a : Nat} (ha : a < 2147483648) : bor (a : Int) 0 = (a : Int) := by
  have h := bor_n (b := 0) ha (by decide)
  rw [Nat.or_zero] at h
  exact h
/-- what the model answers behind runs tried out -/
def PT (rc : Int) (v : Option Value) (μ : Mm) : Pv := fun w m => if rc = 0 then w = v ∧ fT μ m else w = some (iI 0) ∧ m = mup μ 123 14 rc
theorem PT_0 {rc : Int} {v : Option Value} {μ m : Mm} (h : rc = 0) (h2 : fT μ m) : PT rc v μ v m := by unfold PT; rw [if_pos h]; exact ⟨rfl, h2⟩
theorem PT_n {rc k : Int} {v : Option Value} {μ : Mm} (h : rc = k) (hk : k ≠ 0) : PT rc v μ (some (iI 0)) (mup μ 123 14 k) := by unfold PT; rw [if_neg (by omega), h]; exact ⟨rfl, rfl⟩
theorem c_X12_which (hst : l.stackTraces = false) (hE : eqJ μ) (hW : eqW μ) (hH : eqH μ) (hO : hOK μ) (hn : μ 1 9 = (n : Int)) :
    Ct l B D E yX12_which (.code yX12_which cX12_which 3 (some .int)) rm_X12_which [.ref (pl B 123)] μ (PT (rcN (μ 0 7)) (some (iI (whS μ n : Nat))) μ) NX := by
  have hOW := hO.W
  have hD := okJD hO.J hn
  refine ct_of (own := RX12) (lv := [(0, _)]) hst (by decide) rfl rfl (Nat.le_of_ble_eq_true rfl) fun a h r t => ?_
  have loop : μ 0 7 = 1 → ∀ (d i : Nat) (m : Mm), i + d = 9 → frR μ m → VV a B (SP B D E m) 0 0 17 [(2, iI (i : Int)), (1, iI ((bsN (fun r => sameR (jm μ) n (kM μ (r : Int)) (μ 27 3) (μ 49) (μ 47 0)) i : Nat) : Int)), (0, .ref (pl B 123))] [] := by
    intro h1 d
    induction d with
    | zero =>
      intro i m hi fm
      have e : i = 9 := by omega
      subst e
      refine v_iload_n (pc := 17) h (dk dt_X12_which 11 rfl) rfl ?_
      refine v_bipush (pc := 18) h (dk dt_X12_which 12 rfl) rfl ?_
      refine v_icmp_ge (pc := 20) h 63 (dk dt_X12_which 13 rfl) rfl (by omega) (fun c20 => ?_) (fun c20 => ?_)
      ·
        refine v_aload_n (pc := 63) h (dk dt_X12_which 36 rfl) rfl ?_
        refine v_iload_n (pc := 64) h (dk dt_X12_which 37 rfl) rfl ?_
        refine v_cVi (pc := 65) h (c_X12_told h.quiet) kv_X12_told sh123 wM_X12_115 rfl rfl (Nat.le_of_ble_eq_true rfl) (RM.of rfl) rfl rfl (dk dt_X12_which 38 rfl) ?_
        exact v_iret (pc := 68) h r (dk dt_X12_which 39 rfl) (Nat.le_of_ble_eq_true rfl) (Nat.le_of_ble_eq_true rfl) (PT_0 (rcN_0 h1) (frR_14 (x := 0) fm))
      ·
        exact absurd c20 (by omega)
    | succ d ih =>
      intro i m hi fm
      have hOm := frR_O fm hO
      have hEm := frR_E fm hE
      have hWm := frR_W fm hW
      have hnm : m 1 9 = (n : Int) := by rw [fm.1 1 (by omega) (by omega)]; exact hn
      have jm1 : jm m = jm μ := jm_c (frR_J fm)
      have e27 : m 27 = μ 27 := fm.1 27 (by omega) (by omega)
      have hbl := bsN_le (fun r => sameR (jm μ) n (kM μ (r : Int)) (μ 27 3) (μ 49) (μ 47 0)) (i := i) (n := 9) (by omega)
      have h29 : 2 ^ i ≤ 2 ^ 9 := p2lt (by omega)
      have hok := okK_kof (r := (i : Int)) (s := μ 27 0) (c := μ 27 1) (le := μ 27 4) (ri := μ 27 2) (by omega) hOW.1 hOW.2.1 hOW.2.2.2 hOW.2.2.1
      refine v_iload_n (pc := 17) h (dk dt_X12_which 11 rfl) rfl ?_
      refine v_bipush (pc := 18) h (dk dt_X12_which 12 rfl) rfl ?_
      refine v_icmp_ge (pc := 20) h 63 (dk dt_X12_which 13 rfl) rfl (by omega) (fun c20 => ?_) (fun c20 => ?_)
      ·
        exact absurd c20 (by omega)
      ·
        refine v_aload_n (pc := 23) h (dk dt_X12_which 14 rfl) rfl ?_
        refine v_iload_n (pc := 24) h (dk dt_X12_which 15 rfl) rfl ?_
        refine v_aload_n (pc := 25) h (dk dt_X12_which 16 rfl) rfl ?_
        refine v_geti (pc := 26) h ci12 sh123 (Nat.le_of_ble_eq_true rfl) (j := 10) wF_X12_37 rfl (dk dt_X12_which 17 rfl) ?_
        rw [hWm.1, e27]
        refine v_aload_n (pc := 29) h (dk dt_X12_which 18 rfl) rfl ?_
        refine v_geti (pc := 30) h ci12 sh123 (Nat.le_of_ble_eq_true rfl) (j := 11) wF_X12_132 rfl (dk dt_X12_which 19 rfl) ?_
        rw [hWm.2.1, e27]
        refine v_aload_n (pc := 33) h (dk dt_X12_which 20 rfl) rfl ?_
        refine v_geti (pc := 34) h ci12 sh123 (Nat.le_of_ble_eq_true rfl) (j := 15) wF_X12_135 rfl (dk dt_X12_which 21 rfl) ?_
        rw [hWm.2.2.2.2, e27]
        refine v_cV (pc := 37) h (c_mrun (n := n) h.quiet hEm hWm hOm hnm (by omega) hOW.1 hOW.2.1 hOW.2.2.2) kv_X12_runs sh123 wM_X12_210 rfl rfl (Nat.le_of_ble_eq_true rfl) (RM.of rfl) rfl rfl (dk dt_X12_which 22 rfl) (fun v37 μ37 p37 => ?_)
        obtain ⟨rfl, f37, b37, e37⟩ := p37
        rw [e27, jm1] at b37 e37
        have fm2 := frR_tr fm f37
        have h49 : μ37 49 = μ 49 := fm2.1 49 (by omega) (by omega)
        have h47 : μ37 47 = μ 47 := fm2.1 47 (by omega) (by omega)
        refine v_iload_n (pc := 40) h (dk dt_X12_which 23 rfl) rfl ?_
        refine v_aload_n (pc := 41) h (dk dt_X12_which 24 rfl) rfl ?_
        refine v_cVi (pc := 42) h (c_X12_isLikeLatest (n := n) (J := jm μ) (K := kM μ (i : Int)) (z := μ 27 3) h.quiet (frR_H fm2 hH) (frR_O fm2 hO) (by rw [fm2.1 0 (by omega) (by omega)]; exact h1) hD hok ⟨b37, e37⟩) kv_X12_isLikeLatest sh123 wM_X12_239 rfl rfl (Nat.le_of_ble_eq_true rfl) (RM.of rfl) rfl rfl (dk dt_X12_which 25 rfl) ?_
        rw [h49, h47]
        refine v_if_eq (pc := 45) h 54 (dk dt_X12_which 26 rfl) rfl (by split <;> omega) (fun c45 => ?_) (fun c45 => ?_)
        ·
          have d45 : sameR (jm μ) n (kM μ (i : Int)) (μ 27 3) (μ 49) (μ 47 0) = false := by cases q : sameR (jm μ) n (kM μ (i : Int)) (μ 27 3) (μ 49) (μ 47 0); rfl; rw [if_pos q] at c45; exact absurd c45 (by decide)
          have eb : bor ((bsN (fun r => sameR (jm μ) n (kM μ (r : Int)) (μ 27 3) (μ 49) (μ 47 0)) i : Nat) : Int) 0 = ((bsN (fun r => sameR (jm μ) n (kM μ (r : Int)) (μ 27 3) (μ 49) (μ 47 0)) (i + 1) : Nat) : Int) := by rw [bor_0 (by omega), bs_skip (f := (fun r => sameR (jm μ) n (kM μ (r : Int)) (μ 27 3) (μ 49) (μ 47 0))) d45]
          refine v_iconst (pc := 54) h (dk dt_X12_which 31 rfl) ?_
          refine v_ior (pc := 55) h (dk dt_X12_which 32 rfl) ?_
          rw [eb]
          refine v_istore_n (lv' := [(1, _), (2, _), (0, _)]) (pc := 56) h (dk dt_X12_which 33 rfl) (Nat.le_of_ble_eq_true rfl) rfl ?_
          refine v_iinc (lv' := [(2, _), (1, _), (0, _)]) (pc := 57) h (dk dt_X12_which 34 rfl) rfl (Nat.le_of_ble_eq_true rfl) rfl ?_
          refine v_goto (pc := 60) h 17 (dk dt_X12_which 35 rfl) rfl ?_
          exact VV.loc (ih (i + 1) _ (by omega) fm2) ⟨rfl, rfl, rfl, trivial⟩
        ·
          have d45 : sameR (jm μ) n (kM μ (i : Int)) (μ 27 3) (μ 49) (μ 47 0) = true := by cases q : sameR (jm μ) n (kM μ (i : Int)) (μ 27 3) (μ 49) (μ 47 0); rw [q] at c45; exact absurd rfl c45; rfl
          have eb : bor ((bsN (fun r => sameR (jm μ) n (kM μ (r : Int)) (μ 27 3) (μ 49) (μ 47 0)) i : Nat) : Int) ((2 ^ i : Nat) : Int) = ((bsN (fun r => sameR (jm μ) n (kM μ (r : Int)) (μ 27 3) (μ 49) (μ 47 0)) (i + 1) : Nat) : Int) := by rw [bor_n (by omega) (by omega), bs_add (f := (fun r => sameR (jm μ) n (kM μ (r : Int)) (μ 27 3) (μ 49) (μ 47 0))) d45]
          refine v_iconst (pc := 48) h (dk dt_X12_which 27 rfl) ?_
          refine v_iload_n (pc := 49) h (dk dt_X12_which 28 rfl) rfl ?_
          refine v_ishl (pc := 50) h (dk dt_X12_which 29 rfl) ?_
          rw [bsl_1 i (by omega)]
          refine v_goto (pc := 51) h 55 (dk dt_X12_which 30 rfl) rfl ?_
          refine v_ior (pc := 55) h (dk dt_X12_which 32 rfl) ?_
          rw [eb]
          refine v_istore_n (lv' := [(1, _), (2, _), (0, _)]) (pc := 56) h (dk dt_X12_which 33 rfl) (Nat.le_of_ble_eq_true rfl) rfl ?_
          refine v_iinc (lv' := [(2, _), (1, _), (0, _)]) (pc := 57) h (dk dt_X12_which 34 rfl) rfl (Nat.le_of_ble_eq_true rfl) rfl ?_
          refine v_goto (pc := 60) h 17 (dk dt_X12_which 35 rfl) rfl ?_
          exact VV.loc (ih (i + 1) _ (by omega) fm2) ⟨rfl, rfl, rfl, trivial⟩
  refine v_aload_n (pc := 0) h (dk dt_X12_which 0 rfl) rfl ?_
  refine v_cVi (pc := 1) h (c_X12_isRun h.quiet (by assumption)) kv_X12_isRun sh123 wM_X12_217 rfl rfl (Nat.le_of_ble_eq_true rfl) (RM.of rfl) rfl rfl (dk dt_X12_which 1 rfl) ?_
  refine v_if_ne (pc := 4) h 13 (dk dt_X12_which 2 rfl) rfl (by split <;> omega) (fun c4 => ?_) (fun c4 => ?_)
  ·
    have d4 : μ 0 7 = 1 := by by_cases q : μ 0 7 = 1; exact q; rw [if_neg q] at c4; omega
    refine v_iconst (pc := 13) h (dk dt_X12_which 7 rfl) ?_
    refine v_istore_n (lv' := [(1, _), (0, _)]) (pc := 14) h (dk dt_X12_which 8 rfl) (Nat.le_of_ble_eq_true rfl) rfl ?_
    refine v_iconst (pc := 15) h (dk dt_X12_which 9 rfl) ?_
    refine v_istore_n (lv' := [(2, _), (1, _), (0, _)]) (pc := 16) h (dk dt_X12_which 10 rfl) (Nat.le_of_ble_eq_true rfl) rfl ?_
    exact VV.loc (loop d4 9 0 μ (by omega) frR_rf) ⟨rfl, rfl, rfl, trivial⟩
  ·
    have d4 : ¬ μ 0 7 = 1 := fun q => by rw [if_pos q] at c4; omega
    refine v_aload_n (pc := 7) h (dk dt_X12_which 3 rfl) rfl ?_
    refine v_iconst (pc := 8) h (dk dt_X12_which 4 rfl) ?_
    refine v_cVi (pc := 9) h (c_X12_refuse h.quiet) kv_X12_refuse sh123 wM_X12_119 rfl rfl (Nat.le_of_ble_eq_true rfl) (RM.of rfl) rfl rfl (dk dt_X12_which 5 rfl) ?_
    exact v_iret (pc := 12) h r (dk dt_X12_which 6 rfl) (Nat.le_of_ble_eq_true rfl) (Nat.le_of_ble_eq_true rfl) (PT_n (rcN_1 d4) (by decide))
theorem c_X12_best (hst : l.stackTraces = false) (hE : eqJ μ) (hW : eqW μ) (hO : hOK μ) (hn : μ 1 9 = (n : Int)) :
    Ct l B D E yX12_best (.code yX12_best cX12_best 5 (some .int)) rm_X12_best [.ref (pl B 123)] μ (fun v m => v = some (iI (bstF (bstG μ n) 20).1) ∧ fT μ m) NX := by
  have hOW := hO.W
  have hD := okJD hO.J hn
  have e9 := eqJ_n hE hn
  have hf : ∀ k : Nat, 1 ≤ k → k ≤ 20 → 0 ≤ bstG μ n k ∧ bstG μ n k ≤ 30000 := fun k h1 h2 => smF_e hD (okK_kof (by omega) (by omega) hOW.2.1 hOW.2.2.2 hOW.2.2.1)
  have hbf : ∀ k : Nat, k ≤ 20 → 1 ≤ (bstF (bstG μ n) k).1 ∧ (bstF (bstG μ n) k).1 ≤ 20 ∧ 0 ≤ (bstF (bstG μ n) k).2 ∧ (bstF (bstG μ n) k).2 ≤ 30000 := by
    intro k
    induction k with
    | zero => intro _; simp [bstF]
    | succ k ih =>
      intro hk
      have h1 := ih (by omega)
      have h2 := hf (k + 1) (by omega) (by omega)
      simp only [bstF]
      split
      · simp only; omega
      · exact h1
  refine ct_of (own := RX12) (lv := [(0, _)]) hst (by decide) rfl rfl (Nat.le_of_ble_eq_true rfl) fun a h r t => ?_
  have loop : ∀ (d i : Nat) (m : Mm) (x : Int), i + d = 20 → frR μ m → ((i = 0 ∧ x = -1) ∨ (0 < i ∧ x = (bstF (bstG μ n) i).2)) → VV a B (SP B D E m) 0 0 6 [(3, iI ((i + 1 : Nat) : Int)), (2, iI x), (1, iI (bstF (bstG μ n) i).1), (0, .ref (pl B 123))] [] := by
    intro d
    induction d with
    | zero =>
      intro i m x hi fm hx
      have e : i = 20 := by omega
      subst e
      refine v_iload_n (pc := 6) h (dk dt_X12_best 6 rfl) rfl ?_
      refine v_bipush (pc := 7) h (dk dt_X12_best 7 rfl) rfl ?_
      refine v_icmp_gt (pc := 9) h 54 (dk dt_X12_best 8 rfl) rfl (by omega) (fun c9 => ?_) (fun c9 => ?_)
      ·
        refine v_aload_n (pc := 54) h (dk dt_X12_best 32 rfl) rfl ?_
        refine v_iload_n (pc := 55) h (dk dt_X12_best 33 rfl) rfl ?_
        refine v_cVi (pc := 56) h (c_X12_told h.quiet) kv_X12_told sh123 wM_X12_115 rfl rfl (Nat.le_of_ble_eq_true rfl) (RM.of rfl) rfl rfl (dk dt_X12_best 34 rfl) ?_
        exact v_iret (pc := 59) h r (dk dt_X12_best 35 rfl) (Nat.le_of_ble_eq_true rfl) (Nat.le_of_ble_eq_true rfl) ⟨rfl, frR_14 (x := 0) fm⟩
      ·
        exact absurd c9 (by omega)
    | succ d ih =>
      intro i m x hi fm hx
      have hOm := frR_O fm hO
      have hEm := frR_E fm hE
      have hWm := frR_W fm hW
      have hnm : m 1 9 = (n : Int) := by rw [fm.1 1 (by omega) (by omega)]; exact hn
      have jm1 : jm m = jm μ := jm_c (frR_J fm)
      have e27 : m 27 = μ 27 := fm.1 27 (by omega) (by omega)
      have h1 := hbf i (by omega)
      have h2 := hf (i + 1) (by omega) (by omega)
      have hok := okK_kof (r := 0) (s := ((i + 1 : Nat) : Int)) (c := μ 27 1) (le := μ 27 4) (ri := μ 27 2) (by omega) (by omega) hOW.2.1 hOW.2.2.2 hOW.2.2.1
      have eY : (i = 0 ∨ bstG μ n (i + 1) < (bstF (bstG μ n) i).2) → bstF (bstG μ n) (i + 1) = (((i + 1 : Nat) : Int), bstG μ n (i + 1)) := fun q => by rw [bstF, if_pos q]
      have eN : ¬ (i = 0 ∨ bstG μ n (i + 1) < (bstF (bstG μ n) i).2) → bstF (bstG μ n) (i + 1) = bstF (bstG μ n) i := fun q => by rw [bstF, if_neg q]
      refine v_iload_n (pc := 6) h (dk dt_X12_best 6 rfl) rfl ?_
      refine v_bipush (pc := 7) h (dk dt_X12_best 7 rfl) rfl ?_
      refine v_icmp_gt (pc := 9) h 54 (dk dt_X12_best 8 rfl) rfl (by omega) (fun c9 => ?_) (fun c9 => ?_)
      ·
        exact absurd c9 (by omega)
      ·
        refine v_aload_n (pc := 12) h (dk dt_X12_best 9 rfl) rfl ?_
        refine v_iconst (pc := 13) h (dk dt_X12_best 10 rfl) ?_
        refine v_iload_n (pc := 14) h (dk dt_X12_best 11 rfl) rfl ?_
        refine v_aload_n (pc := 15) h (dk dt_X12_best 12 rfl) rfl ?_
        refine v_geti (pc := 16) h ci12 sh123 (Nat.le_of_ble_eq_true rfl) (j := 11) wF_X12_132 rfl (dk dt_X12_best 13 rfl) ?_
        rw [hWm.2.1, e27]
        refine v_aload_n (pc := 19) h (dk dt_X12_best 14 rfl) rfl ?_
        refine v_geti (pc := 20) h ci12 sh123 (Nat.le_of_ble_eq_true rfl) (j := 15) wF_X12_135 rfl (dk dt_X12_best 15 rfl) ?_
        rw [hWm.2.2.2.2, e27]
        refine v_cV (pc := 23) h (c_mrun (n := n) h.quiet hEm hWm hOm hnm (by omega) (by omega) hOW.2.1 hOW.2.2.2) kv_X12_runs sh123 wM_X12_210 rfl rfl (Nat.le_of_ble_eq_true rfl) (RM.of rfl) rfl rfl (dk dt_X12_best 16 rfl) (fun v23 μ23 p23 => ?_)
        obtain ⟨rfl, f23, b23, e23⟩ := p23
        rw [e27, jm1] at b23 e23
        have fm2 := frR_tr fm f23
        refine v_aload_n (pc := 26) h (dk dt_X12_best 17 rfl) rfl ?_
        refine v_cVi (pc := 27) h (c_X12_sumOfWork (n := n) (J := jm μ) (K := kof 0 ((i + 1 : Nat) : Int) (μ 27 1) (μ 27 4) (μ 27 2)) (z := μ 27 3) h.quiet (by rw [fm2.2 9 (by decide) (by decide) (by decide)]; exact e9) hD hok ⟨b23, e23⟩) kv_X12_sumOfWork sh123 wM_X12_242 rfl rfl (Nat.le_of_ble_eq_true rfl) (RM.of rfl) rfl rfl (dk dt_X12_best 18 rfl) ?_
        rw [show sumE (jm μ) n (kof 0 ((i + 1 : Nat) : Int) (μ 27 1) (μ 27 4) (μ 27 2)) (μ 27 3) = bstG μ n (i + 1) from rfl]
        refine v_istore (lv' := [(4, _), (3, _), (2, _), (1, _), (0, _)]) (pc := 30) h (dk dt_X12_best 19 rfl) (Nat.le_of_ble_eq_true rfl) rfl ?_
        refine v_iload_n (pc := 32) h (dk dt_X12_best 20 rfl) rfl ?_
        refine v_iconst (pc := 33) h (dk dt_X12_best 21 rfl) ?_
        refine v_icmp_eq (pc := 34) h 43 (dk dt_X12_best 22 rfl) rfl (by omega) (fun c34 => ?_) (fun c34 => ?_)
        ·
          refine v_iload (pc := 43) h (dk dt_X12_best 26 rfl) rfl ?_
          refine v_istore_n (lv' := [(2, _), (4, _), (3, _), (1, _), (0, _)]) (pc := 45) h (dk dt_X12_best 27 rfl) (Nat.le_of_ble_eq_true rfl) rfl ?_
          refine v_iload_n (pc := 46) h (dk dt_X12_best 28 rfl) rfl ?_
          refine v_istore_n (lv' := [(1, _), (2, _), (4, _), (3, _), (0, _)]) (pc := 47) h (dk dt_X12_best 29 rfl) (Nat.le_of_ble_eq_true rfl) rfl ?_
          refine v_iinc (lv' := [(3, _), (1, _), (2, _), (4, _), (0, _)]) (pc := 48) h (dk dt_X12_best 30 rfl) rfl (Nat.le_of_ble_eq_true rfl) rfl ?_
          refine v_goto (pc := 51) h 6 (dk dt_X12_best 31 rfl) rfl ?_
          first
            | (have q : ¬ (i = 0 ∨ bstG μ n (i + 1) < (bstF (bstG μ n) i).2) := by omega
               have z := ih (i + 1) μ23 x (by omega) fm2 (Or.inr ⟨by omega, by rw [eN q]; omega⟩)
               rw [eN q] at z; exact VV.loc z ⟨rfl, rfl, rfl, rfl, trivial⟩)
            | (have q : i = 0 ∨ bstG μ n (i + 1) < (bstF (bstG μ n) i).2 := by omega
               have z := ih (i + 1) μ23 _ (by omega) fm2 (Or.inr ⟨by omega, by rw [eY q]⟩)
               rw [eY q] at z; exact VV.loc z ⟨rfl, rfl, rfl, rfl, trivial⟩)
        ·
          refine v_iload (pc := 37) h (dk dt_X12_best 23 rfl) rfl ?_
          refine v_iload_n (pc := 39) h (dk dt_X12_best 24 rfl) rfl ?_
          refine v_icmp_ge (pc := 40) h 48 (dk dt_X12_best 25 rfl) rfl (by omega) (fun c40 => ?_) (fun c40 => ?_)
          ·
            refine v_iinc (lv' := [(3, _), (4, _), (2, _), (1, _), (0, _)]) (pc := 48) h (dk dt_X12_best 30 rfl) rfl (Nat.le_of_ble_eq_true rfl) rfl ?_
            refine v_goto (pc := 51) h 6 (dk dt_X12_best 31 rfl) rfl ?_
            first
              | (have q : ¬ (i = 0 ∨ bstG μ n (i + 1) < (bstF (bstG μ n) i).2) := by omega
                 have z := ih (i + 1) μ23 x (by omega) fm2 (Or.inr ⟨by omega, by rw [eN q]; omega⟩)
                 rw [eN q] at z; exact VV.loc z ⟨rfl, rfl, rfl, rfl, trivial⟩)
              | (have q : i = 0 ∨ bstG μ n (i + 1) < (bstF (bstG μ n) i).2 := by omega
                 have z := ih (i + 1) μ23 _ (by omega) fm2 (Or.inr ⟨by omega, by rw [eY q]⟩)
                 rw [eY q] at z; exact VV.loc z ⟨rfl, rfl, rfl, rfl, trivial⟩)
          ·
            refine v_iload (pc := 43) h (dk dt_X12_best 26 rfl) rfl ?_
            refine v_istore_n (lv' := [(2, _), (4, _), (3, _), (1, _), (0, _)]) (pc := 45) h (dk dt_X12_best 27 rfl) (Nat.le_of_ble_eq_true rfl) rfl ?_
            refine v_iload_n (pc := 46) h (dk dt_X12_best 28 rfl) rfl ?_
            refine v_istore_n (lv' := [(1, _), (2, _), (4, _), (3, _), (0, _)]) (pc := 47) h (dk dt_X12_best 29 rfl) (Nat.le_of_ble_eq_true rfl) rfl ?_
            refine v_iinc (lv' := [(3, _), (1, _), (2, _), (4, _), (0, _)]) (pc := 48) h (dk dt_X12_best 30 rfl) rfl (Nat.le_of_ble_eq_true rfl) rfl ?_
            refine v_goto (pc := 51) h 6 (dk dt_X12_best 31 rfl) rfl ?_
            first
              | (have q : ¬ (i = 0 ∨ bstG μ n (i + 1) < (bstF (bstG μ n) i).2) := by omega
                 have z := ih (i + 1) μ23 x (by omega) fm2 (Or.inr ⟨by omega, by rw [eN q]; omega⟩)
                 rw [eN q] at z; exact VV.loc z ⟨rfl, rfl, rfl, rfl, trivial⟩)
              | (have q : i = 0 ∨ bstG μ n (i + 1) < (bstF (bstG μ n) i).2 := by omega
                 have z := ih (i + 1) μ23 _ (by omega) fm2 (Or.inr ⟨by omega, by rw [eY q]⟩)
                 rw [eY q] at z; exact VV.loc z ⟨rfl, rfl, rfl, rfl, trivial⟩)
  refine v_iconst (pc := 0) h (dk dt_X12_best 0 rfl) ?_
  refine v_istore_n (lv' := [(1, _), (0, _)]) (pc := 1) h (dk dt_X12_best 1 rfl) (Nat.le_of_ble_eq_true rfl) rfl ?_
  refine v_iconst (pc := 2) h (dk dt_X12_best 2 rfl) ?_
  refine v_istore_n (lv' := [(2, _), (1, _), (0, _)]) (pc := 3) h (dk dt_X12_best 3 rfl) (Nat.le_of_ble_eq_true rfl) rfl ?_
  refine v_iconst (pc := 4) h (dk dt_X12_best 4 rfl) ?_
  refine v_istore_n (lv' := [(3, _), (2, _), (1, _), (0, _)]) (pc := 5) h (dk dt_X12_best 5 rfl) (Nat.le_of_ble_eq_true rfl) rfl ?_
  exact VV.loc (loop 20 0 μ (-1) (by omega) frR_rf (Or.inl ⟨rfl, rfl⟩)) ⟨rfl, rfl, rfl, rfl, trivial⟩
def smH (x : Nat → Int) (n : Nat) : Prop := smW x n
theorem c_X12_isAnyWaiting (hst : l.stackTraces = false) (hE : eqJ μ) (hO : hOK μ) (hn : μ 1 9 = (n : Int)) :
    Ct l B D E yX12_isAnyWaiting (.code yX12_isAnyWaiting cX12_isAnyWaiting 3 (some .boolean)) rm_X12_isAnyWaiting [.ref (pl B 123)] μ (ri (if smW (μ 11) n then 1 else 0) μ) NX := by
  have e9 := eqJ_n hE hn
  have hn12 := hO.J.1
  have e128 : μ 128 = μ 11 := hE.1.2.2.2.2.1
  refine ct_of (own := RX12) (lv := [(0, _)]) hst (by decide) rfl rfl (Nat.le_of_ble_eq_true rfl) fun a h r t => ?_
  have loop : ∀ (d i : Nat) (x : Int), i + d = n → (x = 0 ∨ x = 1) → (x = 0 → ¬ smH (μ 11) i) → (x = 1 → smH (μ 11) n) → VV a B (SP B D E μ) 0 0 4 [(2, iI (i : Int)), (1, iI x), (0, .ref (pl B 123))] [] := by
    intro d
    induction d with
    | zero =>
      intro i x hi hx q0 q1
      have e : i = n := by omega
      subst e
      have ex : (if smW (μ 11) i then (1 : Int) else 0) = x := by
        rcases hx with e | e
        · rw [if_neg (show ¬ smW (μ 11) i from q0 e), e]
        · rw [if_pos (show smW (μ 11) i from q1 e), e]
      rw [ex] at r
      refine v_iload_n (pc := 4) h (dk dt_X12_isAnyWaiting 4 rfl) rfl ?_
      refine v_aload_n (pc := 5) h (dk dt_X12_isAnyWaiting 5 rfl) rfl ?_
      refine v_geti (pc := 6) h ci12 sh123 (Nat.le_of_ble_eq_true rfl) (j := 9) wF_X12_108 rfl (dk dt_X12_isAnyWaiting 6 rfl) ?_
      refine v_icmp_ge (pc := 9) h 37 (dk dt_X12_isAnyWaiting 7 rfl) rfl (by omega) (fun c9 => ?_) (fun c9 => ?_)
      ·
        refine v_iload_n (pc := 37) h (dk dt_X12_isAnyWaiting 21 rfl) rfl ?_
        exact v_zret (pc := 38) h r (dk dt_X12_isAnyWaiting 22 rfl) (Nat.le_of_ble_eq_true rfl) (Nat.le_of_ble_eq_true rfl) (by omega) ⟨rfl, rfl⟩
      ·
        exact absurd c9 (by omega)
    | succ d ih =>
      intro i x hi hx q0 q1
      have hJ := (hO.J.2 i (by omega)).2.2.2.2.1
      have h2i : 2 ^ i ≤ 2 ^ 12 := p2lt (by omega)
      have e128i : μ 128 i = μ 11 i := by rw [e128]
      refine v_iload_n (pc := 4) h (dk dt_X12_isAnyWaiting 4 rfl) rfl ?_
      refine v_aload_n (pc := 5) h (dk dt_X12_isAnyWaiting 5 rfl) rfl ?_
      refine v_geti (pc := 6) h ci12 sh123 (Nat.le_of_ble_eq_true rfl) (j := 9) wF_X12_108 rfl (dk dt_X12_isAnyWaiting 6 rfl) ?_
      refine v_icmp_ge (pc := 9) h 37 (dk dt_X12_isAnyWaiting 7 rfl) rfl (by omega) (fun c9 => ?_) (fun c9 => ?_)
      ·
        exact absurd c9 (by omega)
      ·
        refine v_iload_n (pc := 12) h (dk dt_X12_isAnyWaiting 8 rfl) rfl ?_
        refine v_if_ne (pc := 13) h 25 (dk dt_X12_isAnyWaiting 9 rfl) rfl (by omega) (fun c13 => ?_) (fun c13 => ?_)
        ·
          have g13 : smH (μ 11) n := q1 (by omega)
          refine v_iconst (pc := 25) h (dk dt_X12_isAnyWaiting 15 rfl) ?_
          refine v_goto (pc := 26) h 30 (dk dt_X12_isAnyWaiting 16 rfl) rfl ?_
          refine v_istore_n (lv' := [(1, _), (2, _), (0, _)]) (pc := 30) h (dk dt_X12_isAnyWaiting 18 rfl) (Nat.le_of_ble_eq_true rfl) rfl ?_
          refine v_iinc (lv' := [(2, _), (1, _), (0, _)]) (pc := 31) h (dk dt_X12_isAnyWaiting 19 rfl) rfl (Nat.le_of_ble_eq_true rfl) rfl ?_
          refine v_goto (pc := 34) h 4 (dk dt_X12_isAnyWaiting 20 rfl) rfl ?_
          first
            | (have q := g13; exact VV.loc (ih (i + 1) 1 (by omega) (Or.inr rfl) (fun z => absurd z (by decide)) (fun _ => q)) ⟨rfl, rfl, rfl, trivial⟩)
            | exact VV.loc (ih (i + 1) 0 (by omega) (Or.inl rfl) (fun _ z => by obtain ⟨j, j1, j2⟩ := z; by_cases e : j = i; (rw [e, c22] at j2; exact j2 rfl); exact q0 (by omega) ⟨j, by omega, j2⟩) (fun z => absurd z (by decide))) ⟨rfl, rfl, rfl, trivial⟩
        ·
          refine v_aload_n (pc := 16) h (dk dt_X12_isAnyWaiting 10 rfl) rfl ?_
          refine v_getr (pc := 17) h ci12 sh123 (Nat.le_of_ble_eq_true rfl) (j := 4) wF_X12_22 rfl (dk dt_X12_isAnyWaiting 11 rfl) ?_
          refine v_iload_n (pc := 20) h (dk dt_X12_isAnyWaiting 12 rfl) rfl ?_
          refine v_iald (pc := 21) h sh128 (Nat.le_of_ble_eq_true rfl) (by omega) (dk dt_X12_isAnyWaiting 13 rfl) ?_
          rw [Int.toNat_natCast, e128i]
          refine v_if_eq (pc := 22) h 29 (dk dt_X12_isAnyWaiting 14 rfl) rfl (by omega) (fun c22 => ?_) (fun c22 => ?_)
          ·
            refine v_iconst (pc := 29) h (dk dt_X12_isAnyWaiting 17 rfl) ?_
            refine v_istore_n (lv' := [(1, _), (2, _), (0, _)]) (pc := 30) h (dk dt_X12_isAnyWaiting 18 rfl) (Nat.le_of_ble_eq_true rfl) rfl ?_
            refine v_iinc (lv' := [(2, _), (1, _), (0, _)]) (pc := 31) h (dk dt_X12_isAnyWaiting 19 rfl) rfl (Nat.le_of_ble_eq_true rfl) rfl ?_
            refine v_goto (pc := 34) h 4 (dk dt_X12_isAnyWaiting 20 rfl) rfl ?_
            first
              | (have q := g13; exact VV.loc (ih (i + 1) 1 (by omega) (Or.inr rfl) (fun z => absurd z (by decide)) (fun _ => q)) ⟨rfl, rfl, rfl, trivial⟩)
              | exact VV.loc (ih (i + 1) 0 (by omega) (Or.inl rfl) (fun _ z => by obtain ⟨j, j1, j2⟩ := z; by_cases e : j = i; (rw [e, c22] at j2; exact j2 rfl); exact q0 (by omega) ⟨j, by omega, j2⟩) (fun z => absurd z (by decide))) ⟨rfl, rfl, rfl, trivial⟩
          ·
            have g13 : smH (μ 11) n := ⟨i, by omega, c22⟩
            refine v_iconst (pc := 25) h (dk dt_X12_isAnyWaiting 15 rfl) ?_
            refine v_goto (pc := 26) h 30 (dk dt_X12_isAnyWaiting 16 rfl) rfl ?_
            refine v_istore_n (lv' := [(1, _), (2, _), (0, _)]) (pc := 30) h (dk dt_X12_isAnyWaiting 18 rfl) (Nat.le_of_ble_eq_true rfl) rfl ?_
            refine v_iinc (lv' := [(2, _), (1, _), (0, _)]) (pc := 31) h (dk dt_X12_isAnyWaiting 19 rfl) rfl (Nat.le_of_ble_eq_true rfl) rfl ?_
            refine v_goto (pc := 34) h 4 (dk dt_X12_isAnyWaiting 20 rfl) rfl ?_
            first
              | (have q := g13; exact VV.loc (ih (i + 1) 1 (by omega) (Or.inr rfl) (fun z => absurd z (by decide)) (fun _ => q)) ⟨rfl, rfl, rfl, trivial⟩)
              | exact VV.loc (ih (i + 1) 0 (by omega) (Or.inl rfl) (fun _ z => by obtain ⟨j, j1, j2⟩ := z; by_cases e : j = i; (rw [e, c22] at j2; exact j2 rfl); exact q0 (by omega) ⟨j, by omega, j2⟩) (fun z => absurd z (by decide))) ⟨rfl, rfl, rfl, trivial⟩
  refine v_iconst (pc := 0) h (dk dt_X12_isAnyWaiting 0 rfl) ?_
  refine v_istore_n (lv' := [(1, _), (0, _)]) (pc := 1) h (dk dt_X12_isAnyWaiting 1 rfl) (Nat.le_of_ble_eq_true rfl) rfl ?_
  refine v_iconst (pc := 2) h (dk dt_X12_isAnyWaiting 2 rfl) ?_
  refine v_istore_n (lv' := [(2, _), (1, _), (0, _)]) (pc := 3) h (dk dt_X12_isAnyWaiting 3 rfl) (Nat.le_of_ble_eq_true rfl) rfl ?_
  exact VV.loc (loop n 0 0 (by omega) (Or.inl rfl) (fun _ z => by obtain ⟨j, j1, -⟩ := z; omega) (fun z => absurd z (by decide))) ⟨rfl, rfl, rfl, trivial⟩
theorem c_X12_areKept (hst : l.stackTraces = false) (e9 : μ 123 9 = (n : Int)) (hD : okD J n) (e126 : μ 126 = J 2) (hd : ∀ j : Nat, j < n → 0 ≤ J 2 j ∧ J 2 j ≤ 400) (hK : okK K) {z : Int} (hR : mR n K J z μ) :
    Ct l B D E yX12_areKept (.code yX12_areKept cX12_areKept 3 (some .boolean)) rm_X12_areKept [.ref (pl B 123)] μ (ri (if lateE J n K z = 0 then 1 else 0) μ) NX := by
  have hn12 := hD.1
  have hf := fn_is (K := K) hD hK (z := z)
  have htt := t_le hD hf.1
  have hP := hR.1.1
  have hlb := latN_b (J 2) ((fnF J n K z).1 1)
  unfold lateE
  refine ct_of (own := RX12) (lv := [(0, _)]) hst (by decide) rfl rfl (Nat.le_of_ble_eq_true rfl) fun a h r t => ?_
  have loop : ∀ (d i : Nat) (x : Int), i + d = n → ((x = 0 ∧ latN (J 2) ((fnF J n K z).1 1) i ≠ 0) ∨ (x = 1 ∧ latN (J 2) ((fnF J n K z).1 1) i = 0)) → VV a B (SP B D E μ) 0 0 4 [(2, iI (i : Int)), (1, iI x), (0, .ref (pl B 123))] [] := by
    intro d
    induction d with
    | zero =>
      intro i x hi hx
      have e : i = n := by omega
      subst e
      have ex : (if latN (J 2) ((fnF J i K z).1 1) i = 0 then (1 : Int) else 0) = x := by
        rcases hx with ⟨e1, e⟩ | ⟨e1, e⟩
        · rw [if_neg e, e1]
        · rw [if_pos e, e1]
      rw [ex] at r
      refine v_iload_n (pc := 4) h (dk dt_X12_areKept 4 rfl) rfl ?_
      refine v_aload_n (pc := 5) h (dk dt_X12_areKept 5 rfl) rfl ?_
      refine v_geti (pc := 6) h ci12 sh123 (Nat.le_of_ble_eq_true rfl) (j := 9) wF_X12_108 rfl (dk dt_X12_areKept 6 rfl) ?_
      refine v_icmp_ge (pc := 9) h 52 (dk dt_X12_areKept 7 rfl) rfl (by omega) (fun c9 => ?_) (fun c9 => ?_)
      ·
        refine v_iload_n (pc := 52) h (dk dt_X12_areKept 30 rfl) rfl ?_
        exact v_zret (pc := 53) h r (dk dt_X12_areKept 31 rfl) (Nat.le_of_ble_eq_true rfl) (Nat.le_of_ble_eq_true rfl) (by omega) ⟨rfl, rfl⟩
      ·
        exact absurd c9 (by omega)
    | succ d ih =>
      intro i x hi hx
      have hdi := hd i (by omega)
      have hPj := (hP i (by omega)).2.1
      have h1 := hf.1.1.2 i (by omega)
      have h2 := h1.2.2.2.2.1 (hf.2 i (by omega))
      have h3 := okD_c hD (j := i) (by omega)
      have hli := hlb i
      have e126i : μ 126 i = J 2 i := by rw [e126]
      have lN : latN (J 2) ((fnF J n K z).1 1) (i + 1) = latN (J 2) ((fnF J n K z).1 1) i + if 0 < lat (J 2 i) ((fnF J n K z).1 1 i) then 1 else 0 := rfl
      have l1 : J 2 i = 0 ∨ (fnF J n K z).1 1 i ≤ J 2 i → latN (J 2) ((fnF J n K z).1 1) (i + 1) = latN (J 2) ((fnF J n K z).1 1) i := fun q => by
        rw [lN, if_neg (by unfold lat; split; omega; rw [if_neg (by omega)]; omega)]; omega
      have l2 : ¬ (J 2 i = 0 ∨ (fnF J n K z).1 1 i ≤ J 2 i) → latN (J 2) ((fnF J n K z).1 1) (i + 1) ≠ 0 := fun q => by
        rw [lN, if_pos (by unfold lat; rw [if_neg (by omega), if_pos (by omega)]; omega)]; omega
      have l3 : latN (J 2) ((fnF J n K z).1 1) i ≠ 0 → latN (J 2) ((fnF J n K z).1 1) (i + 1) ≠ 0 := fun q => by
        by_cases e : J 2 i = 0 ∨ (fnF J n K z).1 1 i ≤ J 2 i
        · rw [l1 e]; exact q
        · exact l2 e
      refine v_iload_n (pc := 4) h (dk dt_X12_areKept 4 rfl) rfl ?_
      refine v_aload_n (pc := 5) h (dk dt_X12_areKept 5 rfl) rfl ?_
      refine v_geti (pc := 6) h ci12 sh123 (Nat.le_of_ble_eq_true rfl) (j := 9) wF_X12_108 rfl (dk dt_X12_areKept 6 rfl) ?_
      refine v_icmp_ge (pc := 9) h 52 (dk dt_X12_areKept 7 rfl) rfl (by omega) (fun c9 => ?_) (fun c9 => ?_)
      ·
        exact absurd c9 (by omega)
      ·
        refine v_iload_n (pc := 12) h (dk dt_X12_areKept 8 rfl) rfl ?_
        refine v_if_eq (pc := 13) h 44 (dk dt_X12_areKept 9 rfl) rfl (by omega) (fun c13 => ?_) (fun c13 => ?_)
        ·
          have g13 : latN (J 2) ((fnF J n K z).1 1) (i + 1) ≠ 0 := l3 (by omega)
          refine v_iconst (pc := 44) h (dk dt_X12_areKept 26 rfl) ?_
          refine v_istore_n (lv' := [(1, _), (2, _), (0, _)]) (pc := 45) h (dk dt_X12_areKept 27 rfl) (Nat.le_of_ble_eq_true rfl) rfl ?_
          refine v_iinc (lv' := [(2, _), (1, _), (0, _)]) (pc := 46) h (dk dt_X12_areKept 28 rfl) rfl (Nat.le_of_ble_eq_true rfl) rfl ?_
          refine v_goto (pc := 49) h 4 (dk dt_X12_areKept 29 rfl) rfl ?_
          first
            | (have q := g13; exact VV.loc (ih (i + 1) 0 (by omega) (Or.inl ⟨rfl, q⟩)) ⟨rfl, rfl, rfl, trivial⟩)
            | exact VV.loc (ih (i + 1) 1 (by omega) (Or.inr ⟨rfl, (l1 (by omega)).trans (by omega)⟩)) ⟨rfl, rfl, rfl, trivial⟩
        ·
          refine v_aload_n (pc := 16) h (dk dt_X12_areKept 10 rfl) rfl ?_
          refine v_getr (pc := 17) h ci12 sh123 (Nat.le_of_ble_eq_true rfl) (j := 2) wF_X12_16 rfl (dk dt_X12_areKept 11 rfl) ?_
          refine v_iload_n (pc := 20) h (dk dt_X12_areKept 12 rfl) rfl ?_
          refine v_iald (pc := 21) h sh126 (Nat.le_of_ble_eq_true rfl) (by omega) (dk dt_X12_areKept 13 rfl) ?_
          rw [Int.toNat_natCast, e126i]
          refine v_if_eq (pc := 22) h 40 (dk dt_X12_areKept 14 rfl) rfl (by omega) (fun c22 => ?_) (fun c22 => ?_)
          ·
            refine v_iconst (pc := 40) h (dk dt_X12_areKept 24 rfl) ?_
            refine v_goto (pc := 41) h 45 (dk dt_X12_areKept 25 rfl) rfl ?_
            refine v_istore_n (lv' := [(1, _), (2, _), (0, _)]) (pc := 45) h (dk dt_X12_areKept 27 rfl) (Nat.le_of_ble_eq_true rfl) rfl ?_
            refine v_iinc (lv' := [(2, _), (1, _), (0, _)]) (pc := 46) h (dk dt_X12_areKept 28 rfl) rfl (Nat.le_of_ble_eq_true rfl) rfl ?_
            refine v_goto (pc := 49) h 4 (dk dt_X12_areKept 29 rfl) rfl ?_
            first
              | (have q := g13; exact VV.loc (ih (i + 1) 0 (by omega) (Or.inl ⟨rfl, q⟩)) ⟨rfl, rfl, rfl, trivial⟩)
              | exact VV.loc (ih (i + 1) 1 (by omega) (Or.inr ⟨rfl, (l1 (by omega)).trans (by omega)⟩)) ⟨rfl, rfl, rfl, trivial⟩
          ·
            refine v_aload_n (pc := 25) h (dk dt_X12_areKept 15 rfl) rfl ?_
            refine v_getr (pc := 26) h ci12 sh123 (Nat.le_of_ble_eq_true rfl) (j := 28) wF_X12_77 rfl (dk dt_X12_areKept 16 rfl) ?_
            refine v_iload_n (pc := 29) h (dk dt_X12_areKept 17 rfl) rfl ?_
            refine v_iald (pc := 30) h sh142 (Nat.le_of_ble_eq_true rfl) (by omega) (dk dt_X12_areKept 18 rfl) ?_
            rw [Int.toNat_natCast, hPj]
            refine v_aload_n (pc := 31) h (dk dt_X12_areKept 19 rfl) rfl ?_
            refine v_getr (pc := 32) h ci12 sh123 (Nat.le_of_ble_eq_true rfl) (j := 2) wF_X12_16 rfl (dk dt_X12_areKept 20 rfl) ?_
            refine v_iload_n (pc := 35) h (dk dt_X12_areKept 21 rfl) rfl ?_
            refine v_iald (pc := 36) h sh126 (Nat.le_of_ble_eq_true rfl) (by omega) (dk dt_X12_areKept 22 rfl) ?_
            rw [Int.toNat_natCast, e126i]
            refine v_icmp_gt (pc := 37) h 44 (dk dt_X12_areKept 23 rfl) rfl (by omega) (fun c37 => ?_) (fun c37 => ?_)
            ·
              have g13 : latN (J 2) ((fnF J n K z).1 1) (i + 1) ≠ 0 := l2 (by omega)
              refine v_iconst (pc := 44) h (dk dt_X12_areKept 26 rfl) ?_
              refine v_istore_n (lv' := [(1, _), (2, _), (0, _)]) (pc := 45) h (dk dt_X12_areKept 27 rfl) (Nat.le_of_ble_eq_true rfl) rfl ?_
              refine v_iinc (lv' := [(2, _), (1, _), (0, _)]) (pc := 46) h (dk dt_X12_areKept 28 rfl) rfl (Nat.le_of_ble_eq_true rfl) rfl ?_
              refine v_goto (pc := 49) h 4 (dk dt_X12_areKept 29 rfl) rfl ?_
              first
                | (have q := g13; exact VV.loc (ih (i + 1) 0 (by omega) (Or.inl ⟨rfl, q⟩)) ⟨rfl, rfl, rfl, trivial⟩)
                | exact VV.loc (ih (i + 1) 1 (by omega) (Or.inr ⟨rfl, (l1 (by omega)).trans (by omega)⟩)) ⟨rfl, rfl, rfl, trivial⟩
            ·
              refine v_iconst (pc := 40) h (dk dt_X12_areKept 24 rfl) ?_
              refine v_goto (pc := 41) h 45 (dk dt_X12_areKept 25 rfl) rfl ?_
              refine v_istore_n (lv' := [(1, _), (2, _), (0, _)]) (pc := 45) h (dk dt_X12_areKept 27 rfl) (Nat.le_of_ble_eq_true rfl) rfl ?_
              refine v_iinc (lv' := [(2, _), (1, _), (0, _)]) (pc := 46) h (dk dt_X12_areKept 28 rfl) rfl (Nat.le_of_ble_eq_true rfl) rfl ?_
              refine v_goto (pc := 49) h 4 (dk dt_X12_areKept 29 rfl) rfl ?_
              first
                | (have q := g13; exact VV.loc (ih (i + 1) 0 (by omega) (Or.inl ⟨rfl, q⟩)) ⟨rfl, rfl, rfl, trivial⟩)
                | exact VV.loc (ih (i + 1) 1 (by omega) (Or.inr ⟨rfl, (l1 (by omega)).trans (by omega)⟩)) ⟨rfl, rfl, rfl, trivial⟩
  refine v_iconst (pc := 0) h (dk dt_X12_areKept 0 rfl) ?_
  refine v_istore_n (lv' := [(1, _), (0, _)]) (pc := 1) h (dk dt_X12_areKept 1 rfl) (Nat.le_of_ble_eq_true rfl) rfl ?_
  refine v_iconst (pc := 2) h (dk dt_X12_areKept 2 rfl) ?_
  refine v_istore_n (lv' := [(2, _), (1, _), (0, _)]) (pc := 3) h (dk dt_X12_areKept 3 rfl) (Nat.le_of_ble_eq_true rfl) rfl ?_
  exact VV.loc (loop n 0 1 (by omega) (Or.inr ⟨rfl, rfl⟩)) ⟨rfl, rfl, rfl, trivial⟩
theorem c_X12_isFeasible (hst : l.stackTraces = false) (hE : eqJ μ) (hW : eqW μ) (hO : hOK μ) (hn : μ 1 9 = (n : Int)) :
    Ct l B D E yX12_isFeasible (.code yX12_isFeasible cX12_isFeasible 1 (some .boolean)) rm_X12_isFeasible [.ref (pl B 123)] μ (PT (rcW (μ 11) n) (some (iI (if lateE (jm μ) n (kof 6 (μ 27 0) 0 (μ 27 4) (μ 27 2)) (μ 27 3) = 0 then 1 else 0))) μ) NX := by
  have hOW := hO.W
  have hD := okJD hO.J hn
  have e9 := eqJ_n hE hn
  have hok := okK_kof (r := 6) (s := μ 27 0) (c := 0) (le := μ 27 4) (ri := μ 27 2) (by omega) hOW.1 (by omega) hOW.2.2.2 hOW.2.2.1
  have hd : ∀ j : Nat, j < n → 0 ≤ μ 7 j ∧ μ 7 j ≤ 400 := fun j hj => (hO.J.2 j (by omega)).2.2.1
  refine ct_of (own := RX12) (lv := [(0, _)]) hst (by decide) rfl rfl (Nat.le_of_ble_eq_true rfl) fun a h r t => ?_
  have go13 : ¬ smW (μ 11) n → VV a B (SP B D E μ) 0 0 13 [(0, .ref (pl B 123))] [] := by
    intro hw
    have hrc : rcW (μ 11) n = 0 := by unfold rcW; rw [if_neg hw]
    have f0 : frR μ (mup (mup μ 123 14 0) 123 14 (μ 123 14)) := ⟨fun a h1 h2 => by funext b; rw [mup_nk h1, mup_nk h1], fun b h1 h2 h3 => by
      by_cases e : b = 14
      · rw [e, mup_eq]
      · rw [mup_ne (fun z => e z.2), mup_ne (fun z => e z.2)]⟩
    have g : ∀ a, a ≠ 123 → mup μ 123 14 0 a = μ a := fun a h => by funext b; exact mup_nk h
    have g2 : ∀ b, b ≠ 14 → mup μ 123 14 0 123 b = μ 123 b := fun b h => mup_ne (fun z => h z.2)
    have g3 : mup μ 123 14 0 123 14 = 0 := mup_eq _ _ _ _
    generalize hM : mup μ 123 14 0 = M at *
    have hEM : eqJ M := eqJ_c (fun a q => g a (by omega)) (g2 9 (by decide)) hE
    have hWM : eqW M := by unfold eqW; rw [g2 10 (by decide), g2 11 (by decide), g2 12 (by decide), g2 13 (by decide), g2 15 (by decide), g 27 (by decide)]; exact hW
    have hOM : hOK M := hO_c (fun a q => g a (by omega)) hO
    have hnM : M 1 9 = (n : Int) := by rw [g 1 (by decide)]; exact hn
    have jm1 : jm M = jm μ := jm_c (fun a q => g a (by omega))
    have e27 : M 27 = μ 27 := g 27 (by decide)
    refine v_aload_n (pc := 13) h (dk dt_X12_isFeasible 7 rfl) rfl ?_
    refine v_iconst (pc := 14) h (dk dt_X12_isFeasible 8 rfl) ?_
    refine v_put (pc := 15) h ci12 sh123 (Nat.le_of_ble_eq_true rfl) (j := 14) wF_X12_105 rfl rfl rfl rfl (dk dt_X12_isFeasible 9 rfl) ?_
    rw [hM]
    refine v_aload_n (pc := 18) h (dk dt_X12_isFeasible 10 rfl) rfl ?_
    refine v_bipush (pc := 19) h (dk dt_X12_isFeasible 11 rfl) rfl ?_
    refine v_aload_n (pc := 21) h (dk dt_X12_isFeasible 12 rfl) rfl ?_
    refine v_geti (pc := 22) h ci12 sh123 (Nat.le_of_ble_eq_true rfl) (j := 10) wF_X12_37 rfl (dk dt_X12_isFeasible 13 rfl) ?_
    rw [hWM.1, e27]
    refine v_iconst (pc := 25) h (dk dt_X12_isFeasible 14 rfl) ?_
    refine v_aload_n (pc := 26) h (dk dt_X12_isFeasible 15 rfl) rfl ?_
    refine v_geti (pc := 27) h ci12 sh123 (Nat.le_of_ble_eq_true rfl) (j := 15) wF_X12_135 rfl (dk dt_X12_isFeasible 16 rfl) ?_
    rw [hWM.2.2.2.2, e27]
    refine v_cV (pc := 30) h (c_mrun (n := n) h.quiet hEM hWM hOM hnM (by omega) hOW.1 (by omega) hOW.2.2.2) kv_X12_runs sh123 wM_X12_210 rfl rfl (Nat.le_of_ble_eq_true rfl) (RM.of rfl) rfl rfl (dk dt_X12_isFeasible 17 rfl) (fun v30 μ30 p30 => ?_)
    obtain ⟨rfl, f30, b30, e30⟩ := p30
    rw [e27, jm1] at b30 e30
    refine v_aload_n (pc := 33) h (dk dt_X12_isFeasible 18 rfl) rfl ?_
    refine v_cVi (pc := 34) h (c_X12_areKept (n := n) (J := jm μ) (K := kof 6 (μ 27 0) 0 (μ 27 4) (μ 27 2)) (z := μ 27 3) h.quiet (by rw [f30.2 9 (by decide) (by decide) (by decide), g2 9 (by decide)]; exact e9) hD (by rw [f30.1 126 (by decide) (by decide), g 126 (by decide)]; exact hE.1.2.2.1) hd hok ⟨b30, e30⟩) kv_X12_areKept sh123 wM_X12_254 rfl rfl (Nat.le_of_ble_eq_true rfl) (RM.of rfl) rfl rfl (dk dt_X12_isFeasible 19 rfl) ?_
    have hfin : fT μ μ30 := ⟨⟨fun a h1 h2 => by funext b; rw [mup_nk h1, f30.1 a h1 h2, g a h1], fun b h1 h2 h3 => by
      by_cases e : b = 14
      · rw [e, mup_eq]
      · rw [mup_ne (fun z => e z.2), f30.2 b h1 h2 h3, g2 b e]⟩, by rw [f30.2 14 (by decide) (by decide) (by decide)]; exact g3⟩
    exact v_zret (pc := 37) h r (dk dt_X12_isFeasible 20 rfl) (Nat.le_of_ble_eq_true rfl) (Nat.le_of_ble_eq_true rfl) (by split <;> omega) (PT_0 hrc hfin)
  refine v_aload_n (pc := 0) h (dk dt_X12_isFeasible 0 rfl) rfl ?_
  refine v_cVi (pc := 1) h (c_X12_isAnyWaiting (n := n) h.quiet hE hO hn) kv_X12_isAnyWaiting sh123 wM_X12_248 rfl rfl (Nat.le_of_ble_eq_true rfl) (RM.of rfl) rfl rfl (dk dt_X12_isFeasible 1 rfl) ?_
  refine v_if_eq (pc := 4) h 13 (dk dt_X12_isFeasible 2 rfl) rfl (by split <;> omega) (fun c4 => ?_) (fun c4 => ?_)
  ·
    have d4 : ¬ smW (μ 11) n := fun q => by rw [if_pos q] at c4; omega
    exact VV.loc (go13 d4) ⟨rfl, trivial⟩
  ·
    have d4 : smW (μ 11) n := by by_cases q : smW (μ 11) n; exact q; rw [if_neg q] at c4; omega
    refine v_aload_n (pc := 7) h (dk dt_X12_isFeasible 3 rfl) rfl ?_
    refine v_iconst (pc := 8) h (dk dt_X12_isFeasible 4 rfl) ?_
    refine v_cVi (pc := 9) h (c_X12_denies h.quiet) kv_X12_denies sh123 wM_X12_251 rfl rfl (Nat.le_of_ble_eq_true rfl) (RM.of rfl) rfl rfl (dk dt_X12_isFeasible 5 rfl) ?_
    exact v_zret (pc := 12) h r (dk dt_X12_isFeasible 6 rfl) (Nat.le_of_ble_eq_true rfl) (Nat.le_of_ble_eq_true rfl) (by omega) (PT_n (by unfold rcW; rw [if_pos d4]) (by decide))
end
