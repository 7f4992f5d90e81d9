/-! ===== the model: calls that ask of the latest run ===== -/
/-- both keep the same latest run -/
def eqH (μ : Mm) : Prop := ((-1 ≤ μ 123 25 ∧ μ 123 25 ≤ 8) ∧ (μ 0 7 = 1 ↔ ¬ μ 123 25 = -1)) ∧ (μ 0 7 = 1 → μ 123 24 = μ 47 0 ∧ (∀ t : Nat, (t : Int) < μ 47 0 → μ 136 t = μ 49 t) ∧ ∀ j : Nat, (j : Int) < μ 1 9 → μ 137 j = μ 44 j ∧ μ 138 j = μ 46 j ∧ (if μ 123 25 = 8 then μ 139 j else 0) = μ 30 j)
theorem doF_y {g : Nat → Int} {T z : Int} (h : 0 ≤ z ∧ z < T) : doF g T z = g z.toNat := by unfold doF; rw [if_pos h]
theorem doF_n {g : Nat → Int} {T z : Int} (h : ¬ (0 ≤ z ∧ z < T)) : doF g T z = -1 := by unfold doF; rw [if_neg h]
theorem lf_min {ln lg : Nat → Int} {T : Int} {j t : Nat} {z : Int} (h : (t : Int) ≤ z ∧ (t : Int) ≤ T) (h2 : z ≤ t ∨ T ≤ t) : lfF ln lg T j z = ln j - cntJ lg (j : Int) t := by
  unfold lfF
  split
  · rw [show z.toNat = t by omega]
  · rw [show T.toNat = t by omega]
theorem rcN_0 {x : Int} (h : x = 1) : rcN x = 0 := by unfold rcN; rw [if_neg (by omega)]
theorem rcN_1 {x : Int} (h : ¬ x = 1) : rcN x = 1 := by unfold rcN; rw [if_pos h]
section
variable {l : Launch} {B : Nat} {D : va_G} {E : Nat → ClassId} {μ m σ : Mm} {w n : Nat} {K : Nat → Int} {s : St} {J : Mm}
theorem c_X12_isRun (hst : l.stackTraces = false) (hH : eqH μ) :
    Ct l B D E yX12_isRun (.code yX12_isRun cX12_isRun 1 (some .boolean)) rm_X12_isRun [.ref (pl B 123)] μ (ri (if μ 0 7 = 1 then 1 else 0) μ) NX := by
  have h1 := hH.1.1
  have h2 := hH.1.2
  refine ct_of (own := RX12) (lv := [(0, _)]) hst (by decide) rfl rfl (Nat.le_of_ble_eq_true rfl) fun a h r t => ?_
  refine v_aload_n (pc := 0) h (dk dt_X12_isRun 0 rfl) rfl ?_
  refine v_geti (pc := 1) h ci12 sh123 (Nat.le_of_ble_eq_true rfl) (j := 25) wF_X12_68 rfl (dk dt_X12_isRun 1 rfl) ?_
  refine v_iconst (pc := 4) h (dk dt_X12_isRun 2 rfl) ?_
  refine v_icmp_eq (pc := 5) h 12 (dk dt_X12_isRun 3 rfl) rfl (by omega) (fun c5 => ?_) (fun c5 => ?_)
  ·
    refine v_iconst (pc := 12) h (dk dt_X12_isRun 6 rfl) ?_
    exact v_zret (pc := 13) h r (dk dt_X12_isRun 7 rfl) (Nat.le_of_ble_eq_true rfl) (Nat.le_of_ble_eq_true rfl) (by omega) ⟨by first | rw [if_pos (by omega)] | rw [if_neg (by omega)], rfl⟩
  ·
    refine v_iconst (pc := 8) h (dk dt_X12_isRun 4 rfl) ?_
    refine v_goto (pc := 9) h 13 (dk dt_X12_isRun 5 rfl) rfl ?_
    exact v_zret (pc := 13) h r (dk dt_X12_isRun 7 rfl) (Nat.le_of_ble_eq_true rfl) (Nat.le_of_ble_eq_true rfl) (by omega) ⟨by first | rw [if_pos (by omega)] | rw [if_neg (by omega)], rfl⟩
theorem c_X12_atMoment (hst : l.stackTraces = false) (hH : eqH μ) (hO : hOK μ) (h1 : μ 0 7 = 1) {z : Int} (hz : 0 ≤ z ∧ InR z) :
    Ct l B D E yX12_atMoment (.code yX12_atMoment cX12_atMoment 2 (some .int)) rm_X12_atMoment [.ref (pl B 123), iI z] μ (ri (doF (μ 49) (μ 47 0) z) μ) NX := by
  have hL := hH.2 h1
  have hC := (hO.R h1).1
  have hC1 := hC.1
  have e24 := hL.1
  refine ct_of (own := RX12) (lv := [(0, _), (1, _)]) hst (by decide) rfl rfl (Nat.le_of_ble_eq_true rfl) fun a h r t => ?_
  refine v_iload_n (pc := 0) h (dk dt_X12_atMoment 0 rfl) rfl ?_
  refine v_aload_n (pc := 1) h (dk dt_X12_atMoment 1 rfl) rfl ?_
  refine v_geti (pc := 2) h ci12 sh123 (Nat.le_of_ble_eq_true rfl) (j := 24) wF_X12_214 rfl (dk dt_X12_atMoment 2 rfl) ?_
  refine v_icmp_ge (pc := 5) h 17 (dk dt_X12_atMoment 3 rfl) rfl (by omega) (fun c5 => ?_) (fun c5 => ?_)
  ·
    rw [doF_n (show ¬ (0 ≤ z ∧ z < μ 47 0) by omega)] at r
    refine v_iconst (pc := 17) h (dk dt_X12_atMoment 9 rfl) ?_
    exact v_iret (pc := 18) h r (dk dt_X12_atMoment 10 rfl) (Nat.le_of_ble_eq_true rfl) (Nat.le_of_ble_eq_true rfl) ⟨rfl, rfl⟩
  ·
    have q : 0 ≤ z ∧ z < μ 47 0 := by omega
    have e : doF (μ 49) (μ 47 0) z = μ 136 z.toNat := (doF_y q).trans (hL.2.1 z.toNat (by omega)).symm
    rw [e] at r
    refine v_aload_n (pc := 8) h (dk dt_X12_atMoment 4 rfl) rfl ?_
    refine v_getr (pc := 9) h ci12 sh123 (Nat.le_of_ble_eq_true rfl) (j := 20) wF_X12_56 rfl (dk dt_X12_atMoment 5 rfl) ?_
    refine v_iload_n (pc := 12) h (dk dt_X12_atMoment 6 rfl) rfl ?_
    refine v_iald (pc := 13) h sh136 (Nat.le_of_ble_eq_true rfl) (by omega) (dk dt_X12_atMoment 7 rfl) ?_
    refine v_goto (pc := 14) h 18 (dk dt_X12_atMoment 8 rfl) rfl ?_
    exact v_iret (pc := 18) h r (dk dt_X12_atMoment 10 rfl) (Nat.le_of_ble_eq_true rfl) (Nat.le_of_ble_eq_true rfl) ⟨rfl, rfl⟩
theorem c_X12_running (hst : l.stackTraces = false) (hH : eqH μ) (hO : hOK μ) {z : Int} (hz : InR z) :
    Ct l B D E yX12_running (.code yX12_running cX12_running 2 (some .int)) rm_X12_running [.ref (pl B 123), iI z] μ (PM (rcM (μ 0 7) z) (some (iI (doF (μ 49) (μ 47 0) z))) μ (mup μ 123 14 0)) NX := by
  refine ct_of (own := RX12) (lv := [(0, _), (1, _)]) hst (by decide) rfl rfl (Nat.le_of_ble_eq_true rfl) fun a h r t => ?_
  refine v_iload_n (pc := 0) h (dk dt_X12_running 0 rfl) rfl ?_
  refine v_if_ge (pc := 1) h 10 (dk dt_X12_running 1 rfl) rfl (by omega) (fun c1 => ?_) (fun c1 => ?_)
  ·
    refine v_aload_n (pc := 10) h (dk dt_X12_running 6 rfl) rfl ?_
    refine v_cVi (pc := 11) h (c_X12_isRun h.quiet (by assumption)) kv_X12_isRun sh123 wM_X12_217 rfl rfl (Nat.le_of_ble_eq_true rfl) (RM.of rfl) rfl rfl (dk dt_X12_running 7 rfl) ?_
    refine v_if_eq (pc := 14) h 29 (dk dt_X12_running 8 rfl) rfl (by split <;> omega) (fun c14 => ?_) (fun c14 => ?_)
    ·
      have d14 : ¬ μ 0 7 = 1 := fun q => by rw [if_pos q] at c14; omega
      refine v_aload_n (pc := 29) h (dk dt_X12_running 15 rfl) rfl ?_
      refine v_iconst (pc := 30) h (dk dt_X12_running 16 rfl) ?_
      refine v_cVi (pc := 31) h (c_X12_refuse h.quiet) kv_X12_refuse sh123 wM_X12_119 rfl rfl (Nat.le_of_ble_eq_true rfl) (RM.of rfl) rfl rfl (dk dt_X12_running 17 rfl) ?_
      exact v_iret (pc := 34) h r (dk dt_X12_running 18 rfl) (Nat.le_of_ble_eq_true rfl) (Nat.le_of_ble_eq_true rfl) (by first | exact PM_0 (by unfold rcM; rw [if_neg (by omega), if_neg (by omega)]) | exact PM_n (by unfold rcM; rw [if_neg (by omega), if_pos d14]) (by decide))
    ·
      have d14 : μ 0 7 = 1 := by by_cases q : μ 0 7 = 1; exact q; rw [if_neg q] at c14; omega
      refine v_aload_n (pc := 17) h (dk dt_X12_running 9 rfl) rfl ?_
      refine v_aload_n (pc := 18) h (dk dt_X12_running 10 rfl) rfl ?_
      refine v_iload_n (pc := 19) h (dk dt_X12_running 11 rfl) rfl ?_
      refine v_cVi (pc := 20) h (c_X12_atMoment h.quiet (by assumption) (by assumption) (by assumption) (by omega)) kv_X12_atMoment sh123 wM_X12_221 rfl rfl (Nat.le_of_ble_eq_true rfl) (RM.of rfl) rfl rfl (dk dt_X12_running 12 rfl) ?_
      refine v_cVi (pc := 23) h (c_X12_told h.quiet) kv_X12_told sh123 wM_X12_115 rfl rfl (Nat.le_of_ble_eq_true rfl) (RM.of rfl) rfl rfl (dk dt_X12_running 13 rfl) ?_
      refine v_goto (pc := 26) h 34 (dk dt_X12_running 14 rfl) rfl ?_
      exact v_iret (pc := 34) h r (dk dt_X12_running 18 rfl) (Nat.le_of_ble_eq_true rfl) (Nat.le_of_ble_eq_true rfl) (by first | exact PM_0 (by unfold rcM; rw [if_neg (by omega), if_neg (by omega)]) | exact PM_n (by unfold rcM; rw [if_neg (by omega), if_pos d14]) (by decide))
  ·
    refine v_aload_n (pc := 4) h (dk dt_X12_running 2 rfl) rfl ?_
    refine v_iconst (pc := 5) h (dk dt_X12_running 3 rfl) ?_
    refine v_cVi (pc := 6) h (c_X12_refuse h.quiet) kv_X12_refuse sh123 wM_X12_119 rfl rfl (Nat.le_of_ble_eq_true rfl) (RM.of rfl) rfl rfl (dk dt_X12_running 4 rfl) ?_
    exact v_iret (pc := 9) h r (dk dt_X12_running 5 rfl) (Nat.le_of_ble_eq_true rfl) (Nat.le_of_ble_eq_true rfl) (PM_n (by unfold rcM; rw [if_pos (by omega)]) (by decide))
theorem c_X12_leftOf (hst : l.stackTraces = false) (hE : eqJ μ) (hH : eqH μ) (hO : hOK μ) (h1 : μ 0 7 = 1) {j : Nat} {z : Int} (hj : (j : Int) < μ 1 9) (hz : 0 ≤ z ∧ InR z) :
    Ct l B D E yX12_leftOf (.code yX12_leftOf cX12_leftOf 5 (some .int)) rm_X12_leftOf [.ref (pl B 123), iI (j : Int), iI z] μ (ri (lfF (μ 5) (μ 49) (μ 47 0) j z) μ) NX := by
  have hL := hH.2 h1
  have hC := (hO.R h1).1
  have hC1 := hC.1
  have hb := hO.J.1
  have e24 := hL.1
  have e125 : μ 125 j = μ 5 j := by rw [hE.1.2.1]
  have h5 := (hO.J.2 j hj).2.1
  refine ct_of (own := RX12) (lv := [(0, _), (1, _), (2, _)]) hst (by decide) rfl rfl (Nat.le_of_ble_eq_true rfl) fun a h r t => ?_
  have loop : ∀ (d i : Nat), i + d = 2304 → (i : Int) ≤ z → (i : Int) ≤ μ 47 0 → VV a B (SP B D E μ) 0 0 5 [(4, iI (i : Int)), (3, iI (cntJ (μ 49) (j : Int) i)), (0, .ref (pl B 123)), (1, iI (j : Int)), (2, iI z)] [] := by
    intro d
    induction d with
    | zero =>
      intro i hi q1 q2
      have hcb := cntJ_b (μ 49) (j : Int) i
      refine v_iload (pc := 5) h (dk dt_X12_leftOf 4 rfl) rfl ?_
      refine v_iload_n (pc := 7) h (dk dt_X12_leftOf 5 rfl) rfl ?_
      refine v_icmp_ge (pc := 8) h 45 (dk dt_X12_leftOf 6 rfl) rfl (by omega) (fun c8 => ?_) (fun c8 => ?_)
      ·
        refine v_aload_n (pc := 45) h (dk dt_X12_leftOf 25 rfl) rfl ?_
        refine v_getr (pc := 46) h ci12 sh123 (Nat.le_of_ble_eq_true rfl) (j := 1) wF_X12_13 rfl (dk dt_X12_leftOf 26 rfl) ?_
        refine v_iload_n (pc := 49) h (dk dt_X12_leftOf 27 rfl) rfl ?_
        refine v_iald (pc := 50) h sh125 (Nat.le_of_ble_eq_true rfl) (by omega) (dk dt_X12_leftOf 28 rfl) ?_
        rw [Int.toNat_natCast, e125]
        refine v_iload_n (pc := 51) h (dk dt_X12_leftOf 29 rfl) rfl ?_
        refine v_isub (pc := 52) h (dk dt_X12_leftOf 30 rfl) ?_
        exact v_iret (pc := 53) h r (dk dt_X12_leftOf 31 rfl) (Nat.le_of_ble_eq_true rfl) (Nat.le_of_ble_eq_true rfl) ⟨by rw [lf_min ⟨q1, q2⟩ (by omega)], rfl⟩
      ·
        refine v_iload (pc := 11) h (dk dt_X12_leftOf 7 rfl) rfl ?_
        refine v_aload_n (pc := 13) h (dk dt_X12_leftOf 8 rfl) rfl ?_
        refine v_geti (pc := 14) h ci12 sh123 (Nat.le_of_ble_eq_true rfl) (j := 24) wF_X12_214 rfl (dk dt_X12_leftOf 9 rfl) ?_
        refine v_icmp_ge (pc := 17) h 45 (dk dt_X12_leftOf 10 rfl) rfl (by omega) (fun c17 => ?_) (fun c17 => ?_)
        ·
          refine v_aload_n (pc := 45) h (dk dt_X12_leftOf 25 rfl) rfl ?_
          refine v_getr (pc := 46) h ci12 sh123 (Nat.le_of_ble_eq_true rfl) (j := 1) wF_X12_13 rfl (dk dt_X12_leftOf 26 rfl) ?_
          refine v_iload_n (pc := 49) h (dk dt_X12_leftOf 27 rfl) rfl ?_
          refine v_iald (pc := 50) h sh125 (Nat.le_of_ble_eq_true rfl) (by omega) (dk dt_X12_leftOf 28 rfl) ?_
          rw [Int.toNat_natCast, e125]
          refine v_iload_n (pc := 51) h (dk dt_X12_leftOf 29 rfl) rfl ?_
          refine v_isub (pc := 52) h (dk dt_X12_leftOf 30 rfl) ?_
          exact v_iret (pc := 53) h r (dk dt_X12_leftOf 31 rfl) (Nat.le_of_ble_eq_true rfl) (Nat.le_of_ble_eq_true rfl) ⟨by rw [lf_min ⟨q1, q2⟩ (by omega)], rfl⟩
        ·
          exact absurd c17 (by omega)
    | succ d ih =>
      intro i hi q1 q2
      have hcb := cntJ_b (μ 49) (j : Int) i
      have e1 : μ 49 i = (j : Int) → cntJ (μ 49) (j : Int) (i + 1) = cntJ (μ 49) (j : Int) i + 1 := fun q => by simp only [cntJ]; rw [if_pos q]
      have e0 : ¬ μ 49 i = (j : Int) → cntJ (μ 49) (j : Int) (i + 1) = cntJ (μ 49) (j : Int) i + 0 := fun q => by simp only [cntJ]; rw [if_neg q]
      refine v_iload (pc := 5) h (dk dt_X12_leftOf 4 rfl) rfl ?_
      refine v_iload_n (pc := 7) h (dk dt_X12_leftOf 5 rfl) rfl ?_
      refine v_icmp_ge (pc := 8) h 45 (dk dt_X12_leftOf 6 rfl) rfl (by omega) (fun c8 => ?_) (fun c8 => ?_)
      ·
        refine v_aload_n (pc := 45) h (dk dt_X12_leftOf 25 rfl) rfl ?_
        refine v_getr (pc := 46) h ci12 sh123 (Nat.le_of_ble_eq_true rfl) (j := 1) wF_X12_13 rfl (dk dt_X12_leftOf 26 rfl) ?_
        refine v_iload_n (pc := 49) h (dk dt_X12_leftOf 27 rfl) rfl ?_
        refine v_iald (pc := 50) h sh125 (Nat.le_of_ble_eq_true rfl) (by omega) (dk dt_X12_leftOf 28 rfl) ?_
        rw [Int.toNat_natCast, e125]
        refine v_iload_n (pc := 51) h (dk dt_X12_leftOf 29 rfl) rfl ?_
        refine v_isub (pc := 52) h (dk dt_X12_leftOf 30 rfl) ?_
        exact v_iret (pc := 53) h r (dk dt_X12_leftOf 31 rfl) (Nat.le_of_ble_eq_true rfl) (Nat.le_of_ble_eq_true rfl) ⟨by rw [lf_min ⟨q1, q2⟩ (by omega)], rfl⟩
      ·
        refine v_iload (pc := 11) h (dk dt_X12_leftOf 7 rfl) rfl ?_
        refine v_aload_n (pc := 13) h (dk dt_X12_leftOf 8 rfl) rfl ?_
        refine v_geti (pc := 14) h ci12 sh123 (Nat.le_of_ble_eq_true rfl) (j := 24) wF_X12_214 rfl (dk dt_X12_leftOf 9 rfl) ?_
        refine v_icmp_ge (pc := 17) h 45 (dk dt_X12_leftOf 10 rfl) rfl (by omega) (fun c17 => ?_) (fun c17 => ?_)
        ·
          refine v_aload_n (pc := 45) h (dk dt_X12_leftOf 25 rfl) rfl ?_
          refine v_getr (pc := 46) h ci12 sh123 (Nat.le_of_ble_eq_true rfl) (j := 1) wF_X12_13 rfl (dk dt_X12_leftOf 26 rfl) ?_
          refine v_iload_n (pc := 49) h (dk dt_X12_leftOf 27 rfl) rfl ?_
          refine v_iald (pc := 50) h sh125 (Nat.le_of_ble_eq_true rfl) (by omega) (dk dt_X12_leftOf 28 rfl) ?_
          rw [Int.toNat_natCast, e125]
          refine v_iload_n (pc := 51) h (dk dt_X12_leftOf 29 rfl) rfl ?_
          refine v_isub (pc := 52) h (dk dt_X12_leftOf 30 rfl) ?_
          exact v_iret (pc := 53) h r (dk dt_X12_leftOf 31 rfl) (Nat.le_of_ble_eq_true rfl) (Nat.le_of_ble_eq_true rfl) ⟨by rw [lf_min ⟨q1, q2⟩ (by omega)], rfl⟩
        ·
          refine v_iload_n (pc := 20) h (dk dt_X12_leftOf 11 rfl) rfl ?_
          refine v_aload_n (pc := 21) h (dk dt_X12_leftOf 12 rfl) rfl ?_
          refine v_getr (pc := 22) h ci12 sh123 (Nat.le_of_ble_eq_true rfl) (j := 20) wF_X12_56 rfl (dk dt_X12_leftOf 13 rfl) ?_
          refine v_iload (pc := 25) h (dk dt_X12_leftOf 14 rfl) rfl ?_
          refine v_iald (pc := 27) h sh136 (Nat.le_of_ble_eq_true rfl) (by omega) (dk dt_X12_leftOf 15 rfl) ?_
          rw [Int.toNat_natCast, hL.2.1 i (by omega)]
          have hq : -2 ≤ μ 49 i ∧ μ 49 i < 12 := hC.2 i (by omega)
          refine v_iload_n (pc := 28) h (dk dt_X12_leftOf 16 rfl) rfl ?_
          refine v_icmp_ne (pc := 29) h 36 (dk dt_X12_leftOf 17 rfl) rfl (by omega) (fun c29 => ?_) (fun c29 => ?_)
          ·
            refine v_iconst (pc := 36) h (dk dt_X12_leftOf 20 rfl) ?_
            refine v_iadd (pc := 37) h (dk dt_X12_leftOf 21 rfl) ?_
            refine v_istore_n (lv' := [(3, _), (4, _), (0, _), (1, _), (2, _)]) (pc := 38) h (dk dt_X12_leftOf 22 rfl) (Nat.le_of_ble_eq_true rfl) rfl ?_
            refine v_iinc (lv' := [(4, _), (3, _), (0, _), (1, _), (2, _)]) (pc := 39) h (dk dt_X12_leftOf 23 rfl) rfl (Nat.le_of_ble_eq_true rfl) rfl ?_
            refine v_goto (pc := 42) h 5 (dk dt_X12_leftOf 24 rfl) rfl ?_
            first
              | (have q := c29; exact VV.loc (lv' := [(4, _), (3, _), (0, _), (1, _), (2, _)]) (ih (i + 1) (by omega) (by omega) (by omega)) ⟨rfl, lvI (e1 (by omega)).symm, rfl, rfl, rfl, trivial⟩)
              | exact VV.loc (lv' := [(4, _), (3, _), (0, _), (1, _), (2, _)]) (ih (i + 1) (by omega) (by omega) (by omega)) ⟨rfl, lvI (e0 (by omega)).symm, rfl, rfl, rfl, trivial⟩
          ·
            refine v_iconst (pc := 32) h (dk dt_X12_leftOf 18 rfl) ?_
            refine v_goto (pc := 33) h 37 (dk dt_X12_leftOf 19 rfl) rfl ?_
            refine v_iadd (pc := 37) h (dk dt_X12_leftOf 21 rfl) ?_
            refine v_istore_n (lv' := [(3, _), (4, _), (0, _), (1, _), (2, _)]) (pc := 38) h (dk dt_X12_leftOf 22 rfl) (Nat.le_of_ble_eq_true rfl) rfl ?_
            refine v_iinc (lv' := [(4, _), (3, _), (0, _), (1, _), (2, _)]) (pc := 39) h (dk dt_X12_leftOf 23 rfl) rfl (Nat.le_of_ble_eq_true rfl) rfl ?_
            refine v_goto (pc := 42) h 5 (dk dt_X12_leftOf 24 rfl) rfl ?_
            first
              | (have q := c29; exact VV.loc (lv' := [(4, _), (3, _), (0, _), (1, _), (2, _)]) (ih (i + 1) (by omega) (by omega) (by omega)) ⟨rfl, lvI (e1 (by omega)).symm, rfl, rfl, rfl, trivial⟩)
              | exact VV.loc (lv' := [(4, _), (3, _), (0, _), (1, _), (2, _)]) (ih (i + 1) (by omega) (by omega) (by omega)) ⟨rfl, lvI (e0 (by omega)).symm, rfl, rfl, rfl, trivial⟩
  refine v_iconst (pc := 0) h (dk dt_X12_leftOf 0 rfl) ?_
  refine v_istore_n (lv' := [(3, _), (0, _), (1, _), (2, _)]) (pc := 1) h (dk dt_X12_leftOf 1 rfl) (Nat.le_of_ble_eq_true rfl) rfl ?_
  refine v_iconst (pc := 2) h (dk dt_X12_leftOf 2 rfl) ?_
  refine v_istore (lv' := [(4, _), (3, _), (0, _), (1, _), (2, _)]) (pc := 3) h (dk dt_X12_leftOf 3 rfl) (Nat.le_of_ble_eq_true rfl) rfl ?_
  exact VV.loc (loop 2304 0 (by omega) (by omega) (by omega)) ⟨rfl, rfl, rfl, rfl, rfl, trivial⟩
theorem c_X12_left (hst : l.stackTraces = false) (hE : eqJ μ) (hH : eqH μ) (hO : hOK μ) {j z : Int} (hj : InR j) (hz : InR z) :
    Ct l B D E yX12_left (.code yX12_left cX12_left 3 (some .int)) rm_X12_left [.ref (pl B 123), iI j, iI z] μ (PM (rcL (μ 1 9) (μ 0 7) j z) (some (iI (lfF (μ 5) (μ 49) (μ 47 0) j.toNat z))) μ (mup μ 123 14 0)) NX := by
  have hb := hO.J.1
  have e9 := hE.2
  refine ct_of (own := RX12) (lv := [(0, _), (1, _), (2, _)]) hst (by decide) rfl rfl (Nat.le_of_ble_eq_true rfl) fun a h r t => ?_
  have go31 : 0 ≤ j ∧ j < μ 1 9 → 0 ≤ z → μ 0 7 = 1 → VV a B (SP B D E μ) 0 0 31 [(0, .ref (pl B 123)), (1, iI j), (2, iI z)] [] := by
    intro h1 h2 h3
    obtain ⟨j', rfl⟩ : ∃ k : Nat, j = (k : Int) := ⟨j.toNat, by omega⟩
    refine v_aload_n (pc := 31) h (dk dt_X12_left 17 rfl) rfl ?_
    refine v_aload_n (pc := 32) h (dk dt_X12_left 18 rfl) rfl ?_
    refine v_iload_n (pc := 33) h (dk dt_X12_left 19 rfl) rfl ?_
    refine v_iload_n (pc := 34) h (dk dt_X12_left 20 rfl) rfl ?_
    refine v_cVi (pc := 35) h (c_X12_leftOf h.quiet (by assumption) (by assumption) (by assumption) (by assumption) (by omega) (by omega)) kv_X12_leftOf sh123 wM_X12_224 rfl rfl (Nat.le_of_ble_eq_true rfl) (RM.of rfl) rfl rfl (dk dt_X12_left 21 rfl) ?_
    refine v_cVi (pc := 38) h (c_X12_told h.quiet) kv_X12_told sh123 wM_X12_115 rfl rfl (Nat.le_of_ble_eq_true rfl) (RM.of rfl) rfl rfl (dk dt_X12_left 22 rfl) ?_
    refine v_goto (pc := 41) h 49 (dk dt_X12_left 23 rfl) rfl ?_
    exact v_iret (pc := 49) h r (dk dt_X12_left 27 rfl) (Nat.le_of_ble_eq_true rfl) (Nat.le_of_ble_eq_true rfl) (PM_0 (by unfold rcL; rw [if_neg (by omega), if_neg (by omega), if_neg (by omega)]))
  refine v_aload_n (pc := 0) h (dk dt_X12_left 0 rfl) rfl ?_
  refine v_iload_n (pc := 1) h (dk dt_X12_left 1 rfl) rfl ?_
  refine v_cVi (pc := 2) h (c_X12_isJob h.quiet (by omega) (by omega)) kv_X12_isJob sh123 wM_X12_125 rfl rfl (Nat.le_of_ble_eq_true rfl) (RM.of rfl) rfl rfl (dk dt_X12_left 2 rfl) ?_
  refine v_if_ne (pc := 5) h 14 (dk dt_X12_left 3 rfl) rfl (by split <;> omega) (fun c5 => ?_) (fun c5 => ?_)
  ·
    have d5 : 0 ≤ j ∧ j < μ 123 9 := by by_cases q : 0 ≤ j ∧ j < μ 123 9; exact q; rw [if_neg q] at c5; omega
    refine v_iload_n (pc := 14) h (dk dt_X12_left 8 rfl) rfl ?_
    refine v_if_ge (pc := 15) h 24 (dk dt_X12_left 9 rfl) rfl (by omega) (fun c15 => ?_) (fun c15 => ?_)
    ·
      refine v_aload_n (pc := 24) h (dk dt_X12_left 14 rfl) rfl ?_
      refine v_cVi (pc := 25) h (c_X12_isRun h.quiet (by assumption)) kv_X12_isRun sh123 wM_X12_217 rfl rfl (Nat.le_of_ble_eq_true rfl) (RM.of rfl) rfl rfl (dk dt_X12_left 15 rfl) ?_
      refine v_if_eq (pc := 28) h 44 (dk dt_X12_left 16 rfl) rfl (by split <;> omega) (fun c28 => ?_) (fun c28 => ?_)
      ·
        have d28 : ¬ μ 0 7 = 1 := fun q => by rw [if_pos q] at c28; omega
        refine v_aload_n (pc := 44) h (dk dt_X12_left 24 rfl) rfl ?_
        refine v_iconst (pc := 45) h (dk dt_X12_left 25 rfl) ?_
        refine v_cVi (pc := 46) h (c_X12_refuse h.quiet) kv_X12_refuse sh123 wM_X12_119 rfl rfl (Nat.le_of_ble_eq_true rfl) (RM.of rfl) rfl rfl (dk dt_X12_left 26 rfl) ?_
        exact v_iret (pc := 49) h r (dk dt_X12_left 27 rfl) (Nat.le_of_ble_eq_true rfl) (Nat.le_of_ble_eq_true rfl) (PM_n (by unfold rcL; rw [if_neg (by omega), if_neg (by omega), if_pos (by omega)]) (by decide))
      ·
        have d28 : μ 0 7 = 1 := by by_cases q : μ 0 7 = 1; exact q; rw [if_neg q] at c28; omega
        exact VV.loc (go31 ⟨by omega, by omega⟩ (by omega) d28) ⟨rfl, rfl, rfl, trivial⟩
    ·
      refine v_aload_n (pc := 18) h (dk dt_X12_left 10 rfl) rfl ?_
      refine v_iconst (pc := 19) h (dk dt_X12_left 11 rfl) ?_
      refine v_cVi (pc := 20) h (c_X12_refuse h.quiet) kv_X12_refuse sh123 wM_X12_119 rfl rfl (Nat.le_of_ble_eq_true rfl) (RM.of rfl) rfl rfl (dk dt_X12_left 12 rfl) ?_
      exact v_iret (pc := 23) h r (dk dt_X12_left 13 rfl) (Nat.le_of_ble_eq_true rfl) (Nat.le_of_ble_eq_true rfl) (PM_n (by unfold rcL; rw [if_neg (by omega), if_pos (by omega)]) (by decide))
  ·
    have d5 : ¬ (0 ≤ j ∧ j < μ 123 9) := fun q => by rw [if_pos q] at c5; omega
    refine v_aload_n (pc := 8) h (dk dt_X12_left 4 rfl) rfl ?_
    refine v_iconst (pc := 9) h (dk dt_X12_left 5 rfl) ?_
    refine v_cVi (pc := 10) h (c_X12_refuse h.quiet) kv_X12_refuse sh123 wM_X12_119 rfl rfl (Nat.le_of_ble_eq_true rfl) (RM.of rfl) rfl rfl (dk dt_X12_left 6 rfl) ?_
    exact v_iret (pc := 13) h r (dk dt_X12_left 7 rfl) (Nat.le_of_ble_eq_true rfl) (Nat.le_of_ble_eq_true rfl) (PM_n (by unfold rcL; rw [if_pos (by omega)]) (by decide))
theorem c_X12_work (hst : l.stackTraces = false) (hE : eqJ μ) (hH : eqH μ) (hO : hOK μ) (hn : μ 1 9 = (n : Int)) {z : Int} (hz : InR z) :
    Ct l B D E yX12_work (.code yX12_work cX12_work 4 (some .int)) rm_X12_work [.ref (pl B 123), iI z] μ (PM (rcM (μ 0 7) z) (some (iI (wkS (μ 3) (μ 5) (μ 49) (μ 47 0) z n))) μ (mup μ 123 14 0)) NX := by
  have hb := hO.J.1
  have e9 := eqJ_n hE hn
  refine ct_of (own := RX12) (lv := [(0, _), (1, _)]) hst (by decide) rfl rfl (Nat.le_of_ble_eq_true rfl) fun a h r t => ?_
  have loop : μ 0 7 = 1 → 0 ≤ z → ∀ (d i : Nat), i + d = n → VV a B (SP B D E μ) 0 0 27 [(3, iI (i : Int)), (2, iI (wkS (μ 3) (μ 5) (μ 49) (μ 47 0) z i)), (0, .ref (pl B 123)), (1, iI z)] [] := by
    intro h1 h0 d
    have hR := hO.R h1
    have hc := hR.1.1
    induction d with
    | zero =>
      intro i hi
      refine v_iload_n (pc := 27) h (dk dt_X12_work 17 rfl) rfl ?_
      refine v_aload_n (pc := 28) h (dk dt_X12_work 18 rfl) rfl ?_
      refine v_geti (pc := 29) h ci12 sh123 (Nat.le_of_ble_eq_true rfl) (j := 9) wF_X12_108 rfl (dk dt_X12_work 19 rfl) ?_
      refine v_icmp_ge (pc := 32) h 64 (dk dt_X12_work 20 rfl) rfl (by omega) (fun c32 => ?_) (fun c32 => ?_)
      ·
        refine v_aload_n (pc := 64) h (dk dt_X12_work 38 rfl) rfl ?_
        refine v_iload_n (pc := 65) h (dk dt_X12_work 39 rfl) rfl ?_
        refine v_cVi (pc := 66) h (c_X12_told h.quiet) kv_X12_told sh123 wM_X12_115 rfl rfl (Nat.le_of_ble_eq_true rfl) (RM.of rfl) rfl rfl (dk dt_X12_work 40 rfl) ?_
        exact v_iret (pc := 69) h r (dk dt_X12_work 41 rfl) (Nat.le_of_ble_eq_true rfl) (Nat.le_of_ble_eq_true rfl) (by rw [show i = n by omega]; exact PM_0 (by unfold rcM; rw [if_neg (by omega), if_neg (by omega)]))
      ·
        exact absurd c32 (by omega)
    | succ d ih =>
      intro i hi
      have hJ := hO.J.2 i (by omega)
      have hl := lfF_b (lg := μ 49) (ln := μ 5) (T := μ 47 0) (j := i) hJ.2.1 hc h0
      have e124 : μ 124 i = μ 3 i := by rw [hE.1.1]
      have eN : ¬ μ 3 i ≤ z → wkS (μ 3) (μ 5) (μ 49) (μ 47 0) z (i + 1) = wkS (μ 3) (μ 5) (μ 49) (μ 47 0) z i + 0 := fun q => by rw [wkS, if_neg q]
      have eY : μ 3 i ≤ z → wkS (μ 3) (μ 5) (μ 49) (μ 47 0) z (i + 1) = wkS (μ 3) (μ 5) (μ 49) (μ 47 0) z i + lfF (μ 5) (μ 49) (μ 47 0) i z := fun q => by rw [wkS, if_pos q]
      refine v_iload_n (pc := 27) h (dk dt_X12_work 17 rfl) rfl ?_
      refine v_aload_n (pc := 28) h (dk dt_X12_work 18 rfl) rfl ?_
      refine v_geti (pc := 29) h ci12 sh123 (Nat.le_of_ble_eq_true rfl) (j := 9) wF_X12_108 rfl (dk dt_X12_work 19 rfl) ?_
      refine v_icmp_ge (pc := 32) h 64 (dk dt_X12_work 20 rfl) rfl (by omega) (fun c32 => ?_) (fun c32 => ?_)
      ·
        exact absurd c32 (by omega)
      ·
        refine v_iload_n (pc := 35) h (dk dt_X12_work 21 rfl) rfl ?_
        refine v_aload_n (pc := 36) h (dk dt_X12_work 22 rfl) rfl ?_
        refine v_getr (pc := 37) h ci12 sh123 (Nat.le_of_ble_eq_true rfl) (j := 0) wF_X12_7 rfl (dk dt_X12_work 23 rfl) ?_
        refine v_iload_n (pc := 40) h (dk dt_X12_work 24 rfl) rfl ?_
        refine v_iald (pc := 41) h sh124 (Nat.le_of_ble_eq_true rfl) (by omega) (dk dt_X12_work 25 rfl) ?_
        rw [Int.toNat_natCast, e124]
        refine v_iload_n (pc := 42) h (dk dt_X12_work 26 rfl) rfl ?_
        refine v_icmp_gt (pc := 43) h 55 (dk dt_X12_work 27 rfl) rfl (by omega) (fun c43 => ?_) (fun c43 => ?_)
        ·
          refine v_iconst (pc := 55) h (dk dt_X12_work 33 rfl) ?_
          refine v_iadd (pc := 56) h (dk dt_X12_work 34 rfl) ?_
          refine v_istore_n (lv' := [(2, _), (3, _), (0, _), (1, _)]) (pc := 57) h (dk dt_X12_work 35 rfl) (Nat.le_of_ble_eq_true rfl) rfl ?_
          refine v_iinc (lv' := [(3, _), (2, _), (0, _), (1, _)]) (pc := 58) h (dk dt_X12_work 36 rfl) rfl (Nat.le_of_ble_eq_true rfl) rfl ?_
          refine v_goto (pc := 61) h 27 (dk dt_X12_work 37 rfl) rfl ?_
          first
            | (have q : ¬ μ 3 i ≤ z := by omega
               exact VV.loc (lv' := [(3, _), (2, _), (0, _), (1, _)]) (ih (i + 1) (by omega)) ⟨rfl, lvI (eN q).symm, rfl, rfl, trivial⟩)
            | (have q : μ 3 i ≤ z := by omega
               exact VV.loc (lv' := [(3, _), (2, _), (0, _), (1, _)]) (ih (i + 1) (by omega)) ⟨rfl, lvI (eY q).symm, rfl, rfl, trivial⟩)
        ·
          refine v_aload_n (pc := 46) h (dk dt_X12_work 28 rfl) rfl ?_
          refine v_iload_n (pc := 47) h (dk dt_X12_work 29 rfl) rfl ?_
          refine v_iload_n (pc := 48) h (dk dt_X12_work 30 rfl) rfl ?_
          refine v_cVi (pc := 49) h (c_X12_leftOf h.quiet (by assumption) (by assumption) (by assumption) (by assumption) (by omega) (by omega)) kv_X12_leftOf sh123 wM_X12_224 rfl rfl (Nat.le_of_ble_eq_true rfl) (RM.of rfl) rfl rfl (dk dt_X12_work 31 rfl) ?_
          refine v_goto (pc := 52) h 56 (dk dt_X12_work 32 rfl) rfl ?_
          refine v_iadd (pc := 56) h (dk dt_X12_work 34 rfl) ?_
          refine v_istore_n (lv' := [(2, _), (3, _), (0, _), (1, _)]) (pc := 57) h (dk dt_X12_work 35 rfl) (Nat.le_of_ble_eq_true rfl) rfl ?_
          refine v_iinc (lv' := [(3, _), (2, _), (0, _), (1, _)]) (pc := 58) h (dk dt_X12_work 36 rfl) rfl (Nat.le_of_ble_eq_true rfl) rfl ?_
          refine v_goto (pc := 61) h 27 (dk dt_X12_work 37 rfl) rfl ?_
          first
            | (have q : ¬ μ 3 i ≤ z := by omega
               exact VV.loc (lv' := [(3, _), (2, _), (0, _), (1, _)]) (ih (i + 1) (by omega)) ⟨rfl, lvI (eN q).symm, rfl, rfl, trivial⟩)
            | (have q : μ 3 i ≤ z := by omega
               exact VV.loc (lv' := [(3, _), (2, _), (0, _), (1, _)]) (ih (i + 1) (by omega)) ⟨rfl, lvI (eY q).symm, rfl, rfl, trivial⟩)
  refine v_iload_n (pc := 0) h (dk dt_X12_work 0 rfl) rfl ?_
  refine v_if_ge (pc := 1) h 10 (dk dt_X12_work 1 rfl) rfl (by omega) (fun c1 => ?_) (fun c1 => ?_)
  ·
    refine v_aload_n (pc := 10) h (dk dt_X12_work 6 rfl) rfl ?_
    refine v_cVi (pc := 11) h (c_X12_isRun h.quiet (by assumption)) kv_X12_isRun sh123 wM_X12_217 rfl rfl (Nat.le_of_ble_eq_true rfl) (RM.of rfl) rfl rfl (dk dt_X12_work 7 rfl) ?_
    refine v_if_ne (pc := 14) h 23 (dk dt_X12_work 8 rfl) rfl (by split <;> omega) (fun c14 => ?_) (fun c14 => ?_)
    ·
      have d14 : μ 0 7 = 1 := by by_cases q : μ 0 7 = 1; exact q; rw [if_neg q] at c14; omega
      refine v_iconst (pc := 23) h (dk dt_X12_work 13 rfl) ?_
      refine v_istore_n (lv' := [(2, _), (0, _), (1, _)]) (pc := 24) h (dk dt_X12_work 14 rfl) (Nat.le_of_ble_eq_true rfl) rfl ?_
      refine v_iconst (pc := 25) h (dk dt_X12_work 15 rfl) ?_
      refine v_istore_n (lv' := [(3, _), (2, _), (0, _), (1, _)]) (pc := 26) h (dk dt_X12_work 16 rfl) (Nat.le_of_ble_eq_true rfl) rfl ?_
      exact VV.loc (loop d14 (by omega) n 0 (by omega)) ⟨rfl, rfl, rfl, rfl, trivial⟩
    ·
      have d14 : ¬ μ 0 7 = 1 := fun q => by rw [if_pos q] at c14; omega
      refine v_aload_n (pc := 17) h (dk dt_X12_work 9 rfl) rfl ?_
      refine v_iconst (pc := 18) h (dk dt_X12_work 10 rfl) ?_
      refine v_cVi (pc := 19) h (c_X12_refuse h.quiet) kv_X12_refuse sh123 wM_X12_119 rfl rfl (Nat.le_of_ble_eq_true rfl) (RM.of rfl) rfl rfl (dk dt_X12_work 11 rfl) ?_
      exact v_iret (pc := 22) h r (dk dt_X12_work 12 rfl) (Nat.le_of_ble_eq_true rfl) (Nat.le_of_ble_eq_true rfl) (PM_n (by unfold rcM; rw [if_neg (by omega), if_pos d14]) (by decide))
  ·
    refine v_aload_n (pc := 4) h (dk dt_X12_work 2 rfl) rfl ?_
    refine v_iconst (pc := 5) h (dk dt_X12_work 3 rfl) ?_
    refine v_cVi (pc := 6) h (c_X12_refuse h.quiet) kv_X12_refuse sh123 wM_X12_119 rfl rfl (Nat.le_of_ble_eq_true rfl) (RM.of rfl) rfl rfl (dk dt_X12_work 4 rfl) ?_
    exact v_iret (pc := 9) h r (dk dt_X12_work 5 rfl) (Nat.le_of_ble_eq_true rfl) (Nat.le_of_ble_eq_true rfl) (PM_n (by unfold rcM; rw [if_pos (by omega)]) (by decide))
theorem c_X12_end (hst : l.stackTraces = false) (hE : eqJ μ) (hH : eqH μ) (hO : hOK μ) {j : Int} (hj : InR j) :
    Ct l B D E yX12_end (.code yX12_end cX12_end 2 (some .int)) rm_X12_end [.ref (pl B 123), iI j] μ (PM (rcJ (μ 1 9) (μ 0 7) j) (some (iI (μ 44 j.toNat))) μ (mup μ 123 14 0)) NX := by
  have hb := hO.J.1
  have e9 := hE.2
  refine ct_of (own := RX12) (lv := [(0, _), (1, _)]) hst (by decide) rfl rfl (Nat.le_of_ble_eq_true rfl) fun a h r t => ?_
  have hrc : 0 ≤ j ∧ j < μ 1 9 → μ 0 7 = 1 → rcJ (μ 1 9) (μ 0 7) j = 0 := fun q1 q2 => by unfold rcJ; rw [if_neg (by omega), if_neg (by omega)]
  have go21 : 0 ≤ j ∧ j < μ 1 9 → μ 0 7 = 1 → VV a B (SP B D E μ) 0 0 21 [(0, .ref (pl B 123)), (1, iI j)] [] := by
    intro h1 h3
    have hrc1 := hrc h1 h3
    have hR := hO.R h3
    have hC := hR.1.1
    have hL := hH.2 h3
    have e24 := hL.1
    obtain ⟨j', rfl⟩ : ∃ k : Nat, j = (k : Int) := ⟨j.toNat, by omega⟩
    have hRj := hR.2 j' (by omega)
    have hJj := hO.J.2 j' (by omega)
    have hLj := hL.2.2 j' (by omega)
    have e126 : μ 126 j' = μ 7 j' := by rw [hE.1.2.2.1]
    rw [Int.toNat_natCast] at r
    refine v_aload_n (pc := 21) h (dk dt_X12_end 11 rfl) rfl ?_
    refine v_aload_n (pc := 22) h (dk dt_X12_end 12 rfl) rfl ?_
    refine v_getr (pc := 23) h ci12 sh123 (Nat.le_of_ble_eq_true rfl) (j := 21) wF_X12_59 rfl (dk dt_X12_end 13 rfl) ?_
    refine v_iload_n (pc := 26) h (dk dt_X12_end 14 rfl) rfl ?_
    refine v_iald (pc := 27) h sh137 (Nat.le_of_ble_eq_true rfl) (by omega) (dk dt_X12_end 15 rfl) ?_
    rw [Int.toNat_natCast, hLj.1]
    refine v_cVi (pc := 28) h (c_X12_told h.quiet) kv_X12_told sh123 wM_X12_115 rfl rfl (Nat.le_of_ble_eq_true rfl) (RM.of rfl) rfl rfl (dk dt_X12_end 16 rfl) ?_
    refine v_goto (pc := 31) h 39 (dk dt_X12_end 17 rfl) rfl ?_
    exact v_iret (pc := 39) h r (dk dt_X12_end 21 rfl) (Nat.le_of_ble_eq_true rfl) (Nat.le_of_ble_eq_true rfl) (PM_0 hrc1)
  refine v_aload_n (pc := 0) h (dk dt_X12_end 0 rfl) rfl ?_
  refine v_iload_n (pc := 1) h (dk dt_X12_end 1 rfl) rfl ?_
  refine v_cVi (pc := 2) h (c_X12_isJob h.quiet (by omega) (by omega)) kv_X12_isJob sh123 wM_X12_125 rfl rfl (Nat.le_of_ble_eq_true rfl) (RM.of rfl) rfl rfl (dk dt_X12_end 2 rfl) ?_
  refine v_if_ne (pc := 5) h 14 (dk dt_X12_end 3 rfl) rfl (by split <;> omega) (fun c5 => ?_) (fun c5 => ?_)
  ·
    have d5 : 0 ≤ j ∧ j < μ 123 9 := by by_cases q : 0 ≤ j ∧ j < μ 123 9; exact q; rw [if_neg q] at c5; omega
    refine v_aload_n (pc := 14) h (dk dt_X12_end 8 rfl) rfl ?_
    refine v_cVi (pc := 15) h (c_X12_isRun h.quiet (by assumption)) kv_X12_isRun sh123 wM_X12_217 rfl rfl (Nat.le_of_ble_eq_true rfl) (RM.of rfl) rfl rfl (dk dt_X12_end 9 rfl) ?_
    refine v_if_eq (pc := 18) h 34 (dk dt_X12_end 10 rfl) rfl (by split <;> omega) (fun c18 => ?_) (fun c18 => ?_)
    ·
      have d18 : ¬ μ 0 7 = 1 := fun q => by rw [if_pos q] at c18; omega
      refine v_aload_n (pc := 34) h (dk dt_X12_end 18 rfl) rfl ?_
      refine v_iconst (pc := 35) h (dk dt_X12_end 19 rfl) ?_
      refine v_cVi (pc := 36) h (c_X12_refuse h.quiet) kv_X12_refuse sh123 wM_X12_119 rfl rfl (Nat.le_of_ble_eq_true rfl) (RM.of rfl) rfl rfl (dk dt_X12_end 20 rfl) ?_
      exact v_iret (pc := 39) h r (dk dt_X12_end 21 rfl) (Nat.le_of_ble_eq_true rfl) (Nat.le_of_ble_eq_true rfl) (PM_n (by unfold rcJ; rw [if_neg (by omega), if_pos (by omega)]) (by decide))
    ·
      have d18 : μ 0 7 = 1 := by by_cases q : μ 0 7 = 1; exact q; rw [if_neg q] at c18; omega
      exact VV.loc (go21 ⟨by omega, by omega⟩ d18) ⟨rfl, rfl, trivial⟩
  ·
    have d5 : ¬ (0 ≤ j ∧ j < μ 123 9) := fun q => by rw [if_pos q] at c5; omega
    refine v_aload_n (pc := 8) h (dk dt_X12_end 4 rfl) rfl ?_
    refine v_iconst (pc := 9) h (dk dt_X12_end 5 rfl) ?_
    refine v_cVi (pc := 10) h (c_X12_refuse h.quiet) kv_X12_refuse sh123 wM_X12_119 rfl rfl (Nat.le_of_ble_eq_true rfl) (RM.of rfl) rfl rfl (dk dt_X12_end 6 rfl) ?_
    exact v_iret (pc := 13) h r (dk dt_X12_end 7 rfl) (Nat.le_of_ble_eq_true rfl) (Nat.le_of_ble_eq_true rfl) (PM_n (by unfold rcJ; rw [if_pos (by omega)]) (by decide))
theorem c_X12_sumOf (hst : l.stackTraces = false) (hE : eqJ μ) (hH : eqH μ) (hO : hOK μ) (hn : μ 1 9 = (n : Int)) (h1 : μ 0 7 = 1) :
    Ct l B D E yX12_sumOf (.code yX12_sumOf cX12_sumOf 3 (some .int)) rm_X12_sumOf [.ref (pl B 123)] μ (ri (smF (μ 44) n) μ) NX := by
  have hb := hO.J.1
  have e9 := eqJ_n hE hn
  have hL := hH.2 h1
  have hR := hO.R h1
  have hsm : ∀ i, i ≤ n → 0 ≤ smF (μ 44) i ∧ smF (μ 44) i ≤ 2304 * i := by
    intro i
    induction i with
    | zero => intro _; simp [smF]
    | succ i ih =>
      intro hi
      have := ih (by omega)
      have h2 := hR.2 i (by omega)
      have h3 := (hO.J.2 i (by omega)).1
      simp only [smF]
      omega
  refine ct_of (own := RX12) (lv := [(0, _)]) hst (by decide) rfl rfl (Nat.le_of_ble_eq_true rfl) fun a h r t => ?_
  have loop : ∀ (d i : Nat), i + d = n → VV a B (SP B D E μ) 0 0 4 [(2, iI (i : Int)), (1, iI (smF (μ 44) i)), (0, .ref (pl B 123))] [] := by
    intro d
    induction d with
    | zero =>
      intro i hi
      refine v_iload_n (pc := 4) h (dk dt_X12_sumOf 4 rfl) rfl ?_
      refine v_aload_n (pc := 5) h (dk dt_X12_sumOf 5 rfl) rfl ?_
      refine v_geti (pc := 6) h ci12 sh123 (Nat.le_of_ble_eq_true rfl) (j := 9) wF_X12_108 rfl (dk dt_X12_sumOf 6 rfl) ?_
      refine v_icmp_ge (pc := 9) h 27 (dk dt_X12_sumOf 7 rfl) rfl (by omega) (fun c9 => ?_) (fun c9 => ?_)
      ·
        refine v_iload_n (pc := 27) h (dk dt_X12_sumOf 17 rfl) rfl ?_
        exact v_iret (pc := 28) h r (dk dt_X12_sumOf 18 rfl) (Nat.le_of_ble_eq_true rfl) (Nat.le_of_ble_eq_true rfl) ⟨by rw [show i = n by omega], rfl⟩
      ·
        exact absurd c9 (by omega)
    | succ d ih =>
      intro i hi
      have hq := hsm i (by omega)
      have hLj := (hL.2.2 i (by omega)).1
      have hRj := hR.2 i (by omega)
      refine v_iload_n (pc := 4) h (dk dt_X12_sumOf 4 rfl) rfl ?_
      refine v_aload_n (pc := 5) h (dk dt_X12_sumOf 5 rfl) rfl ?_
      refine v_geti (pc := 6) h ci12 sh123 (Nat.le_of_ble_eq_true rfl) (j := 9) wF_X12_108 rfl (dk dt_X12_sumOf 6 rfl) ?_
      refine v_icmp_ge (pc := 9) h 27 (dk dt_X12_sumOf 7 rfl) rfl (by omega) (fun c9 => ?_) (fun c9 => ?_)
      ·
        exact absurd c9 (by omega)
      ·
        refine v_iload_n (pc := 12) h (dk dt_X12_sumOf 8 rfl) rfl ?_
        refine v_aload_n (pc := 13) h (dk dt_X12_sumOf 9 rfl) rfl ?_
        refine v_getr (pc := 14) h ci12 sh123 (Nat.le_of_ble_eq_true rfl) (j := 21) wF_X12_59 rfl (dk dt_X12_sumOf 10 rfl) ?_
        refine v_iload_n (pc := 17) h (dk dt_X12_sumOf 11 rfl) rfl ?_
        refine v_iald (pc := 18) h sh137 (Nat.le_of_ble_eq_true rfl) (by omega) (dk dt_X12_sumOf 12 rfl) ?_
        rw [Int.toNat_natCast, hLj]
        refine v_iadd (pc := 19) h (dk dt_X12_sumOf 13 rfl) ?_
        refine v_istore_n (lv' := [(1, _), (2, _), (0, _)]) (pc := 20) h (dk dt_X12_sumOf 14 rfl) (Nat.le_of_ble_eq_true rfl) rfl ?_
        refine v_iinc (lv' := [(2, _), (1, _), (0, _)]) (pc := 21) h (dk dt_X12_sumOf 15 rfl) rfl (Nat.le_of_ble_eq_true rfl) rfl ?_
        refine v_goto (pc := 24) h 4 (dk dt_X12_sumOf 16 rfl) rfl ?_
        exact VV.loc (ih (i + 1) (by omega)) ⟨rfl, rfl, rfl, trivial⟩
  refine v_iconst (pc := 0) h (dk dt_X12_sumOf 0 rfl) ?_
  refine v_istore_n (lv' := [(1, _), (0, _)]) (pc := 1) h (dk dt_X12_sumOf 1 rfl) (Nat.le_of_ble_eq_true rfl) rfl ?_
  refine v_iconst (pc := 2) h (dk dt_X12_sumOf 2 rfl) ?_
  refine v_istore_n (lv' := [(2, _), (1, _), (0, _)]) (pc := 3) h (dk dt_X12_sumOf 3 rfl) (Nat.le_of_ble_eq_true rfl) rfl ?_
  exact VV.loc (loop n 0 (by omega)) ⟨rfl, rfl, rfl, trivial⟩
theorem c_X12_sumOfEnds (hst : l.stackTraces = false) (hE : eqJ μ) (hH : eqH μ) (hO : hOK μ) (hn : μ 1 9 = (n : Int)) :
    Ct l B D E yX12_sumOfEnds (.code yX12_sumOfEnds cX12_sumOfEnds 1 (some .int)) rm_X12_sumOfEnds [.ref (pl B 123)] μ (PM (rcN (μ 0 7)) (some (iI (smF (μ 44) n))) μ (mup μ 123 14 0)) NX := by
  refine ct_of (own := RX12) (lv := [(0, _)]) hst (by decide) rfl rfl (Nat.le_of_ble_eq_true rfl) fun a h r t => ?_
  refine v_aload_n (pc := 0) h (dk dt_X12_sumOfEnds 0 rfl) rfl ?_
  refine v_cVi (pc := 1) h (c_X12_isRun h.quiet (by assumption)) kv_X12_isRun sh123 wM_X12_217 rfl rfl (Nat.le_of_ble_eq_true rfl) (RM.of rfl) rfl rfl (dk dt_X12_sumOfEnds 1 rfl) ?_
  refine v_if_eq (pc := 4) h 18 (dk dt_X12_sumOfEnds 2 rfl) rfl (by split <;> omega) (fun c4 => ?_) (fun c4 => ?_)
  ·
    have d4 : ¬ μ 0 7 = 1 := fun q => by rw [if_pos q] at c4; omega
    refine v_aload_n (pc := 18) h (dk dt_X12_sumOfEnds 8 rfl) rfl ?_
    refine v_iconst (pc := 19) h (dk dt_X12_sumOfEnds 9 rfl) ?_
    refine v_cVi (pc := 20) h (c_X12_refuse h.quiet) kv_X12_refuse sh123 wM_X12_119 rfl rfl (Nat.le_of_ble_eq_true rfl) (RM.of rfl) rfl rfl (dk dt_X12_sumOfEnds 10 rfl) ?_
    exact v_iret (pc := 23) h r (dk dt_X12_sumOfEnds 11 rfl) (Nat.le_of_ble_eq_true rfl) (Nat.le_of_ble_eq_true rfl) (by first | exact PM_0 (rcN_0 d4) | exact PM_n (rcN_1 d4) (by decide))
  ·
    have d4 : μ 0 7 = 1 := by by_cases q : μ 0 7 = 1; exact q; rw [if_neg q] at c4; omega
    refine v_aload_n (pc := 7) h (dk dt_X12_sumOfEnds 3 rfl) rfl ?_
    refine v_aload_n (pc := 8) h (dk dt_X12_sumOfEnds 4 rfl) rfl ?_
    refine v_cVi (pc := 9) h (c_X12_sumOf (n := n) h.quiet hE hH hO hn d4) kv_X12_sumOf sh123 wM_X12_228 rfl rfl (Nat.le_of_ble_eq_true rfl) (RM.of rfl) rfl rfl (dk dt_X12_sumOfEnds 5 rfl) ?_
    refine v_cVi (pc := 12) h (c_X12_told h.quiet) kv_X12_told sh123 wM_X12_115 rfl rfl (Nat.le_of_ble_eq_true rfl) (RM.of rfl) rfl rfl (dk dt_X12_sumOfEnds 6 rfl) ?_
    refine v_goto (pc := 15) h 23 (dk dt_X12_sumOfEnds 7 rfl) rfl ?_
    exact v_iret (pc := 23) h r (dk dt_X12_sumOfEnds 11 rfl) (Nat.le_of_ble_eq_true rfl) (Nat.le_of_ble_eq_true rfl) (by first | exact PM_0 (rcN_0 d4) | exact PM_n (rcN_1 d4) (by decide))
theorem c_X12_longest (hst : l.stackTraces = false) (hH : eqH μ) (hO : hOK μ) (h1 : μ 0 7 = 1) {j f : Nat} (hj : j < 12) (hf : f ≤ 2304) :
    Ct l B D E yX12_longest (.code yX12_longest cX12_longest 7 (some .int)) rm_X12_longest [.ref (pl B 136), iI (μ 47 0), iI (j : Int), iI (f : Int)] μ (ri (gapJ (μ 49) (j : Int) ((μ 47 0).toNat - f) f (f : Int) 0) μ) NX := by
  have hL := hH.2 h1
  have hR := hO.R h1
  have hC := hR.1.1
  refine ct_of (own := RX12) (lv := [(0, _), (1, _), (2, _), (3, _)]) hst (by decide) rfl rfl (Nat.le_of_ble_eq_true rfl) fun a h r t => ?_
  have loop : ∀ (d i s : Nat) (m : Int), d = (μ 47 0).toNat - i → s ≤ i → i ≤ 2304 → (0 ≤ m ∧ m ≤ 2304) → gapJ (μ 49) (j : Int) ((μ 47 0).toNat - f) f (f : Int) 0 = gapJ (μ 49) (j : Int) d i (s : Int) m → VV a B (SP B D E μ) 0 0 9 [(6, iI (i : Int)), (5, iI (s : Int)), (4, iI m), (0, .ref (pl B 136)), (1, iI (μ 47 0)), (2, iI (j : Int)), (3, iI (f : Int))] [] := by
    intro d
    induction d with
    | zero =>
      intro i s m hd hs hi hm e
      refine v_iload (pc := 9) h (dk dt_X12_longest 6 rfl) rfl ?_
      refine v_iload_n (pc := 11) h (dk dt_X12_longest 7 rfl) rfl ?_
      refine v_icmp_ge (pc := 12) h 57 (dk dt_X12_longest 8 rfl) rfl (by omega) (fun c12 => ?_) (fun c12 => ?_)
      ·
        refine v_iload (pc := 57) h (dk dt_X12_longest 31 rfl) rfl ?_
        exact v_iret (pc := 59) h r (dk dt_X12_longest 32 rfl) (Nat.le_of_ble_eq_true rfl) (Nat.le_of_ble_eq_true rfl) ⟨by rw [e, gapJ], rfl⟩
      ·
        exact absurd c12 (by omega)
    | succ d ih =>
      intro i s m hd hs hi hm e
      have hq : -2 ≤ μ 49 i ∧ μ 49 i < 12 := hR.1.2 i (by omega)
      have eY : μ 49 i = (j : Int) → gapJ (μ 49) (j : Int) ((μ 47 0).toNat - f) f (f : Int) 0 = gapJ (μ 49) (j : Int) d (i + 1) (((i + 1 : Nat) : Nat) : Int) (if m < (i : Int) - s then (i : Int) - s else m) := fun q => by rw [e, gapJ, if_pos q]; rfl
      have eN : ¬ μ 49 i = (j : Int) → gapJ (μ 49) (j : Int) ((μ 47 0).toNat - f) f (f : Int) 0 = gapJ (μ 49) (j : Int) d (i + 1) (s : Int) m := fun q => by rw [e, gapJ, if_neg q]
      refine v_iload (pc := 9) h (dk dt_X12_longest 6 rfl) rfl ?_
      refine v_iload_n (pc := 11) h (dk dt_X12_longest 7 rfl) rfl ?_
      refine v_icmp_ge (pc := 12) h 57 (dk dt_X12_longest 8 rfl) rfl (by omega) (fun c12 => ?_) (fun c12 => ?_)
      ·
        exact absurd c12 (by omega)
      ·
        refine v_aload_n (pc := 15) h (dk dt_X12_longest 9 rfl) rfl ?_
        refine v_iload (pc := 16) h (dk dt_X12_longest 10 rfl) rfl ?_
        refine v_iald (pc := 18) h sh136 (Nat.le_of_ble_eq_true rfl) (by omega) (dk dt_X12_longest 11 rfl) ?_
        rw [Int.toNat_natCast, hL.2.1 i (by omega)]
        refine v_iload_n (pc := 19) h (dk dt_X12_longest 12 rfl) rfl ?_
        refine v_icmp_ne (pc := 20) h 51 (dk dt_X12_longest 13 rfl) rfl (by omega) (fun c20 => ?_) (fun c20 => ?_)
        ·
          refine v_iinc (lv' := [(6, _), (5, _), (4, _), (0, _), (1, _), (2, _), (3, _)]) (pc := 51) h (dk dt_X12_longest 29 rfl) rfl (Nat.le_of_ble_eq_true rfl) rfl ?_
          refine v_goto (pc := 54) h 9 (dk dt_X12_longest 30 rfl) rfl ?_
          first
            | exact VV.loc (ih (i + 1) s m (by omega) (by omega) (by omega) hm (eN c20)) ⟨rfl, rfl, rfl, rfl, rfl, rfl, rfl, trivial⟩
            | exact VV.loc (ih (i + 1) (i + 1) _ (by omega) (by omega) (by omega) (by omega) e30) ⟨rfl, rfl, rfl, rfl, rfl, rfl, rfl, trivial⟩
        ·
          refine v_iload (pc := 23) h (dk dt_X12_longest 14 rfl) rfl ?_
          refine v_iload (pc := 25) h (dk dt_X12_longest 15 rfl) rfl ?_
          refine v_isub (pc := 27) h (dk dt_X12_longest 16 rfl) ?_
          refine v_iload (pc := 28) h (dk dt_X12_longest 17 rfl) rfl ?_
          refine v_icmp_le (pc := 30) h 41 (dk dt_X12_longest 18 rfl) rfl (by omega) (fun c30 => ?_) (fun c30 => ?_)
          ·
            have e30 := eY c20
            rw [if_neg (by omega)] at e30
            refine v_iload (pc := 41) h (dk dt_X12_longest 23 rfl) rfl ?_
            refine v_istore (lv' := [(4, _), (6, _), (5, _), (0, _), (1, _), (2, _), (3, _)]) (pc := 43) h (dk dt_X12_longest 24 rfl) (Nat.le_of_ble_eq_true rfl) rfl ?_
            refine v_iload (pc := 45) h (dk dt_X12_longest 25 rfl) rfl ?_
            refine v_iconst (pc := 47) h (dk dt_X12_longest 26 rfl) ?_
            refine v_iadd (pc := 48) h (dk dt_X12_longest 27 rfl) ?_
            refine v_istore (lv' := [(5, _), (4, _), (6, _), (0, _), (1, _), (2, _), (3, _)]) (pc := 49) h (dk dt_X12_longest 28 rfl) (Nat.le_of_ble_eq_true rfl) rfl ?_
            refine v_iinc (lv' := [(6, _), (5, _), (4, _), (0, _), (1, _), (2, _), (3, _)]) (pc := 51) h (dk dt_X12_longest 29 rfl) rfl (Nat.le_of_ble_eq_true rfl) rfl ?_
            refine v_goto (pc := 54) h 9 (dk dt_X12_longest 30 rfl) rfl ?_
            first
              | exact VV.loc (ih (i + 1) s m (by omega) (by omega) (by omega) hm (eN c20)) ⟨rfl, rfl, rfl, rfl, rfl, rfl, rfl, trivial⟩
              | exact VV.loc (ih (i + 1) (i + 1) _ (by omega) (by omega) (by omega) (by omega) e30) ⟨rfl, rfl, rfl, rfl, rfl, rfl, rfl, trivial⟩
          ·
            have e30 := eY c20
            rw [if_pos (by omega)] at e30
            refine v_iload (pc := 33) h (dk dt_X12_longest 19 rfl) rfl ?_
            refine v_iload (pc := 35) h (dk dt_X12_longest 20 rfl) rfl ?_
            refine v_isub (pc := 37) h (dk dt_X12_longest 21 rfl) ?_
            refine v_goto (pc := 38) h 43 (dk dt_X12_longest 22 rfl) rfl ?_
            refine v_istore (lv' := [(4, _), (6, _), (5, _), (0, _), (1, _), (2, _), (3, _)]) (pc := 43) h (dk dt_X12_longest 24 rfl) (Nat.le_of_ble_eq_true rfl) rfl ?_
            refine v_iload (pc := 45) h (dk dt_X12_longest 25 rfl) rfl ?_
            refine v_iconst (pc := 47) h (dk dt_X12_longest 26 rfl) ?_
            refine v_iadd (pc := 48) h (dk dt_X12_longest 27 rfl) ?_
            refine v_istore (lv' := [(5, _), (4, _), (6, _), (0, _), (1, _), (2, _), (3, _)]) (pc := 49) h (dk dt_X12_longest 28 rfl) (Nat.le_of_ble_eq_true rfl) rfl ?_
            refine v_iinc (lv' := [(6, _), (5, _), (4, _), (0, _), (1, _), (2, _), (3, _)]) (pc := 51) h (dk dt_X12_longest 29 rfl) rfl (Nat.le_of_ble_eq_true rfl) rfl ?_
            refine v_goto (pc := 54) h 9 (dk dt_X12_longest 30 rfl) rfl ?_
            first
              | exact VV.loc (ih (i + 1) s m (by omega) (by omega) (by omega) hm (eN c20)) ⟨rfl, rfl, rfl, rfl, rfl, rfl, rfl, trivial⟩
              | exact VV.loc (ih (i + 1) (i + 1) _ (by omega) (by omega) (by omega) (by omega) e30) ⟨rfl, rfl, rfl, rfl, rfl, rfl, rfl, trivial⟩
  refine v_iconst (pc := 0) h (dk dt_X12_longest 0 rfl) ?_
  refine v_istore (lv' := [(4, _), (0, _), (1, _), (2, _), (3, _)]) (pc := 1) h (dk dt_X12_longest 1 rfl) (Nat.le_of_ble_eq_true rfl) rfl ?_
  refine v_iload_n (pc := 3) h (dk dt_X12_longest 2 rfl) rfl ?_
  refine v_istore (lv' := [(5, _), (4, _), (0, _), (1, _), (2, _), (3, _)]) (pc := 4) h (dk dt_X12_longest 3 rfl) (Nat.le_of_ble_eq_true rfl) rfl ?_
  refine v_iload_n (pc := 6) h (dk dt_X12_longest 4 rfl) rfl ?_
  refine v_istore (lv' := [(6, _), (5, _), (4, _), (0, _), (1, _), (2, _), (3, _)]) (pc := 7) h (dk dt_X12_longest 5 rfl) (Nat.le_of_ble_eq_true rfl) rfl ?_
  exact VV.loc (loop _ f f 0 rfl (Nat.le_refl _) (by omega) ⟨by omega, by omega⟩ rfl) ⟨rfl, rfl, rfl, rfl, rfl, rfl, rfl, trivial⟩
theorem c_X12_waits (hst : l.stackTraces = false) (hE : eqJ μ) (hH : eqH μ) (hO : hOK μ) {j : Int} (hj : InR j) :
    Ct l B D E yX12_waits (.code yX12_waits cX12_waits 2 (some .int)) rm_X12_waits [.ref (pl B 123), iI j] μ (PM (rcJ (μ 1 9) (μ 0 7) j) (some (iI (gapJ (μ 49) (j.toNat : Int) ((μ 47 0).toNat - (μ 46 j.toNat).toNat) (μ 46 j.toNat).toNat ((μ 46 j.toNat).toNat : Int) 0))) μ (mup μ 123 14 0)) NX := by
  have hb := hO.J.1
  have e9 := hE.2
  refine ct_of (own := RX12) (lv := [(0, _), (1, _)]) hst (by decide) rfl rfl (Nat.le_of_ble_eq_true rfl) fun a h r t => ?_
  have hrc : 0 ≤ j ∧ j < μ 1 9 → μ 0 7 = 1 → rcJ (μ 1 9) (μ 0 7) j = 0 := fun q1 q2 => by unfold rcJ; rw [if_neg (by omega), if_neg (by omega)]
  have go21 : 0 ≤ j ∧ j < μ 1 9 → μ 0 7 = 1 → VV a B (SP B D E μ) 0 0 21 [(0, .ref (pl B 123)), (1, iI j)] [] := by
    intro h1 h3
    have hrc1 := hrc h1 h3
    have hR := hO.R h3
    have hC := hR.1.1
    have hL := hH.2 h3
    have e24 := hL.1
    obtain ⟨j', rfl⟩ : ∃ k : Nat, j = (k : Int) := ⟨j.toNat, by omega⟩
    have hRj := hR.2 j' (by omega)
    have hJj := hO.J.2 j' (by omega)
    have hLj := hL.2.2 j' (by omega)
    have e126 : μ 126 j' = μ 7 j' := by rw [hE.1.2.2.1]
    rw [Int.toNat_natCast] at r
    refine v_aload_n (pc := 21) h (dk dt_X12_waits 11 rfl) rfl ?_
    refine v_aload_n (pc := 22) h (dk dt_X12_waits 12 rfl) rfl ?_
    refine v_getr (pc := 23) h ci12 sh123 (Nat.le_of_ble_eq_true rfl) (j := 20) wF_X12_56 rfl (dk dt_X12_waits 13 rfl) ?_
    refine v_aload_n (pc := 26) h (dk dt_X12_waits 14 rfl) rfl ?_
    refine v_geti (pc := 27) h ci12 sh123 (Nat.le_of_ble_eq_true rfl) (j := 24) wF_X12_214 rfl (dk dt_X12_waits 15 rfl) ?_
    rw [e24]
    refine v_iload_n (pc := 30) h (dk dt_X12_waits 16 rfl) rfl ?_
    refine v_aload_n (pc := 31) h (dk dt_X12_waits 17 rfl) rfl ?_
    refine v_getr (pc := 32) h ci12 sh123 (Nat.le_of_ble_eq_true rfl) (j := 22) wF_X12_62 rfl (dk dt_X12_waits 18 rfl) ?_
    refine v_iload_n (pc := 35) h (dk dt_X12_waits 19 rfl) rfl ?_
    refine v_iald (pc := 36) h sh138 (Nat.le_of_ble_eq_true rfl) (by omega) (dk dt_X12_waits 20 rfl) ?_
    rw [Int.toNat_natCast, hLj.2.1, show μ 46 j' = (((μ 46 j').toNat : Nat) : Int) by omega]
    refine v_cSi (pc := 37) h (c_X12_longest h.quiet (by assumption) (by assumption) (by assumption) (by omega) (by omega)) kv_X12_longest wM_X12_231 rfl rfl (Nat.le_of_ble_eq_true rfl) (RM.of rfl) rfl rfl (dk dt_X12_waits 21 rfl) ?_
    refine v_cVi (pc := 40) h (c_X12_told h.quiet) kv_X12_told sh123 wM_X12_115 rfl rfl (Nat.le_of_ble_eq_true rfl) (RM.of rfl) rfl rfl (dk dt_X12_waits 22 rfl) ?_
    refine v_goto (pc := 43) h 51 (dk dt_X12_waits 23 rfl) rfl ?_
    exact v_iret (pc := 51) h r (dk dt_X12_waits 27 rfl) (Nat.le_of_ble_eq_true rfl) (Nat.le_of_ble_eq_true rfl) (PM_0 hrc1)
  refine v_aload_n (pc := 0) h (dk dt_X12_waits 0 rfl) rfl ?_
  refine v_iload_n (pc := 1) h (dk dt_X12_waits 1 rfl) rfl ?_
  refine v_cVi (pc := 2) h (c_X12_isJob h.quiet (by omega) (by omega)) kv_X12_isJob sh123 wM_X12_125 rfl rfl (Nat.le_of_ble_eq_true rfl) (RM.of rfl) rfl rfl (dk dt_X12_waits 2 rfl) ?_
  refine v_if_ne (pc := 5) h 14 (dk dt_X12_waits 3 rfl) rfl (by split <;> omega) (fun c5 => ?_) (fun c5 => ?_)
  ·
    have d5 : 0 ≤ j ∧ j < μ 123 9 := by by_cases q : 0 ≤ j ∧ j < μ 123 9; exact q; rw [if_neg q] at c5; omega
    refine v_aload_n (pc := 14) h (dk dt_X12_waits 8 rfl) rfl ?_
    refine v_cVi (pc := 15) h (c_X12_isRun h.quiet (by assumption)) kv_X12_isRun sh123 wM_X12_217 rfl rfl (Nat.le_of_ble_eq_true rfl) (RM.of rfl) rfl rfl (dk dt_X12_waits 9 rfl) ?_
    refine v_if_eq (pc := 18) h 46 (dk dt_X12_waits 10 rfl) rfl (by split <;> omega) (fun c18 => ?_) (fun c18 => ?_)
    ·
      have d18 : ¬ μ 0 7 = 1 := fun q => by rw [if_pos q] at c18; omega
      refine v_aload_n (pc := 46) h (dk dt_X12_waits 24 rfl) rfl ?_
      refine v_iconst (pc := 47) h (dk dt_X12_waits 25 rfl) ?_
      refine v_cVi (pc := 48) h (c_X12_refuse h.quiet) kv_X12_refuse sh123 wM_X12_119 rfl rfl (Nat.le_of_ble_eq_true rfl) (RM.of rfl) rfl rfl (dk dt_X12_waits 26 rfl) ?_
      exact v_iret (pc := 51) h r (dk dt_X12_waits 27 rfl) (Nat.le_of_ble_eq_true rfl) (Nat.le_of_ble_eq_true rfl) (PM_n (by unfold rcJ; rw [if_neg (by omega), if_pos (by omega)]) (by decide))
    ·
      have d18 : μ 0 7 = 1 := by by_cases q : μ 0 7 = 1; exact q; rw [if_neg q] at c18; omega
      exact VV.loc (go21 ⟨by omega, by omega⟩ d18) ⟨rfl, rfl, trivial⟩
  ·
    have d5 : ¬ (0 ≤ j ∧ j < μ 123 9) := fun q => by rw [if_pos q] at c5; omega
    refine v_aload_n (pc := 8) h (dk dt_X12_waits 4 rfl) rfl ?_
    refine v_iconst (pc := 9) h (dk dt_X12_waits 5 rfl) ?_
    refine v_cVi (pc := 10) h (c_X12_refuse h.quiet) kv_X12_refuse sh123 wM_X12_119 rfl rfl (Nat.le_of_ble_eq_true rfl) (RM.of rfl) rfl rfl (dk dt_X12_waits 6 rfl) ?_
    exact v_iret (pc := 13) h r (dk dt_X12_waits 7 rfl) (Nat.le_of_ble_eq_true rfl) (Nat.le_of_ble_eq_true rfl) (PM_n (by unfold rcJ; rw [if_pos (by omega)]) (by decide))
theorem c_X12_blocked (hst : l.stackTraces = false) (hE : eqJ μ) (hH : eqH μ) (hO : hOK μ) {j : Int} (hj : InR j) :
    Ct l B D E yX12_blocked (.code yX12_blocked cX12_blocked 2 (some .int)) rm_X12_blocked [.ref (pl B 123), iI j] μ (PM (rcJ (μ 1 9) (μ 0 7) j) (some (iI (μ 30 j.toNat))) μ (mup μ 123 14 0)) NX := by
  have hb := hO.J.1
  have e9 := hE.2
  refine ct_of (own := RX12) (lv := [(0, _), (1, _)]) hst (by decide) rfl rfl (Nat.le_of_ble_eq_true rfl) fun a h r t => ?_
  have hrc : 0 ≤ j ∧ j < μ 1 9 → μ 0 7 = 1 → rcJ (μ 1 9) (μ 0 7) j = 0 := fun q1 q2 => by unfold rcJ; rw [if_neg (by omega), if_neg (by omega)]
  have go21 : 0 ≤ j ∧ j < μ 1 9 → μ 0 7 = 1 → VV a B (SP B D E μ) 0 0 21 [(0, .ref (pl B 123)), (1, iI j)] [] := by
    intro h1 h3
    have hrc1 := hrc h1 h3
    have hR := hO.R h3
    have hC := hR.1.1
    have hL := hH.2 h3
    have e24 := hL.1
    obtain ⟨j', rfl⟩ : ∃ k : Nat, j = (k : Int) := ⟨j.toNat, by omega⟩
    have hRj := hR.2 j' (by omega)
    have hJj := hO.J.2 j' (by omega)
    have hLj := hL.2.2 j' (by omega)
    have e126 : μ 126 j' = μ 7 j' := by rw [hE.1.2.2.1]
    have h25 := hH.1.1
    have eY : μ 123 25 = 8 → μ 139 j' = μ 30 j' := fun q => by have := hLj.2.2; rw [if_pos q] at this; exact this
    have eN : ¬ μ 123 25 = 8 → 0 = μ 30 j' := fun q => by have := hLj.2.2; rw [if_neg q] at this; exact this
    rw [Int.toNat_natCast] at r
    refine v_aload_n (pc := 21) h (dk dt_X12_blocked 11 rfl) rfl ?_
    refine v_aload_n (pc := 22) h (dk dt_X12_blocked 12 rfl) rfl ?_
    refine v_geti (pc := 23) h ci12 sh123 (Nat.le_of_ble_eq_true rfl) (j := 25) wF_X12_68 rfl (dk dt_X12_blocked 13 rfl) ?_
    refine v_bipush (pc := 26) h (dk dt_X12_blocked 14 rfl) rfl ?_
    refine v_icmp_ne (pc := 28) h 40 (dk dt_X12_blocked 15 rfl) rfl (by omega) (fun c28 => ?_) (fun c28 => ?_)
    ·
      rw [← eN c28] at r
      refine v_iconst (pc := 40) h (dk dt_X12_blocked 21 rfl) ?_
      refine v_cVi (pc := 41) h (c_X12_told h.quiet) kv_X12_told sh123 wM_X12_115 rfl rfl (Nat.le_of_ble_eq_true rfl) (RM.of rfl) rfl rfl (dk dt_X12_blocked 22 rfl) ?_
      refine v_goto (pc := 44) h 52 (dk dt_X12_blocked 23 rfl) rfl ?_
      exact v_iret (pc := 52) h r (dk dt_X12_blocked 27 rfl) (Nat.le_of_ble_eq_true rfl) (Nat.le_of_ble_eq_true rfl) (PM_0 hrc1)
    ·
      refine v_aload_n (pc := 31) h (dk dt_X12_blocked 16 rfl) rfl ?_
      refine v_getr (pc := 32) h ci12 sh123 (Nat.le_of_ble_eq_true rfl) (j := 23) wF_X12_65 rfl (dk dt_X12_blocked 17 rfl) ?_
      refine v_iload_n (pc := 35) h (dk dt_X12_blocked 18 rfl) rfl ?_
      refine v_iald (pc := 36) h sh139 (Nat.le_of_ble_eq_true rfl) (by omega) (dk dt_X12_blocked 19 rfl) ?_
      rw [Int.toNat_natCast, eY (by omega)]
      refine v_goto (pc := 37) h 41 (dk dt_X12_blocked 20 rfl) rfl ?_
      refine v_cVi (pc := 41) h (c_X12_told h.quiet) kv_X12_told sh123 wM_X12_115 rfl rfl (Nat.le_of_ble_eq_true rfl) (RM.of rfl) rfl rfl (dk dt_X12_blocked 22 rfl) ?_
      refine v_goto (pc := 44) h 52 (dk dt_X12_blocked 23 rfl) rfl ?_
      exact v_iret (pc := 52) h r (dk dt_X12_blocked 27 rfl) (Nat.le_of_ble_eq_true rfl) (Nat.le_of_ble_eq_true rfl) (PM_0 hrc1)
  refine v_aload_n (pc := 0) h (dk dt_X12_blocked 0 rfl) rfl ?_
  refine v_iload_n (pc := 1) h (dk dt_X12_blocked 1 rfl) rfl ?_
  refine v_cVi (pc := 2) h (c_X12_isJob h.quiet (by omega) (by omega)) kv_X12_isJob sh123 wM_X12_125 rfl rfl (Nat.le_of_ble_eq_true rfl) (RM.of rfl) rfl rfl (dk dt_X12_blocked 2 rfl) ?_
  refine v_if_ne (pc := 5) h 14 (dk dt_X12_blocked 3 rfl) rfl (by split <;> omega) (fun c5 => ?_) (fun c5 => ?_)
  ·
    have d5 : 0 ≤ j ∧ j < μ 123 9 := by by_cases q : 0 ≤ j ∧ j < μ 123 9; exact q; rw [if_neg q] at c5; omega
    refine v_aload_n (pc := 14) h (dk dt_X12_blocked 8 rfl) rfl ?_
    refine v_cVi (pc := 15) h (c_X12_isRun h.quiet (by assumption)) kv_X12_isRun sh123 wM_X12_217 rfl rfl (Nat.le_of_ble_eq_true rfl) (RM.of rfl) rfl rfl (dk dt_X12_blocked 9 rfl) ?_
    refine v_if_eq (pc := 18) h 47 (dk dt_X12_blocked 10 rfl) rfl (by split <;> omega) (fun c18 => ?_) (fun c18 => ?_)
    ·
      have d18 : ¬ μ 0 7 = 1 := fun q => by rw [if_pos q] at c18; omega
      refine v_aload_n (pc := 47) h (dk dt_X12_blocked 24 rfl) rfl ?_
      refine v_iconst (pc := 48) h (dk dt_X12_blocked 25 rfl) ?_
      refine v_cVi (pc := 49) h (c_X12_refuse h.quiet) kv_X12_refuse sh123 wM_X12_119 rfl rfl (Nat.le_of_ble_eq_true rfl) (RM.of rfl) rfl rfl (dk dt_X12_blocked 26 rfl) ?_
      exact v_iret (pc := 52) h r (dk dt_X12_blocked 27 rfl) (Nat.le_of_ble_eq_true rfl) (Nat.le_of_ble_eq_true rfl) (PM_n (by unfold rcJ; rw [if_neg (by omega), if_pos (by omega)]) (by decide))
    ·
      have d18 : μ 0 7 = 1 := by by_cases q : μ 0 7 = 1; exact q; rw [if_neg q] at c18; omega
      exact VV.loc (go21 ⟨by omega, by omega⟩ d18) ⟨rfl, rfl, trivial⟩
  ·
    have d5 : ¬ (0 ≤ j ∧ j < μ 123 9) := fun q => by rw [if_pos q] at c5; omega
    refine v_aload_n (pc := 8) h (dk dt_X12_blocked 4 rfl) rfl ?_
    refine v_iconst (pc := 9) h (dk dt_X12_blocked 5 rfl) ?_
    refine v_cVi (pc := 10) h (c_X12_refuse h.quiet) kv_X12_refuse sh123 wM_X12_119 rfl rfl (Nat.le_of_ble_eq_true rfl) (RM.of rfl) rfl rfl (dk dt_X12_blocked 6 rfl) ?_
    exact v_iret (pc := 13) h r (dk dt_X12_blocked 7 rfl) (Nat.le_of_ble_eq_true rfl) (Nat.le_of_ble_eq_true rfl) (PM_n (by unfold rcJ; rw [if_pos (by omega)]) (by decide))
theorem c_X12_late (hst : l.stackTraces = false) (hE : eqJ μ) (hH : eqH μ) (hO : hOK μ) {j : Int} (hj : InR j) :
    Ct l B D E yX12_late (.code yX12_late cX12_late 2 (some .int)) rm_X12_late [.ref (pl B 123), iI j] μ (PM (rcJ (μ 1 9) (μ 0 7) j) (some (iI (lat (μ 7 j.toNat) (μ 44 j.toNat)))) μ (mup μ 123 14 0)) NX := by
  have hb := hO.J.1
  have e9 := hE.2
  refine ct_of (own := RX12) (lv := [(0, _), (1, _)]) hst (by decide) rfl rfl (Nat.le_of_ble_eq_true rfl) fun a h r t => ?_
  have hrc : 0 ≤ j ∧ j < μ 1 9 → μ 0 7 = 1 → rcJ (μ 1 9) (μ 0 7) j = 0 := fun q1 q2 => by unfold rcJ; rw [if_neg (by omega), if_neg (by omega)]
  have go27 : 0 ≤ j ∧ j < μ 1 9 → μ 0 7 = 1 → VV a B (SP B D E μ) 0 0 27 [(0, .ref (pl B 123)), (1, iI j)] [] := by
    intro h1 h3
    have hrc1 := hrc h1 h3
    have hR := hO.R h3
    have hC := hR.1.1
    have hL := hH.2 h3
    have e24 := hL.1
    obtain ⟨j', rfl⟩ : ∃ k : Nat, j = (k : Int) := ⟨j.toNat, by omega⟩
    have hRj := hR.2 j' (by omega)
    have hJj := hO.J.2 j' (by omega)
    have hLj := hL.2.2 j' (by omega)
    have e126 : μ 126 j' = μ 7 j' := by rw [hE.1.2.2.1]
    have eL0 : μ 7 j' = 0 ∨ ¬ 0 < μ 44 j' - μ 7 j' → lat (μ 7 j') (μ 44 j') = 0 := fun q => by unfold lat; split; rfl; rw [if_neg (by omega)]
    have eL1 : ¬ μ 7 j' = 0 → 0 < μ 44 j' - μ 7 j' → lat (μ 7 j') (μ 44 j') = μ 44 j' - μ 7 j' := fun q1 q2 => by unfold lat; rw [if_neg q1, if_pos q2]
    rw [Int.toNat_natCast] at r
    refine v_aload_n (pc := 27) h (dk dt_X12_late 15 rfl) rfl ?_
    refine v_aload_n (pc := 28) h (dk dt_X12_late 16 rfl) rfl ?_
    refine v_getr (pc := 29) h ci12 sh123 (Nat.le_of_ble_eq_true rfl) (j := 2) wF_X12_16 rfl (dk dt_X12_late 17 rfl) ?_
    refine v_iload_n (pc := 32) h (dk dt_X12_late 18 rfl) rfl ?_
    refine v_iald (pc := 33) h sh126 (Nat.le_of_ble_eq_true rfl) (by omega) (dk dt_X12_late 19 rfl) ?_
    rw [Int.toNat_natCast, e126]
    refine v_if_eq (pc := 34) h 52 (dk dt_X12_late 20 rfl) rfl (by omega) (fun c34 => ?_) (fun c34 => ?_)
    ·
      refine v_iconst (pc := 52) h (dk dt_X12_late 30 rfl) ?_
      refine v_goto (pc := 53) h 69 (dk dt_X12_late 31 rfl) rfl ?_
      refine v_cVi (pc := 69) h (c_X12_told h.quiet) kv_X12_told sh123 wM_X12_115 rfl rfl (Nat.le_of_ble_eq_true rfl) (RM.of rfl) rfl rfl (dk dt_X12_late 41 rfl) ?_
      exact v_iret (pc := 72) h r (dk dt_X12_late 42 rfl) (Nat.le_of_ble_eq_true rfl) (Nat.le_of_ble_eq_true rfl) (by first | (rw [eL0 (by omega)]; exact PM_0 hrc1) | (rw [eL1 (by omega) (by omega)]; exact PM_0 hrc1))
    ·
      refine v_aload_n (pc := 37) h (dk dt_X12_late 21 rfl) rfl ?_
      refine v_getr (pc := 38) h ci12 sh123 (Nat.le_of_ble_eq_true rfl) (j := 21) wF_X12_59 rfl (dk dt_X12_late 22 rfl) ?_
      refine v_iload_n (pc := 41) h (dk dt_X12_late 23 rfl) rfl ?_
      refine v_iald (pc := 42) h sh137 (Nat.le_of_ble_eq_true rfl) (by omega) (dk dt_X12_late 24 rfl) ?_
      rw [Int.toNat_natCast, hLj.1]
      refine v_aload_n (pc := 43) h (dk dt_X12_late 25 rfl) rfl ?_
      refine v_getr (pc := 44) h ci12 sh123 (Nat.le_of_ble_eq_true rfl) (j := 2) wF_X12_16 rfl (dk dt_X12_late 26 rfl) ?_
      refine v_iload_n (pc := 47) h (dk dt_X12_late 27 rfl) rfl ?_
      refine v_iald (pc := 48) h sh126 (Nat.le_of_ble_eq_true rfl) (by omega) (dk dt_X12_late 28 rfl) ?_
      rw [Int.toNat_natCast, e126]
      refine v_icmp_gt (pc := 49) h 56 (dk dt_X12_late 29 rfl) rfl (by omega) (fun c49 => ?_) (fun c49 => ?_)
      ·
        refine v_aload_n (pc := 56) h (dk dt_X12_late 32 rfl) rfl ?_
        refine v_getr (pc := 57) h ci12 sh123 (Nat.le_of_ble_eq_true rfl) (j := 21) wF_X12_59 rfl (dk dt_X12_late 33 rfl) ?_
        refine v_iload_n (pc := 60) h (dk dt_X12_late 34 rfl) rfl ?_
        refine v_iald (pc := 61) h sh137 (Nat.le_of_ble_eq_true rfl) (by omega) (dk dt_X12_late 35 rfl) ?_
        rw [Int.toNat_natCast, hLj.1]
        refine v_aload_n (pc := 62) h (dk dt_X12_late 36 rfl) rfl ?_
        refine v_getr (pc := 63) h ci12 sh123 (Nat.le_of_ble_eq_true rfl) (j := 2) wF_X12_16 rfl (dk dt_X12_late 37 rfl) ?_
        refine v_iload_n (pc := 66) h (dk dt_X12_late 38 rfl) rfl ?_
        refine v_iald (pc := 67) h sh126 (Nat.le_of_ble_eq_true rfl) (by omega) (dk dt_X12_late 39 rfl) ?_
        rw [Int.toNat_natCast, e126]
        refine v_isub (pc := 68) h (dk dt_X12_late 40 rfl) ?_
        refine v_cVi (pc := 69) h (c_X12_told h.quiet) kv_X12_told sh123 wM_X12_115 rfl rfl (Nat.le_of_ble_eq_true rfl) (RM.of rfl) rfl rfl (dk dt_X12_late 41 rfl) ?_
        exact v_iret (pc := 72) h r (dk dt_X12_late 42 rfl) (Nat.le_of_ble_eq_true rfl) (Nat.le_of_ble_eq_true rfl) (by first | (rw [eL0 (by omega)]; exact PM_0 hrc1) | (rw [eL1 (by omega) (by omega)]; exact PM_0 hrc1))
      ·
        refine v_iconst (pc := 52) h (dk dt_X12_late 30 rfl) ?_
        refine v_goto (pc := 53) h 69 (dk dt_X12_late 31 rfl) rfl ?_
        refine v_cVi (pc := 69) h (c_X12_told h.quiet) kv_X12_told sh123 wM_X12_115 rfl rfl (Nat.le_of_ble_eq_true rfl) (RM.of rfl) rfl rfl (dk dt_X12_late 41 rfl) ?_
        exact v_iret (pc := 72) h r (dk dt_X12_late 42 rfl) (Nat.le_of_ble_eq_true rfl) (Nat.le_of_ble_eq_true rfl) (by first | (rw [eL0 (by omega)]; exact PM_0 hrc1) | (rw [eL1 (by omega) (by omega)]; exact PM_0 hrc1))
  refine v_aload_n (pc := 0) h (dk dt_X12_late 0 rfl) rfl ?_
  refine v_iload_n (pc := 1) h (dk dt_X12_late 1 rfl) rfl ?_
  refine v_cVi (pc := 2) h (c_X12_isJob h.quiet (by omega) (by omega)) kv_X12_isJob sh123 wM_X12_125 rfl rfl (Nat.le_of_ble_eq_true rfl) (RM.of rfl) rfl rfl (dk dt_X12_late 2 rfl) ?_
  refine v_if_ne (pc := 5) h 14 (dk dt_X12_late 3 rfl) rfl (by split <;> omega) (fun c5 => ?_) (fun c5 => ?_)
  ·
    have d5 : 0 ≤ j ∧ j < μ 123 9 := by by_cases q : 0 ≤ j ∧ j < μ 123 9; exact q; rw [if_neg q] at c5; omega
    refine v_aload_n (pc := 14) h (dk dt_X12_late 8 rfl) rfl ?_
    refine v_cVi (pc := 15) h (c_X12_isRun h.quiet (by assumption)) kv_X12_isRun sh123 wM_X12_217 rfl rfl (Nat.le_of_ble_eq_true rfl) (RM.of rfl) rfl rfl (dk dt_X12_late 9 rfl) ?_
    refine v_if_ne (pc := 18) h 27 (dk dt_X12_late 10 rfl) rfl (by split <;> omega) (fun c18 => ?_) (fun c18 => ?_)
    ·
      have d18 : μ 0 7 = 1 := by by_cases q : μ 0 7 = 1; exact q; rw [if_neg q] at c18; omega
      exact VV.loc (go27 ⟨by omega, by omega⟩ d18) ⟨rfl, rfl, trivial⟩
    ·
      have d18 : ¬ μ 0 7 = 1 := fun q => by rw [if_pos q] at c18; omega
      refine v_aload_n (pc := 21) h (dk dt_X12_late 11 rfl) rfl ?_
      refine v_iconst (pc := 22) h (dk dt_X12_late 12 rfl) ?_
      refine v_cVi (pc := 23) h (c_X12_refuse h.quiet) kv_X12_refuse sh123 wM_X12_119 rfl rfl (Nat.le_of_ble_eq_true rfl) (RM.of rfl) rfl rfl (dk dt_X12_late 13 rfl) ?_
      exact v_iret (pc := 26) h r (dk dt_X12_late 14 rfl) (Nat.le_of_ble_eq_true rfl) (Nat.le_of_ble_eq_true rfl) (PM_n (by unfold rcJ; rw [if_neg (by omega), if_pos (by omega)]) (by decide))
  ·
    have d5 : ¬ (0 ≤ j ∧ j < μ 123 9) := fun q => by rw [if_pos q] at c5; omega
    refine v_aload_n (pc := 8) h (dk dt_X12_late 4 rfl) rfl ?_
    refine v_iconst (pc := 9) h (dk dt_X12_late 5 rfl) ?_
    refine v_cVi (pc := 10) h (c_X12_refuse h.quiet) kv_X12_refuse sh123 wM_X12_119 rfl rfl (Nat.le_of_ble_eq_true rfl) (RM.of rfl) rfl rfl (dk dt_X12_late 6 rfl) ?_
    exact v_iret (pc := 13) h r (dk dt_X12_late 7 rfl) (Nat.le_of_ble_eq_true rfl) (Nat.le_of_ble_eq_true rfl) (PM_n (by unfold rcJ; rw [if_pos (by omega)]) (by decide))
end
