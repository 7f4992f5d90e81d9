/-! ===== calls that refuse nothing, and so make nothing ===== -/
abbrev rz_need : Room := { frames := 6, cells := 0, slots := 0, locals := 89 }
abbrev rz_ask : Room := { frames := 7, cells := 0, slots := 0, locals := 110 }
section
variable {l : Launch} {B : Nat} {D : va_G} {E : Nat → ClassId} {μ m σ : Mm} {w n : Nat} {K : Nat → Int} {s : St} {J : Mm}
theorem cz_needJob (hst : l.stackTraces = false) {z : Int} (hz : InR z) (hn : 0 ≤ μ 1 9 ∧ μ 1 9 ≤ 12) (hy : 0 ≤ z ∧ z < μ 1 9) :
    Ct l B D E yX11_needJob (.code yX11_needJob cX11_needJob 2 none) rz_need [.ref (pl B 0), iI z] μ (rv μ) NX := by
  refine ct_of (own := RX11) (lv := [(0, _), (1, _)]) hst (by decide) rfl rfl (Nat.le_of_ble_eq_true rfl) fun a h r t => ?_
  refine v_iload_n (pc := 0) h (dk dt_X11_needJob 0 rfl) rfl ?_
  refine v_if_lt (pc := 1) h 15 (dk dt_X11_needJob 1 rfl) rfl (by omega) (fun c1 => ?_) (fun c1 => ?_)
  ·
    exact absurd c1 (by omega)
  ·
    refine v_iload_n (pc := 4) h (dk dt_X11_needJob 2 rfl) rfl ?_
    refine v_aload_n (pc := 5) h (dk dt_X11_needJob 3 rfl) rfl ?_
    refine v_getr (pc := 6) h ci11 sh0 (Nat.le_of_ble_eq_true rfl) (j := 0) wF_X11_10 rfl (dk dt_X11_needJob 4 rfl) ?_
    refine v_geti (pc := 9) h ci1 sh1 (Nat.le_of_ble_eq_true rfl) (j := 9) wF_X11_65 rfl (dk dt_X11_needJob 5 rfl) ?_
    refine v_icmp_lt (pc := 12) h 23 (dk dt_X11_needJob 6 rfl) rfl (by omega) (fun c12 => ?_) (fun c12 => ?_)
    ·
      exact v_vret (pc := 23) h r (dk dt_X11_needJob 11 rfl) (Nat.le_of_ble_eq_true rfl) (Nat.le_of_ble_eq_true rfl) ⟨rfl, rfl⟩
    ·
      exact absurd c12 (by omega)
theorem cz_needMoment (hst : l.stackTraces = false) {z : Int} (hz : InR z) (hy : 0 ≤ z) :
    Ct l B D E yX11_needMoment (.code yX11_needMoment cX11_needMoment 2 none) rz_need [.ref (pl B 0), iI z] μ (rv μ) NX := by
  refine ct_of (own := RX11) (lv := [(0, _), (1, _)]) hst (by decide) rfl rfl (Nat.le_of_ble_eq_true rfl) fun a h r t => ?_
  refine v_iload_n (pc := 0) h (dk dt_X11_needMoment 0 rfl) rfl ?_
  refine v_if_ge (pc := 1) h 12 (dk dt_X11_needMoment 1 rfl) rfl (by omega) (fun c1 => ?_) (fun c1 => ?_)
  ·
    exact v_vret (pc := 12) h r (dk dt_X11_needMoment 6 rfl) (Nat.le_of_ble_eq_true rfl) (Nat.le_of_ble_eq_true rfl) ⟨rfl, rfl⟩
  ·
    exact absurd c1 (by omega)
theorem cz_needRun (hst : l.stackTraces = false) (h1 : μ 0 7 = 1) :
    Ct l B D E yX11_needRun (.code yX11_needRun cX11_needRun 1 none) rz_need [.ref (pl B 0)] μ (rv μ) NX := by
  refine ct_of (own := RX11) (lv := [(0, _)]) hst (by decide) rfl rfl (Nat.le_of_ble_eq_true rfl) fun a h r t => ?_
  refine v_aload_n (pc := 0) h (dk dt_X11_needRun 0 rfl) rfl ?_
  refine v_geti (pc := 1) h ci11 sh0 (Nat.le_of_ble_eq_true rfl) (j := 7) wF_X11_54 rfl (dk dt_X11_needRun 1 rfl) ?_
  refine v_if_ne (pc := 4) h 15 (dk dt_X11_needRun 2 rfl) rfl (by omega) (fun c4 => ?_) (fun c4 => ?_)
  ·
    exact v_vret (pc := 15) h r (dk dt_X11_needRun 7 rfl) (Nat.le_of_ble_eq_true rfl) (Nat.le_of_ble_eq_true rfl) ⟨rfl, rfl⟩
  ·
    exact absurd c4 (by omega)
theorem cz_running (hst : l.stackTraces = false) (hO : hOK μ) {z : Int} (hz : InR z) (h0 : 0 ≤ z) (h1 : μ 0 7 = 1) :
    Ct l B D E yX11_running (.code yX11_running cX11_running 2 (some .int)) rz_ask [.ref (pl B 0), iI z] μ (ri (doF (μ 49) (μ 47 0) z) μ) NX := by
  have hR := hO.R h1
  refine ct_of (own := RX11) (lv := [(0, _), (1, _)]) hst (by decide) rfl rfl (Nat.le_of_ble_eq_true rfl) fun a h r t => ?_
  refine v_aload_n (pc := 0) h (dk dt_X11_running 0 rfl) rfl ?_
  refine v_iload_n (pc := 1) h (dk dt_X11_running 1 rfl) rfl ?_
  refine v_cVv (pc := 2) h (cz_needMoment h.quiet hz h0) kv_X11_needMoment sh0 wM_X11_134 rfl rfl (Nat.le_of_ble_eq_true rfl) (RM.of rfl) rfl rfl (dk dt_X11_running 2 rfl) ?_
  refine v_aload_n (pc := 5) h (dk dt_X11_running 3 rfl) rfl ?_
  refine v_cVv (pc := 6) h (cz_needRun h.quiet h1) kv_X11_needRun sh0 wM_X11_137 rfl rfl (Nat.le_of_ble_eq_true rfl) (RM.of rfl) rfl rfl (dk dt_X11_running 4 rfl) ?_
  refine v_aload_n (pc := 9) h (dk dt_X11_running 5 rfl) rfl ?_
  refine v_getr (pc := 10) h ci11 sh0 (Nat.le_of_ble_eq_true rfl) (j := 3) wF_X11_35 rfl (dk dt_X11_running 6 rfl) ?_
  refine v_getr (pc := 13) h ci10 hd28 (Nat.le_of_ble_eq_true rfl) (j := 1) wF_X11_125 rfl (dk dt_X11_running 7 rfl) ?_
  refine v_iload_n (pc := 16) h (dk dt_X11_running 8 rfl) rfl ?_
  refine v_cVi (pc := 17) h (c_X0_doingAt h.quiet (W_course W28) hR.1 hz) kv_X0_doingAt hd47 wM_X11_140 rfl rfl (Nat.le_of_ble_eq_true rfl) (RM.of rfl) rfl rfl (dk dt_X11_running 9 rfl) ?_
  exact v_iret (pc := 20) h r (dk dt_X11_running 10 rfl) (Nat.le_of_ble_eq_true rfl) (Nat.le_of_ble_eq_true rfl) ⟨rfl, rfl⟩
theorem cz_left (hst : l.stackTraces = false) (hO : hOK μ) {j z : Int} (hj : InR j) (hz : InR z) (h0 : 0 ≤ z) (hj1 : 0 ≤ j ∧ j < μ 1 9) (h1 : μ 0 7 = 1) :
    Ct l B D E yX11_left (.code yX11_left cX11_left 3 (some .int)) rz_ask [.ref (pl B 0), iI j, iI z] μ (ri (lfF (μ 5) (μ 49) (μ 47 0) j.toNat z) μ) NX := by
  have hb := hO.J.1
  have hR := hO.R h1
  obtain ⟨i, hi⟩ : ∃ i : Nat, j = (i : Int) := ⟨j.toNat, by omega⟩
  subst hi
  refine ct_of (own := RX11) (lv := [(0, _), (1, _), (2, _)]) hst (by decide) rfl rfl (Nat.le_of_ble_eq_true rfl) fun a h r t => ?_
  refine v_aload_n (pc := 0) h (dk dt_X11_left 0 rfl) rfl ?_
  refine v_iload_n (pc := 1) h (dk dt_X11_left 1 rfl) rfl ?_
  refine v_cVv (pc := 2) h (cz_needJob h.quiet hj hb hj1) kv_X11_needJob sh0 wM_X11_76 rfl rfl (Nat.le_of_ble_eq_true rfl) (RM.of rfl) rfl rfl (dk dt_X11_left 2 rfl) ?_
  refine v_aload_n (pc := 5) h (dk dt_X11_left 3 rfl) rfl ?_
  refine v_iload_n (pc := 6) h (dk dt_X11_left 4 rfl) rfl ?_
  refine v_cVv (pc := 7) h (cz_needMoment h.quiet hz h0) kv_X11_needMoment sh0 wM_X11_134 rfl rfl (Nat.le_of_ble_eq_true rfl) (RM.of rfl) rfl rfl (dk dt_X11_left 5 rfl) ?_
  refine v_aload_n (pc := 10) h (dk dt_X11_left 6 rfl) rfl ?_
  refine v_cVv (pc := 11) h (cz_needRun h.quiet h1) kv_X11_needRun sh0 wM_X11_137 rfl rfl (Nat.le_of_ble_eq_true rfl) (RM.of rfl) rfl rfl (dk dt_X11_left 7 rfl) ?_
  refine v_aload_n (pc := 14) h (dk dt_X11_left 8 rfl) rfl ?_
  refine v_getr (pc := 15) h ci11 sh0 (Nat.le_of_ble_eq_true rfl) (j := 3) wF_X11_35 rfl (dk dt_X11_left 9 rfl) ?_
  refine v_getr (pc := 18) h ci10 hd28 (Nat.le_of_ble_eq_true rfl) (j := 1) wF_X11_125 rfl (dk dt_X11_left 10 rfl) ?_
  refine v_iload_n (pc := 21) h (dk dt_X11_left 11 rfl) rfl ?_
  refine v_iload_n (pc := 22) h (dk dt_X11_left 12 rfl) rfl ?_
  refine v_cVi (pc := 23) h (c_X0_leftOf h.quiet (W_course W28) hR.1 (by omega) (by omega)) kv_X0_leftOf hd47 wM_X11_143 rfl rfl (Nat.le_of_ble_eq_true rfl) (RM.of rfl) rfl rfl (dk dt_X11_left 13 rfl) ?_
  exact v_iret (pc := 26) h r (dk dt_X11_left 14 rfl) (Nat.le_of_ble_eq_true rfl) (Nat.le_of_ble_eq_true rfl) ⟨rfl, rfl⟩
theorem cz_work (hst : l.stackTraces = false) (hO : hOK μ) (hn : μ 1 9 = (n : Int)) {z : Int} (hz : InR z) (h0 : 0 ≤ z) (h1 : μ 0 7 = 1) :
    Ct l B D E yX11_work (.code yX11_work cX11_work 4 (some .int)) rz_ask [.ref (pl B 0), iI z] μ (ri (wkS (μ 3) (μ 5) (μ 49) (μ 47 0) z n) μ) NX := by
  have hb := hO.J.1
  have hR := hO.R h1
  have hc := hR.1.1
  refine ct_of (own := RX11) (lv := [(0, _), (1, _)]) hst (by decide) rfl rfl (Nat.le_of_ble_eq_true rfl) fun a h r t => ?_
  have loop : ∀ (d i : Nat), i + d = n → VV a B (SP B D E μ) 0 0 13 [(3, iI (i : Int)), (2, iI (wkS (μ 3) (μ 5) (μ 49) (μ 47 0) z i)), (0, .ref (pl B 0)), (1, iI z)] [] := by
    intro d
    induction d with
    | zero =>
      intro i hi
      refine v_iload_n (pc := 13) h (dk dt_X11_work 9 rfl) rfl ?_
      refine v_aload_n (pc := 14) h (dk dt_X11_work 10 rfl) rfl ?_
      refine v_getr (pc := 15) h ci11 sh0 (Nat.le_of_ble_eq_true rfl) (j := 0) wF_X11_10 rfl (dk dt_X11_work 11 rfl) ?_
      refine v_geti (pc := 18) h ci1 sh1 (Nat.le_of_ble_eq_true rfl) (j := 9) wF_X11_65 rfl (dk dt_X11_work 12 rfl) ?_
      refine v_icmp_ge (pc := 21) h 60 (dk dt_X11_work 13 rfl) rfl (by omega) (fun c21 => ?_) (fun c21 => ?_)
      ·
        refine v_iload_n (pc := 60) h (dk dt_X11_work 32 rfl) rfl ?_
        exact v_iret (pc := 61) h r (dk dt_X11_work 33 rfl) (Nat.le_of_ble_eq_true rfl) (Nat.le_of_ble_eq_true rfl) ⟨by rw [show n = i by omega], rfl⟩
      ·
        exact absurd c21 (by omega)
    | succ d ih =>
      intro i hi
      have hJ := hO.J.2 i (by omega)
      have hl := lfF_b (lg := μ 49) (ln := μ 5) (T := μ 47 0) (j := i) hJ.2.1 hc h0
      have eN : ¬ μ 3 i ≤ z → wkS (μ 3) (μ 5) (μ 49) (μ 47 0) z (i + 1) = wkS (μ 3) (μ 5) (μ 49) (μ 47 0) z i := fun q => by rw [wkS, if_neg q, Int.add_zero]
      have eY : μ 3 i ≤ z → wkS (μ 3) (μ 5) (μ 49) (μ 47 0) z (i + 1) = wkS (μ 3) (μ 5) (μ 49) (μ 47 0) z i + lfF (μ 5) (μ 49) (μ 47 0) i z := fun q => by rw [wkS, if_pos q]
      refine v_iload_n (pc := 13) h (dk dt_X11_work 9 rfl) rfl ?_
      refine v_aload_n (pc := 14) h (dk dt_X11_work 10 rfl) rfl ?_
      refine v_getr (pc := 15) h ci11 sh0 (Nat.le_of_ble_eq_true rfl) (j := 0) wF_X11_10 rfl (dk dt_X11_work 11 rfl) ?_
      refine v_geti (pc := 18) h ci1 sh1 (Nat.le_of_ble_eq_true rfl) (j := 9) wF_X11_65 rfl (dk dt_X11_work 12 rfl) ?_
      refine v_icmp_ge (pc := 21) h 60 (dk dt_X11_work 13 rfl) rfl (by omega) (fun c21 => ?_) (fun c21 => ?_)
      ·
        exact absurd c21 (by omega)
      ·
        refine v_aload_n (pc := 24) h (dk dt_X11_work 14 rfl) rfl ?_
        refine v_getr (pc := 25) h ci11 sh0 (Nat.le_of_ble_eq_true rfl) (j := 0) wF_X11_10 rfl (dk dt_X11_work 15 rfl) ?_
        refine v_getr (pc := 28) h ci1 sh1 (Nat.le_of_ble_eq_true rfl) (j := 0) wF_X11_146 rfl (dk dt_X11_work 16 rfl) ?_
        refine v_iload_n (pc := 31) h (dk dt_X11_work 17 rfl) rfl ?_
        refine v_cVi (pc := 32) h (c_X7_atn h.quiet jr0 (o1 := 3) rfl (Nat.le_of_ble_eq_true rfl) (by omega)) kv_X7_at jr0.1 wM_X11_91 rfl rfl (Nat.le_of_ble_eq_true rfl) (RM.of rfl) rfl rfl (dk dt_X11_work 18 rfl) ?_
        refine v_iload_n (pc := 35) h (dk dt_X11_work 19 rfl) rfl ?_
        refine v_icmp_gt (pc := 36) h 54 (dk dt_X11_work 20 rfl) rfl (by omega) (fun c36 => ?_) (fun c36 => ?_)
        ·
          refine v_iinc (lv' := [(3, _), (2, _), (0, _), (1, _)]) (pc := 54) h (dk dt_X11_work 30 rfl) rfl (Nat.le_of_ble_eq_true rfl) rfl ?_
          refine v_goto (pc := 57) h 13 (dk dt_X11_work 31 rfl) rfl ?_
          first
            | exact VV.loc (lv' := [(3, _), (2, _), (0, _), (1, _)]) (ih (i + 1) (by omega)) ⟨rfl, lvI (eN (by omega)).symm, rfl, rfl, trivial⟩
            | exact VV.loc (lv' := [(3, _), (2, _), (0, _), (1, _)]) (ih (i + 1) (by omega)) ⟨rfl, lvI (eY (by omega)).symm, rfl, rfl, trivial⟩
        ·
          refine v_iload_n (pc := 39) h (dk dt_X11_work 21 rfl) rfl ?_
          refine v_aload_n (pc := 40) h (dk dt_X11_work 22 rfl) rfl ?_
          refine v_getr (pc := 41) h ci11 sh0 (Nat.le_of_ble_eq_true rfl) (j := 3) wF_X11_35 rfl (dk dt_X11_work 23 rfl) ?_
          refine v_getr (pc := 44) h ci10 hd28 (Nat.le_of_ble_eq_true rfl) (j := 1) wF_X11_125 rfl (dk dt_X11_work 24 rfl) ?_
          refine v_iload_n (pc := 47) h (dk dt_X11_work 25 rfl) rfl ?_
          refine v_iload_n (pc := 48) h (dk dt_X11_work 26 rfl) rfl ?_
          refine v_cVi (pc := 49) h (c_X0_leftOf h.quiet (W_course W28) hR.1 (by omega) (by omega)) kv_X0_leftOf hd47 wM_X11_143 rfl rfl (Nat.le_of_ble_eq_true rfl) (RM.of rfl) rfl rfl (dk dt_X11_work 27 rfl) ?_
          refine v_iadd (pc := 52) h (dk dt_X11_work 28 rfl) ?_
          refine v_istore_n (lv' := [(2, _), (3, _), (0, _), (1, _)]) (pc := 53) h (dk dt_X11_work 29 rfl) (Nat.le_of_ble_eq_true rfl) rfl ?_
          refine v_iinc (lv' := [(3, _), (2, _), (0, _), (1, _)]) (pc := 54) h (dk dt_X11_work 30 rfl) rfl (Nat.le_of_ble_eq_true rfl) rfl ?_
          refine v_goto (pc := 57) h 13 (dk dt_X11_work 31 rfl) rfl ?_
          first
            | exact VV.loc (lv' := [(3, _), (2, _), (0, _), (1, _)]) (ih (i + 1) (by omega)) ⟨rfl, lvI (eN (by omega)).symm, rfl, rfl, trivial⟩
            | exact VV.loc (lv' := [(3, _), (2, _), (0, _), (1, _)]) (ih (i + 1) (by omega)) ⟨rfl, lvI (eY (by omega)).symm, rfl, rfl, trivial⟩
  refine v_aload_n (pc := 0) h (dk dt_X11_work 0 rfl) rfl ?_
  refine v_iload_n (pc := 1) h (dk dt_X11_work 1 rfl) rfl ?_
  refine v_cVv (pc := 2) h (cz_needMoment h.quiet hz h0) kv_X11_needMoment sh0 wM_X11_134 rfl rfl (Nat.le_of_ble_eq_true rfl) (RM.of rfl) rfl rfl (dk dt_X11_work 2 rfl) ?_
  refine v_aload_n (pc := 5) h (dk dt_X11_work 3 rfl) rfl ?_
  refine v_cVv (pc := 6) h (cz_needRun h.quiet h1) kv_X11_needRun sh0 wM_X11_137 rfl rfl (Nat.le_of_ble_eq_true rfl) (RM.of rfl) rfl rfl (dk dt_X11_work 4 rfl) ?_
  refine v_iconst (pc := 9) h (dk dt_X11_work 5 rfl) ?_
  refine v_istore_n (lv' := [(2, _), (0, _), (1, _)]) (pc := 10) h (dk dt_X11_work 6 rfl) (Nat.le_of_ble_eq_true rfl) rfl ?_
  refine v_iconst (pc := 11) h (dk dt_X11_work 7 rfl) ?_
  refine v_istore_n (lv' := [(3, _), (2, _), (0, _), (1, _)]) (pc := 12) h (dk dt_X11_work 8 rfl) (Nat.le_of_ble_eq_true rfl) rfl ?_
  exact VV.loc (loop n 0 (by omega)) ⟨rfl, rfl, rfl, rfl, trivial⟩
end
