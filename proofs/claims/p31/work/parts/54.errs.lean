/-! ===== errors on the class: the same busy time, the least sum ===== -/
section
variable {l : Launch} {B : Nat} {D : va_G} {E : Nat → ClassId} {μ m σ : Mm} {w n : Nat} {K : Nat → Int} {s : St} {J : Mm}
/-- how errors() runs the rule r -/
abbrev kE (μ : Mm) (r : Int) : Nat → Int := kof r (μ 27 0) 0 (μ 27 4) (μ 27 2)
theorem c_X11_haveRulesSameBusyTime (hst : l.stackTraces = false) (hO : hOK μ) (hn : μ 1 9 = (n : Int)) :
    Ct l B D E yX11_haveRulesSameBusyTime (.code yX11_haveRulesSameBusyTime cX11_haveRulesSameBusyTime 2 (some .boolean)) rm_X11_haveRulesSameBusyTime [.ref (pl B 0)] μ (fun v m => v = some (iI 1) ∧ fq μ m) NX := by
  have hW := hO.W
  have hD := okJD hO.J hn
  have hok := fun (r : Int) (h : 0 ≤ r ∧ r ≤ 8) => okK_kof (r := r) (s := μ 27 0) (c := 0) (le := μ 27 4) (ri := μ 27 2) h hW.1 (by omega) hW.2.2.2 hW.2.2.1
  refine ct_of (own := RX11) (lv := [(0, _)]) hst (by decide) rfl rfl (Nat.le_of_ble_eq_true rfl) fun a h r t => ?_
  have loop : ∀ (d i : Nat) (m : Mm), i + d = 9 → fq μ m → aR 86 n (kE μ 0) (jm μ) (μ 27 3) m → VV a B (SP B D E m) 0 0 25 [(1, iI (i : Int)), (0, .ref (pl B 0))] [] := by
    intro d
    induction d with
    | zero =>
      intro i m hi fm ha
      refine v_iload_n (pc := 25) h (dk dt_X11_haveRulesSameBusyTime 13 rfl) rfl ?_
      refine v_bipush (pc := 26) h (dk dt_X11_haveRulesSameBusyTime 14 rfl) rfl ?_
      refine v_icmp_gt (pc := 28) h 82 (dk dt_X11_haveRulesSameBusyTime 15 rfl) rfl (by omega) (fun c28 => ?_) (fun c28 => ?_)
      ·
        refine v_iconst (pc := 82) h (dk dt_X11_haveRulesSameBusyTime 39 rfl) ?_
        exact v_zret (pc := 83) h r (dk dt_X11_haveRulesSameBusyTime 40 rfl) (Nat.le_of_ble_eq_true rfl) (Nat.le_of_ble_eq_true rfl) (by omega) ⟨rfl, fm⟩
      ·
        exact absurd c28 (by omega)
    | succ d ih =>
      intro i m hi fm ha
      have hOm := fq_hO hO fm
      have hnm : m 1 9 = (n : Int) := by rw [fm 1 (by omega)]; exact hn
      have jm1 : jm m = jm μ := jm_c (fun a q => fm a (by omega))
      have e27 : m 27 = μ 27 := fm 27 (by omega)
      refine v_iload_n (pc := 25) h (dk dt_X11_haveRulesSameBusyTime 13 rfl) rfl ?_
      refine v_bipush (pc := 26) h (dk dt_X11_haveRulesSameBusyTime 14 rfl) rfl ?_
      refine v_icmp_gt (pc := 28) h 82 (dk dt_X11_haveRulesSameBusyTime 15 rfl) rfl (by omega) (fun c28 => ?_) (fun c28 => ?_)
      ·
        exact absurd c28 (by omega)
      ·
        refine v_aload_n (pc := 31) h (dk dt_X11_haveRulesSameBusyTime 16 rfl) rfl ?_
        refine v_getr (pc := 32) h ci11 sh0 (Nat.le_of_ble_eq_true rfl) (j := 4) wF_X11_39 rfl (dk dt_X11_haveRulesSameBusyTime 17 rfl) ?_
        refine v_iload_n (pc := 35) h (dk dt_X11_haveRulesSameBusyTime 18 rfl) rfl ?_
        refine v_aload_n (pc := 36) h (dk dt_X11_haveRulesSameBusyTime 19 rfl) rfl ?_
        refine v_getr (pc := 37) h ci11 sh0 (Nat.le_of_ble_eq_true rfl) (j := 2) wF_X11_26 rfl (dk dt_X11_haveRulesSameBusyTime 20 rfl) ?_
        refine v_geti (pc := 40) h ci9 sh27 (Nat.le_of_ble_eq_true rfl) (j := 0) wF_X11_106 rfl (dk dt_X11_haveRulesSameBusyTime 21 rfl) ?_
        refine v_iconst (pc := 43) h (dk dt_X11_haveRulesSameBusyTime 22 rfl) ?_
        refine v_aload_n (pc := 44) h (dk dt_X11_haveRulesSameBusyTime 23 rfl) rfl ?_
        refine v_getr (pc := 45) h ci11 sh0 (Nat.le_of_ble_eq_true rfl) (j := 2) wF_X11_26 rfl (dk dt_X11_haveRulesSameBusyTime 24 rfl) ?_
        refine v_geti (pc := 48) h ci9 sh27 (Nat.le_of_ble_eq_true rfl) (j := 4) wF_X11_118 rfl (dk dt_X11_haveRulesSameBusyTime 25 rfl) ?_
        refine v_cV (pc := 51) h (c_fol (n := n) h.quiet W57 (by omega) hOm hnm (by omega) (by rw [e27]; exact hW.1) (by omega) (by rw [e27]; exact hW.2.2.2)) kv_X10_follow hd57 wM_X11_121 rfl rfl (Nat.le_of_ble_eq_true rfl) (RM.of rfl) rfl rfl (dk dt_X11_haveRulesSameBusyTime 26 rfl) (fun v51 μ51 p51 => ?_)
        obtain ⟨rfl, f51, a51⟩ := p51
        rw [e27, jm1] at a51
        have fm2 := fq_tr fm (fq_57 f51)
        have hA := aR_is hD (hok (i : Int) (by omega)) a51
        have hA0 := aR_is hD (hok 0 (by omega)) ha
        have hA1 : aR 86 n (kE μ 0) (jm μ) (μ 27 3) μ51 := aW_m (fun a q => f51 a (by omega)) ha
        have hA2 := aR_is hD (hok 0 (by omega)) hA1
        have hb : bsy μ51 76 105 = 1 := bsy_1 hD (hok (i : Int) (by omega)) (hok 0 (by omega)) rfl rfl hA.2.1 hA2.2.1 hA.2.2.1 hA2.2.2.1
        refine v_aload_n (pc := 54) h (dk dt_X11_haveRulesSameBusyTime 27 rfl) rfl ?_
        refine v_getr (pc := 55) h ci11 sh0 (Nat.le_of_ble_eq_true rfl) (j := 4) wF_X11_39 rfl (dk dt_X11_haveRulesSameBusyTime 28 rfl) ?_
        refine v_getr (pc := 58) h ci10 hd57 (Nat.le_of_ble_eq_true rfl) (j := 1) wF_X11_125 rfl (dk dt_X11_haveRulesSameBusyTime 29 rfl) ?_
        refine v_aload_n (pc := 61) h (dk dt_X11_haveRulesSameBusyTime 30 rfl) rfl ?_
        refine v_getr (pc := 62) h ci11 sh0 (Nat.le_of_ble_eq_true rfl) (j := 5) wF_X11_42 rfl (dk dt_X11_haveRulesSameBusyTime 31 rfl) ?_
        refine v_getr (pc := 65) h ci10 hd86 (Nat.le_of_ble_eq_true rfl) (j := 1) wF_X11_125 rfl (dk dt_X11_haveRulesSameBusyTime 32 rfl) ?_
        refine v_cVi (pc := 68) h (c_X0_isAsBusyAs h.quiet (W_course W57) (W_course W86) hA.1 hA2.1) kv_X0_isAsBusyAs hd76 wM_X11_251 rfl rfl (Nat.le_of_ble_eq_true rfl) (RM.of rfl) rfl rfl (dk dt_X11_haveRulesSameBusyTime 33 rfl) ?_
        rw [hb]
        refine v_if_ne (pc := 71) h 76 (dk dt_X11_haveRulesSameBusyTime 34 rfl) rfl (by omega) (fun c71 => ?_) (fun c71 => ?_)
        ·
          refine v_iinc (lv' := [(1, _), (0, _)]) (pc := 76) h (dk dt_X11_haveRulesSameBusyTime 37 rfl) rfl (Nat.le_of_ble_eq_true rfl) rfl ?_
          refine v_goto (pc := 79) h 25 (dk dt_X11_haveRulesSameBusyTime 38 rfl) rfl ?_
          exact VV.loc (ih (i + 1) _ (by omega) fm2 hA1) ⟨rfl, rfl, trivial⟩
        ·
          exact absurd c71 (by decide)
  refine v_aload_n (pc := 0) h (dk dt_X11_haveRulesSameBusyTime 0 rfl) rfl ?_
  refine v_getr (pc := 1) h ci11 sh0 (Nat.le_of_ble_eq_true rfl) (j := 5) wF_X11_42 rfl (dk dt_X11_haveRulesSameBusyTime 1 rfl) ?_
  refine v_iconst (pc := 4) h (dk dt_X11_haveRulesSameBusyTime 2 rfl) ?_
  refine v_aload_n (pc := 5) h (dk dt_X11_haveRulesSameBusyTime 3 rfl) rfl ?_
  refine v_getr (pc := 6) h ci11 sh0 (Nat.le_of_ble_eq_true rfl) (j := 2) wF_X11_26 rfl (dk dt_X11_haveRulesSameBusyTime 4 rfl) ?_
  refine v_geti (pc := 9) h ci9 sh27 (Nat.le_of_ble_eq_true rfl) (j := 0) wF_X11_106 rfl (dk dt_X11_haveRulesSameBusyTime 5 rfl) ?_
  refine v_iconst (pc := 12) h (dk dt_X11_haveRulesSameBusyTime 6 rfl) ?_
  refine v_aload_n (pc := 13) h (dk dt_X11_haveRulesSameBusyTime 7 rfl) rfl ?_
  refine v_getr (pc := 14) h ci11 sh0 (Nat.le_of_ble_eq_true rfl) (j := 2) wF_X11_26 rfl (dk dt_X11_haveRulesSameBusyTime 8 rfl) ?_
  refine v_geti (pc := 17) h ci9 sh27 (Nat.le_of_ble_eq_true rfl) (j := 4) wF_X11_118 rfl (dk dt_X11_haveRulesSameBusyTime 9 rfl) ?_
  refine v_cV (pc := 20) h (c_fol (n := n) h.quiet W86 (by omega) hO hn (by omega) hW.1 (by omega) hW.2.2.2) kv_X10_follow hd86 wM_X11_121 rfl rfl (Nat.le_of_ble_eq_true rfl) (RM.of rfl) rfl rfl (dk dt_X11_haveRulesSameBusyTime 10 rfl) (fun v20 μ20 p20 => ?_)
  obtain ⟨rfl, f20, a20⟩ := p20
  refine v_iconst (pc := 23) h (dk dt_X11_haveRulesSameBusyTime 11 rfl) ?_
  refine v_istore_n (lv' := [(1, _), (0, _)]) (pc := 24) h (dk dt_X11_haveRulesSameBusyTime 12 rfl) (Nat.le_of_ble_eq_true rfl) rfl ?_
  exact VV.loc (loop 8 1 _ (by omega) (fq_86 f20) a20) ⟨rfl, rfl, trivial⟩
theorem c_X11_hasLeastLeftLeastEnds (hst : l.stackTraces = false) (hO : hOK μ) (hn : μ 1 9 = (n : Int)) (hw : ¬ smW (μ 11) n) :
    Ct l B D E yX11_hasLeastLeftLeastEnds (.code yX11_hasLeastLeftLeastEnds cX11_hasLeastLeftLeastEnds 3 (some .boolean)) rm_X11_hasLeastLeftLeastEnds [.ref (pl B 0)] μ (fun v m => v = some (iI 1) ∧ fq μ m) NX := by
  have hW := hO.W
  have hD := okJD hO.J hn
  have hok := fun (r : Int) (h : 0 ≤ r ∧ r ≤ 8) => okK_kof (r := r) (s := μ 27 0) (c := 0) (le := μ 27 4) (ri := μ 27 2) h hW.1 (by omega) hW.2.2.2 hW.2.2.1
  have hw2 : ∀ j, j < n → jm μ 4 j = 0 := fun j hj => by by_cases q : μ 11 j = 0; exact q; exact absurd ⟨j, hj, q⟩ hw
  clear hw
  have hls := fun (r : Int) (h : 0 ≤ r ∧ r ≤ 8) => fn_least (z := μ 27 3) (z' := μ 27 3) hD (hok 3 (by omega)) (hok r h) rfl rfl rfl hw2
  have hsb := fun (r : Int) (h : 0 ≤ r ∧ r ≤ 8) => smF_e (z := μ 27 3) hD (hok r h)
  refine ct_of (own := RX11) (lv := [(0, _)]) hst (by decide) rfl rfl (Nat.le_of_ble_eq_true rfl) fun a h r t => ?_
  have loop : ∀ (d i : Nat) (m : Mm), i + d = 9 → fq μ m → VV a B (SP B D E m) 0 0 36 [(2, iI (i : Int)), (1, iI (sumE (jm μ) n (kE μ 3) (μ 27 3))), (0, .ref (pl B 0))] [] := by
    intro d
    induction d with
    | zero =>
      intro i m hi fm
      refine v_iload_n (pc := 36) h (dk dt_X11_hasLeastLeftLeastEnds 18 rfl) rfl ?_
      refine v_bipush (pc := 37) h (dk dt_X11_hasLeastLeftLeastEnds 19 rfl) rfl ?_
      refine v_icmp_gt (pc := 39) h 87 (dk dt_X11_hasLeastLeftLeastEnds 20 rfl) rfl (by omega) (fun c39 => ?_) (fun c39 => ?_)
      ·
        refine v_iconst (pc := 87) h (dk dt_X11_hasLeastLeftLeastEnds 42 rfl) ?_
        exact v_zret (pc := 88) h r (dk dt_X11_hasLeastLeftLeastEnds 43 rfl) (Nat.le_of_ble_eq_true rfl) (Nat.le_of_ble_eq_true rfl) (by omega) ⟨rfl, fm⟩
      ·
        exact absurd c39 (by omega)
    | succ d ih =>
      intro i m hi fm
      have hOm := fq_hO hO fm
      have hnm : m 1 9 = (n : Int) := by rw [fm 1 (by omega)]; exact hn
      have jm1 : jm m = jm μ := jm_c (fun a q => fm a (by omega))
      have e27 : m 27 = μ 27 := fm 27 (by omega)
      have h1 : sumE (jm μ) n (kE μ 3) (μ 27 3) ≤ sumE (jm μ) n (kE μ (i : Int)) (μ 27 3) := hls (i : Int) (by omega)
      have h2 : 0 ≤ sumE (jm μ) n (kE μ (i : Int)) (μ 27 3) ∧ sumE (jm μ) n (kE μ (i : Int)) (μ 27 3) ≤ 30000 := hsb (i : Int) (by omega)
      have h3 : 0 ≤ sumE (jm μ) n (kE μ 3) (μ 27 3) ∧ sumE (jm μ) n (kE μ 3) (μ 27 3) ≤ 30000 := hsb 3 (by omega)
      refine v_iload_n (pc := 36) h (dk dt_X11_hasLeastLeftLeastEnds 18 rfl) rfl ?_
      refine v_bipush (pc := 37) h (dk dt_X11_hasLeastLeftLeastEnds 19 rfl) rfl ?_
      refine v_icmp_gt (pc := 39) h 87 (dk dt_X11_hasLeastLeftLeastEnds 20 rfl) rfl (by omega) (fun c39 => ?_) (fun c39 => ?_)
      ·
        exact absurd c39 (by omega)
      ·
        refine v_aload_n (pc := 42) h (dk dt_X11_hasLeastLeftLeastEnds 21 rfl) rfl ?_
        refine v_getr (pc := 43) h ci11 sh0 (Nat.le_of_ble_eq_true rfl) (j := 4) wF_X11_39 rfl (dk dt_X11_hasLeastLeftLeastEnds 22 rfl) ?_
        refine v_iload_n (pc := 46) h (dk dt_X11_hasLeastLeftLeastEnds 23 rfl) rfl ?_
        refine v_aload_n (pc := 47) h (dk dt_X11_hasLeastLeftLeastEnds 24 rfl) rfl ?_
        refine v_getr (pc := 48) h ci11 sh0 (Nat.le_of_ble_eq_true rfl) (j := 2) wF_X11_26 rfl (dk dt_X11_hasLeastLeftLeastEnds 25 rfl) ?_
        refine v_geti (pc := 51) h ci9 sh27 (Nat.le_of_ble_eq_true rfl) (j := 0) wF_X11_106 rfl (dk dt_X11_hasLeastLeftLeastEnds 26 rfl) ?_
        refine v_iconst (pc := 54) h (dk dt_X11_hasLeastLeftLeastEnds 27 rfl) ?_
        refine v_aload_n (pc := 55) h (dk dt_X11_hasLeastLeftLeastEnds 28 rfl) rfl ?_
        refine v_getr (pc := 56) h ci11 sh0 (Nat.le_of_ble_eq_true rfl) (j := 2) wF_X11_26 rfl (dk dt_X11_hasLeastLeftLeastEnds 29 rfl) ?_
        refine v_geti (pc := 59) h ci9 sh27 (Nat.le_of_ble_eq_true rfl) (j := 4) wF_X11_118 rfl (dk dt_X11_hasLeastLeftLeastEnds 30 rfl) ?_
        refine v_cV (pc := 62) h (c_fol (n := n) h.quiet W57 (by omega) hOm hnm (by omega) (by rw [e27]; exact hW.1) (by omega) (by rw [e27]; exact hW.2.2.2)) kv_X10_follow hd57 wM_X11_121 rfl rfl (Nat.le_of_ble_eq_true rfl) (RM.of rfl) rfl rfl (dk dt_X11_hasLeastLeftLeastEnds 31 rfl) (fun v62 μ62 p62 => ?_)
        obtain ⟨rfl, f62, a62⟩ := p62
        rw [e27, jm1] at a62
        have fm2 := fq_tr fm (fq_57 f62)
        have hA := aR_is hD (hok (i : Int) (by omega)) a62
        have hsum : smF (μ62 73) n = sumE (jm μ) n (kE μ (i : Int)) (μ 27 3) := sumE_m hD (hok (i : Int) (by omega)) a62
        refine v_aload_n (pc := 65) h (dk dt_X11_hasLeastLeftLeastEnds 32 rfl) rfl ?_
        refine v_getr (pc := 66) h ci11 sh0 (Nat.le_of_ble_eq_true rfl) (j := 4) wF_X11_39 rfl (dk dt_X11_hasLeastLeftLeastEnds 33 rfl) ?_
        refine v_getr (pc := 69) h ci10 hd57 (Nat.le_of_ble_eq_true rfl) (j := 0) wF_X11_149 rfl (dk dt_X11_hasLeastLeftLeastEnds 34 rfl) ?_
        refine v_cVi (pc := 72) h (c_X6_endsTogether (g := 69) (n := n) h.quiet (W_prog W57) (fq_hO hO fm2).J (by rw [fm2 1 (by omega)]; exact hn) (fun j hj => by have := (hA.2.2.2 j hj).1; have := okD_c hD hj; show 0 ≤ μ62 (57 + 16) j ∧ μ62 (57 + 16) j ≤ 4000; omega)) kv_X6_endsTogether hd69 wM_X11_158 rfl rfl (Nat.le_of_ble_eq_true rfl) (RM.of rfl) rfl rfl (dk dt_X11_hasLeastLeftLeastEnds 35 rfl) ?_
        rw [show smF (μ62 (69 + 4)) n = sumE (jm μ) n (kE μ (i : Int)) (μ 27 3) from hsum]
        refine v_iload_n (pc := 75) h (dk dt_X11_hasLeastLeftLeastEnds 36 rfl) rfl ?_
        refine v_icmp_ge (pc := 76) h 81 (dk dt_X11_hasLeastLeftLeastEnds 37 rfl) rfl (by omega) (fun c76 => ?_) (fun c76 => ?_)
        ·
          refine v_iinc (lv' := [(2, _), (1, _), (0, _)]) (pc := 81) h (dk dt_X11_hasLeastLeftLeastEnds 40 rfl) rfl (Nat.le_of_ble_eq_true rfl) rfl ?_
          refine v_goto (pc := 84) h 36 (dk dt_X11_hasLeastLeftLeastEnds 41 rfl) rfl ?_
          exact VV.loc (ih (i + 1) _ (by omega) fm2) ⟨rfl, rfl, rfl, trivial⟩
        ·
          exact absurd c76 (by omega)
  refine v_aload_n (pc := 0) h (dk dt_X11_hasLeastLeftLeastEnds 0 rfl) rfl ?_
  refine v_getr (pc := 1) h ci11 sh0 (Nat.le_of_ble_eq_true rfl) (j := 5) wF_X11_42 rfl (dk dt_X11_hasLeastLeftLeastEnds 1 rfl) ?_
  refine v_iconst (pc := 4) h (dk dt_X11_hasLeastLeftLeastEnds 2 rfl) ?_
  refine v_aload_n (pc := 5) h (dk dt_X11_hasLeastLeftLeastEnds 3 rfl) rfl ?_
  refine v_getr (pc := 6) h ci11 sh0 (Nat.le_of_ble_eq_true rfl) (j := 2) wF_X11_26 rfl (dk dt_X11_hasLeastLeftLeastEnds 4 rfl) ?_
  refine v_geti (pc := 9) h ci9 sh27 (Nat.le_of_ble_eq_true rfl) (j := 0) wF_X11_106 rfl (dk dt_X11_hasLeastLeftLeastEnds 5 rfl) ?_
  refine v_iconst (pc := 12) h (dk dt_X11_hasLeastLeftLeastEnds 6 rfl) ?_
  refine v_aload_n (pc := 13) h (dk dt_X11_hasLeastLeftLeastEnds 7 rfl) rfl ?_
  refine v_getr (pc := 14) h ci11 sh0 (Nat.le_of_ble_eq_true rfl) (j := 2) wF_X11_26 rfl (dk dt_X11_hasLeastLeftLeastEnds 8 rfl) ?_
  refine v_geti (pc := 17) h ci9 sh27 (Nat.le_of_ble_eq_true rfl) (j := 4) wF_X11_118 rfl (dk dt_X11_hasLeastLeftLeastEnds 9 rfl) ?_
  refine v_cV (pc := 20) h (c_fol (n := n) h.quiet W86 (by omega) hO hn (by omega) hW.1 (by omega) hW.2.2.2) kv_X10_follow hd86 wM_X11_121 rfl rfl (Nat.le_of_ble_eq_true rfl) (RM.of rfl) rfl rfl (dk dt_X11_hasLeastLeftLeastEnds 10 rfl) (fun v20 μ20 p20 => ?_)
  obtain ⟨rfl, f20, a20⟩ := p20
  have fm2 := fq_86 f20
  have hA := aR_is hD (hok 3 (by omega)) a20
  have hsum : smF (μ20 102) n = sumE (jm μ) n (kE μ 3) (μ 27 3) := sumE_m hD (hok 3 (by omega)) a20
  refine v_aload_n (pc := 23) h (dk dt_X11_hasLeastLeftLeastEnds 11 rfl) rfl ?_
  refine v_getr (pc := 24) h ci11 sh0 (Nat.le_of_ble_eq_true rfl) (j := 5) wF_X11_42 rfl (dk dt_X11_hasLeastLeftLeastEnds 12 rfl) ?_
  refine v_getr (pc := 27) h ci10 hd86 (Nat.le_of_ble_eq_true rfl) (j := 0) wF_X11_149 rfl (dk dt_X11_hasLeastLeftLeastEnds 13 rfl) ?_
  refine v_cVi (pc := 30) h (c_X6_endsTogether (g := 98) (n := n) h.quiet (W_prog W86) (fq_hO hO fm2).J (by rw [fm2 1 (by omega)]; exact hn) (fun j hj => by have := (hA.2.2.2 j hj).1; have := okD_c hD hj; show 0 ≤ μ20 (86 + 16) j ∧ μ20 (86 + 16) j ≤ 4000; omega)) kv_X6_endsTogether hd98 wM_X11_158 rfl rfl (Nat.le_of_ble_eq_true rfl) (RM.of rfl) rfl rfl (dk dt_X11_hasLeastLeftLeastEnds 14 rfl) ?_
  rw [show smF (μ20 (98 + 4)) n = sumE (jm μ) n (kE μ 3) (μ 27 3) from hsum]
  refine v_istore_n (lv' := [(1, _), (0, _)]) (pc := 33) h (dk dt_X11_hasLeastLeftLeastEnds 15 rfl) (Nat.le_of_ble_eq_true rfl) rfl ?_
  refine v_iconst (pc := 34) h (dk dt_X11_hasLeastLeftLeastEnds 16 rfl) ?_
  refine v_istore_n (lv' := [(2, _), (1, _), (0, _)]) (pc := 35) h (dk dt_X11_hasLeastLeftLeastEnds 17 rfl) (Nat.le_of_ble_eq_true rfl) rfl ?_
  exact VV.loc (loop 9 0 _ (by omega) fm2) ⟨rfl, rfl, rfl, trivial⟩
theorem c_X11_keepsDeadlines (hst : l.stackTraces = false) (hO : hOK μ) (hn : μ 1 9 = (n : Int)) {ru : Int} (hru : 0 ≤ ru ∧ ru ≤ 8) :
    Ct l B D E yX11_keepsDeadlines (.code yX11_keepsDeadlines cX11_keepsDeadlines 2 (some .boolean)) rm_X11_keepsDeadlines [.ref (pl B 0), iI ru] μ (fun v m => v = some (iI (if lateE (jm μ) n (kE μ ru) (μ 27 3) = 0 then 1 else 0)) ∧ fq μ m) NX := by
  have hW := hO.W
  have hD := okJD hO.J hn
  have hok := okK_kof (r := ru) (s := μ 27 0) (c := 0) (le := μ 27 4) (ri := μ 27 2) hru hW.1 (by omega) hW.2.2.2 hW.2.2.1
  refine ct_of (own := RX11) (lv := [(0, _), (1, _)]) hst (by decide) rfl rfl (Nat.le_of_ble_eq_true rfl) fun a h r t => ?_
  refine v_aload_n (pc := 0) h (dk dt_X11_keepsDeadlines 0 rfl) rfl ?_
  refine v_getr (pc := 1) h ci11 sh0 (Nat.le_of_ble_eq_true rfl) (j := 4) wF_X11_39 rfl (dk dt_X11_keepsDeadlines 1 rfl) ?_
  refine v_iload_n (pc := 4) h (dk dt_X11_keepsDeadlines 2 rfl) rfl ?_
  refine v_aload_n (pc := 5) h (dk dt_X11_keepsDeadlines 3 rfl) rfl ?_
  refine v_getr (pc := 6) h ci11 sh0 (Nat.le_of_ble_eq_true rfl) (j := 2) wF_X11_26 rfl (dk dt_X11_keepsDeadlines 4 rfl) ?_
  refine v_geti (pc := 9) h ci9 sh27 (Nat.le_of_ble_eq_true rfl) (j := 0) wF_X11_106 rfl (dk dt_X11_keepsDeadlines 5 rfl) ?_
  refine v_iconst (pc := 12) h (dk dt_X11_keepsDeadlines 6 rfl) ?_
  refine v_aload_n (pc := 13) h (dk dt_X11_keepsDeadlines 7 rfl) rfl ?_
  refine v_getr (pc := 14) h ci11 sh0 (Nat.le_of_ble_eq_true rfl) (j := 2) wF_X11_26 rfl (dk dt_X11_keepsDeadlines 8 rfl) ?_
  refine v_geti (pc := 17) h ci9 sh27 (Nat.le_of_ble_eq_true rfl) (j := 4) wF_X11_118 rfl (dk dt_X11_keepsDeadlines 9 rfl) ?_
  refine v_cV (pc := 20) h (c_fol (n := n) h.quiet W57 (by omega) hO hn hru hW.1 (by omega) hW.2.2.2) kv_X10_follow hd57 wM_X11_121 rfl rfl (Nat.le_of_ble_eq_true rfl) (RM.of rfl) rfl rfl (dk dt_X11_keepsDeadlines 10 rfl) (fun v20 μ20 p20 => ?_)
  obtain ⟨rfl, f20, a20⟩ := p20
  have fm2 := fq_57 f20
  have hA := aR_is hD hok a20
  have e7 : μ20 7 = μ 7 := fm2 7 (by omega)
  have hl : latN (μ20 7) (μ20 73) n = lateE (jm μ) n (kE μ ru) (μ 27 3) := by rw [e7]; exact lateE_m hD hok a20
  have hlb := latN_b (μ20 7) (μ20 73) n
  have hn12 := hD.1
  refine v_aload_n (pc := 23) h (dk dt_X11_keepsDeadlines 11 rfl) rfl ?_
  refine v_getr (pc := 24) h ci11 sh0 (Nat.le_of_ble_eq_true rfl) (j := 4) wF_X11_39 rfl (dk dt_X11_keepsDeadlines 12 rfl) ?_
  refine v_getr (pc := 27) h ci10 hd57 (Nat.le_of_ble_eq_true rfl) (j := 0) wF_X11_149 rfl (dk dt_X11_keepsDeadlines 13 rfl) ?_
  refine v_cVi (pc := 30) h (c_X6_countLate (g := 69) (n := n) h.quiet (W_prog W57) (fq_hO hO fm2).J (by rw [fm2 1 (by omega)]; exact hn) (fun j hj => by have := (hA.2.2.2 j hj).1; have := okD_c hD hj; show 0 ≤ μ20 (57 + 16) j ∧ μ20 (57 + 16) j ≤ 4000; omega)) kv_X6_countLate hd69 wM_X11_199 rfl rfl (Nat.le_of_ble_eq_true rfl) (RM.of rfl) rfl rfl (dk dt_X11_keepsDeadlines 14 rfl) ?_
  rw [show latN (μ20 7) (μ20 (69 + 4)) n = lateE (jm μ) n (kE μ ru) (μ 27 3) from hl]
  refine v_if_ne (pc := 33) h 40 (dk dt_X11_keepsDeadlines 15 rfl) rfl (by omega) (fun c33 => ?_) (fun c33 => ?_)
  ·
    refine v_iconst (pc := 40) h (dk dt_X11_keepsDeadlines 18 rfl) ?_
    exact v_zret (pc := 41) h r (dk dt_X11_keepsDeadlines 19 rfl) (Nat.le_of_ble_eq_true rfl) (Nat.le_of_ble_eq_true rfl) (by omega) ⟨by first | rw [if_pos c33] | rw [if_neg c33], fm2⟩
  ·
    refine v_iconst (pc := 36) h (dk dt_X11_keepsDeadlines 16 rfl) ?_
    refine v_goto (pc := 37) h 41 (dk dt_X11_keepsDeadlines 17 rfl) rfl ?_
    exact v_zret (pc := 41) h r (dk dt_X11_keepsDeadlines 19 rfl) (Nat.le_of_ble_eq_true rfl) (Nat.le_of_ble_eq_true rfl) (by omega) ⟨by first | rw [if_pos c33] | rw [if_neg c33], fm2⟩
/-- whether a rule, of the first i, keeps all deadlines -/
def smD (μ : Mm) (n : Nat) : Nat → Bool
  | 0 => false
  | i + 1 => smD μ n i || decide (lateE (jm μ) n (kE μ (i : Int)) (μ 27 3) = 0)
theorem smD_m {i j : Nat} (h : i ≤ j) (hs : smD μ n i = true) : smD μ n j = true := by
  induction j with
  | zero => have e : i = 0 := by omega
            subst e; exact hs
  | succ j ih =>
    by_cases e : i = j + 1
    · rw [← e]; exact hs
    · simp only [smD]; rw [ih (by omega)]; rfl
theorem c_X11_doesSomeRuleKeepDeadlines (hst : l.stackTraces = false) (hO : hOK μ) (hn : μ 1 9 = (n : Int)) :
    Ct l B D E yX11_doesSomeRuleKeepDeadlines (.code yX11_doesSomeRuleKeepDeadlines cX11_doesSomeRuleKeepDeadlines 2 (some .boolean)) rm_X11_doesSomeRuleKeepDeadlines [.ref (pl B 0)] μ (fun v m => v = some (iI (if smD μ n 9 = true then 1 else 0)) ∧ fq μ m) NX := by
  refine ct_of (own := RX11) (lv := [(0, _)]) hst (by decide) rfl rfl (Nat.le_of_ble_eq_true rfl) fun a h r t => ?_
  have loop : ∀ (d i : Nat) (m : Mm), i + d = 9 → fq μ m → smD μ n i = false → VV a B (SP B D E m) 0 0 2 [(1, iI (i : Int)), (0, .ref (pl B 0))] [] := by
    intro d
    induction d with
    | zero =>
      intro i m hi fm hs
      have e : i = 9 := by omega
      subst e
      refine v_iload_n (pc := 2) h (dk dt_X11_doesSomeRuleKeepDeadlines 2 rfl) rfl ?_
      refine v_bipush (pc := 3) h (dk dt_X11_doesSomeRuleKeepDeadlines 3 rfl) rfl ?_
      refine v_icmp_gt (pc := 5) h 24 (dk dt_X11_doesSomeRuleKeepDeadlines 4 rfl) rfl (by omega) (fun c5 => ?_) (fun c5 => ?_)
      ·
        refine v_iconst (pc := 24) h (dk dt_X11_doesSomeRuleKeepDeadlines 13 rfl) ?_
        exact v_zret (pc := 25) h r (dk dt_X11_doesSomeRuleKeepDeadlines 14 rfl) (Nat.le_of_ble_eq_true rfl) (Nat.le_of_ble_eq_true rfl) (by omega) ⟨by rw [hs]; rfl, fm⟩
      ·
        exact absurd c5 (by omega)
    | succ d ih =>
      intro i m hi fm hs
      have hOm := fq_hO hO fm
      have hnm : m 1 9 = (n : Int) := by rw [fm 1 (by omega)]; exact hn
      have jm1 : jm m = jm μ := jm_c (fun a q => fm a (by omega))
      have e27 : m 27 = μ 27 := fm 27 (by omega)
      have eE : lateE (jm m) n (kE m (i : Int)) (m 27 3) = lateE (jm μ) n (kE μ (i : Int)) (μ 27 3) := by show lateE (jm m) n (kof (i : Int) (m 27 0) 0 (m 27 4) (m 27 2)) (m 27 3) = _; rw [jm1, e27]
      refine v_iload_n (pc := 2) h (dk dt_X11_doesSomeRuleKeepDeadlines 2 rfl) rfl ?_
      refine v_bipush (pc := 3) h (dk dt_X11_doesSomeRuleKeepDeadlines 3 rfl) rfl ?_
      refine v_icmp_gt (pc := 5) h 24 (dk dt_X11_doesSomeRuleKeepDeadlines 4 rfl) rfl (by omega) (fun c5 => ?_) (fun c5 => ?_)
      ·
        exact absurd c5 (by omega)
      ·
        refine v_aload_n (pc := 8) h (dk dt_X11_doesSomeRuleKeepDeadlines 5 rfl) rfl ?_
        refine v_iload_n (pc := 9) h (dk dt_X11_doesSomeRuleKeepDeadlines 6 rfl) rfl ?_
        refine v_cV (pc := 10) h (c_X11_keepsDeadlines (n := n) h.quiet hOm hnm (by omega)) kv_X11_keepsDeadlines sh0 wM_X11_232 rfl rfl (Nat.le_of_ble_eq_true rfl) (RM.of rfl) rfl rfl (dk dt_X11_doesSomeRuleKeepDeadlines 7 rfl) (fun v10 μ10 p10 => ?_)
        obtain ⟨rfl, f10⟩ := p10
        rw [eE]
        refine v_if_eq (pc := 13) h 18 (dk dt_X11_doesSomeRuleKeepDeadlines 8 rfl) rfl (by split <;> omega) (fun c13 => ?_) (fun c13 => ?_)
        ·
          have d13 : ¬ lateE (jm μ) n (kE μ (i : Int)) (μ 27 3) = 0 := fun q => by rw [if_pos q] at c13; omega
          refine v_iinc (lv' := [(1, _), (0, _)]) (pc := 18) h (dk dt_X11_doesSomeRuleKeepDeadlines 11 rfl) rfl (Nat.le_of_ble_eq_true rfl) rfl ?_
          refine v_goto (pc := 21) h 2 (dk dt_X11_doesSomeRuleKeepDeadlines 12 rfl) rfl ?_
          exact VV.loc (ih (i + 1) _ (by omega) (fq_tr fm f10) (by simp only [smD]; rw [hs, decide_eq_false d13]; rfl)) ⟨rfl, rfl, trivial⟩
        ·
          have d13 : lateE (jm μ) n (kE μ (i : Int)) (μ 27 3) = 0 := by by_cases q : lateE (jm μ) n (kE μ (i : Int)) (μ 27 3) = 0; exact q; rw [if_neg q] at c13; omega
          have hs9 : smD μ n 9 = true := smD_m (i := i + 1) (by omega) (by simp only [smD]; rw [hs, decide_eq_true d13]; rfl)
          refine v_iconst (pc := 16) h (dk dt_X11_doesSomeRuleKeepDeadlines 9 rfl) ?_
          exact v_zret (pc := 17) h r (dk dt_X11_doesSomeRuleKeepDeadlines 10 rfl) (Nat.le_of_ble_eq_true rfl) (Nat.le_of_ble_eq_true rfl) (by omega) ⟨by rw [hs9]; rfl, fq_tr fm f10⟩
  refine v_iconst (pc := 0) h (dk dt_X11_doesSomeRuleKeepDeadlines 0 rfl) ?_
  refine v_istore_n (lv' := [(1, _), (0, _)]) (pc := 1) h (dk dt_X11_doesSomeRuleKeepDeadlines 1 rfl) (Nat.le_of_ble_eq_true rfl) rfl ?_
  exact VV.loc (loop 9 0 μ (by omega) fq_rf rfl) ⟨rfl, rfl, trivial⟩
end
