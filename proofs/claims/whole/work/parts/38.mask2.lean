/-! ===== the model: the slowest, stretches of work, the checksum ===== -/
section
variable {l : Launch} {B : Nat} {D : va_G} {E : Nat → ClassId} {μ m σ : Mm} {w n : Nat} {K : Nat → Int} {s : St} {J : Mm}
theorem c_X12_common (hst : l.stackTraces = false) {y z : Nat} (ha : y < 1099511627776) (hb : z < 1099511627776) :
    Ct l B D E yX12_common (.code yX12_common cX12_common 10 (some .long)) rm_X12_common [iL (y : Int), iL (z : Int)] μ (dr (some (iL ((Nat.gcd y z : Nat) : Int))) μ) NX := by
  refine ct_of (own := RX12) (lv := [(0, _), (2, _)]) hst (by decide) rfl rfl (Nat.le_of_ble_eq_true rfl) fun a h r t => ?_
  have loop : ∀ (d y' z' : Nat), z' < d → y' < 1099511627776 → z' < 1099511627776 → Nat.gcd y' z' = Nat.gcd y z → VV a B (SP B D E μ) 0 0 6 [(6, iL (z' : Int)), (4, iL (y' : Int))] [] := by
    intro d
    induction d with
    | zero => intro y' z' hd; exact absurd hd (by omega)
    | succ d ih =>
      intro y' z' hd h1 h2 e
      have hm : z' ≠ 0 → y' % z' < z' := fun q => Nat.mod_lt _ (by omega)
      refine v_lload (pc := 6) h (dk dt_X12_common 4 rfl) rfl ?_
      refine v_lconst (pc := 8) (y := 0) h (dk dt_X12_common 5 rfl) rfl ?_
      refine v_lcmp (pc := 9) h (dk dt_X12_common 6 rfl) (by omega) (by omega) ?_
      rw [lc0]
      refine v_if_eq (pc := 10) h 31 (dk dt_X12_common 7 rfl) rfl (by split <;> omega) (fun c10 => ?_) (fun c10 => ?_)
      ·
        have d10 : z' = 0 := by by_cases q : z' = 0; exact q; rw [if_neg q] at c10; omega
        refine v_lload (pc := 31) h (dk dt_X12_common 17 rfl) rfl ?_
        exact v_lret (pc := 33) h r (dk dt_X12_common 18 rfl) (Nat.le_of_ble_eq_true rfl) (Nat.le_of_ble_eq_true rfl) ⟨by rw [← e, d10, Nat.gcd_zero_right], rfl⟩
      ·
        have d10 : z' ≠ 0 := fun q => by rw [if_pos q] at c10; omega
        have hm2 := hm d10
        refine v_lload (pc := 13) h (dk dt_X12_common 8 rfl) rfl ?_
        refine v_lload (pc := 15) h (dk dt_X12_common 9 rfl) rfl ?_
        refine v_lrem (pc := 17) h (dk dt_X12_common 10 rfl) (by omega) (by omega) ?_
        refine v_lstore (lv' := [(8, _), (6, _), (4, _)]) (pc := 18) h (dk dt_X12_common 11 rfl) (Nat.le_of_ble_eq_true rfl) rfl ?_
        refine v_lload (pc := 20) h (dk dt_X12_common 12 rfl) rfl ?_
        refine v_lstore (lv' := [(4, _), (8, _), (6, _)]) (pc := 22) h (dk dt_X12_common 13 rfl) (Nat.le_of_ble_eq_true rfl) rfl ?_
        refine v_lload (pc := 24) h (dk dt_X12_common 14 rfl) rfl ?_
        refine v_lstore (lv' := [(6, _), (4, _), (8, _)]) (pc := 26) h (dk dt_X12_common 15 rfl) (Nat.le_of_ble_eq_true rfl) rfl ?_
        refine v_goto (pc := 28) h 6 (dk dt_X12_common 16 rfl) rfl ?_
        exact VV.loc (ih z' (y' % z') (by omega) h2 (by omega) (by rw [← e, Nat.gcd_comm y' z', Nat.gcd_comm z', ← Nat.gcd_rec])) ⟨rfl, rfl, trivial⟩
  refine v_lload_n (pc := 0) h (dk dt_X12_common 0 rfl) rfl ?_
  refine v_lstore (lv' := [(4, _), (0, _), (2, _)]) (pc := 1) h (dk dt_X12_common 1 rfl) (Nat.le_of_ble_eq_true rfl) rfl ?_
  refine v_lload_n (pc := 3) h (dk dt_X12_common 2 rfl) rfl ?_
  refine v_lstore (lv' := [(6, _), (4, _), (0, _), (2, _)]) (pc := 4) h (dk dt_X12_common 3 rfl) (Nat.le_of_ble_eq_true rfl) rfl ?_
  exact VV.loc (loop (z + 1) y z (by omega) ha hb rfl) ⟨rfl, rfl, trivial⟩
theorem c_X12_checksum (hst : l.stackTraces = false) (hE : eqJ μ) (hH : eqH μ) (hO : hOK μ) :
    Ct l B D E yX12_checksum (.code yX12_checksum cX12_checksum 3 (some .int)) rm_X12_checksum [.ref (pl B 123)] μ (PM (rcN (μ 0 7)) (some (iI (ckS (μ 49) (μ 47 0).toNat))) μ (mup μ 123 14 0)) NX := by
  refine ct_of (own := RX12) (lv := [(0, _)]) hst (by decide) rfl rfl (Nat.le_of_ble_eq_true rfl) fun a h r t => ?_
  have loop : μ 0 7 = 1 → ∀ (d i : Nat), i + d = (μ 47 0).toNat → VV a B (SP B D E μ) 0 0 17 [(2, iI (i : Int)), (1, iI (ckS (μ 49) i)), (0, .ref (pl B 123))] [] := by
    intro h1 d
    have hR := hO.R h1
    have hc := hR.1.1
    have hL := hH.2 h1
    have e24 := hL.1
    induction d with
    | zero =>
      intro i hi
      refine v_iload_n (pc := 17) h (dk dt_X12_checksum 11 rfl) rfl ?_
      refine v_aload_n (pc := 18) h (dk dt_X12_checksum 12 rfl) rfl ?_
      refine v_geti (pc := 19) h ci12 sh123 (Nat.le_of_ble_eq_true rfl) (j := 24) wF_X12_214 rfl (dk dt_X12_checksum 13 rfl) ?_
      refine v_icmp_ge (pc := 22) h 45 (dk dt_X12_checksum 14 rfl) rfl (by omega) (fun c22 => ?_) (fun c22 => ?_)
      ·
        refine v_aload_n (pc := 45) h (dk dt_X12_checksum 28 rfl) rfl ?_
        refine v_iload_n (pc := 46) h (dk dt_X12_checksum 29 rfl) rfl ?_
        refine v_cVi (pc := 47) h (c_X12_told h.quiet) kv_X12_told sh123 wM_X12_115 rfl rfl (Nat.le_of_ble_eq_true rfl) (RM.of rfl) rfl rfl (dk dt_X12_checksum 30 rfl) ?_
        exact v_iret (pc := 50) h r (dk dt_X12_checksum 31 rfl) (Nat.le_of_ble_eq_true rfl) (Nat.le_of_ble_eq_true rfl) (by rw [show i = (μ 47 0).toNat by omega]; exact PM_0 (rcN_0 h1))
      ·
        exact absurd c22 (by omega)
    | succ d ih =>
      intro i hi
      refine v_iload_n (pc := 17) h (dk dt_X12_checksum 11 rfl) rfl ?_
      refine v_aload_n (pc := 18) h (dk dt_X12_checksum 12 rfl) rfl ?_
      refine v_geti (pc := 19) h ci12 sh123 (Nat.le_of_ble_eq_true rfl) (j := 24) wF_X12_214 rfl (dk dt_X12_checksum 13 rfl) ?_
      refine v_icmp_ge (pc := 22) h 45 (dk dt_X12_checksum 14 rfl) rfl (by omega) (fun c22 => ?_) (fun c22 => ?_)
      ·
        exact absurd c22 (by omega)
      ·
        refine v_bipush (pc := 25) h (dk dt_X12_checksum 15 rfl) rfl ?_
        refine v_iload_n (pc := 27) h (dk dt_X12_checksum 16 rfl) rfl ?_
        refine v_imul (pc := 28) h (dk dt_X12_checksum 17 rfl) ?_
        refine v_iconst (pc := 29) h (dk dt_X12_checksum 18 rfl) ?_
        refine v_iadd (pc := 30) h (dk dt_X12_checksum 19 rfl) ?_
        refine v_aload_n (pc := 31) h (dk dt_X12_checksum 20 rfl) rfl ?_
        refine v_getr (pc := 32) h ci12 sh123 (Nat.le_of_ble_eq_true rfl) (j := 20) wF_X12_56 rfl (dk dt_X12_checksum 21 rfl) ?_
        refine v_iload_n (pc := 35) h (dk dt_X12_checksum 22 rfl) rfl ?_
        refine v_iald (pc := 36) h sh136 (Nat.le_of_ble_eq_true rfl) (by omega) (dk dt_X12_checksum 23 rfl) ?_
        rw [Int.toNat_natCast, hL.2.1 i (by omega)]
        refine v_iadd (pc := 37) h (dk dt_X12_checksum 24 rfl) ?_
        refine v_istore_n (lv' := [(1, _), (2, _), (0, _)]) (pc := 38) h (dk dt_X12_checksum 25 rfl) (Nat.le_of_ble_eq_true rfl) rfl ?_
        refine v_iinc (lv' := [(2, _), (1, _), (0, _)]) (pc := 39) h (dk dt_X12_checksum 26 rfl) rfl (Nat.le_of_ble_eq_true rfl) rfl ?_
        refine v_goto (pc := 42) h 17 (dk dt_X12_checksum 27 rfl) rfl ?_
        exact VV.loc (ih (i + 1) (by omega)) ⟨rfl, rfl, rfl, trivial⟩
  refine v_aload_n (pc := 0) h (dk dt_X12_checksum 0 rfl) rfl ?_
  refine v_cVi (pc := 1) h (c_X12_isRun h.quiet (by assumption)) kv_X12_isRun sh123 wM_X12_217 rfl rfl (Nat.le_of_ble_eq_true rfl) (RM.of rfl) rfl rfl (dk dt_X12_checksum 1 rfl) ?_
  refine v_if_ne (pc := 4) h 13 (dk dt_X12_checksum 2 rfl) rfl (by split <;> omega) (fun c4 => ?_) (fun c4 => ?_)
  ·
    have d4 : μ 0 7 = 1 := by by_cases q : μ 0 7 = 1; exact q; rw [if_neg q] at c4; omega
    refine v_iconst (pc := 13) h (dk dt_X12_checksum 7 rfl) ?_
    refine v_istore_n (lv' := [(1, _), (0, _)]) (pc := 14) h (dk dt_X12_checksum 8 rfl) (Nat.le_of_ble_eq_true rfl) rfl ?_
    refine v_iconst (pc := 15) h (dk dt_X12_checksum 9 rfl) ?_
    refine v_istore_n (lv' := [(2, _), (1, _), (0, _)]) (pc := 16) h (dk dt_X12_checksum 10 rfl) (Nat.le_of_ble_eq_true rfl) rfl ?_
    exact VV.loc (loop d4 (μ 47 0).toNat 0 (by omega)) ⟨rfl, rfl, rfl, trivial⟩
  ·
    have d4 : ¬ μ 0 7 = 1 := fun q => by rw [if_pos q] at c4; omega
    refine v_aload_n (pc := 7) h (dk dt_X12_checksum 3 rfl) rfl ?_
    refine v_iconst (pc := 8) h (dk dt_X12_checksum 4 rfl) ?_
    refine v_cVi (pc := 9) h (c_X12_refuse h.quiet) kv_X12_refuse sh123 wM_X12_119 rfl rfl (Nat.le_of_ble_eq_true rfl) (RM.of rfl) rfl rfl (dk dt_X12_checksum 5 rfl) ?_
    exact v_iret (pc := 12) h r (dk dt_X12_checksum 6 rfl) (Nat.le_of_ble_eq_true rfl) (Nat.le_of_ble_eq_true rfl) (PM_n (rcN_1 d4) (by decide))
theorem c_X12_slowest (hst : l.stackTraces = false) (hE : eqJ μ) (hH : eqH μ) (hO : hOK μ) (hn : μ 1 9 = (n : Int)) {b : Int} (hb01 : b = 0 ∨ b = 1) :
    Ct l B D E yX12_slowest (.code yX12_slowest cX12_slowest 6 (some .int)) rm_X12_slowest [.ref (pl B 123), iI b] μ (PM (rcSl (μ 0 7) (μ 1 9)) (some (iI (anSl (slF (μ 44) (μ 3) (μ 5) n) b))) μ (mup μ 123 14 0)) NX := by
  have hb := hO.J.1
  have e9 := eqJ_n hE hn
  refine ct_of (own := RX12) (lv := [(0, _), (1, _)]) hst (by decide) rfl rfl (Nat.le_of_ble_eq_true rfl) fun a h r t => ?_
  have loop : μ 0 7 = 1 → μ 1 9 ≠ 0 → ∀ (d i : Nat), i + d = n → VV a B (SP B D E μ) 0 0 27 [(4, iI (i : Int)), (3, iI ((slF (μ 44) (μ 3) (μ 5) i).2 : Int)), (2, iI ((slF (μ 44) (μ 3) (μ 5) i).1 : Int)), (0, .ref (pl B 123)), (1, iI b)] [] := by
    intro h1 h0 d
    have hR := hO.R h1
    have hL := hH.2 h1
    have hrc : rcSl (μ 0 7) (μ 1 9) = 0 := by unfold rcSl; rw [if_neg (by omega)]
    have hbd : ∀ j, j < n → 1 ≤ μ 5 j ∧ μ 5 j ≤ 30 ∧ 0 ≤ μ 3 j ∧ μ 44 j ≤ 2304 := fun j hj => by
      have q1 := hO.J.2 j (by omega)
      have q2 := hR.2 j (by omega)
      omega
    induction d with
    | zero =>
      intro i hi
      have hsb := slF_b hbd i (by omega)
      have e : n = i := by omega
      have ean : ∀ b, anSl (slF (μ 44) (μ 3) (μ 5) n) b = if b = 0 then (((slF (μ 44) (μ 3) (μ 5) i).1 / Nat.gcd (slF (μ 44) (μ 3) (μ 5) i).1 (slF (μ 44) (μ 3) (μ 5) i).2 : Nat) : Int) else (((slF (μ 44) (μ 3) (μ 5) i).2 / Nat.gcd (slF (μ 44) (μ 3) (μ 5) i).1 (slF (μ 44) (μ 3) (μ 5) i).2 : Nat) : Int) := fun b => by rw [e]; unfold anSl; rw [Nat.gcd_comm (slF (μ 44) (μ 3) (μ 5) i).2]
      have hgp : 0 < Nat.gcd (slF (μ 44) (μ 3) (μ 5) i).1 (slF (μ 44) (μ 3) (μ 5) i).2 := Nat.gcd_pos_of_pos_right _ (by omega)
      have hgl : Nat.gcd (slF (μ 44) (μ 3) (μ 5) i).1 (slF (μ 44) (μ 3) (μ 5) i).2 ≤ (slF (μ 44) (μ 3) (μ 5) i).2 := Nat.gcd_le_right _ (by omega)
      generalize slF (μ 44) (μ 3) (μ 5) i = P at *
      obtain ⟨x, y⟩ := P
      simp only at *
      generalize hg : Nat.gcd x y = g at *
      have k1 : (x : Int) / (g : Int) = ((x / g : Nat) : Int) := (Int.natCast_ediv x g).symm
      have k2 : (y : Int) / (g : Int) = ((y / g : Nat) : Int) := (Int.natCast_ediv y g).symm
      rcases hb01 with rfl | rfl
      ·
        refine v_iload (pc := 27) h (dk dt_X12_slowest 16 rfl) rfl ?_
        refine v_aload_n (pc := 29) h (dk dt_X12_slowest 17 rfl) rfl ?_
        refine v_geti (pc := 30) h ci12 sh123 (Nat.le_of_ble_eq_true rfl) (j := 9) wF_X12_108 rfl (dk dt_X12_slowest 18 rfl) ?_
        refine v_icmp_ge (pc := 33) h 86 (dk dt_X12_slowest 19 rfl) rfl (by omega) (fun c33 => ?_) (fun c33 => ?_)
        ·
          refine v_iload_n (pc := 86) h (dk dt_X12_slowest 49 rfl) rfl ?_
          refine v_i2l (pc := 87) h (dk dt_X12_slowest 50 rfl) (by omega) ?_
          refine v_iload_n (pc := 88) h (dk dt_X12_slowest 51 rfl) rfl ?_
          refine v_i2l (pc := 89) h (dk dt_X12_slowest 52 rfl) (by omega) ?_
          refine v_cSi (pc := 90) h (c_X12_common h.quiet (by omega) (by omega)) kv_X12_common wM_X12_235 rfl rfl (Nat.le_of_ble_eq_true rfl) (RM.of rfl) rfl rfl (dk dt_X12_slowest 53 rfl) ?_
          rw [hg]
          refine v_l2i (pc := 93) h (dk dt_X12_slowest 54 rfl) (by omega) ?_
          refine v_istore (lv' := [(4, _), (3, _), (2, _), (0, _), (1, _)]) (pc := 94) h (dk dt_X12_slowest 55 rfl) (Nat.le_of_ble_eq_true rfl) rfl ?_
          refine v_aload_n (pc := 96) h (dk dt_X12_slowest 56 rfl) rfl ?_
          refine v_iload_n (pc := 97) h (dk dt_X12_slowest 57 rfl) rfl ?_
          refine v_if_eq (pc := 98) h 105 (dk dt_X12_slowest 58 rfl) rfl (by omega) (fun c98 => ?_) (fun c98 => ?_)
          ·
            rw [ean, if_pos rfl] at r
            refine v_iload_n (pc := 105) h (dk dt_X12_slowest 61 rfl) rfl ?_
            refine v_iload (pc := 106) h (dk dt_X12_slowest 62 rfl) rfl ?_
            refine v_idiv (pc := 108) h (dk dt_X12_slowest 63 rfl) (by omega) (by omega) ?_
            rw [k1]
            refine v_cVi (pc := 109) h (c_X12_told h.quiet) kv_X12_told sh123 wM_X12_115 rfl rfl (Nat.le_of_ble_eq_true rfl) (RM.of rfl) rfl rfl (dk dt_X12_slowest 64 rfl) ?_
            exact v_iret (pc := 112) h r (dk dt_X12_slowest 65 rfl) (Nat.le_of_ble_eq_true rfl) (Nat.le_of_ble_eq_true rfl) (PM_0 hrc)
          ·
            exact absurd rfl c98
        ·
          exact absurd c33 (by omega)
      ·
        refine v_iload (pc := 27) h (dk dt_X12_slowest 16 rfl) rfl ?_
        refine v_aload_n (pc := 29) h (dk dt_X12_slowest 17 rfl) rfl ?_
        refine v_geti (pc := 30) h ci12 sh123 (Nat.le_of_ble_eq_true rfl) (j := 9) wF_X12_108 rfl (dk dt_X12_slowest 18 rfl) ?_
        refine v_icmp_ge (pc := 33) h 86 (dk dt_X12_slowest 19 rfl) rfl (by omega) (fun c33 => ?_) (fun c33 => ?_)
        ·
          refine v_iload_n (pc := 86) h (dk dt_X12_slowest 49 rfl) rfl ?_
          refine v_i2l (pc := 87) h (dk dt_X12_slowest 50 rfl) (by omega) ?_
          refine v_iload_n (pc := 88) h (dk dt_X12_slowest 51 rfl) rfl ?_
          refine v_i2l (pc := 89) h (dk dt_X12_slowest 52 rfl) (by omega) ?_
          refine v_cSi (pc := 90) h (c_X12_common h.quiet (by omega) (by omega)) kv_X12_common wM_X12_235 rfl rfl (Nat.le_of_ble_eq_true rfl) (RM.of rfl) rfl rfl (dk dt_X12_slowest 53 rfl) ?_
          rw [hg]
          refine v_l2i (pc := 93) h (dk dt_X12_slowest 54 rfl) (by omega) ?_
          refine v_istore (lv' := [(4, _), (3, _), (2, _), (0, _), (1, _)]) (pc := 94) h (dk dt_X12_slowest 55 rfl) (Nat.le_of_ble_eq_true rfl) rfl ?_
          refine v_aload_n (pc := 96) h (dk dt_X12_slowest 56 rfl) rfl ?_
          refine v_iload_n (pc := 97) h (dk dt_X12_slowest 57 rfl) rfl ?_
          refine v_if_eq (pc := 98) h 105 (dk dt_X12_slowest 58 rfl) rfl (by omega) (fun c98 => ?_) (fun c98 => ?_)
          ·
            exact absurd c98 (by decide)
          ·
            rw [ean, if_neg (by decide)] at r
            refine v_iload_n (pc := 101) h (dk dt_X12_slowest 59 rfl) rfl ?_
            refine v_goto (pc := 102) h 106 (dk dt_X12_slowest 60 rfl) rfl ?_
            refine v_iload (pc := 106) h (dk dt_X12_slowest 62 rfl) rfl ?_
            refine v_idiv (pc := 108) h (dk dt_X12_slowest 63 rfl) (by omega) (by omega) ?_
            rw [k2]
            refine v_cVi (pc := 109) h (c_X12_told h.quiet) kv_X12_told sh123 wM_X12_115 rfl rfl (Nat.le_of_ble_eq_true rfl) (RM.of rfl) rfl rfl (dk dt_X12_slowest 64 rfl) ?_
            exact v_iret (pc := 112) h r (dk dt_X12_slowest 65 rfl) (Nat.le_of_ble_eq_true rfl) (Nat.le_of_ble_eq_true rfl) (PM_0 hrc)
        ·
          exact absurd c33 (by omega)
    | succ d ih =>
      intro i hi
      have hsb := slF_b hbd i (by omega)
      have hbi := hbd i (by omega)
      have q1 := hO.J.2 i (by omega)
      have q2 := hR.2 i (by omega)
      have hLj := (hL.2.2 i (by omega)).1
      have e124 : μ 124 i = μ 3 i := by rw [hE.1.1]
      have e125 : μ 125 i = μ 5 i := by rw [hE.1.2.1]
      have eN : ¬ (slF (μ 44) (μ 3) (μ 5) i).1 * (μ 5 i).toNat < (μ 44 i - μ 3 i).toNat * (slF (μ 44) (μ 3) (μ 5) i).2 → slF (μ 44) (μ 3) (μ 5) (i + 1) = slF (μ 44) (μ 3) (μ 5) i := fun q => by rw [slF, if_neg q]
      have eY : (slF (μ 44) (μ 3) (μ 5) i).1 * (μ 5 i).toNat < (μ 44 i - μ 3 i).toNat * (slF (μ 44) (μ 3) (μ 5) i).2 → slF (μ 44) (μ 3) (μ 5) (i + 1) = ((μ 44 i - μ 3 i).toNat, (μ 5 i).toNat) := fun q => by rw [slF, if_pos q]
      have hio := ih (i + 1) (by omega)
      have m1 : (slF (μ 44) (μ 3) (μ 5) i).1 * (μ 5 i).toNat ≤ 2304 * 30 := Nat.mul_le_mul hsb.1 (by omega)
      have m2 : (μ 44 i - μ 3 i).toNat * (slF (μ 44) (μ 3) (μ 5) i).2 ≤ 2304 * 30 := Nat.mul_le_mul (by omega) hsb.2.2
      have n1 : ((slF (μ 44) (μ 3) (μ 5) i).1 : Int) * μ 5 i = (((slF (μ 44) (μ 3) (μ 5) i).1 * (μ 5 i).toNat : Nat) : Int) := by rw [Int.natCast_mul, Int.toNat_of_nonneg (by omega)]
      have n2 : (μ 44 i - μ 3 i) * ((slF (μ 44) (μ 3) (μ 5) i).2 : Int) = (((μ 44 i - μ 3 i).toNat * (slF (μ 44) (μ 3) (μ 5) i).2 : Nat) : Int) := by rw [Int.natCast_mul, Int.toNat_of_nonneg (by omega)]
      generalize hA : (slF (μ 44) (μ 3) (μ 5) i).1 * (μ 5 i).toNat = A at *
      generalize hB' : (μ 44 i - μ 3 i).toNat * (slF (μ 44) (μ 3) (μ 5) i).2 = B' at *
      refine v_iload (pc := 27) h (dk dt_X12_slowest 16 rfl) rfl ?_
      refine v_aload_n (pc := 29) h (dk dt_X12_slowest 17 rfl) rfl ?_
      refine v_geti (pc := 30) h ci12 sh123 (Nat.le_of_ble_eq_true rfl) (j := 9) wF_X12_108 rfl (dk dt_X12_slowest 18 rfl) ?_
      refine v_icmp_ge (pc := 33) h 86 (dk dt_X12_slowest 19 rfl) rfl (by omega) (fun c33 => ?_) (fun c33 => ?_)
      ·
        exact absurd c33 (by omega)
      ·
        refine v_aload_n (pc := 36) h (dk dt_X12_slowest 20 rfl) rfl ?_
        refine v_getr (pc := 37) h ci12 sh123 (Nat.le_of_ble_eq_true rfl) (j := 21) wF_X12_59 rfl (dk dt_X12_slowest 21 rfl) ?_
        refine v_iload (pc := 40) h (dk dt_X12_slowest 22 rfl) rfl ?_
        refine v_iald (pc := 42) h sh137 (Nat.le_of_ble_eq_true rfl) (by omega) (dk dt_X12_slowest 23 rfl) ?_
        rw [Int.toNat_natCast, hLj]
        refine v_aload_n (pc := 43) h (dk dt_X12_slowest 24 rfl) rfl ?_
        refine v_getr (pc := 44) h ci12 sh123 (Nat.le_of_ble_eq_true rfl) (j := 0) wF_X12_7 rfl (dk dt_X12_slowest 25 rfl) ?_
        refine v_iload (pc := 47) h (dk dt_X12_slowest 26 rfl) rfl ?_
        refine v_iald (pc := 49) h sh124 (Nat.le_of_ble_eq_true rfl) (by omega) (dk dt_X12_slowest 27 rfl) ?_
        rw [Int.toNat_natCast, e124]
        refine v_isub (pc := 50) h (dk dt_X12_slowest 28 rfl) ?_
        refine v_istore (lv' := [(5, _), (4, _), (3, _), (2, _), (0, _), (1, _)]) (pc := 51) h (dk dt_X12_slowest 29 rfl) (Nat.le_of_ble_eq_true rfl) rfl ?_
        refine v_iload (pc := 53) h (dk dt_X12_slowest 30 rfl) rfl ?_
        refine v_iload_n (pc := 55) h (dk dt_X12_slowest 31 rfl) rfl ?_
        refine v_imul (pc := 56) h (dk dt_X12_slowest 32 rfl) ?_
        rw [n2]
        refine v_iload_n (pc := 57) h (dk dt_X12_slowest 33 rfl) rfl ?_
        refine v_aload_n (pc := 58) h (dk dt_X12_slowest 34 rfl) rfl ?_
        refine v_getr (pc := 59) h ci12 sh123 (Nat.le_of_ble_eq_true rfl) (j := 1) wF_X12_13 rfl (dk dt_X12_slowest 35 rfl) ?_
        refine v_iload (pc := 62) h (dk dt_X12_slowest 36 rfl) rfl ?_
        refine v_iald (pc := 64) h sh125 (Nat.le_of_ble_eq_true rfl) (by omega) (dk dt_X12_slowest 37 rfl) ?_
        rw [Int.toNat_natCast, e125]
        refine v_imul (pc := 65) h (dk dt_X12_slowest 38 rfl) ?_
        rw [n1]
        refine v_icmp_le (pc := 66) h 80 (dk dt_X12_slowest 39 rfl) rfl (by omega) (fun c66 => ?_) (fun c66 => ?_)
        ·
          refine v_iinc (lv' := [(4, _), (5, _), (3, _), (2, _), (0, _), (1, _)]) (pc := 80) h (dk dt_X12_slowest 47 rfl) rfl (Nat.le_of_ble_eq_true rfl) rfl ?_
          refine v_goto (pc := 83) h 27 (dk dt_X12_slowest 48 rfl) rfl ?_
          first
            | (rw [eN (by omega)] at hio; exact VV.loc hio ⟨rfl, rfl, rfl, rfl, rfl, trivial⟩)
            | (rw [eY (by omega)] at hio; exact VV.loc hio ⟨rfl, lvI (by show _ = (((μ 5 i).toNat : Nat) : Int); omega), lvI (by show _ = (((μ 44 i - μ 3 i).toNat : Nat) : Int); omega), rfl, rfl, trivial⟩)
        ·
          refine v_iload (pc := 69) h (dk dt_X12_slowest 40 rfl) rfl ?_
          refine v_istore_n (lv' := [(2, _), (5, _), (4, _), (3, _), (0, _), (1, _)]) (pc := 71) h (dk dt_X12_slowest 41 rfl) (Nat.le_of_ble_eq_true rfl) rfl ?_
          refine v_aload_n (pc := 72) h (dk dt_X12_slowest 42 rfl) rfl ?_
          refine v_getr (pc := 73) h ci12 sh123 (Nat.le_of_ble_eq_true rfl) (j := 1) wF_X12_13 rfl (dk dt_X12_slowest 43 rfl) ?_
          refine v_iload (pc := 76) h (dk dt_X12_slowest 44 rfl) rfl ?_
          refine v_iald (pc := 78) h sh125 (Nat.le_of_ble_eq_true rfl) (by omega) (dk dt_X12_slowest 45 rfl) ?_
          rw [Int.toNat_natCast, e125]
          refine v_istore_n (lv' := [(3, _), (2, _), (5, _), (4, _), (0, _), (1, _)]) (pc := 79) h (dk dt_X12_slowest 46 rfl) (Nat.le_of_ble_eq_true rfl) rfl ?_
          refine v_iinc (lv' := [(4, _), (3, _), (2, _), (5, _), (0, _), (1, _)]) (pc := 80) h (dk dt_X12_slowest 47 rfl) rfl (Nat.le_of_ble_eq_true rfl) rfl ?_
          refine v_goto (pc := 83) h 27 (dk dt_X12_slowest 48 rfl) rfl ?_
          first
            | (rw [eN (by omega)] at hio; exact VV.loc hio ⟨rfl, rfl, rfl, rfl, rfl, trivial⟩)
            | (rw [eY (by omega)] at hio; exact VV.loc hio ⟨rfl, lvI (by show _ = (((μ 5 i).toNat : Nat) : Int); omega), lvI (by show _ = (((μ 44 i - μ 3 i).toNat : Nat) : Int); omega), rfl, rfl, trivial⟩)
  refine v_aload_n (pc := 0) h (dk dt_X12_slowest 0 rfl) rfl ?_
  refine v_cVi (pc := 1) h (c_X12_isRun h.quiet (by assumption)) kv_X12_isRun sh123 wM_X12_217 rfl rfl (Nat.le_of_ble_eq_true rfl) (RM.of rfl) rfl rfl (dk dt_X12_slowest 1 rfl) ?_
  refine v_if_eq (pc := 4) h 14 (dk dt_X12_slowest 2 rfl) rfl (by split <;> omega) (fun c4 => ?_) (fun c4 => ?_)
  ·
    have d4 : ¬ μ 0 7 = 1 := fun q => by rw [if_pos q] at c4; omega
    refine v_aload_n (pc := 14) h (dk dt_X12_slowest 6 rfl) rfl ?_
    refine v_iconst (pc := 15) h (dk dt_X12_slowest 7 rfl) ?_
    refine v_cVi (pc := 16) h (c_X12_refuse h.quiet) kv_X12_refuse sh123 wM_X12_119 rfl rfl (Nat.le_of_ble_eq_true rfl) (RM.of rfl) rfl rfl (dk dt_X12_slowest 8 rfl) ?_
    exact v_iret (pc := 19) h r (dk dt_X12_slowest 9 rfl) (Nat.le_of_ble_eq_true rfl) (Nat.le_of_ble_eq_true rfl) (PM_n (by unfold rcSl; rw [if_pos (by omega)]) (by decide))
  ·
    have d4 : μ 0 7 = 1 := by by_cases q : μ 0 7 = 1; exact q; rw [if_neg q] at c4; omega
    refine v_aload_n (pc := 7) h (dk dt_X12_slowest 3 rfl) rfl ?_
    refine v_geti (pc := 8) h ci12 sh123 (Nat.le_of_ble_eq_true rfl) (j := 9) wF_X12_108 rfl (dk dt_X12_slowest 4 rfl) ?_
    refine v_if_ne (pc := 11) h 20 (dk dt_X12_slowest 5 rfl) rfl (by omega) (fun c11 => ?_) (fun c11 => ?_)
    ·
      refine v_iconst (pc := 20) h (dk dt_X12_slowest 10 rfl) ?_
      refine v_istore_n (lv' := [(2, _), (0, _), (1, _)]) (pc := 21) h (dk dt_X12_slowest 11 rfl) (Nat.le_of_ble_eq_true rfl) rfl ?_
      refine v_iconst (pc := 22) h (dk dt_X12_slowest 12 rfl) ?_
      refine v_istore_n (lv' := [(3, _), (2, _), (0, _), (1, _)]) (pc := 23) h (dk dt_X12_slowest 13 rfl) (Nat.le_of_ble_eq_true rfl) rfl ?_
      refine v_iconst (pc := 24) h (dk dt_X12_slowest 14 rfl) ?_
      refine v_istore (lv' := [(4, _), (3, _), (2, _), (0, _), (1, _)]) (pc := 25) h (dk dt_X12_slowest 15 rfl) (Nat.le_of_ble_eq_true rfl) rfl ?_
      exact VV.loc (loop d4 (by omega) n 0 (by omega)) ⟨rfl, rfl, rfl, rfl, rfl, trivial⟩
    ·
      refine v_aload_n (pc := 14) h (dk dt_X12_slowest 6 rfl) rfl ?_
      refine v_iconst (pc := 15) h (dk dt_X12_slowest 7 rfl) ?_
      refine v_cVi (pc := 16) h (c_X12_refuse h.quiet) kv_X12_refuse sh123 wM_X12_119 rfl rfl (Nat.le_of_ble_eq_true rfl) (RM.of rfl) rfl rfl (dk dt_X12_slowest 8 rfl) ?_
      exact v_iret (pc := 19) h r (dk dt_X12_slowest 9 rfl) (Nat.le_of_ble_eq_true rfl) (Nat.le_of_ble_eq_true rfl) (PM_n (by unfold rcSl; rw [if_pos (by omega)]) (by decide))
theorem c_X12_busy (hst : l.stackTraces = false) (hE : eqJ μ) (hH : eqH μ) (hO : hOK μ) {x e : Int} (hx : InR x) (he : e = 0 ∨ e = 1) :
    Ct l B D E yX12_busy (.code yX12_busy cX12_busy 6 (some .int)) rm_X12_busy [.ref (pl B 123), iI x, iI e] μ (PM (rcB (μ 0 7) (μ 49) (μ 47 0) x) (some (iI (anB (μ 49) (μ 47 0) x e))) μ (mup μ 123 14 0)) NX := by
  refine ct_of (own := RX12) (lv := [(0, _), (1, _), (2, _)]) hst (by decide) rfl rfl (Nat.le_of_ble_eq_true rfl) fun a h r t => ?_
  have go18 : μ 0 7 = 1 → VV a B (SP B D E μ) 0 0 18 [(4, iI 0), (3, iI 0), (0, .ref (pl B 123)), (1, iI x), (2, iI e)] [] := by
    intro h1
    have hR := hO.R h1
    have hC := hR.1.1
    have hL := hH.2 h1
    have e24 := hL.1
    have hlg : ∀ t : Nat, (t : Int) < μ 47 0 → -2 ≤ μ 49 t ∧ μ 49 t < 12 := fun t ht => hR.1.2 t ht
    have hcb := cntB_b (μ 49)
    have hM : x = -1 → rcB (μ 0 7) (μ 49) (μ 47 0) x = 0 := fun q => by unfold rcB; rw [if_neg (by omega), if_pos q]
    have aM : x = -1 → anB (μ 49) (μ 47 0) x e = cntB (μ 49) (μ 47 0).toNat := fun q => by unfold anB; rw [if_pos q]
    -- the end of a stretch that begins at y
    have fin : ∀ y : Nat, (y : Int) ≤ μ 47 0 → bgZ (μ 49) (μ 47 0) x = (y : Int) → x ≠ -1 → ∀ (d i : Nat), d = (μ 47 0).toNat - i → (i : Int) ≤ μ 47 0 → y ≤ i → (if e = 0 then i = y else bEnd (μ 49) ((μ 47 0).toNat - y) y = bEnd (μ 49) d i) → VV a B (SP B D E μ) 0 0 68 [(5, iI (i : Int)), (0, .ref (pl B 123)), (1, iI x), (2, iI e)] [] := by
      intro y hy hbg hx1 d
      have hrc : rcB (μ 0 7) (μ 49) (μ 47 0) x = 0 := by unfold rcB; rw [if_neg (by omega), if_neg hx1, if_neg (by omega)]
      have ean : anB (μ 49) (μ 47 0) x e = if e = 0 then (y : Int) else (bEnd (μ 49) ((μ 47 0).toNat - y) y : Nat) := by unfold anB; rw [if_neg hx1, hbg, Int.toNat_natCast]
      induction d with
      | zero =>
        intro i hd hi hyi hq
        have ea : anB (μ 49) (μ 47 0) x e = (i : Int) := by
          rw [ean]; split at hq
          · rename_i q; rw [if_pos q, hq]
          · rename_i q; rw [if_neg q, hq]; rfl
        rw [ea] at r
        refine v_iload_n (pc := 68) h (dk dt_X12_busy 37 rfl) rfl ?_
        refine v_if_eq (pc := 69) h 98 (dk dt_X12_busy 38 rfl) rfl (by omega) (fun c69 => ?_) (fun c69 => ?_)
        ·
          refine v_aload_n (pc := 98) h (dk dt_X12_busy 51 rfl) rfl ?_
          refine v_iload (pc := 99) h (dk dt_X12_busy 52 rfl) rfl ?_
          refine v_cVi (pc := 101) h (c_X12_told h.quiet) kv_X12_told sh123 wM_X12_115 rfl rfl (Nat.le_of_ble_eq_true rfl) (RM.of rfl) rfl rfl (dk dt_X12_busy 53 rfl) ?_
          exact v_iret (pc := 104) h r (dk dt_X12_busy 54 rfl) (Nat.le_of_ble_eq_true rfl) (Nat.le_of_ble_eq_true rfl) (PM_0 hrc)
        ·
          refine v_iload (pc := 72) h (dk dt_X12_busy 39 rfl) rfl ?_
          refine v_aload_n (pc := 74) h (dk dt_X12_busy 40 rfl) rfl ?_
          refine v_geti (pc := 75) h ci12 sh123 (Nat.le_of_ble_eq_true rfl) (j := 24) wF_X12_214 rfl (dk dt_X12_busy 41 rfl) ?_
          refine v_icmp_ge (pc := 78) h 98 (dk dt_X12_busy 42 rfl) rfl (by omega) (fun c78 => ?_) (fun c78 => ?_)
          ·
            refine v_aload_n (pc := 98) h (dk dt_X12_busy 51 rfl) rfl ?_
            refine v_iload (pc := 99) h (dk dt_X12_busy 52 rfl) rfl ?_
            refine v_cVi (pc := 101) h (c_X12_told h.quiet) kv_X12_told sh123 wM_X12_115 rfl rfl (Nat.le_of_ble_eq_true rfl) (RM.of rfl) rfl rfl (dk dt_X12_busy 53 rfl) ?_
            exact v_iret (pc := 104) h r (dk dt_X12_busy 54 rfl) (Nat.le_of_ble_eq_true rfl) (Nat.le_of_ble_eq_true rfl) (PM_0 hrc)
          ·
            exact absurd c78 (by omega)
      | succ d ih =>
        intro i hd hi hyi hq
        have hli := hlg i (by omega)
        have ea : e = 0 ∨ μ 49 i = -1 → anB (μ 49) (μ 47 0) x e = (i : Int) := fun q2 => by
          rw [ean]; split at hq
          · rename_i q; rw [if_pos q, hq]
          · rename_i q; rw [if_neg q, hq]; simp only [bEnd]; rw [if_pos (by omega)]
        refine v_iload_n (pc := 68) h (dk dt_X12_busy 37 rfl) rfl ?_
        refine v_if_eq (pc := 69) h 98 (dk dt_X12_busy 38 rfl) rfl (by omega) (fun c69 => ?_) (fun c69 => ?_)
        ·
          rw [ea (by omega)] at r
          refine v_aload_n (pc := 98) h (dk dt_X12_busy 51 rfl) rfl ?_
          refine v_iload (pc := 99) h (dk dt_X12_busy 52 rfl) rfl ?_
          refine v_cVi (pc := 101) h (c_X12_told h.quiet) kv_X12_told sh123 wM_X12_115 rfl rfl (Nat.le_of_ble_eq_true rfl) (RM.of rfl) rfl rfl (dk dt_X12_busy 53 rfl) ?_
          exact v_iret (pc := 104) h r (dk dt_X12_busy 54 rfl) (Nat.le_of_ble_eq_true rfl) (Nat.le_of_ble_eq_true rfl) (PM_0 hrc)
        ·
          refine v_iload (pc := 72) h (dk dt_X12_busy 39 rfl) rfl ?_
          refine v_aload_n (pc := 74) h (dk dt_X12_busy 40 rfl) rfl ?_
          refine v_geti (pc := 75) h ci12 sh123 (Nat.le_of_ble_eq_true rfl) (j := 24) wF_X12_214 rfl (dk dt_X12_busy 41 rfl) ?_
          refine v_icmp_ge (pc := 78) h 98 (dk dt_X12_busy 42 rfl) rfl (by omega) (fun c78 => ?_) (fun c78 => ?_)
          ·
            exact absurd c78 (by omega)
          ·
            refine v_aload_n (pc := 81) h (dk dt_X12_busy 43 rfl) rfl ?_
            refine v_getr (pc := 82) h ci12 sh123 (Nat.le_of_ble_eq_true rfl) (j := 20) wF_X12_56 rfl (dk dt_X12_busy 44 rfl) ?_
            refine v_iload (pc := 85) h (dk dt_X12_busy 45 rfl) rfl ?_
            refine v_iald (pc := 87) h sh136 (Nat.le_of_ble_eq_true rfl) (by omega) (dk dt_X12_busy 46 rfl) ?_
            rw [Int.toNat_natCast, hL.2.1 i (by omega)]
            refine v_iconst (pc := 88) h (dk dt_X12_busy 47 rfl) ?_
            refine v_icmp_eq (pc := 89) h 98 (dk dt_X12_busy 48 rfl) rfl (by omega) (fun c89 => ?_) (fun c89 => ?_)
            ·
              rw [ea (by omega)] at r
              refine v_aload_n (pc := 98) h (dk dt_X12_busy 51 rfl) rfl ?_
              refine v_iload (pc := 99) h (dk dt_X12_busy 52 rfl) rfl ?_
              refine v_cVi (pc := 101) h (c_X12_told h.quiet) kv_X12_told sh123 wM_X12_115 rfl rfl (Nat.le_of_ble_eq_true rfl) (RM.of rfl) rfl rfl (dk dt_X12_busy 53 rfl) ?_
              exact v_iret (pc := 104) h r (dk dt_X12_busy 54 rfl) (Nat.le_of_ble_eq_true rfl) (Nat.le_of_ble_eq_true rfl) (PM_0 hrc)
            ·
              refine v_iinc (lv' := [(5, _), (0, _), (1, _), (2, _)]) (pc := 92) h (dk dt_X12_busy 49 rfl) rfl (Nat.le_of_ble_eq_true rfl) rfl ?_
              refine v_goto (pc := 95) h 68 (dk dt_X12_busy 50 rfl) rfl ?_
              exact VV.loc (ih (i + 1) (by omega) (by omega) (by omega) (by rw [if_neg (by omega)] at hq ⊢; rw [hq]; simp only [bEnd]; rw [if_neg (by omega)])) ⟨rfl, rfl, rfl, rfl, trivial⟩
    have loop : ∀ (d i : Nat) (k : Int), i + d = (μ 47 0).toNat → k = cntB (μ 49) i → (x < 0 ∨ k ≤ x) → bgZ (μ 49) (μ 47 0) x = bBeg (μ 49) x d i k → VV a B (SP B D E μ) 0 0 18 [(4, iI (i : Int)), (3, iI k), (0, .ref (pl B 123)), (1, iI x), (2, iI e)] [] := by
      intro d
      induction d with
      | zero =>
        intro i k hd hk hkx hbg
        have := hcb i
        have ei : i = (μ 47 0).toNat := by omega
        simp only [bBeg] at hbg
        refine v_iload (pc := 18) h (dk dt_X12_busy 11 rfl) rfl ?_
        refine v_aload_n (pc := 20) h (dk dt_X12_busy 12 rfl) rfl ?_
        refine v_geti (pc := 21) h ci12 sh123 (Nat.le_of_ble_eq_true rfl) (j := 24) wF_X12_214 rfl (dk dt_X12_busy 13 rfl) ?_
        refine v_icmp_ge (pc := 24) h 114 (dk dt_X12_busy 14 rfl) rfl (by omega) (fun c24 => ?_) (fun c24 => ?_)
        ·
          refine v_iload_n (pc := 114) h (dk dt_X12_busy 58 rfl) rfl ?_
          refine v_iconst (pc := 115) h (dk dt_X12_busy 59 rfl) ?_
          refine v_icmp_ne (pc := 116) h 127 (dk dt_X12_busy 60 rfl) rfl (by omega) (fun c116 => ?_) (fun c116 => ?_)
          ·
            refine v_aload_n (pc := 127) h (dk dt_X12_busy 65 rfl) rfl ?_
            refine v_iconst (pc := 128) h (dk dt_X12_busy 66 rfl) ?_
            refine v_cVi (pc := 129) h (c_X12_refuse h.quiet) kv_X12_refuse sh123 wM_X12_119 rfl rfl (Nat.le_of_ble_eq_true rfl) (RM.of rfl) rfl rfl (dk dt_X12_busy 67 rfl) ?_
            exact v_iret (pc := 132) h r (dk dt_X12_busy 68 rfl) (Nat.le_of_ble_eq_true rfl) (Nat.le_of_ble_eq_true rfl) (by first | exact PM_0 (hM (by omega)) | exact PM_n (by unfold rcB; rw [if_neg (by omega), if_neg (by omega), if_pos hbg]) (by decide))
          ·
            rw [hk, ei, ← aM (by omega)]
            refine v_aload_n (pc := 119) h (dk dt_X12_busy 61 rfl) rfl ?_
            refine v_iload_n (pc := 120) h (dk dt_X12_busy 62 rfl) rfl ?_
            refine v_cVi (pc := 121) h (c_X12_told h.quiet) kv_X12_told sh123 wM_X12_115 rfl rfl (Nat.le_of_ble_eq_true rfl) (RM.of rfl) rfl rfl (dk dt_X12_busy 63 rfl) ?_
            refine v_goto (pc := 124) h 132 (dk dt_X12_busy 64 rfl) rfl ?_
            exact v_iret (pc := 132) h r (dk dt_X12_busy 68 rfl) (Nat.le_of_ble_eq_true rfl) (Nat.le_of_ble_eq_true rfl) (by first | exact PM_0 (hM (by omega)) | exact PM_n (by unfold rcB; rw [if_neg (by omega), if_neg (by omega), if_pos hbg]) (by decide))
        ·
          exact absurd c24 (by omega)
      | succ d ih =>
        intro i k hd hk hkx hbg
        have h1k := hcb i
        have hli := hlg i (by omega)
        have hlp : 0 < i → -2 ≤ μ 49 (i - 1) ∧ μ 49 (i - 1) < 12 := fun q => hlg (i - 1) (by omega)
        have cN : ¬ bgn (μ 49) i → cntB (μ 49) (i + 1) = cntB (μ 49) i := fun q => by simp only [cntB]; rw [if_neg q]; omega
        have cY : bgn (μ 49) i → cntB (μ 49) (i + 1) = cntB (μ 49) i + 1 := fun q => by simp only [cntB]; rw [if_pos q]
        have bN : ¬ bgn (μ 49) i → bgZ (μ 49) (μ 47 0) x = bBeg (μ 49) x d (i + 1) k := fun q => by
          rw [hbg]; simp only [bBeg]; split
          · rename_i q2; cases d <;> simp only [bBeg]; rw [if_pos q2]
          · first | rfl | rw [if_neg q]
        have bY : bgn (μ 49) i → k = x → bgZ (μ 49) (μ 47 0) x = (i : Int) := fun q q2 => by rw [hbg]; simp only [bBeg]; rw [if_neg (by omega), if_pos q, if_pos q2]
        have bYN : bgn (μ 49) i → k ≠ x → bgZ (μ 49) (μ 47 0) x = bBeg (μ 49) x d (i + 1) (k + 1) := fun q q2 => by
          rw [hbg]; simp only [bBeg]; split
          · rename_i q3; cases d <;> simp only [bBeg]; rw [if_pos (by omega)]
          · first | rfl | rw [if_pos q, if_neg q2]
        refine v_iload (pc := 18) h (dk dt_X12_busy 11 rfl) rfl ?_
        refine v_aload_n (pc := 20) h (dk dt_X12_busy 12 rfl) rfl ?_
        refine v_geti (pc := 21) h ci12 sh123 (Nat.le_of_ble_eq_true rfl) (j := 24) wF_X12_214 rfl (dk dt_X12_busy 13 rfl) ?_
        refine v_icmp_ge (pc := 24) h 114 (dk dt_X12_busy 14 rfl) rfl (by omega) (fun c24 => ?_) (fun c24 => ?_)
        ·
          exact absurd c24 (by omega)
        ·
          refine v_aload_n (pc := 27) h (dk dt_X12_busy 15 rfl) rfl ?_
          refine v_getr (pc := 28) h ci12 sh123 (Nat.le_of_ble_eq_true rfl) (j := 20) wF_X12_56 rfl (dk dt_X12_busy 16 rfl) ?_
          refine v_iload (pc := 31) h (dk dt_X12_busy 17 rfl) rfl ?_
          refine v_iald (pc := 33) h sh136 (Nat.le_of_ble_eq_true rfl) (by omega) (dk dt_X12_busy 18 rfl) ?_
          rw [Int.toNat_natCast, hL.2.1 i (by omega)]
          refine v_iconst (pc := 34) h (dk dt_X12_busy 19 rfl) ?_
          refine v_icmp_eq (pc := 35) h 108 (dk dt_X12_busy 20 rfl) rfl (by omega) (fun c35 => ?_) (fun c35 => ?_)
          ·
            have dB : ¬ bgn (μ 49) i := fun z => z.1 c35
            refine v_iinc (lv' := [(4, _), (3, _), (0, _), (1, _), (2, _)]) (pc := 108) h (dk dt_X12_busy 56 rfl) rfl (Nat.le_of_ble_eq_true rfl) rfl ?_
            refine v_goto (pc := 111) h 18 (dk dt_X12_busy 57 rfl) rfl ?_
            first
              | (have q := c61; exact VV.loc (ih (i + 1) (k + 1) (by omega) (by rw [cY dB, hk]) (by omega) (bYN dB q)) ⟨rfl, rfl, rfl, rfl, rfl, trivial⟩)
              | exact VV.loc (ih (i + 1) k (by omega) (by rw [cN dB, hk]) (by omega) (bN dB)) ⟨rfl, rfl, rfl, rfl, rfl, trivial⟩
          ·
            refine v_iload (pc := 38) h (dk dt_X12_busy 21 rfl) rfl ?_
            refine v_if_le (pc := 40) h 59 (dk dt_X12_busy 22 rfl) rfl (by omega) (fun c40 => ?_) (fun c40 => ?_)
            ·
              have dB : bgn (μ 49) i := ⟨c35, Or.inl (by omega)⟩
              refine v_iload_n (pc := 59) h (dk dt_X12_busy 32 rfl) rfl ?_
              refine v_iload_n (pc := 60) h (dk dt_X12_busy 33 rfl) rfl ?_
              refine v_icmp_ne (pc := 61) h 105 (dk dt_X12_busy 34 rfl) rfl (by omega) (fun c61 => ?_) (fun c61 => ?_)
              ·
                refine v_iinc (lv' := [(3, _), (4, _), (0, _), (1, _), (2, _)]) (pc := 105) h (dk dt_X12_busy 55 rfl) rfl (Nat.le_of_ble_eq_true rfl) rfl ?_
                refine v_iinc (lv' := [(4, _), (3, _), (0, _), (1, _), (2, _)]) (pc := 108) h (dk dt_X12_busy 56 rfl) rfl (Nat.le_of_ble_eq_true rfl) rfl ?_
                refine v_goto (pc := 111) h 18 (dk dt_X12_busy 57 rfl) rfl ?_
                first
                  | (have q := c61; exact VV.loc (ih (i + 1) (k + 1) (by omega) (by rw [cY dB, hk]) (by omega) (bYN dB q)) ⟨rfl, rfl, rfl, rfl, rfl, trivial⟩)
                  | exact VV.loc (ih (i + 1) k (by omega) (by rw [cN dB, hk]) (by omega) (bN dB)) ⟨rfl, rfl, rfl, rfl, rfl, trivial⟩
              ·
                refine v_iload (pc := 64) h (dk dt_X12_busy 35 rfl) rfl ?_
                refine v_istore (lv' := [(5, _), (4, _), (3, _), (0, _), (1, _), (2, _)]) (pc := 66) h (dk dt_X12_busy 36 rfl) (Nat.le_of_ble_eq_true rfl) rfl ?_
                exact VV.loc (fin i (by omega) (bY dB (by omega)) (by omega) _ i rfl (by omega) (Nat.le_refl _) (by split; rfl; rfl)) ⟨rfl, rfl, rfl, rfl, trivial⟩
            ·
              refine v_aload_n (pc := 43) h (dk dt_X12_busy 23 rfl) rfl ?_
              refine v_getr (pc := 44) h ci12 sh123 (Nat.le_of_ble_eq_true rfl) (j := 20) wF_X12_56 rfl (dk dt_X12_busy 24 rfl) ?_
              refine v_iload (pc := 47) h (dk dt_X12_busy 25 rfl) rfl ?_
              refine v_iconst (pc := 49) h (dk dt_X12_busy 26 rfl) ?_
              refine v_isub (pc := 50) h (dk dt_X12_busy 27 rfl) ?_
              refine v_iald (pc := 51) h sh136 (Nat.le_of_ble_eq_true rfl) (by omega) (dk dt_X12_busy 28 rfl) ?_
              rw [show ((i : Int) - 1).toNat = i - 1 by omega, hL.2.1 (i - 1) (by omega)]
              refine v_iconst (pc := 52) h (dk dt_X12_busy 29 rfl) ?_
              refine v_icmp_eq (pc := 53) h 59 (dk dt_X12_busy 30 rfl) rfl (by omega) (fun c53 => ?_) (fun c53 => ?_)
              ·
                have dB : bgn (μ 49) i := ⟨c35, Or.inr c53⟩
                refine v_iload_n (pc := 59) h (dk dt_X12_busy 32 rfl) rfl ?_
                refine v_iload_n (pc := 60) h (dk dt_X12_busy 33 rfl) rfl ?_
                refine v_icmp_ne (pc := 61) h 105 (dk dt_X12_busy 34 rfl) rfl (by omega) (fun c61 => ?_) (fun c61 => ?_)
                ·
                  refine v_iinc (lv' := [(3, _), (4, _), (0, _), (1, _), (2, _)]) (pc := 105) h (dk dt_X12_busy 55 rfl) rfl (Nat.le_of_ble_eq_true rfl) rfl ?_
                  refine v_iinc (lv' := [(4, _), (3, _), (0, _), (1, _), (2, _)]) (pc := 108) h (dk dt_X12_busy 56 rfl) rfl (Nat.le_of_ble_eq_true rfl) rfl ?_
                  refine v_goto (pc := 111) h 18 (dk dt_X12_busy 57 rfl) rfl ?_
                  first
                    | (have q := c61; exact VV.loc (ih (i + 1) (k + 1) (by omega) (by rw [cY dB, hk]) (by omega) (bYN dB q)) ⟨rfl, rfl, rfl, rfl, rfl, trivial⟩)
                    | exact VV.loc (ih (i + 1) k (by omega) (by rw [cN dB, hk]) (by omega) (bN dB)) ⟨rfl, rfl, rfl, rfl, rfl, trivial⟩
                ·
                  refine v_iload (pc := 64) h (dk dt_X12_busy 35 rfl) rfl ?_
                  refine v_istore (lv' := [(5, _), (4, _), (3, _), (0, _), (1, _), (2, _)]) (pc := 66) h (dk dt_X12_busy 36 rfl) (Nat.le_of_ble_eq_true rfl) rfl ?_
                  exact VV.loc (fin i (by omega) (bY dB (by omega)) (by omega) _ i rfl (by omega) (Nat.le_refl _) (by split; rfl; rfl)) ⟨rfl, rfl, rfl, rfl, trivial⟩
              ·
                have dB : ¬ bgn (μ 49) i := fun z => by rcases z.2 with q | q; omega; exact c53 q
                refine v_goto (pc := 56) h 108 (dk dt_X12_busy 31 rfl) rfl ?_
                refine v_iinc (lv' := [(4, _), (3, _), (0, _), (1, _), (2, _)]) (pc := 108) h (dk dt_X12_busy 56 rfl) rfl (Nat.le_of_ble_eq_true rfl) rfl ?_
                refine v_goto (pc := 111) h 18 (dk dt_X12_busy 57 rfl) rfl ?_
                first
                  | (have q := c61; exact VV.loc (ih (i + 1) (k + 1) (by omega) (by rw [cY dB, hk]) (by omega) (bYN dB q)) ⟨rfl, rfl, rfl, rfl, rfl, trivial⟩)
                  | exact VV.loc (ih (i + 1) k (by omega) (by rw [cN dB, hk]) (by omega) (bN dB)) ⟨rfl, rfl, rfl, rfl, rfl, trivial⟩
    exact loop _ 0 0 (by omega) rfl (by omega) rfl
  refine v_aload_n (pc := 0) h (dk dt_X12_busy 0 rfl) rfl ?_
  refine v_cVi (pc := 1) h (c_X12_isRun h.quiet (by assumption)) kv_X12_isRun sh123 wM_X12_217 rfl rfl (Nat.le_of_ble_eq_true rfl) (RM.of rfl) rfl rfl (dk dt_X12_busy 1 rfl) ?_
  refine v_if_ne (pc := 4) h 13 (dk dt_X12_busy 2 rfl) rfl (by split <;> omega) (fun c4 => ?_) (fun c4 => ?_)
  ·
    have d4 : μ 0 7 = 1 := by by_cases q : μ 0 7 = 1; exact q; rw [if_neg q] at c4; omega
    refine v_iconst (pc := 13) h (dk dt_X12_busy 7 rfl) ?_
    refine v_istore_n (lv' := [(3, _), (0, _), (1, _), (2, _)]) (pc := 14) h (dk dt_X12_busy 8 rfl) (Nat.le_of_ble_eq_true rfl) rfl ?_
    refine v_iconst (pc := 15) h (dk dt_X12_busy 9 rfl) ?_
    refine v_istore (lv' := [(4, _), (3, _), (0, _), (1, _), (2, _)]) (pc := 16) h (dk dt_X12_busy 10 rfl) (Nat.le_of_ble_eq_true rfl) rfl ?_
    exact VV.loc (go18 d4) ⟨rfl, rfl, rfl, rfl, rfl, trivial⟩
  ·
    have d4 : ¬ μ 0 7 = 1 := fun q => by rw [if_pos q] at c4; omega
    refine v_aload_n (pc := 7) h (dk dt_X12_busy 3 rfl) rfl ?_
    refine v_iconst (pc := 8) h (dk dt_X12_busy 4 rfl) ?_
    refine v_cVi (pc := 9) h (c_X12_refuse h.quiet) kv_X12_refuse sh123 wM_X12_119 rfl rfl (Nat.le_of_ble_eq_true rfl) (RM.of rfl) rfl rfl (dk dt_X12_busy 5 rfl) ?_
    exact v_iret (pc := 12) h r (dk dt_X12_busy 6 rfl) (Nat.le_of_ble_eq_true rfl) (Nat.le_of_ble_eq_true rfl) (PM_n (by unfold rcB; rw [if_pos d4]) (by decide))
end
