/-! ===== the model: calls that tell ===== -/
abbrev okM (μ : Mm) : Prop := okT (μ 124) (μ 125) (μ 126) (μ 127) (μ 128) (μ 129) (μ 130) (μ 131) (μ 132) (kyF (μ 126)) (μ 123 9)
/-- the model returns: what is refused, and else v -/
def PM (rc : Int) (v : Option Value) (μ M : Mm) : Pv := fun w m => if rc = 0 then w = v ∧ m = M else w = some (iI 0) ∧ m = mup μ 123 14 rc
theorem PM_0 {rc : Int} {v : Option Value} {μ M : Mm} (h : rc = 0) : PM rc v μ M v M := by unfold PM; rw [if_pos h]; exact ⟨rfl, rfl⟩
theorem PM_n {rc k : Int} {v : Option Value} {μ M : Mm} (h : rc = k) (hk : k ≠ 0) : PM rc v μ M (some (iI 0)) (mup μ 123 14 k) := by unfold PM; rw [if_neg (by omega), h]; exact ⟨rfl, rfl⟩
/-- no run is any more, nothing is refused -/
abbrev mchg (μ : Mm) : Mm := mup (mup μ 123 25 (-1)) 123 14 0
def Mjob (μ : Mm) (c le d w : Int) : Mm := mchg (mup (mup (mup (mup (mup (mup (mup μ 124 (μ 123 9).toNat c) 125 (μ 123 9).toNat le) 126 (μ 123 9).toNat d) 127 (μ 123 9).toNat w) 128 (μ 123 9).toNat 0) 129 (μ 123 9).toNat 0) 123 9 (μ 123 9 + 1))
def Maft (μ : Mm) (j o : Nat) : Mm := mchg (mup μ 128 j (((μ 128 j).toNat ||| 2 ^ o : Nat) : Int))
def Mlk (μ : Mm) (j : Nat) (y f u : Int) : Mm := mchg (mup (mup (mup (mup μ 130 (3 * j + (μ 129 j).toNat) y) 131 (3 * j + (μ 129 j).toNat) f) 132 (3 * j + (μ 129 j).toNat) u) 129 j (μ 129 j + 1))
def Mtn (μ : Mm) (s c ri sd le : Int) : Mm := mchg (mup (mup (mup (mup (mup μ 123 10 s) 123 11 c) 123 12 ri) 123 13 sd) 123 15 le)
def Mtk (μ : Mm) (p le d : Int) : Mm := mup (mup (mup (mup (mup μ 133 (μ 123 19).toNat p) 134 (μ 123 19).toNat le) 135 (μ 123 19).toNat d) 123 19 (μ 123 19 + 1)) 123 14 0
section
variable {l : Launch} {B : Nat} {D : va_G} {E : Nat → ClassId} {μ m σ : Mm} {w n : Nat} {K : Nat → Int} {s : St} {J : Mm}
theorem c_X12_thrown (hst : l.stackTraces = false) :
    Ct l B D E yX12_thrown (.code yX12_thrown cX12_thrown 1 (some .int)) rm_X12_thrown [.ref (pl B 123)] μ (ri (μ 123 14) μ) NX := by
  refine ct_of (own := RX12) (lv := [(0, _)]) hst (by decide) rfl rfl (Nat.le_of_ble_eq_true rfl) fun a h r t => ?_
  refine v_aload_n (pc := 0) h (dk dt_X12_thrown 0 rfl) rfl ?_
  refine v_geti (pc := 1) h ci12 sh123 (Nat.le_of_ble_eq_true rfl) (j := 14) wF_X12_105 rfl (dk dt_X12_thrown 1 rfl) ?_
  exact v_iret (pc := 4) h r (dk dt_X12_thrown 2 rfl) (Nat.le_of_ble_eq_true rfl) (Nat.le_of_ble_eq_true rfl) ⟨rfl, rfl⟩
theorem c_X12_in (hst : l.stackTraces = false) {x y z : Int} (hx : InR x) (hy : InR y ∧ InR z) :
    Ct l B D E yX12_in (.code yX12_in cX12_in 3 (some .boolean)) rm_X12_in [iI x, iI y, iI z] μ (ri (if y ≤ x ∧ x ≤ z then 1 else 0) μ) NX := by
  refine ct_of (own := RX12) (lv := [(0, _), (1, _), (2, _)]) hst (by decide) rfl rfl (Nat.le_of_ble_eq_true rfl) fun a h r t => ?_
  refine v_iload_n (pc := 0) h (dk dt_X12_in 0 rfl) rfl ?_
  refine v_iload_n (pc := 1) h (dk dt_X12_in 1 rfl) rfl ?_
  refine v_icmp_lt (pc := 2) h 14 (dk dt_X12_in 2 rfl) rfl (by omega) (fun c2 => ?_) (fun c2 => ?_)
  ·
    refine v_iconst (pc := 14) h (dk dt_X12_in 8 rfl) ?_
    exact v_zret (pc := 15) h r (dk dt_X12_in 9 rfl) (Nat.le_of_ble_eq_true rfl) (Nat.le_of_ble_eq_true rfl) (by omega) ⟨by first | rw [if_pos (by omega)] | rw [if_neg (by omega)], rfl⟩
  ·
    refine v_iload_n (pc := 5) h (dk dt_X12_in 3 rfl) rfl ?_
    refine v_iload_n (pc := 6) h (dk dt_X12_in 4 rfl) rfl ?_
    refine v_icmp_gt (pc := 7) h 14 (dk dt_X12_in 5 rfl) rfl (by omega) (fun c7 => ?_) (fun c7 => ?_)
    ·
      refine v_iconst (pc := 14) h (dk dt_X12_in 8 rfl) ?_
      exact v_zret (pc := 15) h r (dk dt_X12_in 9 rfl) (Nat.le_of_ble_eq_true rfl) (Nat.le_of_ble_eq_true rfl) (by omega) ⟨by first | rw [if_pos (by omega)] | rw [if_neg (by omega)], rfl⟩
    ·
      refine v_iconst (pc := 10) h (dk dt_X12_in 6 rfl) ?_
      refine v_goto (pc := 11) h 15 (dk dt_X12_in 7 rfl) rfl ?_
      exact v_zret (pc := 15) h r (dk dt_X12_in 9 rfl) (Nat.le_of_ble_eq_true rfl) (Nat.le_of_ble_eq_true rfl) (by omega) ⟨by first | rw [if_pos (by omega)] | rw [if_neg (by omega)], rfl⟩
theorem c_X12_isJob (hst : l.stackTraces = false) {x : Int} (hx : InR x) (hn : 0 ≤ μ 123 9 ∧ μ 123 9 ≤ 12) :
    Ct l B D E yX12_isJob (.code yX12_isJob cX12_isJob 2 (some .boolean)) rm_X12_isJob [.ref (pl B 123), iI x] μ (ri (if 0 ≤ x ∧ x < μ 123 9 then 1 else 0) μ) NX := by
  refine ct_of (own := RX12) (lv := [(0, _), (1, _)]) hst (by decide) rfl rfl (Nat.le_of_ble_eq_true rfl) fun a h r t => ?_
  refine v_iload_n (pc := 0) h (dk dt_X12_isJob 0 rfl) rfl ?_
  refine v_iconst (pc := 1) h (dk dt_X12_isJob 1 rfl) ?_
  refine v_aload_n (pc := 2) h (dk dt_X12_isJob 2 rfl) rfl ?_
  refine v_geti (pc := 3) h ci12 sh123 (Nat.le_of_ble_eq_true rfl) (j := 9) wF_X12_108 rfl (dk dt_X12_isJob 3 rfl) ?_
  refine v_iconst (pc := 6) h (dk dt_X12_isJob 4 rfl) ?_
  refine v_isub (pc := 7) h (dk dt_X12_isJob 5 rfl) ?_
  refine v_cSi (pc := 8) h (c_X12_in h.quiet (by omega) (by omega)) kv_X12_in wM_X12_111 rfl rfl (Nat.le_of_ble_eq_true rfl) (RM.of rfl) rfl rfl (dk dt_X12_isJob 6 rfl) ?_
  exact v_zret (pc := 11) h r (dk dt_X12_isJob 7 rfl) (Nat.le_of_ble_eq_true rfl) (Nat.le_of_ble_eq_true rfl) (by split <;> omega) ⟨by by_cases q : 0 ≤ x ∧ x < μ 123 9; (rw [if_pos q, if_pos (by omega)]); (rw [if_neg q, if_neg (by omega)]), rfl⟩
theorem c_X12_refuse (hst : l.stackTraces = false) {k : Int} :
    Ct l B D E yX12_refuse (.code yX12_refuse cX12_refuse 2 (some .int)) rm_X12_refuse [.ref (pl B 123), iI k] μ (ri 0 (mup μ 123 14 k)) NX := by
  refine ct_of (own := RX12) (lv := [(0, _), (1, _)]) hst (by decide) rfl rfl (Nat.le_of_ble_eq_true rfl) fun a h r t => ?_
  refine v_aload_n (pc := 0) h (dk dt_X12_refuse 0 rfl) rfl ?_
  refine v_iload_n (pc := 1) h (dk dt_X12_refuse 1 rfl) rfl ?_
  refine v_put (pc := 2) h ci12 sh123 (Nat.le_of_ble_eq_true rfl) (j := 14) wF_X12_105 rfl rfl rfl rfl (dk dt_X12_refuse 2 rfl) ?_
  refine v_iconst (pc := 5) h (dk dt_X12_refuse 3 rfl) ?_
  exact v_iret (pc := 6) h r (dk dt_X12_refuse 4 rfl) (Nat.le_of_ble_eq_true rfl) (Nat.le_of_ble_eq_true rfl) ⟨rfl, rfl⟩
theorem c_X12_told (hst : l.stackTraces = false) {k : Int} :
    Ct l B D E yX12_told (.code yX12_told cX12_told 2 (some .int)) rm_X12_told [.ref (pl B 123), iI k] μ (ri k (mup μ 123 14 0)) NX := by
  refine ct_of (own := RX12) (lv := [(0, _), (1, _)]) hst (by decide) rfl rfl (Nat.le_of_ble_eq_true rfl) fun a h r t => ?_
  refine v_aload_n (pc := 0) h (dk dt_X12_told 0 rfl) rfl ?_
  refine v_iconst (pc := 1) h (dk dt_X12_told 1 rfl) ?_
  refine v_put (pc := 2) h ci12 sh123 (Nat.le_of_ble_eq_true rfl) (j := 14) wF_X12_105 rfl rfl rfl rfl (dk dt_X12_told 2 rfl) ?_
  refine v_iload_n (pc := 5) h (dk dt_X12_told 3 rfl) rfl ?_
  exact v_iret (pc := 6) h r (dk dt_X12_told 4 rfl) (Nat.le_of_ble_eq_true rfl) (Nat.le_of_ble_eq_true rfl) ⟨rfl, rfl⟩
theorem c_X12_denies (hst : l.stackTraces = false) {k : Int} :
    Ct l B D E yX12_denies (.code yX12_denies cX12_denies 2 (some .boolean)) rm_X12_denies [.ref (pl B 123), iI k] μ (ri 0 (mup μ 123 14 k)) NX := by
  refine ct_of (own := RX12) (lv := [(0, _), (1, _)]) hst (by decide) rfl rfl (Nat.le_of_ble_eq_true rfl) fun a h r t => ?_
  refine v_aload_n (pc := 0) h (dk dt_X12_denies 0 rfl) rfl ?_
  refine v_iload_n (pc := 1) h (dk dt_X12_denies 1 rfl) rfl ?_
  refine v_put (pc := 2) h ci12 sh123 (Nat.le_of_ble_eq_true rfl) (j := 14) wF_X12_105 rfl rfl rfl rfl (dk dt_X12_denies 2 rfl) ?_
  refine v_iconst (pc := 5) h (dk dt_X12_denies 3 rfl) ?_
  exact v_zret (pc := 6) h r (dk dt_X12_denies 4 rfl) (Nat.le_of_ble_eq_true rfl) (Nat.le_of_ble_eq_true rfl) (by omega) ⟨rfl, rfl⟩
theorem c_X12_changed (hst : l.stackTraces = false) {k : Int} :
    Ct l B D E yX12_changed (.code yX12_changed cX12_changed 2 (some .int)) rm_X12_changed [.ref (pl B 123), iI k] μ (ri k (mchg μ)) NX := by
  refine ct_of (own := RX12) (lv := [(0, _), (1, _)]) hst (by decide) rfl rfl (Nat.le_of_ble_eq_true rfl) fun a h r t => ?_
  refine v_aload_n (pc := 0) h (dk dt_X12_changed 0 rfl) rfl ?_
  refine v_iconst (pc := 1) h (dk dt_X12_changed 1 rfl) ?_
  refine v_put (pc := 2) h ci12 sh123 (Nat.le_of_ble_eq_true rfl) (j := 25) wF_X12_68 rfl rfl rfl rfl (dk dt_X12_changed 2 rfl) ?_
  refine v_aload_n (pc := 5) h (dk dt_X12_changed 3 rfl) rfl ?_
  refine v_iload_n (pc := 6) h (dk dt_X12_changed 4 rfl) rfl ?_
  refine v_cVi (pc := 7) h (c_X12_told h.quiet) kv_X12_told sh123 wM_X12_115 rfl rfl (Nat.le_of_ble_eq_true rfl) (RM.of rfl) rfl rfl (dk dt_X12_changed 5 rfl) ?_
  exact v_iret (pc := 10) h r (dk dt_X12_changed 6 rfl) (Nat.le_of_ble_eq_true rfl) (Nat.le_of_ble_eq_true rfl) ⟨rfl, rfl⟩
theorem c_X12_job (hst : l.stackTraces = false) (hn : 0 ≤ μ 123 9 ∧ μ 123 9 ≤ 12) {c le d we : Int} (hc : InR c ∧ InR le) (hd : InR d ∧ InR we) :
    Ct l B D E yX12_job (.code yX12_job cX12_job 5 (some .int)) rm_X12_job [.ref (pl B 123), iI c, iI le, iI d, iI we] μ (PM (rcJob (μ 123 9) c le d we) (some (iI (μ 123 9))) μ (Mjob μ c le d we)) NX := by
  refine ct_of (own := RX12) (lv := [(0, _), (1, _), (2, _), (3, _), (4, _)]) hst (by decide) rfl rfl (Nat.le_of_ble_eq_true rfl) fun a h r t => ?_
  have go63 : (0 ≤ c ∧ c ≤ 99) ∧ (1 ≤ le ∧ le ≤ 30) ∧ (0 ≤ d ∧ d ≤ 400) ∧ (1 ≤ we ∧ we ≤ 9) → μ 123 9 < 12 → VV a B (SP B D E μ) 0 0 63 [(0, .ref (pl B 123)), (1, iI c), (2, iI le), (3, iI d), (4, iI we)] [] := by
    intro h1 h2
    obtain ⟨k, hk⟩ : ∃ k : Nat, μ 123 9 = (k : Int) := ⟨(μ 123 9).toNat, by omega⟩
    have hM : Mjob μ c le d we = mchg (mup (mup (mup (mup (mup (mup (mup μ 124 k c) 125 k le) 126 k d) 127 k we) 128 k 0) 129 k 0) 123 9 ((k : Int) + 1)) := by unfold Mjob; rw [hk, Int.toNat_natCast]
    have e : ∀ (M : Mm) (o : Nat) (v : Int), o ≠ 123 → M 123 9 = (k : Int) → (mup M o k v) 123 9 = (k : Int) := fun M o v ho hM => by rw [mup_nk (Ne.symm ho)]; exact hM
    rw [hk] at r
    refine v_aload_n (pc := 63) h (dk dt_X12_job 32 rfl) rfl ?_
    refine v_getr (pc := 64) h ci12 sh123 (Nat.le_of_ble_eq_true rfl) (j := 0) wF_X12_7 rfl (dk dt_X12_job 33 rfl) ?_
    refine v_aload_n (pc := 67) h (dk dt_X12_job 34 rfl) rfl ?_
    refine v_geti (pc := 68) h ci12 sh123 (Nat.le_of_ble_eq_true rfl) (j := 9) wF_X12_108 rfl (dk dt_X12_job 35 rfl) ?_
    rw [hk]
    refine v_iload_n (pc := 71) h (dk dt_X12_job 36 rfl) rfl ?_
    refine v_iast (pc := 72) h sh124 (Nat.le_of_ble_eq_true rfl) (by omega) (dk dt_X12_job 37 rfl) ?_
    rw [Int.toNat_natCast]
    have e1 := e _ 124 c (by decide) hk
    refine v_aload_n (pc := 73) h (dk dt_X12_job 38 rfl) rfl ?_
    refine v_getr (pc := 74) h ci12 sh123 (Nat.le_of_ble_eq_true rfl) (j := 1) wF_X12_13 rfl (dk dt_X12_job 39 rfl) ?_
    refine v_aload_n (pc := 77) h (dk dt_X12_job 40 rfl) rfl ?_
    refine v_geti (pc := 78) h ci12 sh123 (Nat.le_of_ble_eq_true rfl) (j := 9) wF_X12_108 rfl (dk dt_X12_job 41 rfl) ?_
    rw [e1]
    refine v_iload_n (pc := 81) h (dk dt_X12_job 42 rfl) rfl ?_
    refine v_iast (pc := 82) h sh125 (Nat.le_of_ble_eq_true rfl) (by omega) (dk dt_X12_job 43 rfl) ?_
    rw [Int.toNat_natCast]
    have e2 := e _ 125 le (by decide) e1
    refine v_aload_n (pc := 83) h (dk dt_X12_job 44 rfl) rfl ?_
    refine v_getr (pc := 84) h ci12 sh123 (Nat.le_of_ble_eq_true rfl) (j := 2) wF_X12_16 rfl (dk dt_X12_job 45 rfl) ?_
    refine v_aload_n (pc := 87) h (dk dt_X12_job 46 rfl) rfl ?_
    refine v_geti (pc := 88) h ci12 sh123 (Nat.le_of_ble_eq_true rfl) (j := 9) wF_X12_108 rfl (dk dt_X12_job 47 rfl) ?_
    rw [e2]
    refine v_iload_n (pc := 91) h (dk dt_X12_job 48 rfl) rfl ?_
    refine v_iast (pc := 92) h sh126 (Nat.le_of_ble_eq_true rfl) (by omega) (dk dt_X12_job 49 rfl) ?_
    rw [Int.toNat_natCast]
    have e3 := e _ 126 d (by decide) e2
    refine v_aload_n (pc := 93) h (dk dt_X12_job 50 rfl) rfl ?_
    refine v_getr (pc := 94) h ci12 sh123 (Nat.le_of_ble_eq_true rfl) (j := 3) wF_X12_19 rfl (dk dt_X12_job 51 rfl) ?_
    refine v_aload_n (pc := 97) h (dk dt_X12_job 52 rfl) rfl ?_
    refine v_geti (pc := 98) h ci12 sh123 (Nat.le_of_ble_eq_true rfl) (j := 9) wF_X12_108 rfl (dk dt_X12_job 53 rfl) ?_
    rw [e3]
    refine v_iload (pc := 101) h (dk dt_X12_job 54 rfl) rfl ?_
    refine v_iast (pc := 103) h sh127 (Nat.le_of_ble_eq_true rfl) (by omega) (dk dt_X12_job 55 rfl) ?_
    rw [Int.toNat_natCast]
    have e4 := e _ 127 we (by decide) e3
    refine v_aload_n (pc := 104) h (dk dt_X12_job 56 rfl) rfl ?_
    refine v_getr (pc := 105) h ci12 sh123 (Nat.le_of_ble_eq_true rfl) (j := 4) wF_X12_22 rfl (dk dt_X12_job 57 rfl) ?_
    refine v_aload_n (pc := 108) h (dk dt_X12_job 58 rfl) rfl ?_
    refine v_geti (pc := 109) h ci12 sh123 (Nat.le_of_ble_eq_true rfl) (j := 9) wF_X12_108 rfl (dk dt_X12_job 59 rfl) ?_
    rw [e4]
    refine v_iconst (pc := 112) h (dk dt_X12_job 60 rfl) ?_
    refine v_iast (pc := 113) h sh128 (Nat.le_of_ble_eq_true rfl) (by omega) (dk dt_X12_job 61 rfl) ?_
    rw [Int.toNat_natCast]
    have e5 := e _ 128 0 (by decide) e4
    refine v_aload_n (pc := 114) h (dk dt_X12_job 62 rfl) rfl ?_
    refine v_getr (pc := 115) h ci12 sh123 (Nat.le_of_ble_eq_true rfl) (j := 5) wF_X12_25 rfl (dk dt_X12_job 63 rfl) ?_
    refine v_aload_n (pc := 118) h (dk dt_X12_job 64 rfl) rfl ?_
    refine v_geti (pc := 119) h ci12 sh123 (Nat.le_of_ble_eq_true rfl) (j := 9) wF_X12_108 rfl (dk dt_X12_job 65 rfl) ?_
    rw [e5]
    refine v_iconst (pc := 122) h (dk dt_X12_job 66 rfl) ?_
    refine v_iast (pc := 123) h sh129 (Nat.le_of_ble_eq_true rfl) (by omega) (dk dt_X12_job 67 rfl) ?_
    rw [Int.toNat_natCast]
    have e6 := e _ 129 0 (by decide) e5
    refine v_aload_n (pc := 124) h (dk dt_X12_job 68 rfl) rfl ?_
    refine v_dup (pc := 125) h (dk dt_X12_job 69 rfl) rfl ?_
    refine v_geti (pc := 126) h ci12 sh123 (Nat.le_of_ble_eq_true rfl) (j := 9) wF_X12_108 rfl (dk dt_X12_job 70 rfl) ?_
    rw [e6]
    refine v_iconst (pc := 129) h (dk dt_X12_job 71 rfl) ?_
    refine v_iadd (pc := 130) h (dk dt_X12_job 72 rfl) ?_
    refine v_put (pc := 131) h ci12 sh123 (Nat.le_of_ble_eq_true rfl) (j := 9) wF_X12_108 rfl rfl rfl rfl (dk dt_X12_job 73 rfl) ?_
    refine v_aload_n (pc := 134) h (dk dt_X12_job 74 rfl) rfl ?_
    refine v_aload_n (pc := 135) h (dk dt_X12_job 75 rfl) rfl ?_
    refine v_geti (pc := 136) h ci12 sh123 (Nat.le_of_ble_eq_true rfl) (j := 9) wF_X12_108 rfl (dk dt_X12_job 76 rfl) ?_
    rw [mup_eq]
    refine v_iconst (pc := 139) h (dk dt_X12_job 77 rfl) ?_
    refine v_isub (pc := 140) h (dk dt_X12_job 78 rfl) ?_
    rw [show (k : Int) + 1 - 1 = (k : Int) by omega]
    refine v_cVi (pc := 141) h (c_X12_changed h.quiet) kv_X12_changed sh123 wM_X12_122 rfl rfl (Nat.le_of_ble_eq_true rfl) (RM.of rfl) rfl rfl (dk dt_X12_job 79 rfl) ?_
    exact v_iret (pc := 144) h r (dk dt_X12_job 80 rfl) (Nat.le_of_ble_eq_true rfl) (Nat.le_of_ble_eq_true rfl) (by rw [← hM]; exact PM_0 (by unfold rcJob; rw [if_neg (by omega), if_neg (by omega)]))
  refine v_iload_n (pc := 0) h (dk dt_X12_job 0 rfl) rfl ?_
  refine v_iconst (pc := 1) h (dk dt_X12_job 1 rfl) ?_
  refine v_bipush (pc := 2) h (dk dt_X12_job 2 rfl) rfl ?_
  refine v_cSi (pc := 4) h (c_X12_in h.quiet (by omega) (by omega)) kv_X12_in wM_X12_111 rfl rfl (Nat.le_of_ble_eq_true rfl) (RM.of rfl) rfl rfl (dk dt_X12_job 3 rfl) ?_
  refine v_if_eq (pc := 7) h 42 (dk dt_X12_job 4 rfl) rfl (by split <;> omega) (fun c7 => ?_) (fun c7 => ?_)
  ·
    have d7 : ¬ (0 ≤ c ∧ c ≤ 99) := fun q => by rw [if_pos (by omega)] at c7; omega
    refine v_aload_n (pc := 42) h (dk dt_X12_job 20 rfl) rfl ?_
    refine v_iconst (pc := 43) h (dk dt_X12_job 21 rfl) ?_
    refine v_cVi (pc := 44) h (c_X12_refuse h.quiet) kv_X12_refuse sh123 wM_X12_119 rfl rfl (Nat.le_of_ble_eq_true rfl) (RM.of rfl) rfl rfl (dk dt_X12_job 22 rfl) ?_
    exact v_iret (pc := 47) h r (dk dt_X12_job 23 rfl) (Nat.le_of_ble_eq_true rfl) (Nat.le_of_ble_eq_true rfl) (PM_n (by unfold rcJob; rw [if_pos (by omega)]) (by decide))
  ·
    have d7 : 0 ≤ c ∧ c ≤ 99 := by by_cases q : 0 ≤ c ∧ c ≤ 99; exact q; rw [if_neg q] at c7; omega
    refine v_iload_n (pc := 10) h (dk dt_X12_job 5 rfl) rfl ?_
    refine v_iconst (pc := 11) h (dk dt_X12_job 6 rfl) ?_
    refine v_bipush (pc := 12) h (dk dt_X12_job 7 rfl) rfl ?_
    refine v_cSi (pc := 14) h (c_X12_in h.quiet (by omega) (by omega)) kv_X12_in wM_X12_111 rfl rfl (Nat.le_of_ble_eq_true rfl) (RM.of rfl) rfl rfl (dk dt_X12_job 8 rfl) ?_
    refine v_if_eq (pc := 17) h 42 (dk dt_X12_job 9 rfl) rfl (by split <;> omega) (fun c17 => ?_) (fun c17 => ?_)
    ·
      have d17 : ¬ (1 ≤ le ∧ le ≤ 30) := fun q => by rw [if_pos (by omega)] at c17; omega
      refine v_aload_n (pc := 42) h (dk dt_X12_job 20 rfl) rfl ?_
      refine v_iconst (pc := 43) h (dk dt_X12_job 21 rfl) ?_
      refine v_cVi (pc := 44) h (c_X12_refuse h.quiet) kv_X12_refuse sh123 wM_X12_119 rfl rfl (Nat.le_of_ble_eq_true rfl) (RM.of rfl) rfl rfl (dk dt_X12_job 22 rfl) ?_
      exact v_iret (pc := 47) h r (dk dt_X12_job 23 rfl) (Nat.le_of_ble_eq_true rfl) (Nat.le_of_ble_eq_true rfl) (PM_n (by unfold rcJob; rw [if_pos (by omega)]) (by decide))
    ·
      have d17 : 1 ≤ le ∧ le ≤ 30 := by by_cases q : 1 ≤ le ∧ le ≤ 30; exact q; rw [if_neg q] at c17; omega
      refine v_iload_n (pc := 20) h (dk dt_X12_job 10 rfl) rfl ?_
      refine v_iconst (pc := 21) h (dk dt_X12_job 11 rfl) ?_
      refine v_sipush (pc := 22) h (dk dt_X12_job 12 rfl) rfl ?_
      refine v_cSi (pc := 25) h (c_X12_in h.quiet (by omega) (by omega)) kv_X12_in wM_X12_111 rfl rfl (Nat.le_of_ble_eq_true rfl) (RM.of rfl) rfl rfl (dk dt_X12_job 13 rfl) ?_
      refine v_if_eq (pc := 28) h 42 (dk dt_X12_job 14 rfl) rfl (by split <;> omega) (fun c28 => ?_) (fun c28 => ?_)
      ·
        have d28 : ¬ (0 ≤ d ∧ d ≤ 400) := fun q => by rw [if_pos (by omega)] at c28; omega
        refine v_aload_n (pc := 42) h (dk dt_X12_job 20 rfl) rfl ?_
        refine v_iconst (pc := 43) h (dk dt_X12_job 21 rfl) ?_
        refine v_cVi (pc := 44) h (c_X12_refuse h.quiet) kv_X12_refuse sh123 wM_X12_119 rfl rfl (Nat.le_of_ble_eq_true rfl) (RM.of rfl) rfl rfl (dk dt_X12_job 22 rfl) ?_
        exact v_iret (pc := 47) h r (dk dt_X12_job 23 rfl) (Nat.le_of_ble_eq_true rfl) (Nat.le_of_ble_eq_true rfl) (PM_n (by unfold rcJob; rw [if_pos (by omega)]) (by decide))
      ·
        have d28 : 0 ≤ d ∧ d ≤ 400 := by by_cases q : 0 ≤ d ∧ d ≤ 400; exact q; rw [if_neg q] at c28; omega
        refine v_iload (pc := 31) h (dk dt_X12_job 15 rfl) rfl ?_
        refine v_iconst (pc := 33) h (dk dt_X12_job 16 rfl) ?_
        refine v_bipush (pc := 34) h (dk dt_X12_job 17 rfl) rfl ?_
        refine v_cSi (pc := 36) h (c_X12_in h.quiet (by omega) (by omega)) kv_X12_in wM_X12_111 rfl rfl (Nat.le_of_ble_eq_true rfl) (RM.of rfl) rfl rfl (dk dt_X12_job 18 rfl) ?_
        refine v_if_ne (pc := 39) h 48 (dk dt_X12_job 19 rfl) rfl (by split <;> omega) (fun c39 => ?_) (fun c39 => ?_)
        ·
          have d39 : 1 ≤ we ∧ we ≤ 9 := by by_cases q : 1 ≤ we ∧ we ≤ 9; exact q; rw [if_neg q] at c39; omega
          refine v_aload_n (pc := 48) h (dk dt_X12_job 24 rfl) rfl ?_
          refine v_geti (pc := 49) h ci12 sh123 (Nat.le_of_ble_eq_true rfl) (j := 9) wF_X12_108 rfl (dk dt_X12_job 25 rfl) ?_
          refine v_bipush (pc := 52) h (dk dt_X12_job 26 rfl) rfl ?_
          refine v_icmp_ne (pc := 54) h 63 (dk dt_X12_job 27 rfl) rfl (by omega) (fun c54 => ?_) (fun c54 => ?_)
          ·
            exact VV.loc (go63 ⟨d7, d17, d28, d39⟩ (by omega)) ⟨rfl, rfl, rfl, rfl, rfl, trivial⟩
          ·
            refine v_aload_n (pc := 57) h (dk dt_X12_job 28 rfl) rfl ?_
            refine v_iconst (pc := 58) h (dk dt_X12_job 29 rfl) ?_
            refine v_cVi (pc := 59) h (c_X12_refuse h.quiet) kv_X12_refuse sh123 wM_X12_119 rfl rfl (Nat.le_of_ble_eq_true rfl) (RM.of rfl) rfl rfl (dk dt_X12_job 30 rfl) ?_
            exact v_iret (pc := 62) h r (dk dt_X12_job 31 rfl) (Nat.le_of_ble_eq_true rfl) (Nat.le_of_ble_eq_true rfl) (PM_n (by unfold rcJob; rw [if_neg (by omega), if_pos (by omega)]) (by decide))
        ·
          have d39 : ¬ (1 ≤ we ∧ we ≤ 9) := fun q => by rw [if_pos (by omega)] at c39; omega
          refine v_aload_n (pc := 42) h (dk dt_X12_job 20 rfl) rfl ?_
          refine v_iconst (pc := 43) h (dk dt_X12_job 21 rfl) ?_
          refine v_cVi (pc := 44) h (c_X12_refuse h.quiet) kv_X12_refuse sh123 wM_X12_119 rfl rfl (Nat.le_of_ble_eq_true rfl) (RM.of rfl) rfl rfl (dk dt_X12_job 22 rfl) ?_
          exact v_iret (pc := 47) h r (dk dt_X12_job 23 rfl) (Nat.le_of_ble_eq_true rfl) (Nat.le_of_ble_eq_true rfl) (PM_n (by unfold rcJob; rw [if_pos (by omega)]) (by decide))
theorem c_X12_bits (hst : l.stackTraces = false) {x : Nat} (hx : x < 4096) :
    Ct l B D E yX12_bits (.code yX12_bits cX12_bits 3 (some .int)) rm_X12_bits [iI (x : Int)] μ (ri (pcN x 12) μ) NX := by
  have hb : ∀ k, 0 ≤ pcN x k ∧ pcN x k ≤ k := by
    intro k
    induction k with
    | zero => simp [pcN]
    | succ k ih => simp only [pcN]; split <;> omega
  refine ct_of (own := RX12) (lv := [(0, _)]) hst (by decide) rfl rfl (Nat.le_of_ble_eq_true rfl) fun a h r t => ?_
  have loop : ∀ (d i : Nat), i + d = 12 → VV a B (SP B D E μ) 0 0 4 [(2, iI (i : Int)), (1, iI (pcN x i)), (0, iI (x : Int))] [] := by
    intro d
    induction d with
    | zero =>
      intro i hi
      refine v_iload_n (pc := 4) h (dk dt_X12_bits 4 rfl) rfl ?_
      refine v_bipush (pc := 5) h (dk dt_X12_bits 5 rfl) rfl ?_
      refine v_icmp_ge (pc := 7) h 24 (dk dt_X12_bits 6 rfl) rfl (by omega) (fun c7 => ?_) (fun c7 => ?_)
      ·
        refine v_iload_n (pc := 24) h (dk dt_X12_bits 17 rfl) rfl ?_
        exact v_iret (pc := 25) h r (dk dt_X12_bits 18 rfl) (Nat.le_of_ble_eq_true rfl) (Nat.le_of_ble_eq_true rfl) ⟨by rw [show (12 : Nat) = i by omega], rfl⟩
      ·
        exact absurd c7 (by omega)
    | succ d ih =>
      intro i hi
      refine v_iload_n (pc := 4) h (dk dt_X12_bits 4 rfl) rfl ?_
      refine v_bipush (pc := 5) h (dk dt_X12_bits 5 rfl) rfl ?_
      refine v_icmp_ge (pc := 7) h 24 (dk dt_X12_bits 6 rfl) rfl (by omega) (fun c7 => ?_) (fun c7 => ?_)
      ·
        exact absurd c7 (by omega)
      ·
        refine v_iload_n (pc := 10) h (dk dt_X12_bits 7 rfl) rfl ?_
        refine v_iload_n (pc := 11) h (dk dt_X12_bits 8 rfl) rfl ?_
        refine v_iload_n (pc := 12) h (dk dt_X12_bits 9 rfl) rfl ?_
        refine v_ishr (pc := 13) h (dk dt_X12_bits 10 rfl) ?_
        refine v_iconst (pc := 14) h (dk dt_X12_bits 11 rfl) ?_
        refine v_iand (pc := 15) h (dk dt_X12_bits 12 rfl) ?_
        rw [bit1 (by omega) (by omega)]
        refine v_iadd (pc := 16) h (dk dt_X12_bits 13 rfl) ?_
        refine v_istore_n (lv' := [(1, _), (2, _), (0, _)]) (pc := 17) h (dk dt_X12_bits 14 rfl) (Nat.le_of_ble_eq_true rfl) rfl ?_
        refine v_iinc (lv' := [(2, _), (1, _), (0, _)]) (pc := 18) h (dk dt_X12_bits 15 rfl) rfl (Nat.le_of_ble_eq_true rfl) rfl ?_
        refine v_goto (pc := 21) h 4 (dk dt_X12_bits 16 rfl) rfl ?_
        exact VV.loc (ih (i + 1) (by omega)) ⟨rfl, rfl, rfl, trivial⟩
  refine v_iconst (pc := 0) h (dk dt_X12_bits 0 rfl) ?_
  refine v_istore_n (lv' := [(1, _), (0, _)]) (pc := 1) h (dk dt_X12_bits 1 rfl) (Nat.le_of_ble_eq_true rfl) rfl ?_
  refine v_iconst (pc := 2) h (dk dt_X12_bits 2 rfl) ?_
  refine v_istore_n (lv' := [(2, _), (1, _), (0, _)]) (pc := 3) h (dk dt_X12_bits 3 rfl) (Nat.le_of_ble_eq_true rfl) rfl ?_
  exact VV.loc (loop 12 0 (by omega)) ⟨rfl, rfl, rfl, trivial⟩
theorem c_X12_after (hst : l.stackTraces = false) (hO : okM μ) {j o : Int} (hj : InR j ∧ InR o) :
    Ct l B D E yX12_after (.code yX12_after cX12_after 3 (some .int)) rm_X12_after [.ref (pl B 123), iI j, iI o] μ (PM (rcAft (μ 123 9) j o) (some (iI (pcN ((μ 128 j.toNat).toNat ||| 2 ^ o.toNat) 12))) μ (Maft μ j.toNat o.toNat)) NX := by
  have hb := hO.1
  refine ct_of (own := RX12) (lv := [(0, _), (1, _), (2, _)]) hst (by decide) rfl rfl (Nat.le_of_ble_eq_true rfl) fun a h r t => ?_
  have go33 : 0 ≤ j ∧ j < μ 123 9 → 0 ≤ o ∧ o < j → VV a B (SP B D E μ) 0 0 33 [(0, .ref (pl B 123)), (1, iI j), (2, iI o)] [] := by
    intro h1 h2
    obtain ⟨j', rfl⟩ : ∃ k : Nat, j = (k : Int) := ⟨j.toNat, by omega⟩
    obtain ⟨o', rfl⟩ : ∃ k : Nat, o = (k : Int) := ⟨o.toNat, by omega⟩
    have h3 := (hO.2 j' (by omega)).2.2.2.2.1
    have h4 : 2 ^ j' ≤ 2 ^ 11 := p2lt (by omega)
    have h5 : 2 ^ o' ≤ 2 ^ 11 := p2lt (by omega)
    have e : μ 128 j' = (((μ 128 j').toNat : Nat) : Int) := by omega
    have hd : Maft μ j' o' = mchg (mup μ 128 j' (((μ 128 j').toNat ||| 2 ^ o' : Nat) : Int)) := rfl
    have hrc : rcAft (μ 123 9) (j' : Int) (o' : Int) = 0 := by unfold rcAft; rw [if_neg (by omega), if_neg (by omega)]
    rw [Int.toNat_natCast, Int.toNat_natCast] at r
    generalize (μ 128 j').toNat = X at *
    have hX : X < 4096 := by omega
    have hOr : X ||| 2 ^ o' < 4096 := Nat.or_lt_two_pow (n := 12) hX (by omega)
    refine v_aload_n (pc := 33) h (dk dt_X12_after 19 rfl) rfl ?_
    refine v_getr (pc := 34) h ci12 sh123 (Nat.le_of_ble_eq_true rfl) (j := 4) wF_X12_22 rfl (dk dt_X12_after 20 rfl) ?_
    refine v_iload_n (pc := 37) h (dk dt_X12_after 21 rfl) rfl ?_
    refine v_dup2 (pc := 38) h (dk dt_X12_after 22 rfl) rfl rfl ?_
    refine v_iald (pc := 39) h sh128 (Nat.le_of_ble_eq_true rfl) (by omega) (dk dt_X12_after 23 rfl) ?_
    rw [Int.toNat_natCast, e]
    refine v_iconst (pc := 40) h (dk dt_X12_after 24 rfl) ?_
    refine v_iload_n (pc := 41) h (dk dt_X12_after 25 rfl) rfl ?_
    refine v_ishl (pc := 42) h (dk dt_X12_after 26 rfl) ?_
    rw [bsl_1 o' (by omega)]
    refine v_ior (pc := 43) h (dk dt_X12_after 27 rfl) ?_
    rw [bor_n (by omega) (by omega)]
    refine v_iast (pc := 44) h sh128 (Nat.le_of_ble_eq_true rfl) (by omega) (dk dt_X12_after 28 rfl) ?_
    refine v_aload_n (pc := 45) h (dk dt_X12_after 29 rfl) rfl ?_
    refine v_aload_n (pc := 46) h (dk dt_X12_after 30 rfl) rfl ?_
    refine v_getr (pc := 47) h ci12 sh123 (Nat.le_of_ble_eq_true rfl) (j := 4) wF_X12_22 rfl (dk dt_X12_after 31 rfl) ?_
    refine v_iload_n (pc := 50) h (dk dt_X12_after 32 rfl) rfl ?_
    refine v_iald (pc := 51) h sh128 (Nat.le_of_ble_eq_true rfl) (by omega) (dk dt_X12_after 33 rfl) ?_
    rw [Int.toNat_natCast, mup_eq]
    refine v_cSi (pc := 52) h (c_X12_bits h.quiet (by omega)) kv_X12_bits wM_X12_129 rfl rfl (Nat.le_of_ble_eq_true rfl) (RM.of rfl) rfl rfl (dk dt_X12_after 34 rfl) ?_
    refine v_cVi (pc := 55) h (c_X12_changed h.quiet) kv_X12_changed sh123 wM_X12_122 rfl rfl (Nat.le_of_ble_eq_true rfl) (RM.of rfl) rfl rfl (dk dt_X12_after 35 rfl) ?_
    exact v_iret (pc := 58) h r (dk dt_X12_after 36 rfl) (Nat.le_of_ble_eq_true rfl) (Nat.le_of_ble_eq_true rfl) (by rw [← hd]; exact PM_0 hrc)
  refine v_aload_n (pc := 0) h (dk dt_X12_after 0 rfl) rfl ?_
  refine v_iload_n (pc := 1) h (dk dt_X12_after 1 rfl) rfl ?_
  refine v_cVi (pc := 2) h (c_X12_isJob h.quiet (by omega) (by omega)) kv_X12_isJob sh123 wM_X12_125 rfl rfl (Nat.le_of_ble_eq_true rfl) (RM.of rfl) rfl rfl (dk dt_X12_after 2 rfl) ?_
  refine v_if_eq (pc := 5) h 16 (dk dt_X12_after 3 rfl) rfl (by split <;> omega) (fun c5 => ?_) (fun c5 => ?_)
  ·
    have d5 : ¬ (0 ≤ j ∧ j < μ 123 9) := fun q => by rw [if_pos q] at c5; omega
    refine v_aload_n (pc := 16) h (dk dt_X12_after 8 rfl) rfl ?_
    refine v_iconst (pc := 17) h (dk dt_X12_after 9 rfl) ?_
    refine v_cVi (pc := 18) h (c_X12_refuse h.quiet) kv_X12_refuse sh123 wM_X12_119 rfl rfl (Nat.le_of_ble_eq_true rfl) (RM.of rfl) rfl rfl (dk dt_X12_after 10 rfl) ?_
    exact v_iret (pc := 21) h r (dk dt_X12_after 11 rfl) (Nat.le_of_ble_eq_true rfl) (Nat.le_of_ble_eq_true rfl) (PM_n (by unfold rcAft; first | rw [if_pos (Or.inl d5)] | rw [if_pos (Or.inr d13)]) (by decide))
  ·
    have d5 : 0 ≤ j ∧ j < μ 123 9 := by by_cases q : 0 ≤ j ∧ j < μ 123 9; exact q; rw [if_neg q] at c5; omega
    refine v_aload_n (pc := 8) h (dk dt_X12_after 4 rfl) rfl ?_
    refine v_iload_n (pc := 9) h (dk dt_X12_after 5 rfl) rfl ?_
    refine v_cVi (pc := 10) h (c_X12_isJob h.quiet (by omega) (by omega)) kv_X12_isJob sh123 wM_X12_125 rfl rfl (Nat.le_of_ble_eq_true rfl) (RM.of rfl) rfl rfl (dk dt_X12_after 6 rfl) ?_
    refine v_if_ne (pc := 13) h 22 (dk dt_X12_after 7 rfl) rfl (by split <;> omega) (fun c13 => ?_) (fun c13 => ?_)
    ·
      have d13 : 0 ≤ o ∧ o < μ 123 9 := by by_cases q : 0 ≤ o ∧ o < μ 123 9; exact q; rw [if_neg q] at c13; omega
      refine v_iload_n (pc := 22) h (dk dt_X12_after 12 rfl) rfl ?_
      refine v_iload_n (pc := 23) h (dk dt_X12_after 13 rfl) rfl ?_
      refine v_icmp_lt (pc := 24) h 33 (dk dt_X12_after 14 rfl) rfl (by omega) (fun c24 => ?_) (fun c24 => ?_)
      ·
        exact VV.loc (go33 d5 (by omega)) ⟨rfl, rfl, rfl, trivial⟩
      ·
        refine v_aload_n (pc := 27) h (dk dt_X12_after 15 rfl) rfl ?_
        refine v_iconst (pc := 28) h (dk dt_X12_after 16 rfl) ?_
        refine v_cVi (pc := 29) h (c_X12_refuse h.quiet) kv_X12_refuse sh123 wM_X12_119 rfl rfl (Nat.le_of_ble_eq_true rfl) (RM.of rfl) rfl rfl (dk dt_X12_after 17 rfl) ?_
        exact v_iret (pc := 32) h r (dk dt_X12_after 18 rfl) (Nat.le_of_ble_eq_true rfl) (Nat.le_of_ble_eq_true rfl) (PM_n (by unfold rcAft; rw [if_neg (by omega), if_pos (by omega)]) (by decide))
    ·
      have d13 : ¬ (0 ≤ o ∧ o < μ 123 9) := fun q => by rw [if_pos q] at c13; omega
      refine v_aload_n (pc := 16) h (dk dt_X12_after 8 rfl) rfl ?_
      refine v_iconst (pc := 17) h (dk dt_X12_after 9 rfl) ?_
      refine v_cVi (pc := 18) h (c_X12_refuse h.quiet) kv_X12_refuse sh123 wM_X12_119 rfl rfl (Nat.le_of_ble_eq_true rfl) (RM.of rfl) rfl rfl (dk dt_X12_after 10 rfl) ?_
      exact v_iret (pc := 21) h r (dk dt_X12_after 11 rfl) (Nat.le_of_ble_eq_true rfl) (Nat.le_of_ble_eq_true rfl) (PM_n (by unfold rcAft; first | rw [if_pos (Or.inl d5)] | rw [if_pos (Or.inr d13)]) (by decide))
theorem c_X12_lock (hst : l.stackTraces = false) (hO : okM μ) {j y f u : Int} (hj : InR j ∧ InR y) (hf : InR f ∧ InR u) :
    Ct l B D E yX12_lock (.code yX12_lock cX12_lock 7 (some .int)) rm_X12_lock [.ref (pl B 123), iI j, iI y, iI f, iI u] μ (PM (rcLk (μ 123 9) (μ 125) (μ 129) (μ 131) (μ 132) j y f u) (some (iI (μ 129 j.toNat + 1))) μ (Mlk μ j.toNat y f u)) NX := by
  have hb := hO.1
  refine ct_of (own := RX12) (lv := [(0, _), (1, _), (2, _), (3, _), (4, _)]) hst (by decide) rfl rfl (Nat.le_of_ble_eq_true rfl) fun a h r t => ?_
  have go23 : 0 ≤ j ∧ j < μ 123 9 → 0 ≤ y ∧ y ≤ 2 → VV a B (SP B D E μ) 0 0 23 [(0, .ref (pl B 123)), (1, iI j), (2, iI y), (3, iI f), (4, iI u)] [] := by
    intro h1 h2
    obtain ⟨j', rfl⟩ : ∃ k : Nat, j = (k : Int) := ⟨j.toNat, by omega⟩
    have hs := hO.2 j' (by omega)
    have hg := hs.2.2.2.2.2.2.1
    have hrc : rcLk (μ 123 9) (μ 125) (μ 129) (μ 131) (μ 132) (j' : Int) y f u = if ¬ (0 ≤ f ∧ f < u ∧ u ≤ μ 125 j') ∨ ovl (μ 129) (μ 131) (μ 132) j' f u then 2 else if 3 ≤ μ 129 j' then 3 else 0 := by unfold rcLk; rw [if_neg (by omega), Int.toNat_natCast]
    rw [Int.toNat_natCast] at r
    have go125 : ¬ (¬ (0 ≤ f ∧ f < u ∧ u ≤ μ 125 j') ∨ ovl (μ 129) (μ 131) (μ 132) j' f u) → VV a B (SP B D E μ) 0 0 125 [(0, .ref (pl B 123)), (1, iI (j' : Int)), (2, iI y), (3, iI f), (4, iI u)] [] := by
      intro h3
      rw [if_neg h3] at hrc
      have e3 : 3 * (j' : Int) + μ 129 j' = ((3 * j' + (μ 129 j').toNat : Nat) : Int) := by omega
      have hd : Mlk μ j' y f u = mchg (mup (mup (mup (mup μ 130 (3 * j' + (μ 129 j').toNat) y) 131 (3 * j' + (μ 129 j').toNat) f) 132 (3 * j' + (μ 129 j').toNat) u) 129 j' (μ 129 j' + 1)) := rfl
      refine v_aload_n (pc := 125) h (dk dt_X12_lock 70 rfl) rfl ?_
      refine v_getr (pc := 126) h ci12 sh123 (Nat.le_of_ble_eq_true rfl) (j := 5) wF_X12_25 rfl (dk dt_X12_lock 71 rfl) ?_
      refine v_iload_n (pc := 129) h (dk dt_X12_lock 72 rfl) rfl ?_
      refine v_iald (pc := 130) h sh129 (Nat.le_of_ble_eq_true rfl) (by omega) (dk dt_X12_lock 73 rfl) ?_
      rw [Int.toNat_natCast]
      refine v_iconst (pc := 131) h (dk dt_X12_lock 74 rfl) ?_
      refine v_icmp_ne (pc := 132) h 141 (dk dt_X12_lock 75 rfl) rfl (by omega) (fun c132 => ?_) (fun c132 => ?_)
      ·
        refine v_iconst (pc := 141) h (dk dt_X12_lock 80 rfl) ?_
        refine v_iload_n (pc := 142) h (dk dt_X12_lock 81 rfl) rfl ?_
        refine v_imul (pc := 143) h (dk dt_X12_lock 82 rfl) ?_
        refine v_aload_n (pc := 144) h (dk dt_X12_lock 83 rfl) rfl ?_
        refine v_getr (pc := 145) h ci12 sh123 (Nat.le_of_ble_eq_true rfl) (j := 5) wF_X12_25 rfl (dk dt_X12_lock 84 rfl) ?_
        refine v_iload_n (pc := 148) h (dk dt_X12_lock 85 rfl) rfl ?_
        refine v_iald (pc := 149) h sh129 (Nat.le_of_ble_eq_true rfl) (by omega) (dk dt_X12_lock 86 rfl) ?_
        rw [Int.toNat_natCast]
        refine v_iadd (pc := 150) h (dk dt_X12_lock 87 rfl) ?_
        rw [e3]
        refine v_istore (lv' := [(6, _), (0, _), (1, _), (2, _), (3, _), (4, _)]) (pc := 151) h (dk dt_X12_lock 88 rfl) (Nat.le_of_ble_eq_true rfl) rfl ?_
        refine v_aload_n (pc := 153) h (dk dt_X12_lock 89 rfl) rfl ?_
        refine v_getr (pc := 154) h ci12 sh123 (Nat.le_of_ble_eq_true rfl) (j := 6) wF_X12_28 rfl (dk dt_X12_lock 90 rfl) ?_
        refine v_iload (pc := 157) h (dk dt_X12_lock 91 rfl) rfl ?_
        refine v_iload_n (pc := 159) h (dk dt_X12_lock 92 rfl) rfl ?_
        refine v_iast (pc := 160) h sh130 (Nat.le_of_ble_eq_true rfl) (by omega) (dk dt_X12_lock 93 rfl) ?_
        rw [Int.toNat_natCast]
        refine v_aload_n (pc := 161) h (dk dt_X12_lock 94 rfl) rfl ?_
        refine v_getr (pc := 162) h ci12 sh123 (Nat.le_of_ble_eq_true rfl) (j := 7) wF_X12_31 rfl (dk dt_X12_lock 95 rfl) ?_
        refine v_iload (pc := 165) h (dk dt_X12_lock 96 rfl) rfl ?_
        refine v_iload_n (pc := 167) h (dk dt_X12_lock 97 rfl) rfl ?_
        refine v_iast (pc := 168) h sh131 (Nat.le_of_ble_eq_true rfl) (by omega) (dk dt_X12_lock 98 rfl) ?_
        rw [Int.toNat_natCast]
        refine v_aload_n (pc := 169) h (dk dt_X12_lock 99 rfl) rfl ?_
        refine v_getr (pc := 170) h ci12 sh123 (Nat.le_of_ble_eq_true rfl) (j := 8) wF_X12_34 rfl (dk dt_X12_lock 100 rfl) ?_
        refine v_iload (pc := 173) h (dk dt_X12_lock 101 rfl) rfl ?_
        refine v_iload (pc := 175) h (dk dt_X12_lock 102 rfl) rfl ?_
        refine v_iast (pc := 177) h sh132 (Nat.le_of_ble_eq_true rfl) (by omega) (dk dt_X12_lock 103 rfl) ?_
        rw [Int.toNat_natCast]
        refine v_aload_n (pc := 178) h (dk dt_X12_lock 104 rfl) rfl ?_
        refine v_getr (pc := 179) h ci12 sh123 (Nat.le_of_ble_eq_true rfl) (j := 5) wF_X12_25 rfl (dk dt_X12_lock 105 rfl) ?_
        refine v_iload_n (pc := 182) h (dk dt_X12_lock 106 rfl) rfl ?_
        refine v_dup2 (pc := 183) h (dk dt_X12_lock 107 rfl) rfl rfl ?_
        refine v_iald (pc := 184) h sh129 (Nat.le_of_ble_eq_true rfl) (by omega) (dk dt_X12_lock 108 rfl) ?_
        rw [Int.toNat_natCast, mup_nk (show (129 : Nat) ≠ 132 by decide), mup_nk (show (129 : Nat) ≠ 131 by decide), mup_nk (show (129 : Nat) ≠ 130 by decide)]
        refine v_iconst (pc := 185) h (dk dt_X12_lock 109 rfl) ?_
        refine v_iadd (pc := 186) h (dk dt_X12_lock 110 rfl) ?_
        refine v_iast (pc := 187) h sh129 (Nat.le_of_ble_eq_true rfl) (by omega) (dk dt_X12_lock 111 rfl) ?_
        rw [Int.toNat_natCast]
        refine v_aload_n (pc := 188) h (dk dt_X12_lock 112 rfl) rfl ?_
        refine v_aload_n (pc := 189) h (dk dt_X12_lock 113 rfl) rfl ?_
        refine v_getr (pc := 190) h ci12 sh123 (Nat.le_of_ble_eq_true rfl) (j := 5) wF_X12_25 rfl (dk dt_X12_lock 114 rfl) ?_
        refine v_iload_n (pc := 193) h (dk dt_X12_lock 115 rfl) rfl ?_
        refine v_iald (pc := 194) h sh129 (Nat.le_of_ble_eq_true rfl) (by omega) (dk dt_X12_lock 116 rfl) ?_
        rw [Int.toNat_natCast, mup_eq]
        refine v_cVi (pc := 195) h (c_X12_changed h.quiet) kv_X12_changed sh123 wM_X12_122 rfl rfl (Nat.le_of_ble_eq_true rfl) (RM.of rfl) rfl rfl (dk dt_X12_lock 117 rfl) ?_
        exact v_iret (pc := 198) h r (dk dt_X12_lock 118 rfl) (Nat.le_of_ble_eq_true rfl) (Nat.le_of_ble_eq_true rfl) (by rw [← hd]; exact PM_0 (by rw [hrc, if_neg (by omega)]))
      ·
        refine v_aload_n (pc := 135) h (dk dt_X12_lock 76 rfl) rfl ?_
        refine v_iconst (pc := 136) h (dk dt_X12_lock 77 rfl) ?_
        refine v_cVi (pc := 137) h (c_X12_refuse h.quiet) kv_X12_refuse sh123 wM_X12_119 rfl rfl (Nat.le_of_ble_eq_true rfl) (RM.of rfl) rfl rfl (dk dt_X12_lock 78 rfl) ?_
        exact v_iret (pc := 140) h r (dk dt_X12_lock 79 rfl) (Nat.le_of_ble_eq_true rfl) (Nat.le_of_ble_eq_true rfl) (PM_n (by rw [hrc, if_pos (by omega)]) (by decide))
    have loop : (0 ≤ f ∧ f < u ∧ u ≤ μ 125 j') → ∀ (d i : Nat), i + d = (μ 129 j').toNat → (∀ z : Nat, z < i → ¬ (f < μ 132 (3 * j' + z) ∧ μ 131 (3 * j' + z) < u)) → VV a B (SP B D E μ) 0 0 54 [(6, iI (i : Int)), (5, iI 1), (0, .ref (pl B 123)), (1, iI (j' : Int)), (2, iI y), (3, iI f), (4, iI u)] [] := by
      intro h3 d
      induction d with
      | zero =>
        intro i hi q
        refine v_iload (pc := 54) h (dk dt_X12_lock 30 rfl) rfl ?_
        refine v_aload_n (pc := 56) h (dk dt_X12_lock 31 rfl) rfl ?_
        refine v_getr (pc := 57) h ci12 sh123 (Nat.le_of_ble_eq_true rfl) (j := 5) wF_X12_25 rfl (dk dt_X12_lock 32 rfl) ?_
        refine v_iload_n (pc := 60) h (dk dt_X12_lock 33 rfl) rfl ?_
        refine v_iald (pc := 61) h sh129 (Nat.le_of_ble_eq_true rfl) (by omega) (dk dt_X12_lock 34 rfl) ?_
        rw [Int.toNat_natCast]
        refine v_icmp_ge (pc := 62) h 114 (dk dt_X12_lock 35 rfl) rfl (by omega) (fun c62 => ?_) (fun c62 => ?_)
        ·
          refine v_iload (pc := 114) h (dk dt_X12_lock 64 rfl) rfl ?_
          refine v_if_ne (pc := 116) h 125 (dk dt_X12_lock 65 rfl) rfl (by omega) (fun c116 => ?_) (fun c116 => ?_)
          ·
            exact VV.loc (go125 (fun z => by rcases z with z | ⟨x, z1, z2⟩; exact z h3; exact q x (by omega) z2)) ⟨rfl, rfl, rfl, rfl, rfl, trivial⟩
          ·
            exact absurd c116 (by decide)
        ·
          exact absurd c62 (by omega)
      | succ d ih =>
        intro i hi q
        have hgi := hg i (by omega)
        have e : (3 * (j' : Int) + (i : Int)) = ((3 * j' + i : Nat) : Int) := by omega
        have go106 : ∀ b : Int, (b = 0 ∧ (f < μ 132 (3 * j' + i) ∧ μ 131 (3 * j' + i) < u) ∨ b = 1 ∧ ¬ (f < μ 132 (3 * j' + i) ∧ μ 131 (3 * j' + i) < u)) → VV a B (SP B D E μ) 0 0 106 [(6, iI (i : Int)), (0, .ref (pl B 123)), (1, iI (j' : Int)), (2, iI y), (3, iI f), (4, iI u)] [iI b] := by
          intro b hb
          rcases hb with ⟨rfl, hb⟩ | ⟨rfl, hb⟩
          ·
            refine v_istore (lv' := [(5, _), (6, _), (0, _), (1, _), (2, _), (3, _), (4, _)]) (pc := 106) h (dk dt_X12_lock 61 rfl) (Nat.le_of_ble_eq_true rfl) rfl ?_
            refine v_iinc (lv' := [(6, _), (5, _), (0, _), (1, _), (2, _), (3, _), (4, _)]) (pc := 108) h (dk dt_X12_lock 62 rfl) rfl (Nat.le_of_ble_eq_true rfl) rfl ?_
            refine v_goto (pc := 111) h 54 (dk dt_X12_lock 63 rfl) rfl ?_
            refine v_iload (pc := 54) h (dk dt_X12_lock 30 rfl) rfl ?_
            refine v_aload_n (pc := 56) h (dk dt_X12_lock 31 rfl) rfl ?_
            refine v_getr (pc := 57) h ci12 sh123 (Nat.le_of_ble_eq_true rfl) (j := 5) wF_X12_25 rfl (dk dt_X12_lock 32 rfl) ?_
            refine v_iload_n (pc := 60) h (dk dt_X12_lock 33 rfl) rfl ?_
            refine v_iald (pc := 61) h sh129 (Nat.le_of_ble_eq_true rfl) (by omega) (dk dt_X12_lock 34 rfl) ?_
            rw [Int.toNat_natCast]
            refine v_icmp_ge (pc := 62) h 114 (dk dt_X12_lock 35 rfl) rfl (by omega) (fun c62 => ?_) (fun c62 => ?_)
            ·
              refine v_iload (pc := 114) h (dk dt_X12_lock 64 rfl) rfl ?_
              refine v_if_ne (pc := 116) h 125 (dk dt_X12_lock 65 rfl) rfl (by omega) (fun c116 => ?_) (fun c116 => ?_)
              ·
                exact absurd rfl c116
              ·
                refine v_aload_n (pc := 119) h (dk dt_X12_lock 66 rfl) rfl ?_
                refine v_iconst (pc := 120) h (dk dt_X12_lock 67 rfl) ?_
                refine v_cVi (pc := 121) h (c_X12_refuse h.quiet) kv_X12_refuse sh123 wM_X12_119 rfl rfl (Nat.le_of_ble_eq_true rfl) (RM.of rfl) rfl rfl (dk dt_X12_lock 68 rfl) ?_
                exact v_iret (pc := 124) h r (dk dt_X12_lock 69 rfl) (Nat.le_of_ble_eq_true rfl) (Nat.le_of_ble_eq_true rfl) (PM_n (by rw [hrc, if_pos (Or.inr ⟨i, by omega, hb⟩)]) (by decide))
            ·
              refine v_iload (pc := 65) h (dk dt_X12_lock 36 rfl) rfl ?_
              refine v_if_eq (pc := 67) h 114 (dk dt_X12_lock 37 rfl) rfl (by omega) (fun c67 => ?_) (fun c67 => ?_)
              ·
                refine v_iload (pc := 114) h (dk dt_X12_lock 64 rfl) rfl ?_
                refine v_if_ne (pc := 116) h 125 (dk dt_X12_lock 65 rfl) rfl (by omega) (fun c116 => ?_) (fun c116 => ?_)
                ·
                  exact absurd rfl c116
                ·
                  refine v_aload_n (pc := 119) h (dk dt_X12_lock 66 rfl) rfl ?_
                  refine v_iconst (pc := 120) h (dk dt_X12_lock 67 rfl) ?_
                  refine v_cVi (pc := 121) h (c_X12_refuse h.quiet) kv_X12_refuse sh123 wM_X12_119 rfl rfl (Nat.le_of_ble_eq_true rfl) (RM.of rfl) rfl rfl (dk dt_X12_lock 68 rfl) ?_
                  exact v_iret (pc := 124) h r (dk dt_X12_lock 69 rfl) (Nat.le_of_ble_eq_true rfl) (Nat.le_of_ble_eq_true rfl) (PM_n (by rw [hrc, if_pos (Or.inr ⟨i, by omega, hb⟩)]) (by decide))
              ·
                exact absurd rfl c67
          ·
            refine v_istore (lv' := [(5, _), (6, _), (0, _), (1, _), (2, _), (3, _), (4, _)]) (pc := 106) h (dk dt_X12_lock 61 rfl) (Nat.le_of_ble_eq_true rfl) rfl ?_
            refine v_iinc (lv' := [(6, _), (5, _), (0, _), (1, _), (2, _), (3, _), (4, _)]) (pc := 108) h (dk dt_X12_lock 62 rfl) rfl (Nat.le_of_ble_eq_true rfl) rfl ?_
            refine v_goto (pc := 111) h 54 (dk dt_X12_lock 63 rfl) rfl ?_
            exact VV.loc (ih (i + 1) (by omega) (fun x hx => by rcases Nat.lt_succ_iff_lt_or_eq.mp hx with z | z; exact q x z; rw [z]; exact hb)) ⟨rfl, rfl, rfl, rfl, rfl, rfl, rfl, trivial⟩
        refine v_iload (pc := 54) h (dk dt_X12_lock 30 rfl) rfl ?_
        refine v_aload_n (pc := 56) h (dk dt_X12_lock 31 rfl) rfl ?_
        refine v_getr (pc := 57) h ci12 sh123 (Nat.le_of_ble_eq_true rfl) (j := 5) wF_X12_25 rfl (dk dt_X12_lock 32 rfl) ?_
        refine v_iload_n (pc := 60) h (dk dt_X12_lock 33 rfl) rfl ?_
        refine v_iald (pc := 61) h sh129 (Nat.le_of_ble_eq_true rfl) (by omega) (dk dt_X12_lock 34 rfl) ?_
        rw [Int.toNat_natCast]
        refine v_icmp_ge (pc := 62) h 114 (dk dt_X12_lock 35 rfl) rfl (by omega) (fun c62 => ?_) (fun c62 => ?_)
        ·
          exact absurd c62 (by omega)
        ·
          refine v_iload (pc := 65) h (dk dt_X12_lock 36 rfl) rfl ?_
          refine v_if_eq (pc := 67) h 114 (dk dt_X12_lock 37 rfl) rfl (by omega) (fun c67 => ?_) (fun c67 => ?_)
          ·
            exact absurd c67 (by decide)
          ·
            refine v_iload (pc := 70) h (dk dt_X12_lock 38 rfl) rfl ?_
            refine v_aload_n (pc := 72) h (dk dt_X12_lock 39 rfl) rfl ?_
            refine v_getr (pc := 73) h ci12 sh123 (Nat.le_of_ble_eq_true rfl) (j := 7) wF_X12_31 rfl (dk dt_X12_lock 40 rfl) ?_
            refine v_iconst (pc := 76) h (dk dt_X12_lock 41 rfl) ?_
            refine v_iload_n (pc := 77) h (dk dt_X12_lock 42 rfl) rfl ?_
            refine v_imul (pc := 78) h (dk dt_X12_lock 43 rfl) ?_
            refine v_iload (pc := 79) h (dk dt_X12_lock 44 rfl) rfl ?_
            refine v_iadd (pc := 81) h (dk dt_X12_lock 45 rfl) ?_
            rw [e]
            refine v_iald (pc := 82) h sh131 (Nat.le_of_ble_eq_true rfl) (by omega) (dk dt_X12_lock 46 rfl) ?_
            rw [Int.toNat_natCast]
            refine v_icmp_le (pc := 83) h 101 (dk dt_X12_lock 47 rfl) rfl (by omega) (fun c83 => ?_) (fun c83 => ?_)
            ·
              refine v_iconst (pc := 101) h (dk dt_X12_lock 58 rfl) ?_
              refine v_goto (pc := 102) h 106 (dk dt_X12_lock 59 rfl) rfl ?_
              first
                | exact VV.loc (go106 1 (Or.inr ⟨rfl, by omega⟩)) ⟨rfl, rfl, rfl, rfl, rfl, rfl, trivial⟩
                | exact VV.loc (go106 0 (Or.inl ⟨rfl, by omega⟩)) ⟨rfl, rfl, rfl, rfl, rfl, rfl, trivial⟩
            ·
              refine v_aload_n (pc := 86) h (dk dt_X12_lock 48 rfl) rfl ?_
              refine v_getr (pc := 87) h ci12 sh123 (Nat.le_of_ble_eq_true rfl) (j := 8) wF_X12_34 rfl (dk dt_X12_lock 49 rfl) ?_
              refine v_iconst (pc := 90) h (dk dt_X12_lock 50 rfl) ?_
              refine v_iload_n (pc := 91) h (dk dt_X12_lock 51 rfl) rfl ?_
              refine v_imul (pc := 92) h (dk dt_X12_lock 52 rfl) ?_
              refine v_iload (pc := 93) h (dk dt_X12_lock 53 rfl) rfl ?_
              refine v_iadd (pc := 95) h (dk dt_X12_lock 54 rfl) ?_
              rw [e]
              refine v_iald (pc := 96) h sh132 (Nat.le_of_ble_eq_true rfl) (by omega) (dk dt_X12_lock 55 rfl) ?_
              rw [Int.toNat_natCast]
              refine v_iload_n (pc := 97) h (dk dt_X12_lock 56 rfl) rfl ?_
              refine v_icmp_gt (pc := 98) h 105 (dk dt_X12_lock 57 rfl) rfl (by omega) (fun c98 => ?_) (fun c98 => ?_)
              ·
                refine v_iconst (pc := 105) h (dk dt_X12_lock 60 rfl) ?_
                first
                  | exact VV.loc (go106 1 (Or.inr ⟨rfl, by omega⟩)) ⟨rfl, rfl, rfl, rfl, rfl, rfl, trivial⟩
                  | exact VV.loc (go106 0 (Or.inl ⟨rfl, by omega⟩)) ⟨rfl, rfl, rfl, rfl, rfl, rfl, trivial⟩
              ·
                refine v_iconst (pc := 101) h (dk dt_X12_lock 58 rfl) ?_
                refine v_goto (pc := 102) h 106 (dk dt_X12_lock 59 rfl) rfl ?_
                first
                  | exact VV.loc (go106 1 (Or.inr ⟨rfl, by omega⟩)) ⟨rfl, rfl, rfl, rfl, rfl, rfl, trivial⟩
                  | exact VV.loc (go106 0 (Or.inl ⟨rfl, by omega⟩)) ⟨rfl, rfl, rfl, rfl, rfl, rfl, trivial⟩
    have go54 : ¬ (0 ≤ f ∧ f < u ∧ u ≤ μ 125 j') → VV a B (SP B D E μ) 0 0 54 [(6, iI 0), (5, iI 0), (0, .ref (pl B 123)), (1, iI (j' : Int)), (2, iI y), (3, iI f), (4, iI u)] [] := by
      intro h3
      refine v_iload (pc := 54) h (dk dt_X12_lock 30 rfl) rfl ?_
      refine v_aload_n (pc := 56) h (dk dt_X12_lock 31 rfl) rfl ?_
      refine v_getr (pc := 57) h ci12 sh123 (Nat.le_of_ble_eq_true rfl) (j := 5) wF_X12_25 rfl (dk dt_X12_lock 32 rfl) ?_
      refine v_iload_n (pc := 60) h (dk dt_X12_lock 33 rfl) rfl ?_
      refine v_iald (pc := 61) h sh129 (Nat.le_of_ble_eq_true rfl) (by omega) (dk dt_X12_lock 34 rfl) ?_
      rw [Int.toNat_natCast]
      refine v_icmp_ge (pc := 62) h 114 (dk dt_X12_lock 35 rfl) rfl (by omega) (fun c62 => ?_) (fun c62 => ?_)
      ·
        refine v_iload (pc := 114) h (dk dt_X12_lock 64 rfl) rfl ?_
        refine v_if_ne (pc := 116) h 125 (dk dt_X12_lock 65 rfl) rfl (by omega) (fun c116 => ?_) (fun c116 => ?_)
        ·
          exact absurd rfl c116
        ·
          refine v_aload_n (pc := 119) h (dk dt_X12_lock 66 rfl) rfl ?_
          refine v_iconst (pc := 120) h (dk dt_X12_lock 67 rfl) ?_
          refine v_cVi (pc := 121) h (c_X12_refuse h.quiet) kv_X12_refuse sh123 wM_X12_119 rfl rfl (Nat.le_of_ble_eq_true rfl) (RM.of rfl) rfl rfl (dk dt_X12_lock 68 rfl) ?_
          exact v_iret (pc := 124) h r (dk dt_X12_lock 69 rfl) (Nat.le_of_ble_eq_true rfl) (Nat.le_of_ble_eq_true rfl) (PM_n (by rw [hrc, if_pos (Or.inl h3)]) (by decide))
      ·
        refine v_iload (pc := 65) h (dk dt_X12_lock 36 rfl) rfl ?_
        refine v_if_eq (pc := 67) h 114 (dk dt_X12_lock 37 rfl) rfl (by omega) (fun c67 => ?_) (fun c67 => ?_)
        ·
          refine v_iload (pc := 114) h (dk dt_X12_lock 64 rfl) rfl ?_
          refine v_if_ne (pc := 116) h 125 (dk dt_X12_lock 65 rfl) rfl (by omega) (fun c116 => ?_) (fun c116 => ?_)
          ·
            exact absurd rfl c116
          ·
            refine v_aload_n (pc := 119) h (dk dt_X12_lock 66 rfl) rfl ?_
            refine v_iconst (pc := 120) h (dk dt_X12_lock 67 rfl) ?_
            refine v_cVi (pc := 121) h (c_X12_refuse h.quiet) kv_X12_refuse sh123 wM_X12_119 rfl rfl (Nat.le_of_ble_eq_true rfl) (RM.of rfl) rfl rfl (dk dt_X12_lock 68 rfl) ?_
            exact v_iret (pc := 124) h r (dk dt_X12_lock 69 rfl) (Nat.le_of_ble_eq_true rfl) (Nat.le_of_ble_eq_true rfl) (PM_n (by rw [hrc, if_pos (Or.inl h3)]) (by decide))
        ·
          exact absurd rfl c67
    refine v_iload_n (pc := 23) h (dk dt_X12_lock 13 rfl) rfl ?_
    refine v_if_lt (pc := 24) h 48 (dk dt_X12_lock 14 rfl) rfl (by omega) (fun c24 => ?_) (fun c24 => ?_)
    ·
      refine v_iconst (pc := 48) h (dk dt_X12_lock 26 rfl) ?_
      refine v_istore (lv' := [(5, _), (0, _), (1, _), (2, _), (3, _), (4, _)]) (pc := 49) h (dk dt_X12_lock 27 rfl) (Nat.le_of_ble_eq_true rfl) rfl ?_
      refine v_iconst (pc := 51) h (dk dt_X12_lock 28 rfl) ?_
      refine v_istore (lv' := [(6, _), (5, _), (0, _), (1, _), (2, _), (3, _), (4, _)]) (pc := 52) h (dk dt_X12_lock 29 rfl) (Nat.le_of_ble_eq_true rfl) rfl ?_
      first
        | exact VV.loc (loop ⟨by omega, by omega, by omega⟩ (μ 129 j').toNat 0 (by omega) (fun z hz => absurd hz (by omega))) ⟨rfl, rfl, rfl, rfl, rfl, rfl, rfl, trivial⟩
        | exact VV.loc (go54 (by omega)) ⟨rfl, rfl, rfl, rfl, rfl, rfl, rfl, trivial⟩
    ·
      refine v_iload (pc := 27) h (dk dt_X12_lock 15 rfl) rfl ?_
      refine v_iload_n (pc := 29) h (dk dt_X12_lock 16 rfl) rfl ?_
      refine v_icmp_le (pc := 30) h 48 (dk dt_X12_lock 17 rfl) rfl (by omega) (fun c30 => ?_) (fun c30 => ?_)
      ·
        refine v_iconst (pc := 48) h (dk dt_X12_lock 26 rfl) ?_
        refine v_istore (lv' := [(5, _), (0, _), (1, _), (2, _), (3, _), (4, _)]) (pc := 49) h (dk dt_X12_lock 27 rfl) (Nat.le_of_ble_eq_true rfl) rfl ?_
        refine v_iconst (pc := 51) h (dk dt_X12_lock 28 rfl) ?_
        refine v_istore (lv' := [(6, _), (5, _), (0, _), (1, _), (2, _), (3, _), (4, _)]) (pc := 52) h (dk dt_X12_lock 29 rfl) (Nat.le_of_ble_eq_true rfl) rfl ?_
        first
          | exact VV.loc (loop ⟨by omega, by omega, by omega⟩ (μ 129 j').toNat 0 (by omega) (fun z hz => absurd hz (by omega))) ⟨rfl, rfl, rfl, rfl, rfl, rfl, rfl, trivial⟩
          | exact VV.loc (go54 (by omega)) ⟨rfl, rfl, rfl, rfl, rfl, rfl, rfl, trivial⟩
      ·
        refine v_iload (pc := 33) h (dk dt_X12_lock 18 rfl) rfl ?_
        refine v_aload_n (pc := 35) h (dk dt_X12_lock 19 rfl) rfl ?_
        refine v_getr (pc := 36) h ci12 sh123 (Nat.le_of_ble_eq_true rfl) (j := 1) wF_X12_13 rfl (dk dt_X12_lock 20 rfl) ?_
        refine v_iload_n (pc := 39) h (dk dt_X12_lock 21 rfl) rfl ?_
        refine v_iald (pc := 40) h sh125 (Nat.le_of_ble_eq_true rfl) (by omega) (dk dt_X12_lock 22 rfl) ?_
        rw [Int.toNat_natCast]
        refine v_icmp_gt (pc := 41) h 48 (dk dt_X12_lock 23 rfl) rfl (by omega) (fun c41 => ?_) (fun c41 => ?_)
        ·
          refine v_iconst (pc := 48) h (dk dt_X12_lock 26 rfl) ?_
          refine v_istore (lv' := [(5, _), (0, _), (1, _), (2, _), (3, _), (4, _)]) (pc := 49) h (dk dt_X12_lock 27 rfl) (Nat.le_of_ble_eq_true rfl) rfl ?_
          refine v_iconst (pc := 51) h (dk dt_X12_lock 28 rfl) ?_
          refine v_istore (lv' := [(6, _), (5, _), (0, _), (1, _), (2, _), (3, _), (4, _)]) (pc := 52) h (dk dt_X12_lock 29 rfl) (Nat.le_of_ble_eq_true rfl) rfl ?_
          first
            | exact VV.loc (loop ⟨by omega, by omega, by omega⟩ (μ 129 j').toNat 0 (by omega) (fun z hz => absurd hz (by omega))) ⟨rfl, rfl, rfl, rfl, rfl, rfl, rfl, trivial⟩
            | exact VV.loc (go54 (by omega)) ⟨rfl, rfl, rfl, rfl, rfl, rfl, rfl, trivial⟩
        ·
          refine v_iconst (pc := 44) h (dk dt_X12_lock 24 rfl) ?_
          refine v_goto (pc := 45) h 49 (dk dt_X12_lock 25 rfl) rfl ?_
          refine v_istore (lv' := [(5, _), (0, _), (1, _), (2, _), (3, _), (4, _)]) (pc := 49) h (dk dt_X12_lock 27 rfl) (Nat.le_of_ble_eq_true rfl) rfl ?_
          refine v_iconst (pc := 51) h (dk dt_X12_lock 28 rfl) ?_
          refine v_istore (lv' := [(6, _), (5, _), (0, _), (1, _), (2, _), (3, _), (4, _)]) (pc := 52) h (dk dt_X12_lock 29 rfl) (Nat.le_of_ble_eq_true rfl) rfl ?_
          first
            | exact VV.loc (loop ⟨by omega, by omega, by omega⟩ (μ 129 j').toNat 0 (by omega) (fun z hz => absurd hz (by omega))) ⟨rfl, rfl, rfl, rfl, rfl, rfl, rfl, trivial⟩
            | exact VV.loc (go54 (by omega)) ⟨rfl, rfl, rfl, rfl, rfl, rfl, rfl, trivial⟩
  refine v_aload_n (pc := 0) h (dk dt_X12_lock 0 rfl) rfl ?_
  refine v_iload_n (pc := 1) h (dk dt_X12_lock 1 rfl) rfl ?_
  refine v_cVi (pc := 2) h (c_X12_isJob h.quiet (by omega) (by omega)) kv_X12_isJob sh123 wM_X12_125 rfl rfl (Nat.le_of_ble_eq_true rfl) (RM.of rfl) rfl rfl (dk dt_X12_lock 2 rfl) ?_
  refine v_if_eq (pc := 5) h 17 (dk dt_X12_lock 3 rfl) rfl (by split <;> omega) (fun c5 => ?_) (fun c5 => ?_)
  ·
    have d5 : ¬ (0 ≤ j ∧ j < μ 123 9) := fun q => by rw [if_pos q] at c5; omega
    refine v_aload_n (pc := 17) h (dk dt_X12_lock 9 rfl) rfl ?_
    refine v_iconst (pc := 18) h (dk dt_X12_lock 10 rfl) ?_
    refine v_cVi (pc := 19) h (c_X12_refuse h.quiet) kv_X12_refuse sh123 wM_X12_119 rfl rfl (Nat.le_of_ble_eq_true rfl) (RM.of rfl) rfl rfl (dk dt_X12_lock 11 rfl) ?_
    exact v_iret (pc := 22) h r (dk dt_X12_lock 12 rfl) (Nat.le_of_ble_eq_true rfl) (Nat.le_of_ble_eq_true rfl) (PM_n (by unfold rcLk; first | rw [if_pos (Or.inl d5)] | rw [if_pos (Or.inr d14)]) (by decide))
  ·
    have d5 : 0 ≤ j ∧ j < μ 123 9 := by by_cases q : 0 ≤ j ∧ j < μ 123 9; exact q; rw [if_neg q] at c5; omega
    refine v_iload_n (pc := 8) h (dk dt_X12_lock 4 rfl) rfl ?_
    refine v_iconst (pc := 9) h (dk dt_X12_lock 5 rfl) ?_
    refine v_iconst (pc := 10) h (dk dt_X12_lock 6 rfl) ?_
    refine v_cSi (pc := 11) h (c_X12_in h.quiet (by omega) (by omega)) kv_X12_in wM_X12_111 rfl rfl (Nat.le_of_ble_eq_true rfl) (RM.of rfl) rfl rfl (dk dt_X12_lock 7 rfl) ?_
    refine v_if_ne (pc := 14) h 23 (dk dt_X12_lock 8 rfl) rfl (by split <;> omega) (fun c14 => ?_) (fun c14 => ?_)
    ·
      have d14 : 0 ≤ y ∧ y ≤ 2 := by by_cases q : 0 ≤ y ∧ y ≤ 2; exact q; rw [if_neg q] at c14; omega
      exact VV.loc (go23 d5 d14) ⟨rfl, rfl, rfl, rfl, rfl, trivial⟩
    ·
      have d14 : ¬ (0 ≤ y ∧ y ≤ 2) := fun q => by rw [if_pos q] at c14; omega
      refine v_aload_n (pc := 17) h (dk dt_X12_lock 9 rfl) rfl ?_
      refine v_iconst (pc := 18) h (dk dt_X12_lock 10 rfl) ?_
      refine v_cVi (pc := 19) h (c_X12_refuse h.quiet) kv_X12_refuse sh123 wM_X12_119 rfl rfl (Nat.le_of_ble_eq_true rfl) (RM.of rfl) rfl rfl (dk dt_X12_lock 11 rfl) ?_
      exact v_iret (pc := 22) h r (dk dt_X12_lock 12 rfl) (Nat.le_of_ble_eq_true rfl) (Nat.le_of_ble_eq_true rfl) (PM_n (by unfold rcLk; first | rw [if_pos (Or.inl d5)] | rw [if_pos (Or.inr d14)]) (by decide))
theorem c_X12_turns (hst : l.stackTraces = false) {s c ri sd le : Int} (hs : InR s ∧ InR c) (hri : InR ri) (hle : le = 0 ∨ le = 1) :
    Ct l B D E yX12_turns (.code yX12_turns cX12_turns 7 (some .int)) rm_X12_turns [.ref (pl B 123), iI s, iI c, iI ri, iI sd, iI le] μ (PM (rcTn s c ri) (some (iI (μ 123 10))) μ (Mtn μ s c ri sd le)) NX := by
  refine ct_of (own := RX12) (lv := [(0, _), (1, _), (2, _), (3, _), (4, _), (5, _)]) hst (by decide) rfl rfl (Nat.le_of_ble_eq_true rfl) fun a h r t => ?_
  refine v_iload_n (pc := 0) h (dk dt_X12_turns 0 rfl) rfl ?_
  refine v_iconst (pc := 1) h (dk dt_X12_turns 1 rfl) ?_
  refine v_bipush (pc := 2) h (dk dt_X12_turns 2 rfl) rfl ?_
  refine v_cSi (pc := 4) h (c_X12_in h.quiet (by omega) (by omega)) kv_X12_in wM_X12_111 rfl rfl (Nat.le_of_ble_eq_true rfl) (RM.of rfl) rfl rfl (dk dt_X12_turns 3 rfl) ?_
  refine v_if_eq (pc := 7) h 29 (dk dt_X12_turns 4 rfl) rfl (by split <;> omega) (fun c7 => ?_) (fun c7 => ?_)
  ·
    have d7 : ¬ (1 ≤ s ∧ s ≤ 20) := fun q => by rw [if_pos (by omega)] at c7; omega
    refine v_aload_n (pc := 29) h (dk dt_X12_turns 15 rfl) rfl ?_
    refine v_iconst (pc := 30) h (dk dt_X12_turns 16 rfl) ?_
    refine v_cVi (pc := 31) h (c_X12_refuse h.quiet) kv_X12_refuse sh123 wM_X12_119 rfl rfl (Nat.le_of_ble_eq_true rfl) (RM.of rfl) rfl rfl (dk dt_X12_turns 17 rfl) ?_
    exact v_iret (pc := 34) h r (dk dt_X12_turns 18 rfl) (Nat.le_of_ble_eq_true rfl) (Nat.le_of_ble_eq_true rfl) (PM_n (by unfold rcTn; rw [if_pos (by omega)]) (by decide))
  ·
    have d7 : 1 ≤ s ∧ s ≤ 20 := by by_cases q : 1 ≤ s ∧ s ≤ 20; exact q; rw [if_neg q] at c7; omega
    refine v_iload_n (pc := 10) h (dk dt_X12_turns 5 rfl) rfl ?_
    refine v_iconst (pc := 11) h (dk dt_X12_turns 6 rfl) ?_
    refine v_iconst (pc := 12) h (dk dt_X12_turns 7 rfl) ?_
    refine v_cSi (pc := 13) h (c_X12_in h.quiet (by omega) (by omega)) kv_X12_in wM_X12_111 rfl rfl (Nat.le_of_ble_eq_true rfl) (RM.of rfl) rfl rfl (dk dt_X12_turns 8 rfl) ?_
    refine v_if_eq (pc := 16) h 29 (dk dt_X12_turns 9 rfl) rfl (by split <;> omega) (fun c16 => ?_) (fun c16 => ?_)
    ·
      have d16 : ¬ (0 ≤ c ∧ c ≤ 5) := fun q => by rw [if_pos (by omega)] at c16; omega
      refine v_aload_n (pc := 29) h (dk dt_X12_turns 15 rfl) rfl ?_
      refine v_iconst (pc := 30) h (dk dt_X12_turns 16 rfl) ?_
      refine v_cVi (pc := 31) h (c_X12_refuse h.quiet) kv_X12_refuse sh123 wM_X12_119 rfl rfl (Nat.le_of_ble_eq_true rfl) (RM.of rfl) rfl rfl (dk dt_X12_turns 17 rfl) ?_
      exact v_iret (pc := 34) h r (dk dt_X12_turns 18 rfl) (Nat.le_of_ble_eq_true rfl) (Nat.le_of_ble_eq_true rfl) (PM_n (by unfold rcTn; rw [if_pos (by omega)]) (by decide))
    ·
      have d16 : 0 ≤ c ∧ c ≤ 5 := by by_cases q : 0 ≤ c ∧ c ≤ 5; exact q; rw [if_neg q] at c16; omega
      refine v_iload_n (pc := 19) h (dk dt_X12_turns 10 rfl) rfl ?_
      refine v_iconst (pc := 20) h (dk dt_X12_turns 11 rfl) ?_
      refine v_bipush (pc := 21) h (dk dt_X12_turns 12 rfl) rfl ?_
      refine v_cSi (pc := 23) h (c_X12_in h.quiet (by omega) (by omega)) kv_X12_in wM_X12_111 rfl rfl (Nat.le_of_ble_eq_true rfl) (RM.of rfl) rfl rfl (dk dt_X12_turns 13 rfl) ?_
      refine v_if_ne (pc := 26) h 35 (dk dt_X12_turns 14 rfl) rfl (by split <;> omega) (fun c26 => ?_) (fun c26 => ?_)
      ·
        have d26 : 0 ≤ ri ∧ ri ≤ 99 := by by_cases q : 0 ≤ ri ∧ ri ≤ 99; exact q; rw [if_neg q] at c26; omega
        refine v_aload_n (pc := 35) h (dk dt_X12_turns 19 rfl) rfl ?_
        refine v_geti (pc := 36) h ci12 sh123 (Nat.le_of_ble_eq_true rfl) (j := 10) wF_X12_37 rfl (dk dt_X12_turns 20 rfl) ?_
        refine v_istore (lv' := [(6, _), (0, _), (1, _), (2, _), (3, _), (4, _), (5, _)]) (pc := 39) h (dk dt_X12_turns 21 rfl) (Nat.le_of_ble_eq_true rfl) rfl ?_
        refine v_aload_n (pc := 41) h (dk dt_X12_turns 22 rfl) rfl ?_
        refine v_iload_n (pc := 42) h (dk dt_X12_turns 23 rfl) rfl ?_
        refine v_put (pc := 43) h ci12 sh123 (Nat.le_of_ble_eq_true rfl) (j := 10) wF_X12_37 rfl rfl rfl rfl (dk dt_X12_turns 24 rfl) ?_
        refine v_aload_n (pc := 46) h (dk dt_X12_turns 25 rfl) rfl ?_
        refine v_iload_n (pc := 47) h (dk dt_X12_turns 26 rfl) rfl ?_
        refine v_put (pc := 48) h ci12 sh123 (Nat.le_of_ble_eq_true rfl) (j := 11) wF_X12_132 rfl rfl rfl rfl (dk dt_X12_turns 27 rfl) ?_
        refine v_aload_n (pc := 51) h (dk dt_X12_turns 28 rfl) rfl ?_
        refine v_iload_n (pc := 52) h (dk dt_X12_turns 29 rfl) rfl ?_
        refine v_put (pc := 53) h ci12 sh123 (Nat.le_of_ble_eq_true rfl) (j := 12) wF_X12_41 rfl rfl rfl rfl (dk dt_X12_turns 30 rfl) ?_
        refine v_aload_n (pc := 56) h (dk dt_X12_turns 31 rfl) rfl ?_
        refine v_iload (pc := 57) h (dk dt_X12_turns 32 rfl) rfl ?_
        refine v_put (pc := 59) h ci12 sh123 (Nat.le_of_ble_eq_true rfl) (j := 13) wF_X12_44 rfl rfl rfl rfl (dk dt_X12_turns 33 rfl) ?_
        refine v_aload_n (pc := 62) h (dk dt_X12_turns 34 rfl) rfl ?_
        refine v_iload (pc := 63) h (dk dt_X12_turns 35 rfl) rfl ?_
        refine v_put (pc := 65) h ci12 sh123 (Nat.le_of_ble_eq_true rfl) (j := 15) wF_X12_135 rfl rfl (narZ hle) (fitZ hle) (dk dt_X12_turns 36 rfl) ?_
        refine v_aload_n (pc := 68) h (dk dt_X12_turns 37 rfl) rfl ?_
        refine v_iload (pc := 69) h (dk dt_X12_turns 38 rfl) rfl ?_
        refine v_cVi (pc := 71) h (c_X12_changed h.quiet) kv_X12_changed sh123 wM_X12_122 rfl rfl (Nat.le_of_ble_eq_true rfl) (RM.of rfl) rfl rfl (dk dt_X12_turns 39 rfl) ?_
        exact v_iret (pc := 74) h r (dk dt_X12_turns 40 rfl) (Nat.le_of_ble_eq_true rfl) (Nat.le_of_ble_eq_true rfl) (PM_0 (by unfold rcTn; rw [if_neg (by omega)]))
      ·
        have d26 : ¬ (0 ≤ ri ∧ ri ≤ 99) := fun q => by rw [if_pos (by omega)] at c26; omega
        refine v_aload_n (pc := 29) h (dk dt_X12_turns 15 rfl) rfl ?_
        refine v_iconst (pc := 30) h (dk dt_X12_turns 16 rfl) ?_
        refine v_cVi (pc := 31) h (c_X12_refuse h.quiet) kv_X12_refuse sh123 wM_X12_119 rfl rfl (Nat.le_of_ble_eq_true rfl) (RM.of rfl) rfl rfl (dk dt_X12_turns 17 rfl) ?_
        exact v_iret (pc := 34) h r (dk dt_X12_turns 18 rfl) (Nat.le_of_ble_eq_true rfl) (Nat.le_of_ble_eq_true rfl) (PM_n (by unfold rcTn; rw [if_pos (by omega)]) (by decide))
theorem c_X12_clear (hst : l.stackTraces = false) :
    Ct l B D E yX12_clear (.code yX12_clear cX12_clear 2 (some .int)) rm_X12_clear [.ref (pl B 123)] μ (ri (μ 123 9) (mchg (mup μ 123 9 0))) NX := by
  refine ct_of (own := RX12) (lv := [(0, _)]) hst (by decide) rfl rfl (Nat.le_of_ble_eq_true rfl) fun a h r t => ?_
  refine v_aload_n (pc := 0) h (dk dt_X12_clear 0 rfl) rfl ?_
  refine v_geti (pc := 1) h ci12 sh123 (Nat.le_of_ble_eq_true rfl) (j := 9) wF_X12_108 rfl (dk dt_X12_clear 1 rfl) ?_
  refine v_istore_n (lv' := [(1, _), (0, _)]) (pc := 4) h (dk dt_X12_clear 2 rfl) (Nat.le_of_ble_eq_true rfl) rfl ?_
  refine v_aload_n (pc := 5) h (dk dt_X12_clear 3 rfl) rfl ?_
  refine v_iconst (pc := 6) h (dk dt_X12_clear 4 rfl) ?_
  refine v_put (pc := 7) h ci12 sh123 (Nat.le_of_ble_eq_true rfl) (j := 9) wF_X12_108 rfl rfl rfl rfl (dk dt_X12_clear 5 rfl) ?_
  refine v_aload_n (pc := 10) h (dk dt_X12_clear 6 rfl) rfl ?_
  refine v_iload_n (pc := 11) h (dk dt_X12_clear 7 rfl) rfl ?_
  refine v_cVi (pc := 12) h (c_X12_changed h.quiet) kv_X12_changed sh123 wM_X12_122 rfl rfl (Nat.le_of_ble_eq_true rfl) (RM.of rfl) rfl rfl (dk dt_X12_clear 8 rfl) ?_
  exact v_iret (pc := 15) h r (dk dt_X12_clear 9 rfl) (Nat.le_of_ble_eq_true rfl) (Nat.le_of_ble_eq_true rfl) ⟨rfl, rfl⟩
theorem c_X12_task (hst : l.stackTraces = false) (hn : 0 ≤ μ 123 19 ∧ μ 123 19 ≤ 5) {p le d : Int} (hp : InR p ∧ InR le) (hd : InR d) :
    Ct l B D E yX12_task (.code yX12_task cX12_task 4 (some .int)) rm_X12_task [.ref (pl B 123), iI p, iI le, iI d] μ (PM (rcTk (μ 123 19) p le d) (some (iI (μ 123 19))) μ (Mtk μ p le d)) NX := by
  refine ct_of (own := RX12) (lv := [(0, _), (1, _), (2, _), (3, _)]) hst (by decide) rfl rfl (Nat.le_of_ble_eq_true rfl) fun a h r t => ?_
  have go54 : (1 ≤ p ∧ p ≤ 60) ∧ (1 ≤ le ∧ le ≤ 30) ∧ le ≤ p ∧ (le ≤ d ∧ d ≤ p) → μ 123 19 < 5 → VV a B (SP B D E μ) 0 0 54 [(0, .ref (pl B 123)), (1, iI p), (2, iI le), (3, iI d)] [] := by
    intro h1 h2
    obtain ⟨k, hk⟩ : ∃ k : Nat, μ 123 19 = (k : Int) := ⟨(μ 123 19).toNat, by omega⟩
    have hM : Mtk μ p le d = mup (mup (mup (mup (mup μ 133 k p) 134 k le) 135 k d) 123 19 ((k : Int) + 1)) 123 14 0 := by unfold Mtk; rw [hk, Int.toNat_natCast]
    rw [hk] at r
    refine v_aload_n (pc := 54) h (dk dt_X12_task 30 rfl) rfl ?_
    refine v_getr (pc := 55) h ci12 sh123 (Nat.le_of_ble_eq_true rfl) (j := 16) wF_X12_47 rfl (dk dt_X12_task 31 rfl) ?_
    refine v_aload_n (pc := 58) h (dk dt_X12_task 32 rfl) rfl ?_
    refine v_geti (pc := 59) h ci12 sh123 (Nat.le_of_ble_eq_true rfl) (j := 19) wF_X12_269 rfl (dk dt_X12_task 33 rfl) ?_
    rw [hk]
    refine v_iload_n (pc := 62) h (dk dt_X12_task 34 rfl) rfl ?_
    refine v_iast (pc := 63) h sh133 (Nat.le_of_ble_eq_true rfl) (by omega) (dk dt_X12_task 35 rfl) ?_
    rw [Int.toNat_natCast]
    refine v_aload_n (pc := 64) h (dk dt_X12_task 36 rfl) rfl ?_
    refine v_getr (pc := 65) h ci12 sh123 (Nat.le_of_ble_eq_true rfl) (j := 17) wF_X12_50 rfl (dk dt_X12_task 37 rfl) ?_
    refine v_aload_n (pc := 68) h (dk dt_X12_task 38 rfl) rfl ?_
    refine v_geti (pc := 69) h ci12 sh123 (Nat.le_of_ble_eq_true rfl) (j := 19) wF_X12_269 rfl (dk dt_X12_task 39 rfl) ?_
    rw [mup_nk (show (123 : Nat) ≠ 133 by decide), hk]
    refine v_iload_n (pc := 72) h (dk dt_X12_task 40 rfl) rfl ?_
    refine v_iast (pc := 73) h sh134 (Nat.le_of_ble_eq_true rfl) (by omega) (dk dt_X12_task 41 rfl) ?_
    rw [Int.toNat_natCast]
    refine v_aload_n (pc := 74) h (dk dt_X12_task 42 rfl) rfl ?_
    refine v_getr (pc := 75) h ci12 sh123 (Nat.le_of_ble_eq_true rfl) (j := 18) wF_X12_53 rfl (dk dt_X12_task 43 rfl) ?_
    refine v_aload_n (pc := 78) h (dk dt_X12_task 44 rfl) rfl ?_
    refine v_geti (pc := 79) h ci12 sh123 (Nat.le_of_ble_eq_true rfl) (j := 19) wF_X12_269 rfl (dk dt_X12_task 45 rfl) ?_
    rw [mup_nk (show (123 : Nat) ≠ 134 by decide), mup_nk (show (123 : Nat) ≠ 133 by decide), hk]
    refine v_iload_n (pc := 82) h (dk dt_X12_task 46 rfl) rfl ?_
    refine v_iast (pc := 83) h sh135 (Nat.le_of_ble_eq_true rfl) (by omega) (dk dt_X12_task 47 rfl) ?_
    rw [Int.toNat_natCast]
    refine v_aload_n (pc := 84) h (dk dt_X12_task 48 rfl) rfl ?_
    refine v_dup (pc := 85) h (dk dt_X12_task 49 rfl) rfl ?_
    refine v_geti (pc := 86) h ci12 sh123 (Nat.le_of_ble_eq_true rfl) (j := 19) wF_X12_269 rfl (dk dt_X12_task 50 rfl) ?_
    rw [mup_nk (show (123 : Nat) ≠ 135 by decide), mup_nk (show (123 : Nat) ≠ 134 by decide), mup_nk (show (123 : Nat) ≠ 133 by decide), hk]
    refine v_iconst (pc := 89) h (dk dt_X12_task 51 rfl) ?_
    refine v_iadd (pc := 90) h (dk dt_X12_task 52 rfl) ?_
    refine v_put (pc := 91) h ci12 sh123 (Nat.le_of_ble_eq_true rfl) (j := 19) wF_X12_269 rfl rfl rfl rfl (dk dt_X12_task 53 rfl) ?_
    refine v_aload_n (pc := 94) h (dk dt_X12_task 54 rfl) rfl ?_
    refine v_aload_n (pc := 95) h (dk dt_X12_task 55 rfl) rfl ?_
    refine v_geti (pc := 96) h ci12 sh123 (Nat.le_of_ble_eq_true rfl) (j := 19) wF_X12_269 rfl (dk dt_X12_task 56 rfl) ?_
    rw [mup_eq]
    refine v_iconst (pc := 99) h (dk dt_X12_task 57 rfl) ?_
    refine v_isub (pc := 100) h (dk dt_X12_task 58 rfl) ?_
    rw [show (k : Int) + 1 - 1 = (k : Int) by omega]
    refine v_cVi (pc := 101) h (c_X12_told h.quiet) kv_X12_told sh123 wM_X12_115 rfl rfl (Nat.le_of_ble_eq_true rfl) (RM.of rfl) rfl rfl (dk dt_X12_task 59 rfl) ?_
    exact v_iret (pc := 104) h r (dk dt_X12_task 60 rfl) (Nat.le_of_ble_eq_true rfl) (Nat.le_of_ble_eq_true rfl) (by rw [← hM]; exact PM_0 (by unfold rcTk; rw [if_neg (by omega), if_neg (by omega)]))
  refine v_iload_n (pc := 0) h (dk dt_X12_task 0 rfl) rfl ?_
  refine v_iconst (pc := 1) h (dk dt_X12_task 1 rfl) ?_
  refine v_bipush (pc := 2) h (dk dt_X12_task 2 rfl) rfl ?_
  refine v_cSi (pc := 4) h (c_X12_in h.quiet (by omega) (by omega)) kv_X12_in wM_X12_111 rfl rfl (Nat.le_of_ble_eq_true rfl) (RM.of rfl) rfl rfl (dk dt_X12_task 3 rfl) ?_
  refine v_if_eq (pc := 7) h 34 (dk dt_X12_task 4 rfl) rfl (by split <;> omega) (fun c7 => ?_) (fun c7 => ?_)
  ·
    have d7 : ¬ (1 ≤ p ∧ p ≤ 60) := fun q => by rw [if_pos (by omega)] at c7; omega
    refine v_aload_n (pc := 34) h (dk dt_X12_task 18 rfl) rfl ?_
    refine v_iconst (pc := 35) h (dk dt_X12_task 19 rfl) ?_
    refine v_cVi (pc := 36) h (c_X12_refuse h.quiet) kv_X12_refuse sh123 wM_X12_119 rfl rfl (Nat.le_of_ble_eq_true rfl) (RM.of rfl) rfl rfl (dk dt_X12_task 20 rfl) ?_
    exact v_iret (pc := 39) h r (dk dt_X12_task 21 rfl) (Nat.le_of_ble_eq_true rfl) (Nat.le_of_ble_eq_true rfl) (PM_n (by unfold rcTk; rw [if_pos (by omega)]) (by decide))
  ·
    have d7 : 1 ≤ p ∧ p ≤ 60 := by by_cases q : 1 ≤ p ∧ p ≤ 60; exact q; rw [if_neg q] at c7; omega
    refine v_iload_n (pc := 10) h (dk dt_X12_task 5 rfl) rfl ?_
    refine v_iconst (pc := 11) h (dk dt_X12_task 6 rfl) ?_
    refine v_bipush (pc := 12) h (dk dt_X12_task 7 rfl) rfl ?_
    refine v_cSi (pc := 14) h (c_X12_in h.quiet (by omega) (by omega)) kv_X12_in wM_X12_111 rfl rfl (Nat.le_of_ble_eq_true rfl) (RM.of rfl) rfl rfl (dk dt_X12_task 8 rfl) ?_
    refine v_if_eq (pc := 17) h 34 (dk dt_X12_task 9 rfl) rfl (by split <;> omega) (fun c17 => ?_) (fun c17 => ?_)
    ·
      have d17 : ¬ (1 ≤ le ∧ le ≤ 30) := fun q => by rw [if_pos (by omega)] at c17; omega
      refine v_aload_n (pc := 34) h (dk dt_X12_task 18 rfl) rfl ?_
      refine v_iconst (pc := 35) h (dk dt_X12_task 19 rfl) ?_
      refine v_cVi (pc := 36) h (c_X12_refuse h.quiet) kv_X12_refuse sh123 wM_X12_119 rfl rfl (Nat.le_of_ble_eq_true rfl) (RM.of rfl) rfl rfl (dk dt_X12_task 20 rfl) ?_
      exact v_iret (pc := 39) h r (dk dt_X12_task 21 rfl) (Nat.le_of_ble_eq_true rfl) (Nat.le_of_ble_eq_true rfl) (PM_n (by unfold rcTk; rw [if_pos (by omega)]) (by decide))
    ·
      have d17 : 1 ≤ le ∧ le ≤ 30 := by by_cases q : 1 ≤ le ∧ le ≤ 30; exact q; rw [if_neg q] at c17; omega
      refine v_iload_n (pc := 20) h (dk dt_X12_task 10 rfl) rfl ?_
      refine v_iload_n (pc := 21) h (dk dt_X12_task 11 rfl) rfl ?_
      refine v_icmp_gt (pc := 22) h 34 (dk dt_X12_task 12 rfl) rfl (by omega) (fun c22 => ?_) (fun c22 => ?_)
      ·
        refine v_aload_n (pc := 34) h (dk dt_X12_task 18 rfl) rfl ?_
        refine v_iconst (pc := 35) h (dk dt_X12_task 19 rfl) ?_
        refine v_cVi (pc := 36) h (c_X12_refuse h.quiet) kv_X12_refuse sh123 wM_X12_119 rfl rfl (Nat.le_of_ble_eq_true rfl) (RM.of rfl) rfl rfl (dk dt_X12_task 20 rfl) ?_
        exact v_iret (pc := 39) h r (dk dt_X12_task 21 rfl) (Nat.le_of_ble_eq_true rfl) (Nat.le_of_ble_eq_true rfl) (PM_n (by unfold rcTk; rw [if_pos (by omega)]) (by decide))
      ·
        refine v_iload_n (pc := 25) h (dk dt_X12_task 13 rfl) rfl ?_
        refine v_iload_n (pc := 26) h (dk dt_X12_task 14 rfl) rfl ?_
        refine v_iload_n (pc := 27) h (dk dt_X12_task 15 rfl) rfl ?_
        refine v_cSi (pc := 28) h (c_X12_in h.quiet (by omega) (by omega)) kv_X12_in wM_X12_111 rfl rfl (Nat.le_of_ble_eq_true rfl) (RM.of rfl) rfl rfl (dk dt_X12_task 16 rfl) ?_
        refine v_if_ne (pc := 31) h 40 (dk dt_X12_task 17 rfl) rfl (by split <;> omega) (fun c31 => ?_) (fun c31 => ?_)
        ·
          have d31 : le ≤ d ∧ d ≤ p := by by_cases q : le ≤ d ∧ d ≤ p; exact q; rw [if_neg q] at c31; omega
          refine v_aload_n (pc := 40) h (dk dt_X12_task 22 rfl) rfl ?_
          refine v_geti (pc := 41) h ci12 sh123 (Nat.le_of_ble_eq_true rfl) (j := 19) wF_X12_269 rfl (dk dt_X12_task 23 rfl) ?_
          refine v_iconst (pc := 44) h (dk dt_X12_task 24 rfl) ?_
          refine v_icmp_ne (pc := 45) h 54 (dk dt_X12_task 25 rfl) rfl (by omega) (fun c45 => ?_) (fun c45 => ?_)
          ·
            exact VV.loc (go54 ⟨by omega, by omega, by omega, by omega⟩ (by omega)) ⟨rfl, rfl, rfl, rfl, trivial⟩
          ·
            refine v_aload_n (pc := 48) h (dk dt_X12_task 26 rfl) rfl ?_
            refine v_iconst (pc := 49) h (dk dt_X12_task 27 rfl) ?_
            refine v_cVi (pc := 50) h (c_X12_refuse h.quiet) kv_X12_refuse sh123 wM_X12_119 rfl rfl (Nat.le_of_ble_eq_true rfl) (RM.of rfl) rfl rfl (dk dt_X12_task 28 rfl) ?_
            exact v_iret (pc := 53) h r (dk dt_X12_task 29 rfl) (Nat.le_of_ble_eq_true rfl) (Nat.le_of_ble_eq_true rfl) (PM_n (by unfold rcTk; rw [if_neg (by omega), if_pos (by omega)]) (by decide))
        ·
          have d31 : ¬ (le ≤ d ∧ d ≤ p) := fun q => by rw [if_pos (by omega)] at c31; omega
          refine v_aload_n (pc := 34) h (dk dt_X12_task 18 rfl) rfl ?_
          refine v_iconst (pc := 35) h (dk dt_X12_task 19 rfl) ?_
          refine v_cVi (pc := 36) h (c_X12_refuse h.quiet) kv_X12_refuse sh123 wM_X12_119 rfl rfl (Nat.le_of_ble_eq_true rfl) (RM.of rfl) rfl rfl (dk dt_X12_task 20 rfl) ?_
          exact v_iret (pc := 39) h r (dk dt_X12_task 21 rfl) (Nat.le_of_ble_eq_true rfl) (Nat.le_of_ble_eq_true rfl) (PM_n (by unfold rcTk; rw [if_pos (by omega)]) (by decide))
end
