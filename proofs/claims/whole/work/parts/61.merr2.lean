/-! ===== errors on the model ===== -/
section
variable {l : Launch} {B : Nat} {D : va_G} {E : Nat → ClassId} {μ m σ : Mm} {w n : Nat} {K K0 : Nat → Int} {s : St} {J : Mm}
theorem c_X12_lentErrors (hst : l.stackTraces = false) (hE : eqJ μ) (hW : eqW μ) (hO : hOK μ) (hn : μ 1 9 = (n : Int)) :
    Ct l B D E yX12_lentErrors (.code yX12_lentErrors cX12_lentErrors 6 (some .int)) rm_X12_lentErrors [.ref (pl B 123)] μ (fun v m => v = some (iI 0) ∧ frR μ m) NX := by
  have hOW := hO.W
  have hD := okJD hO.J hn
  have hn12 := hD.1
  have hok := okK_kof (r := 8) (s := μ 27 0) (c := 0) (le := 1) (ri := μ 27 2) (by omega) hOW.1 (by omega) (by omega) hOW.2.2.1
  have hw9 : ∀ j : Nat, j < n → 1 ≤ μ 9 j ∧ μ 9 j ≤ 9 := fun j hj => okD_w (J := jm μ) hD hj
  have hk : ∀ x : Nat, x < n → 0 ≤ μ 13 x ∧ μ 13 x ≤ 3 := fun x hx => okD_k (J := jm μ) hD hx
  have hs : ∀ x b : Nat, x < n → (b : Int) < μ 13 x → (0 ≤ μ 15 (3 * x + b) ∧ μ 15 (3 * x + b) ≤ 2) ∧ μ 19 (3 * x + b) - μ 17 (3 * x + b) ≤ 30 := fun x b hx hb => by
    have q1 := okD_s (J := jm μ) hD hx (i := b) (by have := hk x hx; show b < (μ 13 x).toNat; omega)
    have q2 := okD_l (J := jm μ) hD hx
    have q1 : (0 ≤ μ 15 (3 * x + b) ∧ μ 15 (3 * x + b) ≤ 2) ∧ 0 ≤ μ 17 (3 * x + b) ∧ μ 17 (3 * x + b) < μ 19 (3 * x + b) ∧ μ 19 (3 * x + b) ≤ jm μ 1 x := q1
    omega
  have hmb := fun j : Nat => lMM_b (k := μ 13) (lo := μ 15) (lf := μ 17) (lt := μ 19) (n := n) (fun x b hx hb hk => (hs x b hx hk).2) (j := j)
  have hlb := fun j : Nat => fun y : Int => lRM_b (k := μ 13) (lo := μ 15) (lf := μ 17) (lt := μ 19) (n := n) (fun x b hx hb hk => (hs x b hx hk).2) (j := j) (y := y) (3 * n) (Nat.le_refl _)
  have htop : ∀ j : Nat, j < n → (∀ i : Nat, i < n → i ≠ j → μ 9 i < μ 9 j) → (fnF (jm μ) n (kof 8 (μ 27 0) 0 1 (μ 27 2)) (μ 27 3)).1 4 j ≤ lMM (μ 13) (μ 15) (μ 17) (μ 19) n j (μ 13 j).toNat := fun j hj q => by
    have h1 := fn_top (K := kof 8 (μ 27 0) 0 1 (μ 27 2)) (z := μ 27 3) hD hok rfl (show (1 : Int) ≠ 0 by decide) rfl hj q
    have h2 := lMM_ge (k := μ 13) (lo := μ 15) (lf := μ 17) (lt := μ 19) (n := n) (j := j) (μ 13 j).toNat
    have h1 : (fnF (jm μ) n (kof 8 (μ 27 0) 0 1 (μ 27 2)) (μ 27 3)).1 4 j ≤ lMost (μ 13) (μ 15) (μ 17) (μ 19) n j (μ 13 j).toNat := h1
    omega
  have hfn := (fn_is (K := kof 8 (μ 27 0) 0 1 (μ 27 2)) hD hok (z := μ 27 3)).1
  have htt := t_le hD hfn
  have hkb := fun c hc => (hfn.1.2 c hc).2.2.2.2.2.2.2
  generalize hF : fnF (jm μ) n (kof 8 (μ 27 0) 0 1 (μ 27 2)) (μ 27 3) = F at *
  refine ct_of (own := RX12) (lv := [(0, _)]) hst (by decide) rfl rfl (Nat.le_of_ble_eq_true rfl) fun a h r t => ?_
  have go14 : ∀ M, frR μ M → (∀ j, j < n → M 144 j = F.1 4 j) → VV a B (SP B D E M) 0 0 14 [(1, iI 0), (0, .ref (pl B 123))] [] := by
    intro M fM hB
    have hEM := frR_E fM hE
    have hOM := frR_O fM hO
    have hnM : M 1 9 = (n : Int) := by rw [fM.1 1 (by omega) (by omega)]; exact hn
    have e9 := eqJ_n hEM hnM
    have e13 : M 13 = μ 13 := fM.1 13 (by omega) (by omega)
    have e15 : M 15 = μ 15 := fM.1 15 (by omega) (by omega)
    have e17 : M 17 = μ 17 := fM.1 17 (by omega) (by omega)
    have e19 : M 19 = μ 19 := fM.1 19 (by omega) (by omega)
    have e127 : ∀ x, M 127 x = μ 9 x := fun x => by rw [hEM.1.2.2.2.1, fM.1 9 (by omega) (by omega)]
    have e129 : ∀ x, M 129 x = μ 13 x := fun x => by rw [hEM.1.2.2.2.2.2.1, e13]
    have e130 : ∀ x, M 130 x = μ 15 x := fun x => by rw [hEM.1.2.2.2.2.2.2.1, e15]
    have loop : ∀ (d i : Nat), i + d = n → VV a B (SP B D E M) 0 0 16 [(2, iI (i : Int)), (1, iI 0), (0, .ref (pl B 123))] [] := by
      intro d
      induction d with
      | zero =>
        intro i hi
        refine v_iload_n (pc := 16) h (dk dt_X12_lentErrors 11 rfl) rfl ?_
        refine v_aload_n (pc := 17) h (dk dt_X12_lentErrors 12 rfl) rfl ?_
        refine v_geti (pc := 18) h ci12 sh123 (Nat.le_of_ble_eq_true rfl) (j := 9) wF_X12_108 rfl (dk dt_X12_lentErrors 13 rfl) ?_
        refine v_icmp_ge (pc := 21) h 151 (dk dt_X12_lentErrors 14 rfl) rfl (by omega) (fun c21 => ?_) (fun c21 => ?_)
        ·
          refine v_iload_n (pc := 151) h (dk dt_X12_lentErrors 87 rfl) rfl ?_
          exact v_iret (pc := 152) h r (dk dt_X12_lentErrors 88 rfl) (Nat.le_of_ble_eq_true rfl) (Nat.le_of_ble_eq_true rfl) ⟨rfl, fM⟩
        ·
          exact absurd c21 (by omega)
      | succ d ih =>
        intro i hi
        have hki := hk i (by omega)
        have hkt := hkb i (by omega)
        have hti := htop i (by omega)
        have hwi := hw9 i (by omega)
        have hBi := hB i (by omega)
        have inner2 : ∀ (b : Int), (b = 0 ∨ b = 1) → (b = 1 → ∀ x : Nat, x < n → x ≠ i → μ 9 x < μ 9 i) → ∀ (d c : Nat), (c : Int) + d = μ 13 i → VV a B (SP B D E M) 0 0 84 [(5, iI ((3 * i + c : Nat) : Int)), (4, iI (lMM (μ 13) (μ 15) (μ 17) (μ 19) n i c)), (3, iI b), (2, iI (i : Int)), (1, iI 0), (0, .ref (pl B 123))] [] := by
          intro b hb01 hb d
          induction d with
          | zero =>
            intro c hc
            have ec : (μ 13 i).toNat = c := by omega
            have hmc := hmb i c
            rw [ec] at hti
            refine v_iload (pc := 84) h (dk dt_X12_lentErrors 49 rfl) rfl ?_
            refine v_iconst (pc := 86) h (dk dt_X12_lentErrors 50 rfl) ?_
            refine v_iload_n (pc := 87) h (dk dt_X12_lentErrors 51 rfl) rfl ?_
            refine v_imul (pc := 88) h (dk dt_X12_lentErrors 52 rfl) ?_
            refine v_aload_n (pc := 89) h (dk dt_X12_lentErrors 53 rfl) rfl ?_
            refine v_getr (pc := 90) h ci12 sh123 (Nat.le_of_ble_eq_true rfl) (j := 5) wF_X12_25 rfl (dk dt_X12_lentErrors 54 rfl) ?_
            refine v_iload_n (pc := 93) h (dk dt_X12_lentErrors 55 rfl) rfl ?_
            refine v_iald (pc := 94) h sh129 (Nat.le_of_ble_eq_true rfl) (by omega) (dk dt_X12_lentErrors 56 rfl) ?_
            rw [Int.toNat_natCast, e129]
            refine v_iadd (pc := 95) h (dk dt_X12_lentErrors 57 rfl) ?_
            refine v_icmp_ge (pc := 96) h 122 (dk dt_X12_lentErrors 58 rfl) rfl (by omega) (fun c96 => ?_) (fun c96 => ?_)
            ·
              refine v_iload_n (pc := 122) h (dk dt_X12_lentErrors 71 rfl) rfl ?_
              refine v_iload_n (pc := 123) h (dk dt_X12_lentErrors 72 rfl) rfl ?_
              refine v_if_eq (pc := 124) h 142 (dk dt_X12_lentErrors 73 rfl) rfl (by omega) (fun c124 => ?_) (fun c124 => ?_)
              ·
                refine v_iconst (pc := 142) h (dk dt_X12_lentErrors 82 rfl) ?_
                refine v_iadd (pc := 143) h (dk dt_X12_lentErrors 83 rfl) ?_
                refine v_istore_n (lv' := [(1, _), (5, _), (4, _), (3, _), (2, _), (0, _)]) (pc := 144) h (dk dt_X12_lentErrors 84 rfl) (Nat.le_of_ble_eq_true rfl) rfl ?_
                refine v_iinc (lv' := [(2, _), (1, _), (5, _), (4, _), (3, _), (0, _)]) (pc := 145) h (dk dt_X12_lentErrors 85 rfl) rfl (Nat.le_of_ble_eq_true rfl) rfl ?_
                refine v_goto (pc := 148) h 16 (dk dt_X12_lentErrors 86 rfl) rfl ?_
                exact VV.loc (lv' := [(2, _), (1, _), (0, _)]) (ih (i + 1) (by omega)) ⟨rfl, lvI (by omega), rfl, trivial⟩
              ·
                refine v_aload_n (pc := 127) h (dk dt_X12_lentErrors 74 rfl) rfl ?_
                refine v_getr (pc := 128) h ci12 sh123 (Nat.le_of_ble_eq_true rfl) (j := 30) wF_X12_83 rfl (dk dt_X12_lentErrors 75 rfl) ?_
                refine v_iload_n (pc := 131) h (dk dt_X12_lentErrors 76 rfl) rfl ?_
                refine v_iald (pc := 132) h sh144 (Nat.le_of_ble_eq_true rfl) (by omega) (dk dt_X12_lentErrors 77 rfl) ?_
                rw [Int.toNat_natCast, hBi]
                refine v_iload (pc := 133) h (dk dt_X12_lentErrors 78 rfl) rfl ?_
                refine v_icmp_le (pc := 135) h 142 (dk dt_X12_lentErrors 79 rfl) rfl (by omega) (fun c135 => ?_) (fun c135 => ?_)
                ·
                  refine v_iconst (pc := 142) h (dk dt_X12_lentErrors 82 rfl) ?_
                  refine v_iadd (pc := 143) h (dk dt_X12_lentErrors 83 rfl) ?_
                  refine v_istore_n (lv' := [(1, _), (5, _), (4, _), (3, _), (2, _), (0, _)]) (pc := 144) h (dk dt_X12_lentErrors 84 rfl) (Nat.le_of_ble_eq_true rfl) rfl ?_
                  refine v_iinc (lv' := [(2, _), (1, _), (5, _), (4, _), (3, _), (0, _)]) (pc := 145) h (dk dt_X12_lentErrors 85 rfl) rfl (Nat.le_of_ble_eq_true rfl) rfl ?_
                  refine v_goto (pc := 148) h 16 (dk dt_X12_lentErrors 86 rfl) rfl ?_
                  exact VV.loc (lv' := [(2, _), (1, _), (0, _)]) (ih (i + 1) (by omega)) ⟨rfl, lvI (by omega), rfl, trivial⟩
                ·
                  exact absurd (hti (hb (by omega))) (by omega)
            ·
              exact absurd c96 (by omega)
          | succ d ih2 =>
            intro c hc
            have hsc := hs i c (by omega) (by omega)
            have hmc := hmb i c
            have hlc := hlb i (μ 15 (3 * i + c))
            refine v_iload (pc := 84) h (dk dt_X12_lentErrors 49 rfl) rfl ?_
            refine v_iconst (pc := 86) h (dk dt_X12_lentErrors 50 rfl) ?_
            refine v_iload_n (pc := 87) h (dk dt_X12_lentErrors 51 rfl) rfl ?_
            refine v_imul (pc := 88) h (dk dt_X12_lentErrors 52 rfl) ?_
            refine v_aload_n (pc := 89) h (dk dt_X12_lentErrors 53 rfl) rfl ?_
            refine v_getr (pc := 90) h ci12 sh123 (Nat.le_of_ble_eq_true rfl) (j := 5) wF_X12_25 rfl (dk dt_X12_lentErrors 54 rfl) ?_
            refine v_iload_n (pc := 93) h (dk dt_X12_lentErrors 55 rfl) rfl ?_
            refine v_iald (pc := 94) h sh129 (Nat.le_of_ble_eq_true rfl) (by omega) (dk dt_X12_lentErrors 56 rfl) ?_
            rw [Int.toNat_natCast, e129]
            refine v_iadd (pc := 95) h (dk dt_X12_lentErrors 57 rfl) ?_
            refine v_icmp_ge (pc := 96) h 122 (dk dt_X12_lentErrors 58 rfl) rfl (by omega) (fun c96 => ?_) (fun c96 => ?_)
            ·
              exact absurd c96 (by omega)
            ·
              refine v_iload (pc := 99) h (dk dt_X12_lentErrors 59 rfl) rfl ?_
              refine v_aload_n (pc := 101) h (dk dt_X12_lentErrors 60 rfl) rfl ?_
              refine v_aload_n (pc := 102) h (dk dt_X12_lentErrors 61 rfl) rfl ?_
              refine v_getr (pc := 103) h ci12 sh123 (Nat.le_of_ble_eq_true rfl) (j := 6) wF_X12_28 rfl (dk dt_X12_lentErrors 62 rfl) ?_
              refine v_iload (pc := 106) h (dk dt_X12_lentErrors 63 rfl) rfl ?_
              refine v_iald (pc := 108) h sh130 (Nat.le_of_ble_eq_true rfl) (by omega) (dk dt_X12_lentErrors 64 rfl) ?_
              rw [Int.toNat_natCast, e130]
              refine v_iload_n (pc := 109) h (dk dt_X12_lentErrors 65 rfl) rfl ?_
              refine v_cVi (pc := 110) h (c_X12_longestFor h.quiet hEM hOM.J hnM (by omega) (by omega)) kv_X12_longestFor sh123 wM_X12_275 rfl rfl (Nat.le_of_ble_eq_true rfl) (RM.of rfl) rfl rfl (dk dt_X12_lentErrors 66 rfl) ?_
              rw [e13, e15, e17, e19]
              refine v_iadd (pc := 113) h (dk dt_X12_lentErrors 67 rfl) ?_
              refine v_istore (lv' := [(4, _), (5, _), (3, _), (2, _), (1, _), (0, _)]) (pc := 114) h (dk dt_X12_lentErrors 68 rfl) (Nat.le_of_ble_eq_true rfl) rfl ?_
              refine v_iinc (lv' := [(5, _), (4, _), (3, _), (2, _), (1, _), (0, _)]) (pc := 116) h (dk dt_X12_lentErrors 69 rfl) rfl (Nat.le_of_ble_eq_true rfl) rfl ?_
              refine v_goto (pc := 119) h 84 (dk dt_X12_lentErrors 70 rfl) rfl ?_
              exact VV.loc (lv' := [(5, _), (4, _), (3, _), (2, _), (1, _), (0, _)]) (ih2 (c + 1) (by omega)) ⟨rfl, rfl, rfl, rfl, rfl, rfl, trivial⟩
        have inner : ∀ (d c : Nat) (b : Int), c + d = n → (b = 0 ∨ b = 1) → (b = 1 → ∀ x : Nat, x < c → x ≠ i → μ 9 x < μ 9 i) → VV a B (SP B D E M) 0 0 29 [(4, iI (c : Int)), (3, iI b), (2, iI (i : Int)), (1, iI 0), (0, .ref (pl B 123))] [] := by
          intro d
          induction d with
          | zero =>
            intro c b hc hb01 hb
            have ec : c = n := by omega
            rw [ec] at hb
            refine v_iload (pc := 29) h (dk dt_X12_lentErrors 19 rfl) rfl ?_
            refine v_aload_n (pc := 31) h (dk dt_X12_lentErrors 20 rfl) rfl ?_
            refine v_geti (pc := 32) h ci12 sh123 (Nat.le_of_ble_eq_true rfl) (j := 9) wF_X12_108 rfl (dk dt_X12_lentErrors 21 rfl) ?_
            refine v_icmp_ge (pc := 35) h 76 (dk dt_X12_lentErrors 22 rfl) rfl (by omega) (fun c35 => ?_) (fun c35 => ?_)
            ·
              refine v_iconst (pc := 76) h (dk dt_X12_lentErrors 43 rfl) ?_
              refine v_istore (lv' := [(4, _), (3, _), (2, _), (1, _), (0, _)]) (pc := 77) h (dk dt_X12_lentErrors 44 rfl) (Nat.le_of_ble_eq_true rfl) rfl ?_
              refine v_iconst (pc := 79) h (dk dt_X12_lentErrors 45 rfl) ?_
              refine v_iload_n (pc := 80) h (dk dt_X12_lentErrors 46 rfl) rfl ?_
              refine v_imul (pc := 81) h (dk dt_X12_lentErrors 47 rfl) ?_
              refine v_istore (lv' := [(5, _), (4, _), (3, _), (2, _), (1, _), (0, _)]) (pc := 82) h (dk dt_X12_lentErrors 48 rfl) (Nat.le_of_ble_eq_true rfl) rfl ?_
              exact VV.loc (lv' := [(5, _), (4, _), (3, _), (2, _), (1, _), (0, _)]) (inner2 b hb01 hb (μ 13 i).toNat 0 (by omega)) ⟨lvI (by omega), rfl, rfl, rfl, rfl, rfl, trivial⟩
            ·
              exact absurd c35 (by omega)
          | succ d ih2 =>
            intro c b hc hb01 hb
            have hwc := hw9 c (by omega)
            refine v_iload (pc := 29) h (dk dt_X12_lentErrors 19 rfl) rfl ?_
            refine v_aload_n (pc := 31) h (dk dt_X12_lentErrors 20 rfl) rfl ?_
            refine v_geti (pc := 32) h ci12 sh123 (Nat.le_of_ble_eq_true rfl) (j := 9) wF_X12_108 rfl (dk dt_X12_lentErrors 21 rfl) ?_
            refine v_icmp_ge (pc := 35) h 76 (dk dt_X12_lentErrors 22 rfl) rfl (by omega) (fun c35 => ?_) (fun c35 => ?_)
            ·
              exact absurd c35 (by omega)
            ·
              refine v_iload_n (pc := 38) h (dk dt_X12_lentErrors 23 rfl) rfl ?_
              refine v_if_eq (pc := 39) h 68 (dk dt_X12_lentErrors 24 rfl) rfl (by omega) (fun c39 => ?_) (fun c39 => ?_)
              ·
                have g := fun (z : (0 : Int) = 1) => (show ∀ x : Nat, x < c + 1 → x ≠ i → μ 9 x < μ 9 i from absurd z (by decide))
                refine v_iconst (pc := 68) h (dk dt_X12_lentErrors 39 rfl) ?_
                refine v_istore_n (lv' := [(3, _), (4, _), (2, _), (1, _), (0, _)]) (pc := 69) h (dk dt_X12_lentErrors 40 rfl) (Nat.le_of_ble_eq_true rfl) rfl ?_
                refine v_iinc (lv' := [(4, _), (3, _), (2, _), (1, _), (0, _)]) (pc := 70) h (dk dt_X12_lentErrors 41 rfl) rfl (Nat.le_of_ble_eq_true rfl) rfl ?_
                refine v_goto (pc := 73) h 29 (dk dt_X12_lentErrors 42 rfl) rfl ?_
                first
                  | exact VV.loc (lv' := [(4, _), (3, _), (2, _), (1, _), (0, _)]) (ih2 (c + 1) 1 (by omega) (Or.inr rfl) g) ⟨rfl, rfl, rfl, rfl, rfl, trivial⟩
                  | exact VV.loc (lv' := [(4, _), (3, _), (2, _), (1, _), (0, _)]) (ih2 (c + 1) 0 (by omega) (Or.inl rfl) g) ⟨rfl, rfl, rfl, rfl, rfl, trivial⟩
              ·
                refine v_iload (pc := 42) h (dk dt_X12_lentErrors 25 rfl) rfl ?_
                refine v_iload_n (pc := 44) h (dk dt_X12_lentErrors 26 rfl) rfl ?_
                refine v_icmp_eq (pc := 45) h 64 (dk dt_X12_lentErrors 27 rfl) rfl (by omega) (fun c45 => ?_) (fun c45 => ?_)
                ·
                  have g := fun (_ : (1 : Int) = 1) => fun (x : Nat) (hx : x < c + 1) (hxi : x ≠ i) => (show μ 9 x < μ 9 i from hb (by omega) x (by omega) hxi)
                  refine v_iconst (pc := 64) h (dk dt_X12_lentErrors 37 rfl) ?_
                  refine v_goto (pc := 65) h 69 (dk dt_X12_lentErrors 38 rfl) rfl ?_
                  refine v_istore_n (lv' := [(3, _), (4, _), (2, _), (1, _), (0, _)]) (pc := 69) h (dk dt_X12_lentErrors 40 rfl) (Nat.le_of_ble_eq_true rfl) rfl ?_
                  refine v_iinc (lv' := [(4, _), (3, _), (2, _), (1, _), (0, _)]) (pc := 70) h (dk dt_X12_lentErrors 41 rfl) rfl (Nat.le_of_ble_eq_true rfl) rfl ?_
                  refine v_goto (pc := 73) h 29 (dk dt_X12_lentErrors 42 rfl) rfl ?_
                  first
                    | exact VV.loc (lv' := [(4, _), (3, _), (2, _), (1, _), (0, _)]) (ih2 (c + 1) 1 (by omega) (Or.inr rfl) g) ⟨rfl, rfl, rfl, rfl, rfl, trivial⟩
                    | exact VV.loc (lv' := [(4, _), (3, _), (2, _), (1, _), (0, _)]) (ih2 (c + 1) 0 (by omega) (Or.inl rfl) g) ⟨rfl, rfl, rfl, rfl, rfl, trivial⟩
                ·
                  refine v_aload_n (pc := 48) h (dk dt_X12_lentErrors 28 rfl) rfl ?_
                  refine v_getr (pc := 49) h ci12 sh123 (Nat.le_of_ble_eq_true rfl) (j := 3) wF_X12_19 rfl (dk dt_X12_lentErrors 29 rfl) ?_
                  refine v_iload (pc := 52) h (dk dt_X12_lentErrors 30 rfl) rfl ?_
                  refine v_iald (pc := 54) h sh127 (Nat.le_of_ble_eq_true rfl) (by omega) (dk dt_X12_lentErrors 31 rfl) ?_
                  rw [Int.toNat_natCast, e127]
                  refine v_aload_n (pc := 55) h (dk dt_X12_lentErrors 32 rfl) rfl ?_
                  refine v_getr (pc := 56) h ci12 sh123 (Nat.le_of_ble_eq_true rfl) (j := 3) wF_X12_19 rfl (dk dt_X12_lentErrors 33 rfl) ?_
                  refine v_iload_n (pc := 59) h (dk dt_X12_lentErrors 34 rfl) rfl ?_
                  refine v_iald (pc := 60) h sh127 (Nat.le_of_ble_eq_true rfl) (by omega) (dk dt_X12_lentErrors 35 rfl) ?_
                  rw [Int.toNat_natCast, e127]
                  refine v_icmp_ge (pc := 61) h 68 (dk dt_X12_lentErrors 36 rfl) rfl (by omega) (fun c61 => ?_) (fun c61 => ?_)
                  ·
                    have g := fun (z : (0 : Int) = 1) => (show ∀ x : Nat, x < c + 1 → x ≠ i → μ 9 x < μ 9 i from absurd z (by decide))
                    refine v_iconst (pc := 68) h (dk dt_X12_lentErrors 39 rfl) ?_
                    refine v_istore_n (lv' := [(3, _), (4, _), (2, _), (1, _), (0, _)]) (pc := 69) h (dk dt_X12_lentErrors 40 rfl) (Nat.le_of_ble_eq_true rfl) rfl ?_
                    refine v_iinc (lv' := [(4, _), (3, _), (2, _), (1, _), (0, _)]) (pc := 70) h (dk dt_X12_lentErrors 41 rfl) rfl (Nat.le_of_ble_eq_true rfl) rfl ?_
                    refine v_goto (pc := 73) h 29 (dk dt_X12_lentErrors 42 rfl) rfl ?_
                    first
                      | exact VV.loc (lv' := [(4, _), (3, _), (2, _), (1, _), (0, _)]) (ih2 (c + 1) 1 (by omega) (Or.inr rfl) g) ⟨rfl, rfl, rfl, rfl, rfl, trivial⟩
                      | exact VV.loc (lv' := [(4, _), (3, _), (2, _), (1, _), (0, _)]) (ih2 (c + 1) 0 (by omega) (Or.inl rfl) g) ⟨rfl, rfl, rfl, rfl, rfl, trivial⟩
                  ·
                    have g := fun (_ : (1 : Int) = 1) => fun (x : Nat) (hx : x < c + 1) (hxi : x ≠ i) => (show μ 9 x < μ 9 i from by by_cases e : x = c; (rw [e]; omega); exact hb (by omega) x (by omega) hxi)
                    refine v_iconst (pc := 64) h (dk dt_X12_lentErrors 37 rfl) ?_
                    refine v_goto (pc := 65) h 69 (dk dt_X12_lentErrors 38 rfl) rfl ?_
                    refine v_istore_n (lv' := [(3, _), (4, _), (2, _), (1, _), (0, _)]) (pc := 69) h (dk dt_X12_lentErrors 40 rfl) (Nat.le_of_ble_eq_true rfl) rfl ?_
                    refine v_iinc (lv' := [(4, _), (3, _), (2, _), (1, _), (0, _)]) (pc := 70) h (dk dt_X12_lentErrors 41 rfl) rfl (Nat.le_of_ble_eq_true rfl) rfl ?_
                    refine v_goto (pc := 73) h 29 (dk dt_X12_lentErrors 42 rfl) rfl ?_
                    first
                      | exact VV.loc (lv' := [(4, _), (3, _), (2, _), (1, _), (0, _)]) (ih2 (c + 1) 1 (by omega) (Or.inr rfl) g) ⟨rfl, rfl, rfl, rfl, rfl, trivial⟩
                      | exact VV.loc (lv' := [(4, _), (3, _), (2, _), (1, _), (0, _)]) (ih2 (c + 1) 0 (by omega) (Or.inl rfl) g) ⟨rfl, rfl, rfl, rfl, rfl, trivial⟩
        refine v_iload_n (pc := 16) h (dk dt_X12_lentErrors 11 rfl) rfl ?_
        refine v_aload_n (pc := 17) h (dk dt_X12_lentErrors 12 rfl) rfl ?_
        refine v_geti (pc := 18) h ci12 sh123 (Nat.le_of_ble_eq_true rfl) (j := 9) wF_X12_108 rfl (dk dt_X12_lentErrors 13 rfl) ?_
        refine v_icmp_ge (pc := 21) h 151 (dk dt_X12_lentErrors 14 rfl) rfl (by omega) (fun c21 => ?_) (fun c21 => ?_)
        ·
          exact absurd c21 (by omega)
        ·
          refine v_iconst (pc := 24) h (dk dt_X12_lentErrors 15 rfl) ?_
          refine v_istore_n (lv' := [(3, _), (2, _), (1, _), (0, _)]) (pc := 25) h (dk dt_X12_lentErrors 16 rfl) (Nat.le_of_ble_eq_true rfl) rfl ?_
          refine v_iconst (pc := 26) h (dk dt_X12_lentErrors 17 rfl) ?_
          refine v_istore (lv' := [(4, _), (3, _), (2, _), (1, _), (0, _)]) (pc := 27) h (dk dt_X12_lentErrors 18 rfl) (Nat.le_of_ble_eq_true rfl) rfl ?_
          exact VV.loc (lv' := [(4, _), (3, _), (2, _), (1, _), (0, _)]) (inner n 0 1 (by omega) (Or.inr rfl) (fun _ x hx => absurd hx (by omega))) ⟨rfl, rfl, rfl, rfl, rfl, trivial⟩
    refine v_iconst (pc := 14) h (dk dt_X12_lentErrors 9 rfl) ?_
    refine v_istore_n (lv' := [(2, _), (1, _), (0, _)]) (pc := 15) h (dk dt_X12_lentErrors 10 rfl) (Nat.le_of_ble_eq_true rfl) rfl ?_
    exact VV.loc (loop n 0 (by omega)) ⟨rfl, rfl, rfl, trivial⟩
  refine v_iconst (pc := 0) h (dk dt_X12_lentErrors 0 rfl) ?_
  refine v_istore_n (lv' := [(1, _), (0, _)]) (pc := 1) h (dk dt_X12_lentErrors 1 rfl) (Nat.le_of_ble_eq_true rfl) rfl ?_
  refine v_aload_n (pc := 2) h (dk dt_X12_lentErrors 2 rfl) rfl ?_
  refine v_bipush (pc := 3) h (dk dt_X12_lentErrors 3 rfl) rfl ?_
  refine v_aload_n (pc := 5) h (dk dt_X12_lentErrors 4 rfl) rfl ?_
  refine v_geti (pc := 6) h ci12 sh123 (Nat.le_of_ble_eq_true rfl) (j := 10) wF_X12_37 rfl (dk dt_X12_lentErrors 5 rfl) ?_
  rw [hW.1]
  refine v_iconst (pc := 9) h (dk dt_X12_lentErrors 6 rfl) ?_
  refine v_iconst (pc := 10) h (dk dt_X12_lentErrors 7 rfl) ?_
  refine v_cV (pc := 11) h (c_mrun (n := n) h.quiet hE hW hO hn (by omega) (by omega) (by omega) (by omega)) kv_X12_runs sh123 wM_X12_210 rfl rfl (Nat.le_of_ble_eq_true rfl) (RM.of rfl) rfl rfl (dk dt_X12_lentErrors 8 rfl) (fun v11 μ11 p11 => ?_)
  obtain ⟨rfl, f11, b11, -⟩ := p11
  rw [hF] at b11
  exact VV.loc (go14 _ f11 (fun j hj => (b11.1 j hj).2.2.2.2.1)) ⟨rfl, rfl, trivial⟩
theorem cnt_no {g : Nat → Int} {j : Int} : ∀ T : Nat, (∀ b, b < T → g b ≠ j) → cntJ g j T = 0 := by
  intro T
  induction T with
  | zero => intro _; rfl
  | succ T ih =>
    intro q
    simp only [cntJ]
    rw [ih (fun b hb => q b (by omega)), if_neg (q T (by omega))]; rfl
/-- every job has its first moment of work -/
theorem first_in (hD : okD J n) (hK : okK K) (h2 : K 2 = 0) {j : Nat} (hj : j < n) {z : Int} {g : Nat → Int} {T : Nat} (hT : (fnF J n K z).1 6 6 = (T : Int)) (hg : ∀ t : Nat, t < T → g t = (fnF J n K z).1 7 t) : fstW g (j : Int) T 0 < T := by
  obtain ⟨T', e, hS, -⟩ := fn_sch hD hK h2 (z := z)
  have eT : T' = T := by omega
  subst eT
  by_cases q : fstW g (j : Int) T' 0 < T'
  · exact q
  · exfalso
    have h1 := (fst_is g (j : Int) T' 0).1
    have h3 := hS.2.2.1 j hj
    have h4 := hS.2.2.2.2.2 j hj
    simp only [lfT] at h3
    rw [cnt_no T' (fun b hb => by rw [← hg b hb]; exact h1 b (by omega) (by omega))] at h3
    omega
/-- nothing changes but what a run, or errors(), works with -/
def frX (μ m : Mm) : Prop := (∀ a, a ≠ 123 → a < 140 ∨ 150 < a → m a = μ a) ∧ ∀ b, b ≠ 33 → b ≠ 34 → b ≠ 35 → b ≠ 39 → b ≠ 40 → b ≠ 42 → m 123 b = μ 123 b
theorem frX_tr {μ m m' : Mm} (h1 : frX μ m) (h2 : frX m m') : frX μ m' := ⟨fun a p q => (h2.1 a p q).trans (h1.1 a p q), fun b p q r x y z => (h2.2 b p q r x y z).trans (h1.2 b p q r x y z)⟩
theorem frX_of {μ m : Mm} (h : frR μ m) : frX μ m := ⟨fun a p q => h.1 a p (by omega), fun b p q r _ _ _ => h.2 b p q r⟩
theorem frX_E {μ m : Mm} (h : frX μ m) (hE : eqJ μ) : eqJ m := eqJ_c (fun a q => h.1 a (by omega) (by omega)) (h.2 9 (by decide) (by decide) (by decide) (by decide) (by decide) (by decide)) hE
theorem frX_W {μ m : Mm} (h : frX μ m) (hW : eqW μ) : eqW m := by
  have g : ∀ b, b < 20 → m 123 b = μ 123 b := fun b q => h.2 b (by omega) (by omega) (by omega) (by omega) (by omega) (by omega)
  unfold eqW
  rw [g 10 (by decide), g 11 (by decide), g 12 (by decide), g 13 (by decide), g 15 (by decide), h.1 27 (by decide) (by decide)]
  exact hW
theorem frX_O {μ m : Mm} (h : frX μ m) (hO : hOK μ) : hOK m := hO_c (fun a q => h.1 a (by omega) (by omega)) hO
theorem frX_150 {μ m : Mm} {i : Nat} {x : Int} (h : frX μ m) : frX μ (mup m 150 i x) := ⟨fun a p q => by funext b; rw [mup_nk (show a ≠ 150 by omega)]; exact congrFun (h.1 a p q) b, fun b p q r x y z => by rw [mup_nk (show 123 ≠ 150 by decide)]; exact h.2 b p q r x y z⟩
theorem frX_42 {μ m : Mm} {x : Int} (h : frX μ m) : frX μ (mup m 123 42 x) := ⟨fun a p q => by funext b; rw [mup_nk p]; exact congrFun (h.1 a p q) b, fun b p q r x y z => by rw [mup_ne (fun e => z e.2)]; exact h.2 b p q r x y z⟩
theorem frX_fu {μ m : Mm} {x y : Int} (h : frX μ m) : frX μ (fuM m x y) := by
  unfold fuM
  exact ⟨fun a p q => by funext b; rw [mup_nk p, mup_nk p]; exact congrFun (h.1 a p q) b, fun b p q r x y z => by rw [mup_ne (fun e => y e.2), mup_ne (fun e => x e.2)]; exact h.2 b p q r x y z⟩
/-- nothing is refused, and nothing else changes but what errors() works with -/
def fE (μ m : Mm) : Prop := frX μ (mup m 123 14 (μ 123 14)) ∧ m 123 14 = 0
theorem frX_14 {μ m : Mm} (h : frX μ m) : fE μ (mup m 123 14 0) := ⟨⟨fun a p q => by funext b; rw [mup_nk p, mup_nk p]; exact congrFun (h.1 a p q) b, fun b p q r x y z => by
  by_cases e : b = 14
  · rw [e, mup_eq]
  · rw [mup_ne (fun z => e z.2), mup_ne (fun z => e z.2)]; exact h.2 b p q r x y z⟩, mup_eq _ _ _ _⟩
theorem bzy_k {m m' : Mm} {g : Nat → Int} {T : Int} (h : frR m m') (hb : bzy m g T) : bzy m' g T := by
  unfold bzy
  rw [h.2 42 (by decide) (by decide) (by decide), h.1 150 (by decide) (by decide)]
  exact hb
end
