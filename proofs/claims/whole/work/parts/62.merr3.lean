/-! ===== errors on the model: the sum ===== -/
section
variable {l : Launch} {B : Nat} {D : va_G} {E : Nat → ClassId} {μ m σ : Mm} {w n : Nat} {K K0 : Nat → Int} {s : St} {J : Mm}
/-- a thing that holds only when nobody waits -/
def whB (b x : Int) : Int := if b = 0 then 0 else x
theorem whB_b (b x : Int) (h : x = 0 ∨ x = 1) : whB b x = 0 ∨ whB b x = 1 := by unfold whB; split; exact Or.inl rfl; exact h
theorem whB_0 {b x : Int} (h : b = 0) : whB b x = 0 := by unfold whB; rw [if_pos h]
theorem whB_1 {b x y : Int} (h : ¬ b = 0) (e : x = y) : whB b x = y := by unfold whB; rw [if_neg h, e]
theorem erA_w {b : Int} (hb : isB b (¬ smW (μ 11) n)) : whB b (er3 μ n) + whB b (er4 μ n) = erA μ n := by
  unfold erA whB
  rcases hb with ⟨e, q⟩ | ⟨e, q⟩
  · rw [if_neg (by omega), if_neg (by omega), if_neg q]
  · rw [if_pos e, if_pos e, if_pos (Classical.byContradiction (fun z => q z))]; rfl
theorem fu_v {v : Option Value} {m m' : Mm} {f x y : Int} (hm : frX μ m) (h : if f = -1 then v = some (iI 0) ∧ m' = m else v = some (iI 1) ∧ m' = fuM m x y) : ∃ k : Int, v = some (iI k) ∧ isB (1 - k) (f = -1) ∧ (k = 0 ∨ k = 1) ∧ frX μ m' := by
  by_cases q : f = -1
  · rw [if_pos q] at h; exact ⟨0, h.1, Or.inl ⟨rfl, q⟩, Or.inl rfl, by rw [h.2]; exact hm⟩
  · rw [if_neg q] at h; exact ⟨1, h.1, Or.inr ⟨rfl, q⟩, Or.inr rfl, by rw [h.2]; exact frX_fu hm⟩
theorem c_X12_errors (hst : l.stackTraces = false) (hE : eqJ μ) (hW : eqW μ) (hO : hOK μ) (hn : μ 1 9 = (n : Int)) :
    Ct l B D E yX12_errors (.code yX12_errors cX12_errors 9 (some .int)) rm_X12_errors [.ref (pl B 123)] μ (fun v m => v = some (iI (erA μ n)) ∧ fE μ m) NX := by
  have hOW := hO.W
  have hD := okJD hO.J hn
  have hn12 := hD.1
  have hok := fun (r : Int) (h : 0 ≤ r ∧ r ≤ 8) => okK_kof (r := r) (s := μ 27 0) (c := 0) (le := μ 27 4) (ri := μ 27 2) h hOW.1 (by omega) hOW.2.2.2 hOW.2.2.1
  have hd7 : ∀ j : Nat, j < n → 0 ≤ μ 7 j ∧ μ 7 j ≤ 400 := fun j hj => (hO.J.2 j (by omega)).2.2.1
  have hsb := fun (r : Int) (h : 0 ≤ r ∧ r ≤ 8) => smF_e (K := kE μ r) (z := μ 27 3) hD (hok r h)
  have h3b := er3_b μ n
  have h4b := er4_b μ n
  have hAb := erA_b μ n
  refine ct_of (own := RX12) (lv := [(0, _)]) hst (by decide) rfl rfl (Nat.le_of_ble_eq_true rfl) fun a h r t => ?_
  -- the highest, and the answer
  have go316 : ∀ M, frX μ M → VV a B (SP B D E M) 0 0 316 [(1, iI (erA μ n)), (0, .ref (pl B 123))] [] := by
    intro M fM
    have hnM : M 1 9 = (n : Int) := by rw [fM.1 1 (by omega) (by omega)]; exact hn
    refine v_aload_n (pc := 316) h (dk dt_X12_errors 167 rfl) rfl ?_
    refine v_iload_n (pc := 317) h (dk dt_X12_errors 168 rfl) rfl ?_
    refine v_aload_n (pc := 318) h (dk dt_X12_errors 169 rfl) rfl ?_
    refine v_cV (pc := 319) h (c_X12_lentErrors (n := n) h.quiet (frX_E fM hE) (frX_W fM hW) (frX_O fM hO) hnM) kv_X12_lentErrors sh123 wM_X12_281 rfl rfl (Nat.le_of_ble_eq_true rfl) (RM.of rfl) rfl rfl (dk dt_X12_errors 170 rfl) (fun v319 μ319 p319 => ?_)
    obtain ⟨rfl, f319⟩ := p319
    refine v_iadd (pc := 322) h (dk dt_X12_errors 171 rfl) ?_
    rw [Int.add_zero]
    refine v_cVi (pc := 323) h (c_X12_told h.quiet) kv_X12_told sh123 wM_X12_115 rfl rfl (Nat.le_of_ble_eq_true rfl) (RM.of rfl) rfl rfl (dk dt_X12_errors 172 rfl) ?_
    exact v_iret (pc := 326) h r (dk dt_X12_errors 173 rfl) (Nat.le_of_ble_eq_true rfl) (Nat.le_of_ble_eq_true rfl) ⟨rfl, frX_14 (frX_tr fM (frX_of f319))⟩
  -- the nearest deadline against the stretches too full
  have go295 : ∀ (M : Mm) (b s5 : Int), frX μ M → isB b (¬ smW (μ 11) n) → isB s5 (lateE (jm μ) n (kE μ 6) (μ 27 3) = 0) → VV a B (SP B D E M) 0 0 295 [(1, iI (whB b (er3 μ n))), (5, iI s5), (2, iI b), (0, .ref (pl B 123))] [] := by
    intro M b s5 fM hb h5
    have hnM : M 1 9 = (n : Int) := by rw [fM.1 1 (by omega) (by omega)]; exact hn
    have eA := erA_w hb
    have hb01 : b = 0 ∨ b = 1 := by omega
    have h501 : s5 = 0 ∨ s5 = 1 := by omega
    have hw3 := whB_b b (er3 μ n) h3b
    refine v_iload_n (pc := 295) h (dk dt_X12_errors 155 rfl) rfl ?_
    refine v_iload_n (pc := 296) h (dk dt_X12_errors 156 rfl) rfl ?_
    refine v_if_eq (pc := 297) h 313 (dk dt_X12_errors 157 rfl) rfl (by omega) (fun c297 => ?_) (fun c297 => ?_)
    ·
      have g4 : whB b (er4 μ n) = 0 := whB_0 c297
      refine v_iconst (pc := 313) h (dk dt_X12_errors 164 rfl) ?_
      refine v_iadd (pc := 314) h (dk dt_X12_errors 165 rfl) ?_
      refine v_istore_n (lv' := [(1, _), (5, _), (2, _), (0, _)]) (pc := 315) h (dk dt_X12_errors 166 rfl) (Nat.le_of_ble_eq_true rfl) rfl ?_
      first
        | exact VV.loc (lv' := [(1, _), (0, _)]) (go316 _ fM2) ⟨lvI (by omega), rfl, trivial⟩
        | exact VV.loc (lv' := [(1, _), (0, _)]) (go316 _ fM) ⟨lvI (by omega), rfl, trivial⟩
    ·
      refine v_iload (pc := 300) h (dk dt_X12_errors 158 rfl) rfl ?_
      refine v_aload_n (pc := 302) h (dk dt_X12_errors 159 rfl) rfl ?_
      refine v_cV (pc := 303) h (c_X12_isAnyFull (n := n) h.quiet (frX_E fM hE) (frX_O fM hO) hnM) kv_X12_isAnyFull sh123 wM_X12_266 rfl rfl (Nat.le_of_ble_eq_true rfl) (RM.of rfl) rfl rfl (dk dt_X12_errors 160 rfl) (fun v303 μ303 p303 => ?_)
      obtain ⟨k, rfl, hk, hk01, fM2⟩ := fu_v fM p303
      rw [fM.1 3 (by omega) (by omega), fM.1 5 (by omega) (by omega), fM.1 7 (by omega) (by omega)] at hk
      refine v_icmp_ne (pc := 306) h 313 (dk dt_X12_errors 161 rfl) rfl (by omega) (fun c306 => ?_) (fun c306 => ?_)
      ·
        have g4 : whB b (er4 μ n) = 0 := whB_1 c297 (er4_y h5 hk (by omega))
        refine v_iconst (pc := 313) h (dk dt_X12_errors 164 rfl) ?_
        refine v_iadd (pc := 314) h (dk dt_X12_errors 165 rfl) ?_
        refine v_istore_n (lv' := [(1, _), (5, _), (2, _), (0, _)]) (pc := 315) h (dk dt_X12_errors 166 rfl) (Nat.le_of_ble_eq_true rfl) rfl ?_
        first
          | exact VV.loc (lv' := [(1, _), (0, _)]) (go316 _ fM2) ⟨lvI (by omega), rfl, trivial⟩
          | exact VV.loc (lv' := [(1, _), (0, _)]) (go316 _ fM) ⟨lvI (by omega), rfl, trivial⟩
      ·
        have g4 : whB b (er4 μ n) = 1 := whB_1 c297 (er4_n h5 hk (by omega))
        refine v_iconst (pc := 309) h (dk dt_X12_errors 162 rfl) ?_
        refine v_goto (pc := 310) h 314 (dk dt_X12_errors 163 rfl) rfl ?_
        refine v_iadd (pc := 314) h (dk dt_X12_errors 165 rfl) ?_
        refine v_istore_n (lv' := [(1, _), (5, _), (2, _), (0, _)]) (pc := 315) h (dk dt_X12_errors 166 rfl) (Nat.le_of_ble_eq_true rfl) rfl ?_
        first
          | exact VV.loc (lv' := [(1, _), (0, _)]) (go316 _ fM2) ⟨lvI (by omega), rfl, trivial⟩
          | exact VV.loc (lv' := [(1, _), (0, _)]) (go316 _ fM) ⟨lvI (by omega), rfl, trivial⟩
  -- a rule keeps the deadlines, the nearest deadline does not
  have go273 : ∀ (M : Mm) (b s4 s5 : Int), frX μ M → isB b (¬ smW (μ 11) n) → isB s4 (smD μ n 9 = true) → isB s5 (lateE (jm μ) n (kE μ 6) (μ 27 3) = 0) → VV a B (SP B D E M) 0 0 273 [(5, iI s5), (4, iI s4), (2, iI b), (1, iI 0), (0, .ref (pl B 123))] [] := by
    intro M b s4 s5 fM hb h4 h5
    have hb01 : b = 0 ∨ b = 1 := by omega
    have h401 : s4 = 0 ∨ s4 = 1 := by omega
    have h501 : s5 = 0 ∨ s5 = 1 := by omega
    refine v_iload_n (pc := 273) h (dk dt_X12_errors 143 rfl) rfl ?_
    refine v_iload_n (pc := 274) h (dk dt_X12_errors 144 rfl) rfl ?_
    refine v_if_eq (pc := 275) h 292 (dk dt_X12_errors 145 rfl) rfl (by omega) (fun c275 => ?_) (fun c275 => ?_)
    ·
      have g3 : whB b (er3 μ n) = 0 := whB_0 c275
      refine v_iconst (pc := 292) h (dk dt_X12_errors 152 rfl) ?_
      refine v_iadd (pc := 293) h (dk dt_X12_errors 153 rfl) ?_
      refine v_istore_n (lv' := [(1, _), (5, _), (4, _), (2, _), (0, _)]) (pc := 294) h (dk dt_X12_errors 154 rfl) (Nat.le_of_ble_eq_true rfl) rfl ?_
      exact VV.loc (lv' := [(1, _), (5, _), (2, _), (0, _)]) (go295 _ b s5 fM hb h5) ⟨lvI (by omega), rfl, rfl, rfl, trivial⟩
    ·
      refine v_iload (pc := 278) h (dk dt_X12_errors 146 rfl) rfl ?_
      refine v_if_eq (pc := 280) h 292 (dk dt_X12_errors 147 rfl) rfl (by omega) (fun c280 => ?_) (fun c280 => ?_)
      ·
        have g3 : whB b (er3 μ n) = 0 := whB_1 c275 (by by_cases q : s5 = 0; exact (er3_x h5 q h4).trans c280; exact er3_k h5 q)
        refine v_iconst (pc := 292) h (dk dt_X12_errors 152 rfl) ?_
        refine v_iadd (pc := 293) h (dk dt_X12_errors 153 rfl) ?_
        refine v_istore_n (lv' := [(1, _), (5, _), (4, _), (2, _), (0, _)]) (pc := 294) h (dk dt_X12_errors 154 rfl) (Nat.le_of_ble_eq_true rfl) rfl ?_
        exact VV.loc (lv' := [(1, _), (5, _), (2, _), (0, _)]) (go295 _ b s5 fM hb h5) ⟨lvI (by omega), rfl, rfl, rfl, trivial⟩
      ·
        refine v_iload (pc := 283) h (dk dt_X12_errors 148 rfl) rfl ?_
        refine v_if_ne (pc := 285) h 292 (dk dt_X12_errors 149 rfl) rfl (by omega) (fun c285 => ?_) (fun c285 => ?_)
        ·
          have g3 : whB b (er3 μ n) = 0 := whB_1 c275 (er3_k h5 c285)
          refine v_iconst (pc := 292) h (dk dt_X12_errors 152 rfl) ?_
          refine v_iadd (pc := 293) h (dk dt_X12_errors 153 rfl) ?_
          refine v_istore_n (lv' := [(1, _), (5, _), (4, _), (2, _), (0, _)]) (pc := 294) h (dk dt_X12_errors 154 rfl) (Nat.le_of_ble_eq_true rfl) rfl ?_
          exact VV.loc (lv' := [(1, _), (5, _), (2, _), (0, _)]) (go295 _ b s5 fM hb h5) ⟨lvI (by omega), rfl, rfl, rfl, trivial⟩
        ·
          have g3 : whB b (er3 μ n) = 1 := whB_1 c275 ((er3_x h5 c285 h4).trans (by omega))
          refine v_iconst (pc := 288) h (dk dt_X12_errors 150 rfl) ?_
          refine v_goto (pc := 289) h 293 (dk dt_X12_errors 151 rfl) rfl ?_
          refine v_iadd (pc := 293) h (dk dt_X12_errors 153 rfl) ?_
          refine v_istore_n (lv' := [(1, _), (5, _), (4, _), (2, _), (0, _)]) (pc := 294) h (dk dt_X12_errors 154 rfl) (Nat.le_of_ble_eq_true rfl) rfl ?_
          exact VV.loc (lv' := [(1, _), (5, _), (2, _), (0, _)]) (go295 _ b s5 fM hb h5) ⟨lvI (by omega), rfl, rfl, rfl, trivial⟩
  -- the nine rules
  have go92 : ∀ (d r : Nat) (M : Mm) (b s4 s5 : Int), r + d = 9 → frX μ M → bzy M ((fnF (jm μ) n (kE μ 3) (μ 27 3)).1 7) ((fnF (jm μ) n (kE μ 3) (μ 27 3)).1 6 6) → isB b (¬ smW (μ 11) n) → isB s4 (smD μ n r = true) → (s5 = 0 ∨ s5 = 1) → (7 ≤ r → isB s5 (lateE (jm μ) n (kE μ 6) (μ 27 3) = 0)) → VV a B (SP B D E M) 0 0 92 [(6, iI (r : Int)), (5, iI s5), (4, iI s4), (3, iI (sumE (jm μ) n (kE μ 3) (μ 27 3))), (2, iI b), (1, iI 0), (0, .ref (pl B 123))] [] := by
    intro d
    induction d with
    | zero =>
      intro r M b s4 s5 hr fM hz hb h4 h501 h5
      have e : r = 9 := by omega
      subst e
      refine v_iload (pc := 92) h (dk dt_X12_errors 51 rfl) rfl ?_
      refine v_bipush (pc := 94) h (dk dt_X12_errors 52 rfl) rfl ?_
      refine v_icmp_ge (pc := 96) h 273 (dk dt_X12_errors 53 rfl) rfl (by omega) (fun c96 => ?_) (fun c96 => ?_)
      ·
        exact VV.loc (lv' := [(5, _), (4, _), (2, _), (1, _), (0, _)]) (go273 _ b s4 s5 fM hb h4 (h5 (by omega))) ⟨rfl, rfl, rfl, rfl, rfl, trivial⟩
      ·
        exact absurd c96 (by omega)
    | succ d ih =>
      intro r M b s4 s5 hr fM hz hb h4 h501 h5
      have hokr := hok (r : Int) (by omega)
      have hfn := fn_is (K := kE μ (r : Int)) hD hokr (z := μ 27 3)
      have htt := t_le hD hfn.1
      have ht0 : 0 ≤ (fnF (jm μ) n (kE μ (r : Int)) (μ 27 3)).1 6 6 := hfn.1.1.1
      have hby := fn_busy (K := kE μ (r : Int)) (K' := kE μ (r : Int)) (z := μ 27 3) (z' := μ 27 3) hD hokr hokr rfl rfl
      have hmul : 0 ≤ (n : Int) * μ 27 0 ∧ (n : Int) * μ 27 0 ≤ 12 * 20 := ⟨Int.mul_nonneg (by omega) (by omega), Int.mul_le_mul (by omega) (by omega) (by omega) (by decide)⟩
      have hsub : ((n : Int) - 1) * μ 27 0 = (n : Int) * μ 27 0 - μ 27 0 := by rw [Int.sub_mul, Int.one_mul]
      have hs27 := hOW.1
      -- the jobs of RING
      have go189 : ∀ (M' : Mm) (s4 s5 : Int), frX μ M' → bzy M' ((fnF (jm μ) n (kE μ 3) (μ 27 3)).1 7) ((fnF (jm μ) n (kE μ 3) (μ 27 3)).1 6 6) → mR n (kE μ (r : Int)) (jm μ) (μ 27 3) M' → isB s4 (smD μ n (r + 1) = true) → (s5 = 0 ∨ s5 = 1) → (7 ≤ r + 1 → isB s5 (lateE (jm μ) n (kE μ 6) (μ 27 3) = 0)) → ∀ (d2 j : Nat), j + d2 = n → VV a B (SP B D E M') 0 0 189 [(7, iI (j : Int)), (6, iI (r : Int)), (5, iI s5), (4, iI s4), (3, iI (sumE (jm μ) n (kE μ 3) (μ 27 3))), (2, iI b), (1, iI 0), (0, .ref (pl B 123))] [] := by
        intro M' s4 s5 f' z' hR h4 h501 h5
        obtain ⟨T, hT⟩ : ∃ T : Nat, (fnF (jm μ) n (kE μ (r : Int)) (μ 27 3)).1 6 6 = (T : Int) := ⟨((fnF (jm μ) n (kE μ (r : Int)) (μ 27 3)).1 6 6).toNat, by omega⟩
        have h33 : M' 123 33 = (T : Int) := hR.2.trans hT
        have hlog : ∀ t : Nat, t < T → M' 140 t = (fnF (jm μ) n (kE μ (r : Int)) (μ 27 3)).1 7 t := fun t ht => hR.1.2.2.2.2.1 t (by rw [hT]; omega)
        have hlb : ∀ t : Nat, t < T → -2 ≤ M' 140 t ∧ M' 140 t < 12 := fun t ht => by have := (hby.2 t (by rw [hT]; omega)).2; rw [hlog t ht]; omega
        have hring := fun (e : (r : Int) = 0) (j : Nat) (hj : j < n) => ring_gap (K := kE μ (r : Int)) (z := μ 27 3) (g := M' 140) (T := T) hD hokr ((show kE μ (r : Int) 0 = (r : Int) from rfl).trans e) rfl hj hT hlog
        have hfirst := fun (j : Nat) (hj : j < n) => first_in (K := kE μ (r : Int)) (z := μ 27 3) (g := M' 140) (T := T) hD hokr rfl hj hT hlog
        have hnM' : M' 1 9 = (n : Int) := by rw [f'.1 1 (by omega) (by omega)]; exact hn
        have e9' := eqJ_n (frX_E f' hE) hnM'
        have e10' : M' 123 10 = μ 27 0 := by rw [(frX_W f' hW).1, f'.1 27 (by omega) (by omega)]
        have hT2 : T ≤ 2304 := by omega
        intro d2
        induction d2 with
        | zero =>
          intro j hj
          refine v_iload (pc := 189) h (dk dt_X12_errors 102 rfl) rfl ?_
          refine v_aload_n (pc := 191) h (dk dt_X12_errors 103 rfl) rfl ?_
          refine v_geti (pc := 192) h ci12 sh123 (Nat.le_of_ble_eq_true rfl) (j := 9) wF_X12_108 rfl (dk dt_X12_errors 104 rfl) ?_
          rw [e9']
          refine v_icmp_ge (pc := 195) h 267 (dk dt_X12_errors 105 rfl) rfl (by omega) (fun c195 => ?_) (fun c195 => ?_)
          ·
            refine v_iinc (lv' := [(6, _), (7, _), (5, _), (4, _), (3, _), (2, _), (1, _), (0, _)]) (pc := 267) h (dk dt_X12_errors 141 rfl) rfl (Nat.le_of_ble_eq_true rfl) rfl ?_
            refine v_goto (pc := 270) h 92 (dk dt_X12_errors 142 rfl) rfl ?_
            exact VV.loc (lv' := [(6, _), (5, _), (4, _), (3, _), (2, _), (1, _), (0, _)]) (ih (r + 1) M' b s4 s5 (by omega) f' z' hb h4 h501 h5) ⟨rfl, rfl, rfl, rfl, rfl, rfl, rfl, trivial⟩
          ·
            exact absurd c195 (by omega)
        | succ d2 ih2 =>
          intro j hj
          have hgj := fun e : (r : Int) = 0 => hring e j (by omega)
          have hfj := hfirst j (by omega)
          obtain ⟨q1, -, -, q4⟩ := fst_is (M' 140) (j : Int) T 0
          have q4 := q4 (by omega)
          have hgl := gap_0 (M' 140) (j : Int) (fstW (M' 140) (j : Int) T 0) (T - fstW (M' 140) (j : Int) T 0)
          have hgl2 := (gpS_le (g := M' 140) (j := (j : Int)) (f := fstW (M' 140) (j : Int) T 0) (T - fstW (M' 140) (j : Int) T 0)).2.2
          rw [← hgl] at hgl2
          clear hgl
          generalize fstW (M' 140) (j : Int) T 0 = F at *
          have hgj := fun e => (show gapJ (M' 140) (j : Int) (T - F) F (F : Int) 0 ≤ ((n : Int) - 1) * μ 27 0 from hgj e)
          have go206 : (r : Int) = 0 → ∀ (d3 p : Nat), p + d3 = F → VV a B (SP B D E M') 0 0 206 [(8, iI (p : Int)), (7, iI (j : Int)), (6, iI (r : Int)), (5, iI s5), (4, iI s4), (3, iI (sumE (jm μ) n (kE μ 3) (μ 27 3))), (2, iI b), (1, iI 0), (0, .ref (pl B 123))] [] := by
            intro e0 d3
            have hgj := hgj e0
            induction d3 with
            | zero =>
              intro p hp
              have ep : p = F := by omega
              subst ep
              have hlp := hlb p (by omega)
              refine v_aload_n (pc := 206) h (dk dt_X12_errors 110 rfl) rfl ?_
              refine v_getr (pc := 207) h ci12 sh123 (Nat.le_of_ble_eq_true rfl) (j := 26) wF_X12_71 rfl (dk dt_X12_errors 111 rfl) ?_
              refine v_iload (pc := 210) h (dk dt_X12_errors 112 rfl) rfl ?_
              refine v_iald (pc := 212) h sh140 (Nat.le_of_ble_eq_true rfl) (by omega) (dk dt_X12_errors 113 rfl) ?_
              rw [Int.toNat_natCast]
              refine v_iload (pc := 213) h (dk dt_X12_errors 114 rfl) rfl ?_
              refine v_icmp_eq (pc := 215) h 224 (dk dt_X12_errors 115 rfl) rfl (by omega) (fun c215 => ?_) (fun c215 => ?_)
              ·
                refine v_iload_n (pc := 224) h (dk dt_X12_errors 118 rfl) rfl ?_
                refine v_aload_n (pc := 225) h (dk dt_X12_errors 119 rfl) rfl ?_
                refine v_getr (pc := 226) h ci12 sh123 (Nat.le_of_ble_eq_true rfl) (j := 26) wF_X12_71 rfl (dk dt_X12_errors 120 rfl) ?_
                refine v_aload_n (pc := 229) h (dk dt_X12_errors 121 rfl) rfl ?_
                refine v_geti (pc := 230) h ci12 sh123 (Nat.le_of_ble_eq_true rfl) (j := 33) wF_X12_207 rfl (dk dt_X12_errors 122 rfl) ?_
                rw [h33]
                refine v_iload (pc := 233) h (dk dt_X12_errors 123 rfl) rfl ?_
                refine v_iload (pc := 235) h (dk dt_X12_errors 124 rfl) rfl ?_
                refine v_cSi (pc := 237) h (c_X12_longest2 (T := T) (j := j) (f := p) h.quiet (by omega) hlb (by omega) (by omega)) kv_X12_longest wM_X12_231 rfl rfl (Nat.le_of_ble_eq_true rfl) (RM.of rfl) rfl rfl (dk dt_X12_errors 125 rfl) ?_
                refine v_aload_n (pc := 240) h (dk dt_X12_errors 126 rfl) rfl ?_
                refine v_geti (pc := 241) h ci12 sh123 (Nat.le_of_ble_eq_true rfl) (j := 9) wF_X12_108 rfl (dk dt_X12_errors 127 rfl) ?_
                rw [e9']
                refine v_iconst (pc := 244) h (dk dt_X12_errors 128 rfl) ?_
                refine v_isub (pc := 245) h (dk dt_X12_errors 129 rfl) ?_
                refine v_aload_n (pc := 246) h (dk dt_X12_errors 130 rfl) rfl ?_
                refine v_geti (pc := 247) h ci12 sh123 (Nat.le_of_ble_eq_true rfl) (j := 10) wF_X12_37 rfl (dk dt_X12_errors 131 rfl) ?_
                rw [e10']
                refine v_imul (pc := 250) h (dk dt_X12_errors 132 rfl) ?_
                refine v_icmp_le (pc := 251) h 258 (dk dt_X12_errors 133 rfl) rfl (by omega) (fun c251 => ?_) (fun c251 => ?_)
                ·
                  refine v_iconst (pc := 258) h (dk dt_X12_errors 136 rfl) ?_
                  refine v_iadd (pc := 259) h (dk dt_X12_errors 137 rfl) ?_
                  refine v_istore_n (lv' := [(1, _), (8, _), (7, _), (6, _), (5, _), (4, _), (3, _), (2, _), (0, _)]) (pc := 260) h (dk dt_X12_errors 138 rfl) (Nat.le_of_ble_eq_true rfl) rfl ?_
                  refine v_iinc (lv' := [(7, _), (1, _), (8, _), (6, _), (5, _), (4, _), (3, _), (2, _), (0, _)]) (pc := 261) h (dk dt_X12_errors 139 rfl) rfl (Nat.le_of_ble_eq_true rfl) rfl ?_
                  refine v_goto (pc := 264) h 189 (dk dt_X12_errors 140 rfl) rfl ?_
                  exact VV.loc (lv' := [(7, _), (6, _), (5, _), (4, _), (3, _), (2, _), (1, _), (0, _)]) (ih2 (j + 1) (by omega)) ⟨rfl, rfl, rfl, rfl, rfl, rfl, rfl, rfl, trivial⟩
                ·
                  exact absurd hgj (by omega)
              ·
                exact absurd q4 c215
            | succ d3 ih3 =>
              intro p hp
              have q1p := q1 p (by omega) (by omega)
              have hlp := hlb p (by omega)
              refine v_aload_n (pc := 206) h (dk dt_X12_errors 110 rfl) rfl ?_
              refine v_getr (pc := 207) h ci12 sh123 (Nat.le_of_ble_eq_true rfl) (j := 26) wF_X12_71 rfl (dk dt_X12_errors 111 rfl) ?_
              refine v_iload (pc := 210) h (dk dt_X12_errors 112 rfl) rfl ?_
              refine v_iald (pc := 212) h sh140 (Nat.le_of_ble_eq_true rfl) (by omega) (dk dt_X12_errors 113 rfl) ?_
              rw [Int.toNat_natCast]
              refine v_iload (pc := 213) h (dk dt_X12_errors 114 rfl) rfl ?_
              refine v_icmp_eq (pc := 215) h 224 (dk dt_X12_errors 115 rfl) rfl (by omega) (fun c215 => ?_) (fun c215 => ?_)
              ·
                exact absurd c215 q1p
              ·
                refine v_iinc (lv' := [(8, _), (7, _), (6, _), (5, _), (4, _), (3, _), (2, _), (1, _), (0, _)]) (pc := 218) h (dk dt_X12_errors 116 rfl) rfl (Nat.le_of_ble_eq_true rfl) rfl ?_
                refine v_goto (pc := 221) h 206 (dk dt_X12_errors 117 rfl) rfl ?_
                exact VV.loc (lv' := [(8, _), (7, _), (6, _), (5, _), (4, _), (3, _), (2, _), (1, _), (0, _)]) (ih3 (p + 1) (by omega)) ⟨rfl, rfl, rfl, rfl, rfl, rfl, rfl, rfl, rfl, trivial⟩
          refine v_iload (pc := 189) h (dk dt_X12_errors 102 rfl) rfl ?_
          refine v_aload_n (pc := 191) h (dk dt_X12_errors 103 rfl) rfl ?_
          refine v_geti (pc := 192) h ci12 sh123 (Nat.le_of_ble_eq_true rfl) (j := 9) wF_X12_108 rfl (dk dt_X12_errors 104 rfl) ?_
          rw [e9']
          refine v_icmp_ge (pc := 195) h 267 (dk dt_X12_errors 105 rfl) rfl (by omega) (fun c195 => ?_) (fun c195 => ?_)
          ·
            exact absurd c195 (by omega)
          ·
            refine v_iload (pc := 198) h (dk dt_X12_errors 106 rfl) rfl ?_
            refine v_if_ne (pc := 200) h 267 (dk dt_X12_errors 107 rfl) rfl (by omega) (fun c200 => ?_) (fun c200 => ?_)
            ·
              refine v_iinc (lv' := [(6, _), (7, _), (5, _), (4, _), (3, _), (2, _), (1, _), (0, _)]) (pc := 267) h (dk dt_X12_errors 141 rfl) rfl (Nat.le_of_ble_eq_true rfl) rfl ?_
              refine v_goto (pc := 270) h 92 (dk dt_X12_errors 142 rfl) rfl ?_
              exact VV.loc (lv' := [(6, _), (5, _), (4, _), (3, _), (2, _), (1, _), (0, _)]) (ih (r + 1) M' b s4 s5 (by omega) f' z' hb h4 h501 h5) ⟨rfl, rfl, rfl, rfl, rfl, rfl, rfl, trivial⟩
            ·
              refine v_iconst (pc := 203) h (dk dt_X12_errors 108 rfl) ?_
              refine v_istore (lv' := [(8, _), (7, _), (6, _), (5, _), (4, _), (3, _), (2, _), (1, _), (0, _)]) (pc := 204) h (dk dt_X12_errors 109 rfl) (Nat.le_of_ble_eq_true rfl) rfl ?_
              exact VV.loc (lv' := [(8, _), (7, _), (6, _), (5, _), (4, _), (3, _), (2, _), (1, _), (0, _)]) (go206 (by omega) F 0 (by omega)) ⟨rfl, rfl, rfl, rfl, rfl, rfl, rfl, rfl, rfl, trivial⟩
      -- are the deadlines kept
      have hlk : ∀ M', frX μ M' → mR n (kE μ (r : Int)) (jm μ) (μ 27 3) M' → M' 123 9 = (n : Int) ∧ M' 126 = jm μ 2 := fun M' f' hR => by
        have hnM' : M' 1 9 = (n : Int) := by rw [f'.1 1 (by omega) (by omega)]; exact hn
        refine ⟨eqJ_n (frX_E f' hE) hnM', ?_⟩
        rw [(frX_E f' hE).1.2.2.1, f'.1 7 (by omega) (by omega)]
        rfl
      have go168 : ∀ (M' : Mm) (s4 : Int), frX μ M' → bzy M' ((fnF (jm μ) n (kE μ 3) (μ 27 3)).1 7) ((fnF (jm μ) n (kE μ 3) (μ 27 3)).1 6 6) → mR n (kE μ (r : Int)) (jm μ) (μ 27 3) M' → isB s4 (smD μ n (r + 1) = true) → VV a B (SP B D E M') 0 0 168 [(4, iI s4), (6, iI (r : Int)), (5, iI s5), (3, iI (sumE (jm μ) n (kE μ 3) (μ 27 3))), (2, iI b), (1, iI 0), (0, .ref (pl B 123))] [] := by
        intro M' s4 f' z' hR h4
        have hlk' := hlk M' f' hR
        refine v_iload (pc := 168) h (dk dt_X12_errors 92 rfl) rfl ?_
        refine v_bipush (pc := 170) h (dk dt_X12_errors 93 rfl) rfl ?_
        refine v_icmp_ne (pc := 172) h 182 (dk dt_X12_errors 94 rfl) rfl (by omega) (fun c172 => ?_) (fun c172 => ?_)
        ·
          refine v_iload (pc := 182) h (dk dt_X12_errors 98 rfl) rfl ?_
          refine v_istore (lv' := [(5, _), (4, _), (6, _), (3, _), (2, _), (1, _), (0, _)]) (pc := 184) h (dk dt_X12_errors 99 rfl) (Nat.le_of_ble_eq_true rfl) rfl ?_
          refine v_iconst (pc := 186) h (dk dt_X12_errors 100 rfl) ?_
          refine v_istore (lv' := [(7, _), (5, _), (4, _), (6, _), (3, _), (2, _), (1, _), (0, _)]) (pc := 187) h (dk dt_X12_errors 101 rfl) (Nat.le_of_ble_eq_true rfl) rfl ?_
          first
            | exact VV.loc (lv' := [(7, _), (6, _), (5, _), (4, _), (3, _), (2, _), (1, _), (0, _)]) (go189 M' s4 s5 f' z' hR h4 h501 (fun q => h5 (by omega)) n 0 (by omega)) ⟨rfl, rfl, rfl, rfl, rfl, rfl, rfl, rfl, trivial⟩
            | (rw [e6] at hq; exact VV.loc (lv' := [(7, _), (6, _), (5, _), (4, _), (3, _), (2, _), (1, _), (0, _)]) (go189 M' s4 x f' z' hR h4 (by omega) (fun _ => hq) n 0 (by omega)) ⟨rfl, rfl, rfl, rfl, rfl, rfl, rfl, rfl, trivial⟩)
        ·
          have e6 : (r : Int) = 6 := by omega
          refine v_aload_n (pc := 175) h (dk dt_X12_errors 95 rfl) rfl ?_
          refine v_cVi (pc := 176) h (c_X12_areKept (n := n) (J := jm μ) (K := kE μ (r : Int)) (z := μ 27 3) h.quiet hlk'.1 hD hlk'.2 hd7 hokr hR) kv_X12_areKept sh123 wM_X12_254 rfl rfl (Nat.le_of_ble_eq_true rfl) (RM.of rfl) rfl rfl (dk dt_X12_errors 96 rfl) ?_
          have hq := isB_ite (p := lateE (jm μ) n (kE μ (r : Int)) (μ 27 3) = 0)
          generalize (if lateE (jm μ) n (kE μ (r : Int)) (μ 27 3) = 0 then (1 : Int) else 0) = x at *
          refine v_goto (pc := 179) h 184 (dk dt_X12_errors 97 rfl) rfl ?_
          refine v_istore (lv' := [(5, _), (4, _), (6, _), (3, _), (2, _), (1, _), (0, _)]) (pc := 184) h (dk dt_X12_errors 99 rfl) (Nat.le_of_ble_eq_true rfl) rfl ?_
          refine v_iconst (pc := 186) h (dk dt_X12_errors 100 rfl) ?_
          refine v_istore (lv' := [(7, _), (5, _), (4, _), (6, _), (3, _), (2, _), (1, _), (0, _)]) (pc := 187) h (dk dt_X12_errors 101 rfl) (Nat.le_of_ble_eq_true rfl) rfl ?_
          first
            | exact VV.loc (lv' := [(7, _), (6, _), (5, _), (4, _), (3, _), (2, _), (1, _), (0, _)]) (go189 M' s4 s5 f' z' hR h4 h501 (fun q => h5 (by omega)) n 0 (by omega)) ⟨rfl, rfl, rfl, rfl, rfl, rfl, rfl, rfl, trivial⟩
            | (rw [e6] at hq; exact VV.loc (lv' := [(7, _), (6, _), (5, _), (4, _), (3, _), (2, _), (1, _), (0, _)]) (go189 M' s4 x f' z' hR h4 (by omega) (fun _ => hq) n 0 (by omega)) ⟨rfl, rfl, rfl, rfl, rfl, rfl, rfl, rfl, trivial⟩)
      have go149 : ∀ (M' : Mm), frX μ M' → bzy M' ((fnF (jm μ) n (kE μ 3) (μ 27 3)).1 7) ((fnF (jm μ) n (kE μ 3) (μ 27 3)).1 6 6) → mR n (kE μ (r : Int)) (jm μ) (μ 27 3) M' → VV a B (SP B D E M') 0 0 149 [(1, iI 0), (6, iI (r : Int)), (5, iI s5), (4, iI s4), (3, iI (sumE (jm μ) n (kE μ 3) (μ 27 3))), (2, iI b), (0, .ref (pl B 123))] [] := by
        intro M' f' z' hR
        have hlk' := hlk M' f' hR
        have h401 : s4 = 0 ∨ s4 = 1 := by omega
        have y1 : s4 ≠ 0 → smD μ n (r + 1) = true := fun q => by
          rcases h4 with ⟨-, z⟩ | ⟨z, -⟩
          · simp only [smD]; rw [z]; rfl
          · exact absurd z q
        have y2 : lateE (jm μ) n (kE μ (r : Int)) (μ 27 3) = 0 → smD μ n (r + 1) = true := fun q => by simp only [smD]; rw [decide_eq_true q, Bool.or_true]
        have y3 : s4 = 0 → ¬ lateE (jm μ) n (kE μ (r : Int)) (μ 27 3) = 0 → ¬ smD μ n (r + 1) = true := fun q q2 => by
          rcases h4 with ⟨z, -⟩ | ⟨-, z⟩
          · omega
          · simp only [smD]; rw [decide_eq_false q2, Bool.or_false]; exact z
        refine v_iload (pc := 149) h (dk dt_X12_errors 83 rfl) rfl ?_
        refine v_if_ne (pc := 151) h 161 (dk dt_X12_errors 84 rfl) rfl (by omega) (fun c151 => ?_) (fun c151 => ?_)
        ·
          have gs : isB 1 (smD μ n (r + 1) = true) := Or.inl ⟨rfl, y1 c151⟩
          refine v_iconst (pc := 161) h (dk dt_X12_errors 88 rfl) ?_
          refine v_goto (pc := 162) h 166 (dk dt_X12_errors 89 rfl) rfl ?_
          refine v_istore (lv' := [(4, _), (1, _), (6, _), (5, _), (3, _), (2, _), (0, _)]) (pc := 166) h (dk dt_X12_errors 91 rfl) (Nat.le_of_ble_eq_true rfl) rfl ?_
          exact VV.loc (lv' := [(4, _), (6, _), (5, _), (3, _), (2, _), (1, _), (0, _)]) (go168 M' _ f' z' hR gs) ⟨rfl, rfl, rfl, rfl, rfl, rfl, rfl, trivial⟩
        ·
          refine v_aload_n (pc := 154) h (dk dt_X12_errors 85 rfl) rfl ?_
          refine v_cVi (pc := 155) h (c_X12_areKept (n := n) (J := jm μ) (K := kE μ (r : Int)) (z := μ 27 3) h.quiet hlk'.1 hD hlk'.2 hd7 hokr hR) kv_X12_areKept sh123 wM_X12_254 rfl rfl (Nat.le_of_ble_eq_true rfl) (RM.of rfl) rfl rfl (dk dt_X12_errors 86 rfl) ?_
          have hq := isB_ite (p := lateE (jm μ) n (kE μ (r : Int)) (μ 27 3) = 0)
          generalize (if lateE (jm μ) n (kE μ (r : Int)) (μ 27 3) = 0 then (1 : Int) else 0) = x at *
          refine v_if_eq (pc := 158) h 165 (dk dt_X12_errors 87 rfl) rfl (by omega) (fun c158 => ?_) (fun c158 => ?_)
          ·
            have gs : isB 0 (smD μ n (r + 1) = true) := Or.inr ⟨rfl, y3 c151 (fun q => by rcases hq with z | z; omega; exact z.2 q)⟩
            refine v_iconst (pc := 165) h (dk dt_X12_errors 90 rfl) ?_
            refine v_istore (lv' := [(4, _), (1, _), (6, _), (5, _), (3, _), (2, _), (0, _)]) (pc := 166) h (dk dt_X12_errors 91 rfl) (Nat.le_of_ble_eq_true rfl) rfl ?_
            exact VV.loc (lv' := [(4, _), (6, _), (5, _), (3, _), (2, _), (1, _), (0, _)]) (go168 M' _ f' z' hR gs) ⟨rfl, rfl, rfl, rfl, rfl, rfl, rfl, trivial⟩
          ·
            have gs : isB 1 (smD μ n (r + 1) = true) := Or.inl ⟨rfl, y2 (by rcases hq with z | z; exact z.2; omega)⟩
            refine v_iconst (pc := 161) h (dk dt_X12_errors 88 rfl) ?_
            refine v_goto (pc := 162) h 166 (dk dt_X12_errors 89 rfl) rfl ?_
            refine v_istore (lv' := [(4, _), (1, _), (6, _), (5, _), (3, _), (2, _), (0, _)]) (pc := 166) h (dk dt_X12_errors 91 rfl) (Nat.le_of_ble_eq_true rfl) rfl ?_
            exact VV.loc (lv' := [(4, _), (6, _), (5, _), (3, _), (2, _), (1, _), (0, _)]) (go168 M' _ f' z' hR gs) ⟨rfl, rfl, rfl, rfl, rfl, rfl, rfl, trivial⟩
      have hEM := frX_E fM hE
      have hWM := frX_W fM hW
      have hOM := frX_O fM hO
      have hnM : M 1 9 = (n : Int) := by rw [fM.1 1 (by omega) (by omega)]; exact hn
      have jm1 : jm M = jm μ := jm_c (fun a q => fM.1 a (by omega) (by omega))
      have e27 : M 27 = μ 27 := fM.1 27 (by omega) (by omega)
      have hb01 : b = 0 ∨ b = 1 := by omega
      have hsr := hsb (r : Int) (by omega)
      have hs3 := hsb 3 (by omega)
      have hls : b ≠ 0 → sumE (jm μ) n (kE μ 3) (μ 27 3) ≤ sumE (jm μ) n (kE μ (r : Int)) (μ 27 3) := fun q => fn_least (K := kE μ 3) (K' := kE μ (r : Int)) (z := μ 27 3) (z' := μ 27 3) hD (hok 3 (by omega)) hokr rfl rfl rfl (fun j hj => by
        rcases hb with z | z
        · by_cases e : μ 11 j = 0
          · exact e
          · exact absurd ⟨j, hj, e⟩ z.2
        · omega)
      refine v_iload (pc := 92) h (dk dt_X12_errors 51 rfl) rfl ?_
      refine v_bipush (pc := 94) h (dk dt_X12_errors 52 rfl) rfl ?_
      refine v_icmp_ge (pc := 96) h 273 (dk dt_X12_errors 53 rfl) rfl (by omega) (fun c96 => ?_) (fun c96 => ?_)
      ·
        exact absurd c96 (by omega)
      ·
        refine v_aload_n (pc := 99) h (dk dt_X12_errors 54 rfl) rfl ?_
        refine v_iload (pc := 100) h (dk dt_X12_errors 55 rfl) rfl ?_
        refine v_aload_n (pc := 102) h (dk dt_X12_errors 56 rfl) rfl ?_
        refine v_geti (pc := 103) h ci12 sh123 (Nat.le_of_ble_eq_true rfl) (j := 10) wF_X12_37 rfl (dk dt_X12_errors 57 rfl) ?_
        rw [hWM.1, e27]
        refine v_iconst (pc := 106) h (dk dt_X12_errors 58 rfl) ?_
        refine v_aload_n (pc := 107) h (dk dt_X12_errors 59 rfl) rfl ?_
        refine v_geti (pc := 108) h ci12 sh123 (Nat.le_of_ble_eq_true rfl) (j := 15) wF_X12_135 rfl (dk dt_X12_errors 60 rfl) ?_
        rw [hWM.2.2.2.2, e27]
        refine v_cV (pc := 111) h (c_mrun (n := n) h.quiet hEM hWM hOM hnM (by omega) hOW.1 (by omega) hOW.2.2.2) kv_X12_runs sh123 wM_X12_210 rfl rfl (Nat.le_of_ble_eq_true rfl) (RM.of rfl) rfl rfl (dk dt_X12_errors 61 rfl) (fun v111 μ111 p111 => ?_)
        obtain ⟨rfl, f111, b111, e111⟩ := p111
        rw [e27, jm1] at b111 e111
        have hR : mR n (kE μ (r : Int)) (jm μ) (μ 27 3) μ111 := ⟨b111, e111⟩
        have f2 := frX_tr fM (frX_of f111)
        have z2 := bzy_k f111 hz
        have hl2 := hlk μ111 f2 hR
        refine v_iload_n (pc := 114) h (dk dt_X12_errors 62 rfl) rfl ?_
        refine v_aload_n (pc := 115) h (dk dt_X12_errors 63 rfl) rfl ?_
        refine v_cVi (pc := 116) h (c_X12_isLikeBusy (K := kE μ (r : Int)) (K0 := kE μ 3) (n := n) (J := jm μ) (z := μ 27 3) (z0 := μ 27 3) h.quiet hD hokr (hok 3 (by omega)) rfl rfl hR z2) kv_X12_isLikeBusy sh123 wM_X12_278 rfl rfl (Nat.le_of_ble_eq_true rfl) (RM.of rfl) rfl rfl (dk dt_X12_errors 64 rfl) ?_
        refine v_if_eq (pc := 119) h 126 (dk dt_X12_errors 65 rfl) rfl (by omega) (fun c119 => ?_) (fun c119 => ?_)
        ·
          exact absurd c119 (by decide)
        ·
          refine v_iconst (pc := 122) h (dk dt_X12_errors 66 rfl) ?_
          refine v_goto (pc := 123) h 127 (dk dt_X12_errors 67 rfl) rfl ?_
          refine v_iadd (pc := 127) h (dk dt_X12_errors 69 rfl) ?_
          refine v_istore_n (lv' := [(1, _), (6, _), (5, _), (4, _), (3, _), (2, _), (0, _)]) (pc := 128) h (dk dt_X12_errors 70 rfl) (Nat.le_of_ble_eq_true rfl) rfl ?_
          refine v_iload_n (pc := 129) h (dk dt_X12_errors 71 rfl) rfl ?_
          refine v_iload_n (pc := 130) h (dk dt_X12_errors 72 rfl) rfl ?_
          refine v_if_eq (pc := 131) h 146 (dk dt_X12_errors 73 rfl) rfl (by omega) (fun c131 => ?_) (fun c131 => ?_)
          ·
            refine v_iconst (pc := 146) h (dk dt_X12_errors 80 rfl) ?_
            refine v_iadd (pc := 147) h (dk dt_X12_errors 81 rfl) ?_
            refine v_istore_n (lv' := [(1, _), (6, _), (5, _), (4, _), (3, _), (2, _), (0, _)]) (pc := 148) h (dk dt_X12_errors 82 rfl) (Nat.le_of_ble_eq_true rfl) rfl ?_
            exact VV.loc (lv' := [(1, _), (6, _), (5, _), (4, _), (3, _), (2, _), (0, _)]) (go149 μ111 f2 z2 hR) ⟨rfl, rfl, rfl, rfl, rfl, rfl, rfl, trivial⟩
          ·
            refine v_aload_n (pc := 134) h (dk dt_X12_errors 74 rfl) rfl ?_
            refine v_cVi (pc := 135) h (c_X12_sumOfWork (K := kE μ (r : Int)) (n := n) (J := jm μ) (z := μ 27 3) h.quiet hl2.1 hD hokr hR) kv_X12_sumOfWork sh123 wM_X12_242 rfl rfl (Nat.le_of_ble_eq_true rfl) (RM.of rfl) rfl rfl (dk dt_X12_errors 75 rfl) ?_
            refine v_iload_n (pc := 138) h (dk dt_X12_errors 76 rfl) rfl ?_
            refine v_icmp_ge (pc := 139) h 146 (dk dt_X12_errors 77 rfl) rfl (by omega) (fun c139 => ?_) (fun c139 => ?_)
            ·
              refine v_iconst (pc := 146) h (dk dt_X12_errors 80 rfl) ?_
              refine v_iadd (pc := 147) h (dk dt_X12_errors 81 rfl) ?_
              refine v_istore_n (lv' := [(1, _), (6, _), (5, _), (4, _), (3, _), (2, _), (0, _)]) (pc := 148) h (dk dt_X12_errors 82 rfl) (Nat.le_of_ble_eq_true rfl) rfl ?_
              exact VV.loc (lv' := [(1, _), (6, _), (5, _), (4, _), (3, _), (2, _), (0, _)]) (go149 μ111 f2 z2 hR) ⟨rfl, rfl, rfl, rfl, rfl, rfl, rfl, trivial⟩
            ·
              exact absurd (hls c131) (by omega)
  -- rule 3, and which moments it works in
  have hok3 := hok 3 (by omega)
  have hfn3 := fn_is (K := kE μ 3) hD hok3 (z := μ 27 3)
  have htt3 := t_le hD hfn3.1
  have ht03 : 0 ≤ (fnF (jm μ) n (kE μ 3) (μ 27 3)).1 6 6 := hfn3.1.1.1
  have hby3 := fn_busy (K := kE μ 3) (K' := kE μ 3) (z := μ 27 3) (z' := μ 27 3) hD hok3 hok3 rfl rfl
  have go45 : ∀ (b : Int), isB b (¬ smW (μ 11) n) → ∀ (d i : Nat) (M : Mm), (i : Int) + d = (fnF (jm μ) n (kE μ 3) (μ 27 3)).1 6 6 → frX μ M → M 123 42 = (fnF (jm μ) n (kE μ 3) (μ 27 3)).1 6 6 → M 123 33 = (fnF (jm μ) n (kE μ 3) (μ 27 3)).1 6 6 → (∀ t : Nat, (t : Int) < (fnF (jm μ) n (kE μ 3) (μ 27 3)).1 6 6 → M 140 t = (fnF (jm μ) n (kE μ 3) (μ 27 3)).1 7 t) → (∀ t : Nat, t < i → ((fnF (jm μ) n (kE μ 3) (μ 27 3)).1 7 t = -1 ∧ M 150 t = 0) ∨ ((fnF (jm μ) n (kE μ 3) (μ 27 3)).1 7 t ≠ -1 ∧ M 150 t = 1)) → VV a B (SP B D E M) 0 0 45 [(4, iI (i : Int)), (3, iI (sumE (jm μ) n (kE μ 3) (μ 27 3))), (2, iI b), (1, iI 0), (0, .ref (pl B 123))] [] := by
    intro b hb d
    induction d with
    | zero =>
      intro i M hi fM h42 h33 hg hall
      refine v_iload (pc := 45) h (dk dt_X12_errors 26 rfl) rfl ?_
      refine v_aload_n (pc := 47) h (dk dt_X12_errors 27 rfl) rfl ?_
      refine v_geti (pc := 48) h ci12 sh123 (Nat.le_of_ble_eq_true rfl) (j := 33) wF_X12_207 rfl (dk dt_X12_errors 28 rfl) ?_
      rw [h33]
      refine v_icmp_ge (pc := 51) h 83 (dk dt_X12_errors 29 rfl) rfl (by omega) (fun c51 => ?_) (fun c51 => ?_)
      ·
        refine v_iconst (pc := 83) h (dk dt_X12_errors 45 rfl) ?_
        refine v_istore (lv' := [(4, _), (3, _), (2, _), (1, _), (0, _)]) (pc := 84) h (dk dt_X12_errors 46 rfl) (Nat.le_of_ble_eq_true rfl) rfl ?_
        refine v_iconst (pc := 86) h (dk dt_X12_errors 47 rfl) ?_
        refine v_istore (lv' := [(5, _), (4, _), (3, _), (2, _), (1, _), (0, _)]) (pc := 87) h (dk dt_X12_errors 48 rfl) (Nat.le_of_ble_eq_true rfl) rfl ?_
        refine v_iconst (pc := 89) h (dk dt_X12_errors 49 rfl) ?_
        refine v_istore (lv' := [(6, _), (5, _), (4, _), (3, _), (2, _), (1, _), (0, _)]) (pc := 90) h (dk dt_X12_errors 50 rfl) (Nat.le_of_ble_eq_true rfl) rfl ?_
        exact VV.loc (lv' := [(6, _), (5, _), (4, _), (3, _), (2, _), (1, _), (0, _)]) (go92 9 0 M b 0 0 (by omega) fM ⟨h42, fun t ht => hall t (by omega)⟩ hb (Or.inr ⟨rfl, fun z => absurd (show false = true from z) (by decide)⟩) (Or.inl rfl) (fun q => absurd q (by omega))) ⟨rfl, rfl, rfl, rfl, rfl, rfl, rfl, trivial⟩
      ·
        exact absurd c51 (by omega)
    | succ d ih =>
      intro i M hi fM h42 h33 hg hall
      have hgi := hg i (by omega)
      have hbi := (hby3.2 i (by omega)).2
      have hnx : ∀ x : Int, (((fnF (jm μ) n (kE μ 3) (μ 27 3)).1 7 i = -1 ∧ x = 0) ∨ ((fnF (jm μ) n (kE μ 3) (μ 27 3)).1 7 i ≠ -1 ∧ x = 1)) → ∀ t : Nat, t < i + 1 → ((fnF (jm μ) n (kE μ 3) (μ 27 3)).1 7 t = -1 ∧ mup M 150 i x 150 t = 0) ∨ ((fnF (jm μ) n (kE μ 3) (μ 27 3)).1 7 t ≠ -1 ∧ mup M 150 i x 150 t = 1) := fun x hx t ht => by
        by_cases e : t = i
        · rw [e, mup_eq]; exact hx
        · rw [mup_ne (fun z => e z.2)]; exact hall t (by omega)
      have hnext := fun (x : Int) hx => ih (i + 1) (mup M 150 i x) (by omega) (frX_150 fM) (by rw [mup_nk (show 123 ≠ 150 by decide)]; exact h42) (by rw [mup_nk (show 123 ≠ 150 by decide)]; exact h33) (fun t ht => by rw [mup_nk (show 140 ≠ 150 by decide)]; exact hg t ht) (hnx x hx)
      refine v_iload (pc := 45) h (dk dt_X12_errors 26 rfl) rfl ?_
      refine v_aload_n (pc := 47) h (dk dt_X12_errors 27 rfl) rfl ?_
      refine v_geti (pc := 48) h ci12 sh123 (Nat.le_of_ble_eq_true rfl) (j := 33) wF_X12_207 rfl (dk dt_X12_errors 28 rfl) ?_
      rw [h33]
      refine v_icmp_ge (pc := 51) h 83 (dk dt_X12_errors 29 rfl) rfl (by omega) (fun c51 => ?_) (fun c51 => ?_)
      ·
        exact absurd c51 (by omega)
      ·
        refine v_aload_n (pc := 54) h (dk dt_X12_errors 30 rfl) rfl ?_
        refine v_getr (pc := 55) h ci12 sh123 (Nat.le_of_ble_eq_true rfl) (j := 41) wF_X12_102 rfl (dk dt_X12_errors 31 rfl) ?_
        refine v_iload (pc := 58) h (dk dt_X12_errors 32 rfl) rfl ?_
        refine v_aload_n (pc := 60) h (dk dt_X12_errors 33 rfl) rfl ?_
        refine v_getr (pc := 61) h ci12 sh123 (Nat.le_of_ble_eq_true rfl) (j := 26) wF_X12_71 rfl (dk dt_X12_errors 34 rfl) ?_
        refine v_iload (pc := 64) h (dk dt_X12_errors 35 rfl) rfl ?_
        refine v_iald (pc := 66) h sh140 (Nat.le_of_ble_eq_true rfl) (by omega) (dk dt_X12_errors 36 rfl) ?_
        rw [Int.toNat_natCast, hgi]
        refine v_iconst (pc := 67) h (dk dt_X12_errors 37 rfl) ?_
        refine v_icmp_eq (pc := 68) h 75 (dk dt_X12_errors 38 rfl) rfl (by omega) (fun c68 => ?_) (fun c68 => ?_)
        ·
          have hn2 := hnext 0 (Or.inl ⟨c68, rfl⟩)
          refine v_iconst (pc := 75) h (dk dt_X12_errors 41 rfl) ?_
          refine v_zast (pc := 76) h sh150 (Nat.le_of_ble_eq_true rfl) (by omega) (by omega) (dk dt_X12_errors 42 rfl) ?_
          rw [Int.toNat_natCast]
          refine v_iinc (lv' := [(4, _), (3, _), (2, _), (1, _), (0, _)]) (pc := 77) h (dk dt_X12_errors 43 rfl) rfl (Nat.le_of_ble_eq_true rfl) rfl ?_
          refine v_goto (pc := 80) h 45 (dk dt_X12_errors 44 rfl) rfl ?_
          exact VV.loc (lv' := [(4, _), (3, _), (2, _), (1, _), (0, _)]) hn2 ⟨rfl, rfl, rfl, rfl, rfl, trivial⟩
        ·
          have hn2 := hnext 1 (Or.inr ⟨c68, rfl⟩)
          refine v_iconst (pc := 71) h (dk dt_X12_errors 39 rfl) ?_
          refine v_goto (pc := 72) h 76 (dk dt_X12_errors 40 rfl) rfl ?_
          refine v_zast (pc := 76) h sh150 (Nat.le_of_ble_eq_true rfl) (by omega) (by omega) (dk dt_X12_errors 42 rfl) ?_
          rw [Int.toNat_natCast]
          refine v_iinc (lv' := [(4, _), (3, _), (2, _), (1, _), (0, _)]) (pc := 77) h (dk dt_X12_errors 43 rfl) rfl (Nat.le_of_ble_eq_true rfl) rfl ?_
          refine v_goto (pc := 80) h 45 (dk dt_X12_errors 44 rfl) rfl ?_
          exact VV.loc (lv' := [(4, _), (3, _), (2, _), (1, _), (0, _)]) hn2 ⟨rfl, rfl, rfl, rfl, rfl, trivial⟩
  have go15 : ∀ (b : Int), isB b (¬ smW (μ 11) n) → VV a B (SP B D E μ) 0 0 15 [(2, iI b), (1, iI 0), (0, .ref (pl B 123))] [] := by
    intro b hb
    refine v_aload_n (pc := 15) h (dk dt_X12_errors 9 rfl) rfl ?_
    refine v_iconst (pc := 16) h (dk dt_X12_errors 10 rfl) ?_
    refine v_aload_n (pc := 17) h (dk dt_X12_errors 11 rfl) rfl ?_
    refine v_geti (pc := 18) h ci12 sh123 (Nat.le_of_ble_eq_true rfl) (j := 10) wF_X12_37 rfl (dk dt_X12_errors 12 rfl) ?_
    rw [hW.1]
    refine v_iconst (pc := 21) h (dk dt_X12_errors 13 rfl) ?_
    refine v_aload_n (pc := 22) h (dk dt_X12_errors 14 rfl) rfl ?_
    refine v_geti (pc := 23) h ci12 sh123 (Nat.le_of_ble_eq_true rfl) (j := 15) wF_X12_135 rfl (dk dt_X12_errors 15 rfl) ?_
    rw [hW.2.2.2.2]
    refine v_cV (pc := 26) h (c_mrun (n := n) h.quiet hE hW hO hn (by omega) hOW.1 (by omega) hOW.2.2.2) kv_X12_runs sh123 wM_X12_210 rfl rfl (Nat.le_of_ble_eq_true rfl) (RM.of rfl) rfl rfl (dk dt_X12_errors 16 rfl) (fun v26 μ26 p26 => ?_)
    obtain ⟨rfl, f26, b26, e26⟩ := p26
    have hn26 : μ26 1 9 = (n : Int) := by rw [f26.1 1 (by omega) (by omega)]; exact hn
    refine v_aload_n (pc := 29) h (dk dt_X12_errors 17 rfl) rfl ?_
    refine v_cVi (pc := 30) h (c_X12_sumOfWork (K := kE μ 3) (n := n) (J := jm μ) (z := μ 27 3) h.quiet (eqJ_n (frR_E f26 hE) hn26) hD hok3 ⟨b26, e26⟩) kv_X12_sumOfWork sh123 wM_X12_242 rfl rfl (Nat.le_of_ble_eq_true rfl) (RM.of rfl) rfl rfl (dk dt_X12_errors 18 rfl) ?_
    refine v_istore_n (lv' := [(3, _), (2, _), (1, _), (0, _)]) (pc := 33) h (dk dt_X12_errors 19 rfl) (Nat.le_of_ble_eq_true rfl) rfl ?_
    refine v_aload_n (pc := 34) h (dk dt_X12_errors 20 rfl) rfl ?_
    refine v_aload_n (pc := 35) h (dk dt_X12_errors 21 rfl) rfl ?_
    refine v_geti (pc := 36) h ci12 sh123 (Nat.le_of_ble_eq_true rfl) (j := 33) wF_X12_207 rfl (dk dt_X12_errors 22 rfl) ?_
    rw [e26]
    refine v_put (pc := 39) h ci12 sh123 (Nat.le_of_ble_eq_true rfl) (j := 42) wF_X12_272 rfl rfl rfl rfl (dk dt_X12_errors 23 rfl) ?_
    refine v_iconst (pc := 42) h (dk dt_X12_errors 24 rfl) ?_
    refine v_istore (lv' := [(4, _), (3, _), (2, _), (1, _), (0, _)]) (pc := 43) h (dk dt_X12_errors 25 rfl) (Nat.le_of_ble_eq_true rfl) rfl ?_
    exact VV.loc (lv' := [(4, _), (3, _), (2, _), (1, _), (0, _)]) (go45 b hb ((fnF (jm μ) n (kE μ 3) (μ 27 3)).1 6 6).toNat 0 _ (by omega) (frX_42 (frX_of f26)) (mup_eq _ _ _ _) (by rw [mup_ne (by omega)]; exact e26) (fun t ht => by rw [mup_nk (show 140 ≠ 123 by decide)]; exact b26.2.2.2.2.1 t ht) (fun t ht => absurd ht (by omega))) ⟨rfl, rfl, rfl, rfl, rfl, trivial⟩
  refine v_iconst (pc := 0) h (dk dt_X12_errors 0 rfl) ?_
  refine v_istore_n (lv' := [(1, _), (0, _)]) (pc := 1) h (dk dt_X12_errors 1 rfl) (Nat.le_of_ble_eq_true rfl) rfl ?_
  refine v_aload_n (pc := 2) h (dk dt_X12_errors 2 rfl) rfl ?_
  refine v_cVi (pc := 3) h (c_X12_isAnyWaiting (n := n) h.quiet hE hO hn) kv_X12_isAnyWaiting sh123 wM_X12_248 rfl rfl (Nat.le_of_ble_eq_true rfl) (RM.of rfl) rfl rfl (dk dt_X12_errors 3 rfl) ?_
  have hw := isB_ite (p := smW (μ 11) n)
  generalize (if smW (μ 11) n then (1 : Int) else 0) = x at *
  refine v_if_ne (pc := 6) h 13 (dk dt_X12_errors 4 rfl) rfl (by omega) (fun c6 => ?_) (fun c6 => ?_)
  ·
    have gb : isB 0 (¬ smW (μ 11) n) := Or.inr ⟨rfl, fun z => by rcases hw with q | q; exact z q.2; omega⟩
    refine v_iconst (pc := 13) h (dk dt_X12_errors 7 rfl) ?_
    refine v_istore_n (lv' := [(2, _), (1, _), (0, _)]) (pc := 14) h (dk dt_X12_errors 8 rfl) (Nat.le_of_ble_eq_true rfl) rfl ?_
    exact VV.loc (lv' := [(2, _), (1, _), (0, _)]) (go15 _ gb) ⟨rfl, rfl, rfl, trivial⟩
  ·
    have gb : isB 1 (¬ smW (μ 11) n) := Or.inl ⟨rfl, fun z => by rcases hw with q | q; omega; exact q.2 z⟩
    refine v_iconst (pc := 9) h (dk dt_X12_errors 5 rfl) ?_
    refine v_goto (pc := 10) h 14 (dk dt_X12_errors 6 rfl) rfl ?_
    refine v_istore_n (lv' := [(2, _), (1, _), (0, _)]) (pc := 14) h (dk dt_X12_errors 8 rfl) (Nat.le_of_ble_eq_true rfl) rfl ?_
    exact VV.loc (lv' := [(2, _), (1, _), (0, _)]) (go15 _ gb) ⟨rfl, rfl, rfl, trivial⟩
end
