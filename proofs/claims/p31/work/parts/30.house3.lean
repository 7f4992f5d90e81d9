/-! ===== the house: which, best, two, isFeasible ===== -/
section
variable {l : Launch} {B : Nat} {D : va_G} {E : Nat → ClassId} {μ m σ : Mm} {w n : Nat} {K : Nat → Int} {s : St} {J : Mm}
theorem bsN_le (f : Nat → Bool) {i n : Nat} (h : i ≤ n) : bsN f i < 2 ^ n := Nat.lt_of_lt_of_le (bsN_lt f i) (p2lt h)
/-- the house as it was, behind a run tried out -/
theorem fq_hO (hO : hOK μ) (h : fq μ m) : hOK m := hO_c (fun a q => h a (by omega)) hO
theorem c_X11_which (hst : l.stackTraces = false) (hO : hOK μ) (hn : μ 1 9 = (n : Int)) :
    Ct l B D E yX11_which (.code yX11_which cX11_which 3 (some .int)) rm_X11_which [.ref (pl B 0)] μ (fun v m => rcN (μ 0 7) = 0 ∧ v = some (iI (whS μ n : Nat)) ∧ fq μ m) (XX (rcN (μ 0 7)) [eS] μ) := by
  have hrn := hO.h
  have hW := hO.W
  have hD := okJD hO.J hn
  refine ct_of (own := RX11) (lv := [(0, _)]) hst (by decide) rfl rfl (Nat.le_of_ble_eq_true rfl) fun a h r t => ?_
  have loop : μ 0 7 = 1 → ∀ (d i : Nat) (m : Mm), i + d = 9 → fq μ m → VV a B (SP B D E m) 1 6 8 [(2, iI (i : Int)), (1, iI ((bsN (fun r => sameR (jm μ) n (kM μ (r : Int)) (μ 27 3) (μ 49) (μ 47 0)) i : Nat) : Int)), (0, .ref (pl B 0))] [] := by
    intro h1 d
    have hR := hO.R h1
    induction d with
    | zero =>
      intro i m hi fm
      have e : i = 9 := by omega
      subst e
      refine v_iload_n (pc := 8) h (dk dt_X11_which 6 rfl) rfl ?_
      refine v_bipush (pc := 9) h (dk dt_X11_which 7 rfl) rfl ?_
      refine v_icmp_gt (pc := 11) h 75 (dk dt_X11_which 8 rfl) rfl (by omega) (fun c11 => ?_) (fun c11 => ?_)
      ·
        refine v_iload_n (pc := 75) h (dk dt_X11_which 38 rfl) rfl ?_
        exact v_iret (pc := 76) h r (dk dt_X11_which 39 rfl) (Nat.le_of_ble_eq_true rfl) (Nat.le_of_ble_eq_true rfl) ⟨by unfold rcN; rw [if_neg (by omega)], rfl, fm⟩
      ·
        exact absurd c11 (by omega)
    | succ d ih =>
      intro i m hi fm
      have hOm := fq_hO hO fm
      have hnm : m 1 9 = (n : Int) := by rw [fm 1 (by omega)]; exact hn
      have jm1 : jm m = jm μ := jm_c (fun a q => fm a (by omega))
      have e27 : m 27 = μ 27 := fm 27 (by omega)
      have e47 : m 47 = μ 47 := fm 47 (by omega)
      have e49 : m 49 = μ 49 := fm 49 (by omega)
      have hbl := bsN_le (fun r => sameR (jm μ) n (kM μ (r : Int)) (μ 27 3) (μ 49) (μ 47 0)) (i := i) (n := 9) (by omega)
      have h29 : 2 ^ i ≤ 2 ^ 9 := p2lt (by omega)
      have hokC : okC m 47 := by unfold okC; rw [e47, show m (47 + 2) = μ (47 + 2) from e49]; exact hR.1
      refine v_iload_n (pc := 8) h (dk dt_X11_which 6 rfl) rfl ?_
      refine v_bipush (pc := 9) h (dk dt_X11_which 7 rfl) rfl ?_
      refine v_icmp_gt (pc := 11) h 75 (dk dt_X11_which 8 rfl) rfl (by omega) (fun c11 => ?_) (fun c11 => ?_)
      ·
        exact absurd c11 (by omega)
      ·
        refine v_aload_n (pc := 14) h (dk dt_X11_which 9 rfl) rfl ?_
        refine v_getr (pc := 15) h ci11 sh0 (Nat.le_of_ble_eq_true rfl) (j := 4) wF_X11_39 rfl (dk dt_X11_which 10 rfl) ?_
        refine v_iload_n (pc := 18) h (dk dt_X11_which 11 rfl) rfl ?_
        refine v_aload_n (pc := 19) h (dk dt_X11_which 12 rfl) rfl ?_
        refine v_getr (pc := 20) h ci11 sh0 (Nat.le_of_ble_eq_true rfl) (j := 2) wF_X11_26 rfl (dk dt_X11_which 13 rfl) ?_
        refine v_geti (pc := 23) h ci9 sh27 (Nat.le_of_ble_eq_true rfl) (j := 0) wF_X11_106 rfl (dk dt_X11_which 14 rfl) ?_
        refine v_aload_n (pc := 26) h (dk dt_X11_which 15 rfl) rfl ?_
        refine v_getr (pc := 27) h ci11 sh0 (Nat.le_of_ble_eq_true rfl) (j := 2) wF_X11_26 rfl (dk dt_X11_which 16 rfl) ?_
        refine v_geti (pc := 30) h ci9 sh27 (Nat.le_of_ble_eq_true rfl) (j := 1) wF_X11_109 rfl (dk dt_X11_which 17 rfl) ?_
        refine v_aload_n (pc := 33) h (dk dt_X11_which 18 rfl) rfl ?_
        refine v_getr (pc := 34) h ci11 sh0 (Nat.le_of_ble_eq_true rfl) (j := 2) wF_X11_26 rfl (dk dt_X11_which 19 rfl) ?_
        refine v_geti (pc := 37) h ci9 sh27 (Nat.le_of_ble_eq_true rfl) (j := 4) wF_X11_118 rfl (dk dt_X11_which 20 rfl) ?_
        refine v_cV (pc := 40) h (c_fol (n := n) h.quiet W57 (by omega) hOm hnm (by omega) (by rw [e27]; exact hW.1) (by rw [e27]; exact hW.2.1) (by rw [e27]; exact hW.2.2.2)) kv_X10_follow hd57 wM_X11_121 rfl rfl (Nat.le_of_ble_eq_true rfl) (RM.of rfl) rfl rfl (dk dt_X11_which 21 rfl) (fun v40 μ40 p40 => ?_)
        obtain ⟨rfl, f40, a40⟩ := p40
        rw [e27, jm1] at a40
        have hok := okK_kof (r := (i : Int)) (s := μ 27 0) (c := μ 27 1) (le := μ 27 4) (ri := μ 27 2) (by omega) hW.1 hW.2.1 hW.2.2.2 hW.2.2.1
        have hA := aR_is hD hok a40
        have fm2 := fq_tr fm (fq_57 f40)
        have hokC2 : okC μ40 47 := by (unfold okC; rw [f40 47 (by omega), f40 (47 + 2) (by omega)]; exact hokC)
        have hsame : (μ40 76 0 = μ40 47 0 ∧ ∀ t : Nat, t < (μ40 76 0).toNat → μ40 (76 + 2) t = μ40 (47 + 2) t) ↔ sameR (jm μ) n (kM μ (i : Int)) (μ 27 3) (μ 49) (μ 47 0) = true := by
          unfold sameR
          rw [Bool.and_eq_true, decide_eq_true_iff, decide_eq_true_iff, f40 47 (by omega), e47, f40 (47 + 2) (by omega), show m (47 + 2) = μ 49 from e49, show μ40 76 0 = _ from hA.2.1]
          constructor
          · rintro ⟨q1, q2⟩
            exact ⟨q1, fun t ht => by rw [← q2 t (by omega)]; exact (hA.2.2.1 t (by omega)).symm⟩
          · rintro ⟨q1, q2⟩
            exact ⟨q1, fun t ht => by rw [← q2 t (by rw [← q1]; exact ht)]; exact hA.2.2.1 t (by omega)⟩
        refine v_aload_n (pc := 43) h (dk dt_X11_which 22 rfl) rfl ?_
        refine v_getr (pc := 44) h ci11 sh0 (Nat.le_of_ble_eq_true rfl) (j := 4) wF_X11_39 rfl (dk dt_X11_which 23 rfl) ?_
        refine v_getr (pc := 47) h ci10 hd57 (Nat.le_of_ble_eq_true rfl) (j := 1) wF_X11_125 rfl (dk dt_X11_which 24 rfl) ?_
        refine v_aload_n (pc := 50) h (dk dt_X11_which 25 rfl) rfl ?_
        refine v_getr (pc := 51) h ci11 sh0 (Nat.le_of_ble_eq_true rfl) (j := 3) wF_X11_35 rfl (dk dt_X11_which 26 rfl) ?_
        refine v_getr (pc := 54) h ci10 hd28 (Nat.le_of_ble_eq_true rfl) (j := 1) wF_X11_125 rfl (dk dt_X11_which 27 rfl) ?_
        refine v_cVi (pc := 57) h (c_X0_isSameAs h.quiet (W_course W57) (W_course W28) hA.1 hokC2) kv_X0_isSameAs hd76 wM_X11_190 rfl rfl (Nat.le_of_ble_eq_true rfl) (RM.of rfl) rfl rfl (dk dt_X11_which 28 rfl) ?_
        refine v_if_eq (pc := 60) h 69 (dk dt_X11_which 29 rfl) rfl (by split <;> omega) (fun c60 => ?_) (fun c60 => ?_)
        ·
          have d60 : sameR (jm μ) n (kM μ (i : Int)) (μ 27 3) (μ 49) (μ 47 0) = false := by cases q : sameR (jm μ) n (kM μ (i : Int)) (μ 27 3) (μ 49) (μ 47 0); rfl; rw [if_pos (hsame.mpr q)] at c60; omega
          refine v_iinc (lv' := [(2, _), (1, _), (0, _)]) (pc := 69) h (dk dt_X11_which 36 rfl) rfl (Nat.le_of_ble_eq_true rfl) rfl ?_
          refine v_goto (pc := 72) h 8 (dk dt_X11_which 37 rfl) rfl ?_
          first
            | (have z := ih (i + 1) _ (by omega) fm2; rw [bs_skip (f := fun r => sameR (jm μ) n (kM μ (r : Int)) (μ 27 3) (μ 49) (μ 47 0)) d60] at z; exact VV.loc z ⟨rfl, rfl, rfl, trivial⟩)
            | exact VV.loc (ih (i + 1) _ (by omega) fm2) ⟨rfl, rfl, rfl, trivial⟩
        ·
          have d60 : sameR (jm μ) n (kM μ (i : Int)) (μ 27 3) (μ 49) (μ 47 0) = true := by cases q : sameR (jm μ) n (kM μ (i : Int)) (μ 27 3) (μ 49) (μ 47 0); rw [if_neg (fun z => by rw [hsame.mp z] at q; exact absurd q (by decide))] at c60; exact absurd rfl c60; rfl
          refine v_iload_n (pc := 63) h (dk dt_X11_which 30 rfl) rfl ?_
          refine v_iconst (pc := 64) h (dk dt_X11_which 31 rfl) ?_
          refine v_iload_n (pc := 65) h (dk dt_X11_which 32 rfl) rfl ?_
          refine v_ishl (pc := 66) h (dk dt_X11_which 33 rfl) ?_
          rw [bsl_1 i (by omega)]
          refine v_ior (pc := 67) h (dk dt_X11_which 34 rfl) ?_
          rw [bor_n (by omega) (by omega), bs_add (f := fun r => sameR (jm μ) n (kM μ (r : Int)) (μ 27 3) (μ 49) (μ 47 0)) d60]
          refine v_istore_n (lv' := [(1, _), (2, _), (0, _)]) (pc := 68) h (dk dt_X11_which 35 rfl) (Nat.le_of_ble_eq_true rfl) rfl ?_
          refine v_iinc (lv' := [(2, _), (1, _), (0, _)]) (pc := 69) h (dk dt_X11_which 36 rfl) rfl (Nat.le_of_ble_eq_true rfl) rfl ?_
          refine v_goto (pc := 72) h 8 (dk dt_X11_which 37 rfl) rfl ?_
          first
            | (have z := ih (i + 1) _ (by omega) fm2; rw [bs_skip (f := fun r => sameR (jm μ) n (kM μ (r : Int)) (μ 27 3) (μ 49) (μ 47 0)) d60] at z; exact VV.loc z ⟨rfl, rfl, rfl, trivial⟩)
            | exact VV.loc (ih (i + 1) _ (by omega) fm2) ⟨rfl, rfl, rfl, trivial⟩
  refine v_aload_n (pc := 0) h (dk dt_X11_which 0 rfl) rfl ?_
  refine v_callVX (pc := 1) h (c_X11_needRun h.quiet hrn) kv_X11_needRun sh0 wM_X11_137 rfl rfl (Nat.le_of_ble_eq_true rfl) (RM.of rfl) (dk dt_X11_which 1 rfl) (fun e1 μ1 p1 => ?_) (fun v1 μ1 p1 => ?_)
  ·
    obtain ⟨rfl, rfl, q1⟩ := p1
    exact v_out h r t (Nat.le_of_ble_eq_true rfl) (Nat.le_of_ble_eq_true rfl) ⟨⟨0, by unfold rcN; rw [if_pos q1]; rfl, rfl⟩, rfl⟩
  ·
    obtain ⟨rfl, e1, q1⟩ := p1
    rw [e1]
    refine v_iconst (pc := 4) h (dk dt_X11_which 2 rfl) ?_
    refine v_istore_n (lv' := [(1, _), (0, _)]) (pc := 5) h (dk dt_X11_which 3 rfl) (Nat.le_of_ble_eq_true rfl) rfl ?_
    refine v_iconst (pc := 6) h (dk dt_X11_which 4 rfl) ?_
    refine v_istore_n (lv' := [(2, _), (1, _), (0, _)]) (pc := 7) h (dk dt_X11_which 5 rfl) (Nat.le_of_ble_eq_true rfl) rfl ?_
    exact VV.loc (loop q1 9 0 μ (by omega) fq_rf) ⟨rfl, rfl, rfl, trivial⟩
theorem sumE_m (hD : okD J n) (hK : okK K) {z : Int} (h : aR w n K J z m) : smF (m (w + 16)) n = sumE J n K z := by
  unfold sumE
  exact smF_cong (fun j hj => ((aR_is hD hK h).2.2.2 j hj).1.1)
theorem latN_cong {d d' e e' : Nat → Int} : ∀ {n : Nat}, (∀ j, j < n → d j = d' j ∧ e j = e' j) → latN d e n = latN d' e' n := by
  intro n
  induction n with
  | zero => intro _; rfl
  | succ n ih => intro h; simp only [latN]; rw [ih (fun j hj => h j (by omega)), (h n (by omega)).1, (h n (by omega)).2]
theorem lateE_m (hD : okD J n) (hK : okK K) {z : Int} (h : aR w n K J z m) : latN (J 2) (m (w + 16)) n = lateE J n K z := by
  unfold lateE
  exact latN_cong (fun j hj => ⟨rfl, ((aR_is hD hK h).2.2.2 j hj).1.1⟩)
abbrev bstG (μ : Mm) (n : Nat) : Nat → Int := fun q => sumE (jm μ) n (kof 0 (q : Int) (μ 27 1) (μ 27 4) (μ 27 2)) (μ 27 3)
theorem c_X11_best (hst : l.stackTraces = false) (hO : hOK μ) (hn : μ 1 9 = (n : Int)) :
    Ct l B D E yX11_best (.code yX11_best cX11_best 5 (some .int)) rm_X11_best [.ref (pl B 0)] μ (fun v m => v = some (iI (bstF (bstG μ n) 20).1) ∧ fq μ m) NX := by
  have hW := hO.W
  have hD := okJD hO.J hn
  have hf : ∀ k : Nat, 1 ≤ k → k ≤ 20 → 0 ≤ bstG μ n k ∧ bstG μ n k ≤ 30000 := fun k h1 h2 => smF_e hD (okK_kof (by omega) (by omega) hW.2.1 hW.2.2.2 hW.2.2.1)
  have hbf : ∀ k : Nat, k ≤ 20 → 1 ≤ (bstF (bstG μ n) k).1 ∧ (bstF (bstG μ n) k).1 ≤ 20 ∧ 0 ≤ (bstF (bstG μ n) k).2 ∧ (bstF (bstG μ n) k).2 ≤ 30000 := by
    intro k
    induction k with
    | zero => intro _; simp [bstF]
    | succ k ih =>
      intro hk
      have h1 := ih (by omega)
      have h2 := hf (k + 1) (by omega) (by omega)
      simp only [bstF]
      split
      · simp only; omega
      · exact h1
  refine ct_of (own := RX11) (lv := [(0, _)]) hst (by decide) rfl rfl (Nat.le_of_ble_eq_true rfl) fun a h r t => ?_
  have loop : ∀ (d i : Nat) (m : Mm), i + d = 20 → fq μ m → VV a B (SP B D E m) 0 0 6 [(3, iI ((i + 1 : Nat) : Int)), (2, iI (bstF (bstG μ n) i).2), (1, iI (bstF (bstG μ n) i).1), (0, .ref (pl B 0))] [] := by
    intro d
    induction d with
    | zero =>
      intro i m hi fm
      have e : i = 20 := by omega
      subst e
      refine v_iload_n (pc := 6) h (dk dt_X11_best 6 rfl) rfl ?_
      refine v_bipush (pc := 7) h (dk dt_X11_best 7 rfl) rfl ?_
      refine v_icmp_gt (pc := 9) h 69 (dk dt_X11_best 8 rfl) rfl (by omega) (fun c9 => ?_) (fun c9 => ?_)
      ·
        refine v_iload_n (pc := 69) h (dk dt_X11_best 37 rfl) rfl ?_
        exact v_iret (pc := 70) h r (dk dt_X11_best 38 rfl) (Nat.le_of_ble_eq_true rfl) (Nat.le_of_ble_eq_true rfl) ⟨rfl, fm⟩
      ·
        exact absurd c9 (by omega)
    | succ d ih =>
      intro i m hi fm
      have hOm := fq_hO hO fm
      have hnm : m 1 9 = (n : Int) := by rw [fm 1 (by omega)]; exact hn
      have jm1 : jm m = jm μ := jm_c (fun a q => fm a (by omega))
      have e27 : m 27 = μ 27 := fm 27 (by omega)
      have h1 := hbf i (by omega)
      have h2 := hf (i + 1) (by omega) (by omega)
      have hok := okK_kof (r := 0) (s := ((i + 1 : Nat) : Int)) (c := μ 27 1) (le := μ 27 4) (ri := μ 27 2) (by omega) (by omega) hW.2.1 hW.2.2.2 hW.2.2.1
      refine v_iload_n (pc := 6) h (dk dt_X11_best 6 rfl) rfl ?_
      refine v_bipush (pc := 7) h (dk dt_X11_best 7 rfl) rfl ?_
      refine v_icmp_gt (pc := 9) h 69 (dk dt_X11_best 8 rfl) rfl (by omega) (fun c9 => ?_) (fun c9 => ?_)
      ·
        exact absurd c9 (by omega)
      ·
        refine v_aload_n (pc := 12) h (dk dt_X11_best 9 rfl) rfl ?_
        refine v_getr (pc := 13) h ci11 sh0 (Nat.le_of_ble_eq_true rfl) (j := 4) wF_X11_39 rfl (dk dt_X11_best 10 rfl) ?_
        refine v_iconst (pc := 16) h (dk dt_X11_best 11 rfl) ?_
        refine v_iload_n (pc := 17) h (dk dt_X11_best 12 rfl) rfl ?_
        refine v_aload_n (pc := 18) h (dk dt_X11_best 13 rfl) rfl ?_
        refine v_getr (pc := 19) h ci11 sh0 (Nat.le_of_ble_eq_true rfl) (j := 2) wF_X11_26 rfl (dk dt_X11_best 14 rfl) ?_
        refine v_geti (pc := 22) h ci9 sh27 (Nat.le_of_ble_eq_true rfl) (j := 1) wF_X11_109 rfl (dk dt_X11_best 15 rfl) ?_
        refine v_aload_n (pc := 25) h (dk dt_X11_best 16 rfl) rfl ?_
        refine v_getr (pc := 26) h ci11 sh0 (Nat.le_of_ble_eq_true rfl) (j := 2) wF_X11_26 rfl (dk dt_X11_best 17 rfl) ?_
        refine v_geti (pc := 29) h ci9 sh27 (Nat.le_of_ble_eq_true rfl) (j := 4) wF_X11_118 rfl (dk dt_X11_best 18 rfl) ?_
        refine v_cV (pc := 32) h (c_fol (n := n) h.quiet W57 (by omega) hOm hnm (by omega) (by omega) (by rw [e27]; exact hW.2.1) (by rw [e27]; exact hW.2.2.2)) kv_X10_follow hd57 wM_X11_121 rfl rfl (Nat.le_of_ble_eq_true rfl) (RM.of rfl) rfl rfl (dk dt_X11_best 19 rfl) (fun v32 μ32 p32 => ?_)
        obtain ⟨rfl, f32, a32⟩ := p32
        rw [e27, jm1] at a32
        have fm2 := fq_tr fm (fq_57 f32)
        have hA := aR_is hD hok a32
        have hsum : smF (μ32 73) n = bstG μ n (i + 1) := sumE_m hD hok a32
        refine v_aload_n (pc := 35) h (dk dt_X11_best 20 rfl) rfl ?_
        refine v_getr (pc := 36) h ci11 sh0 (Nat.le_of_ble_eq_true rfl) (j := 4) wF_X11_39 rfl (dk dt_X11_best 21 rfl) ?_
        refine v_getr (pc := 39) h ci10 hd57 (Nat.le_of_ble_eq_true rfl) (j := 0) wF_X11_149 rfl (dk dt_X11_best 22 rfl) ?_
        refine v_cVi (pc := 42) h (c_X6_endsTogether (g := 69) (n := n) h.quiet (W_prog W57) (fq_hO hO fm2).J (by rw [fm2 1 (by omega)]; exact hn) (fun j hj => by have := (hA.2.2.2 j hj).1; have := okD_c hD hj; show 0 ≤ μ32 (57 + 16) j ∧ μ32 (57 + 16) j ≤ 4000; omega)) kv_X6_endsTogether hd69 wM_X11_158 rfl rfl (Nat.le_of_ble_eq_true rfl) (RM.of rfl) rfl rfl (dk dt_X11_best 23 rfl) ?_
        rw [show smF (μ32 (69 + 4)) n = bstG μ n (i + 1) from hsum]
        refine v_istore (lv' := [(4, _), (3, _), (2, _), (1, _), (0, _)]) (pc := 45) h (dk dt_X11_best 24 rfl) (Nat.le_of_ble_eq_true rfl) rfl ?_
        refine v_iload_n (pc := 47) h (dk dt_X11_best 25 rfl) rfl ?_
        refine v_iconst (pc := 48) h (dk dt_X11_best 26 rfl) ?_
        refine v_icmp_eq (pc := 49) h 58 (dk dt_X11_best 27 rfl) rfl (by omega) (fun c49 => ?_) (fun c49 => ?_)
        ·
          refine v_iload (pc := 58) h (dk dt_X11_best 31 rfl) rfl ?_
          refine v_istore_n (lv' := [(2, _), (4, _), (3, _), (1, _), (0, _)]) (pc := 60) h (dk dt_X11_best 32 rfl) (Nat.le_of_ble_eq_true rfl) rfl ?_
          refine v_iload_n (pc := 61) h (dk dt_X11_best 33 rfl) rfl ?_
          refine v_istore_n (lv' := [(1, _), (2, _), (4, _), (3, _), (0, _)]) (pc := 62) h (dk dt_X11_best 34 rfl) (Nat.le_of_ble_eq_true rfl) rfl ?_
          refine v_iinc (lv' := [(3, _), (1, _), (2, _), (4, _), (0, _)]) (pc := 63) h (dk dt_X11_best 35 rfl) rfl (Nat.le_of_ble_eq_true rfl) rfl ?_
          refine v_goto (pc := 66) h 6 (dk dt_X11_best 36 rfl) rfl ?_
          first
            | (have z := ih (i + 1) _ (by omega) fm2; rw [show bstF (bstG μ n) (i + 1) = (((i + 1 : Nat) : Int), bstG μ n (i + 1)) by rw [bstF, if_pos (by omega)]] at z; exact VV.loc z ⟨rfl, rfl, rfl, rfl, trivial⟩)
            | (have z := ih (i + 1) _ (by omega) fm2; rw [show bstF (bstG μ n) (i + 1) = bstF (bstG μ n) i by rw [bstF, if_neg (by omega)]] at z; exact VV.loc z ⟨rfl, rfl, rfl, rfl, trivial⟩)
        ·
          refine v_iload (pc := 52) h (dk dt_X11_best 28 rfl) rfl ?_
          refine v_iload_n (pc := 54) h (dk dt_X11_best 29 rfl) rfl ?_
          refine v_icmp_ge (pc := 55) h 63 (dk dt_X11_best 30 rfl) rfl (by omega) (fun c55 => ?_) (fun c55 => ?_)
          ·
            refine v_iinc (lv' := [(3, _), (4, _), (2, _), (1, _), (0, _)]) (pc := 63) h (dk dt_X11_best 35 rfl) rfl (Nat.le_of_ble_eq_true rfl) rfl ?_
            refine v_goto (pc := 66) h 6 (dk dt_X11_best 36 rfl) rfl ?_
            first
              | (have z := ih (i + 1) _ (by omega) fm2; rw [show bstF (bstG μ n) (i + 1) = (((i + 1 : Nat) : Int), bstG μ n (i + 1)) by rw [bstF, if_pos (by omega)]] at z; exact VV.loc z ⟨rfl, rfl, rfl, rfl, trivial⟩)
              | (have z := ih (i + 1) _ (by omega) fm2; rw [show bstF (bstG μ n) (i + 1) = bstF (bstG μ n) i by rw [bstF, if_neg (by omega)]] at z; exact VV.loc z ⟨rfl, rfl, rfl, rfl, trivial⟩)
          ·
            refine v_iload (pc := 58) h (dk dt_X11_best 31 rfl) rfl ?_
            refine v_istore_n (lv' := [(2, _), (4, _), (3, _), (1, _), (0, _)]) (pc := 60) h (dk dt_X11_best 32 rfl) (Nat.le_of_ble_eq_true rfl) rfl ?_
            refine v_iload_n (pc := 61) h (dk dt_X11_best 33 rfl) rfl ?_
            refine v_istore_n (lv' := [(1, _), (2, _), (4, _), (3, _), (0, _)]) (pc := 62) h (dk dt_X11_best 34 rfl) (Nat.le_of_ble_eq_true rfl) rfl ?_
            refine v_iinc (lv' := [(3, _), (1, _), (2, _), (4, _), (0, _)]) (pc := 63) h (dk dt_X11_best 35 rfl) rfl (Nat.le_of_ble_eq_true rfl) rfl ?_
            refine v_goto (pc := 66) h 6 (dk dt_X11_best 36 rfl) rfl ?_
            first
              | (have z := ih (i + 1) _ (by omega) fm2; rw [show bstF (bstG μ n) (i + 1) = (((i + 1 : Nat) : Int), bstG μ n (i + 1)) by rw [bstF, if_pos (by omega)]] at z; exact VV.loc z ⟨rfl, rfl, rfl, rfl, trivial⟩)
              | (have z := ih (i + 1) _ (by omega) fm2; rw [show bstF (bstG μ n) (i + 1) = bstF (bstG μ n) i by rw [bstF, if_neg (by omega)]] at z; exact VV.loc z ⟨rfl, rfl, rfl, rfl, trivial⟩)
  refine v_iconst (pc := 0) h (dk dt_X11_best 0 rfl) ?_
  refine v_istore_n (lv' := [(1, _), (0, _)]) (pc := 1) h (dk dt_X11_best 1 rfl) (Nat.le_of_ble_eq_true rfl) rfl ?_
  refine v_iconst (pc := 2) h (dk dt_X11_best 2 rfl) ?_
  refine v_istore_n (lv' := [(2, _), (1, _), (0, _)]) (pc := 3) h (dk dt_X11_best 3 rfl) (Nat.le_of_ble_eq_true rfl) rfl ?_
  refine v_iconst (pc := 4) h (dk dt_X11_best 4 rfl) ?_
  refine v_istore_n (lv' := [(3, _), (2, _), (1, _), (0, _)]) (pc := 5) h (dk dt_X11_best 5 rfl) (Nat.le_of_ble_eq_true rfl) rfl ?_
  exact VV.loc (loop 20 0 μ (by omega) fq_rf) ⟨rfl, rfl, rfl, rfl, trivial⟩
/-- two workers: late ones, or the sum of ends -/
def anTw (J : Mm) (n : Nat) (le la : Int) : Int := if la = 0 then smF (tnN J n le 1) n else latN (J 2) (tnN J n le 1) n
theorem c_X11_two (hst : l.stackTraces = false) (hO : hOK μ) (hn : μ 1 9 = (n : Int)) {le la : Int} (hle : le = 0 ∨ le = 1) (hla : la = 0 ∨ la = 1) :
    Ct l B D E yX11_two (.code yX11_two cX11_two 3 (some .int)) rm_X11_two [.ref (pl B 0), iI le, iI la] μ (fun v m => v = some (iI (anTw (jm μ) n le la)) ∧ fq μ m) NX := by
  have hD := okJD hO.J hn
  have ht := tn_is (n := n) hD (le := le)
  refine ct_of (own := RX11) (lv := [(0, _), (1, _), (2, _)]) hst (by decide) rfl rfl (Nat.le_of_ble_eq_true rfl) fun a h r t => ?_
  refine v_aload_n (pc := 0) h (dk dt_X11_two 0 rfl) rfl ?_
  refine v_getr (pc := 1) h ci11 sh0 (Nat.le_of_ble_eq_true rfl) (j := 6) wF_X11_50 rfl (dk dt_X11_two 1 rfl) ?_
  refine v_iload_n (pc := 4) h (dk dt_X11_two 2 rfl) rfl ?_
  refine v_cV (pc := 5) h (c_X5_workBy (n := n) h.quiet hO.J hn hle) kv_X5_workBy sh115 wM_X11_194 rfl rfl (Nat.le_of_ble_eq_true rfl) (RM.of rfl) rfl rfl (dk dt_X11_two 3 rfl) (fun v5 μ5 p5 => ?_)
  obtain ⟨rfl, f5, a5⟩ := p5
  have fm2 := fq_P f5
  have hJ2 := (fq_hO hO fm2).J
  have hn2 : μ5 1 9 = (n : Int) := by rw [fm2 1 (by omega)]; exact hn
  have hE : ∀ j, j < n → 0 ≤ μ5 (116 + 4) j ∧ μ5 (116 + 4) j ≤ 4000 := fun j hj => by
    rw [(a5.1 j hj).2.1]
    have h1 := (ht.1.2 j hj).2.2.2.2.1 (ht.2.1 j hj)
    have h2 := okD_c hD hj
    omega
  have e7 : μ5 7 = μ 7 := fm2 7 (by omega)
  refine v_iload_n (pc := 8) h (dk dt_X11_two 4 rfl) rfl ?_
  refine v_if_eq (pc := 9) h 25 (dk dt_X11_two 5 rfl) rfl (by omega) (fun c9 => ?_) (fun c9 => ?_)
  ·
    refine v_aload_n (pc := 25) h (dk dt_X11_two 11 rfl) rfl ?_
    refine v_getr (pc := 26) h ci11 sh0 (Nat.le_of_ble_eq_true rfl) (j := 6) wF_X11_50 rfl (dk dt_X11_two 12 rfl) ?_
    refine v_getr (pc := 29) h ci5 sh115 (Nat.le_of_ble_eq_true rfl) (j := 0) wF_X11_198 rfl (dk dt_X11_two 13 rfl) ?_
    refine v_cVi (pc := 32) h (c_X6_endsTogether (g := 116) (n := n) h.quiet P116 hJ2 hn2 hE) kv_X6_endsTogether (P_hd P116) wM_X11_158 rfl rfl (Nat.le_of_ble_eq_true rfl) (RM.of rfl) rfl rfl (dk dt_X11_two 14 rfl) ?_
    exact v_iret (pc := 35) h r (dk dt_X11_two 15 rfl) (Nat.le_of_ble_eq_true rfl) (Nat.le_of_ble_eq_true rfl) (by first | exact ⟨by unfold anTw; rw [if_neg c9]; exact congrArg (fun z => some (iI z)) (latN_cong (fun j hj => ⟨by rw [e7]; rfl, (a5.1 j hj).2.1⟩)), fm2⟩ | exact ⟨by unfold anTw; rw [if_pos c9]; exact congrArg (fun z => some (iI z)) (smF_cong (fun j hj => (a5.1 j hj).2.1)), fm2⟩)
  ·
    refine v_aload_n (pc := 12) h (dk dt_X11_two 6 rfl) rfl ?_
    refine v_getr (pc := 13) h ci11 sh0 (Nat.le_of_ble_eq_true rfl) (j := 6) wF_X11_50 rfl (dk dt_X11_two 7 rfl) ?_
    refine v_getr (pc := 16) h ci5 sh115 (Nat.le_of_ble_eq_true rfl) (j := 0) wF_X11_198 rfl (dk dt_X11_two 8 rfl) ?_
    refine v_cVi (pc := 19) h (c_X6_countLate (g := 116) (n := n) h.quiet P116 hJ2 hn2 hE) kv_X6_countLate (P_hd P116) wM_X11_199 rfl rfl (Nat.le_of_ble_eq_true rfl) (RM.of rfl) rfl rfl (dk dt_X11_two 9 rfl) ?_
    refine v_goto (pc := 22) h 35 (dk dt_X11_two 10 rfl) rfl ?_
    exact v_iret (pc := 35) h r (dk dt_X11_two 15 rfl) (Nat.le_of_ble_eq_true rfl) (Nat.le_of_ble_eq_true rfl) (by first | exact ⟨by unfold anTw; rw [if_neg c9]; exact congrArg (fun z => some (iI z)) (latN_cong (fun j hj => ⟨by rw [e7]; rfl, (a5.1 j hj).2.1⟩)), fm2⟩ | exact ⟨by unfold anTw; rw [if_pos c9]; exact congrArg (fun z => some (iI z)) (smF_cong (fun j hj => (a5.1 j hj).2.1)), fm2⟩)
/-- whether one waits for another -/
abbrev smW (x : Nat → Int) (n : Nat) : Prop := ∃ j : Nat, j < n ∧ x j ≠ 0
def rcW (x : Nat → Int) (n : Nat) : Int := if smW x n then 1 else 0
theorem c_X11_isFeasible (hst : l.stackTraces = false) (hO : hOK μ) (hn : μ 1 9 = (n : Int)) :
    Ct l B D E yX11_isFeasible (.code yX11_isFeasible cX11_isFeasible 1 (some .boolean)) rm_X11_isFeasible [.ref (pl B 0)] μ (fun v m => rcW (μ 11) n = 0 ∧ v = some (iI (if lateE (jm μ) n (kof 6 (μ 27 0) 0 (μ 27 4) (μ 27 2)) (μ 27 3) = 0 then 1 else 0)) ∧ fq μ m) (XX (rcW (μ 11) n) [eS] μ) := by
  have hW := hO.W
  have hD := okJD hO.J hn
  have enn : (μ 1 9).toNat = n := by omega
  have hok := okK_kof (r := 6) (s := μ 27 0) (c := 0) (le := μ 27 4) (ri := μ 27 2) (by omega) hW.1 (by omega) hW.2.2.2 hW.2.2.1
  refine ct_of (own := RX11) (lv := [(0, _)]) hst (by decide) rfl rfl (Nat.le_of_ble_eq_true rfl) fun a h r t => ?_
  refine v_aload_n (pc := 0) h (dk dt_X11_isFeasible 0 rfl) rfl ?_
  refine v_getr (pc := 1) h ci11 sh0 (Nat.le_of_ble_eq_true rfl) (j := 0) wF_X11_10 rfl (dk dt_X11_isFeasible 1 rfl) ?_
  refine v_cVi (pc := 4) h (c_X1_someWait h.quiet hO.J) kv_X1_someWait sh1 wM_X11_202 rfl rfl (Nat.le_of_ble_eq_true rfl) (RM.of rfl) rfl rfl (dk dt_X11_isFeasible 2 rfl) ?_
  rw [enn]
  refine v_if_eq (pc := 7) h 18 (dk dt_X11_isFeasible 3 rfl) rfl (by split <;> omega) (fun c7 => ?_) (fun c7 => ?_)
  ·
    have d7 : ¬ smW (μ 11) n := fun q => by rw [if_pos q] at c7; omega
    refine v_aload_n (pc := 18) h (dk dt_X11_isFeasible 8 rfl) rfl ?_
    refine v_getr (pc := 19) h ci11 sh0 (Nat.le_of_ble_eq_true rfl) (j := 4) wF_X11_39 rfl (dk dt_X11_isFeasible 9 rfl) ?_
    refine v_bipush (pc := 22) h (dk dt_X11_isFeasible 10 rfl) rfl ?_
    refine v_aload_n (pc := 24) h (dk dt_X11_isFeasible 11 rfl) rfl ?_
    refine v_getr (pc := 25) h ci11 sh0 (Nat.le_of_ble_eq_true rfl) (j := 2) wF_X11_26 rfl (dk dt_X11_isFeasible 12 rfl) ?_
    refine v_geti (pc := 28) h ci9 sh27 (Nat.le_of_ble_eq_true rfl) (j := 0) wF_X11_106 rfl (dk dt_X11_isFeasible 13 rfl) ?_
    refine v_iconst (pc := 31) h (dk dt_X11_isFeasible 14 rfl) ?_
    refine v_aload_n (pc := 32) h (dk dt_X11_isFeasible 15 rfl) rfl ?_
    refine v_getr (pc := 33) h ci11 sh0 (Nat.le_of_ble_eq_true rfl) (j := 2) wF_X11_26 rfl (dk dt_X11_isFeasible 16 rfl) ?_
    refine v_geti (pc := 36) h ci9 sh27 (Nat.le_of_ble_eq_true rfl) (j := 4) wF_X11_118 rfl (dk dt_X11_isFeasible 17 rfl) ?_
    refine v_cV (pc := 39) h (c_fol (n := n) h.quiet W57 (by omega) hO hn (by omega) hW.1 (by omega) hW.2.2.2) kv_X10_follow hd57 wM_X11_121 rfl rfl (Nat.le_of_ble_eq_true rfl) (RM.of rfl) rfl rfl (dk dt_X11_isFeasible 18 rfl) (fun v39 μ39 p39 => ?_)
    obtain ⟨rfl, f39, a39⟩ := p39
    have fm2 := fq_57 f39
    have hA := aR_is hD hok a39
    have e7 : μ39 7 = μ 7 := fm2 7 (by omega)
    have hl : latN (μ39 7) (μ39 73) n = lateE (jm μ) n (kof 6 (μ 27 0) 0 (μ 27 4) (μ 27 2)) (μ 27 3) := by rw [e7]; exact lateE_m hD hok a39
    have hlb := latN_b (μ39 7) (μ39 73) n
    refine v_aload_n (pc := 42) h (dk dt_X11_isFeasible 19 rfl) rfl ?_
    refine v_getr (pc := 43) h ci11 sh0 (Nat.le_of_ble_eq_true rfl) (j := 4) wF_X11_39 rfl (dk dt_X11_isFeasible 20 rfl) ?_
    refine v_getr (pc := 46) h ci10 hd57 (Nat.le_of_ble_eq_true rfl) (j := 0) wF_X11_149 rfl (dk dt_X11_isFeasible 21 rfl) ?_
    refine v_cVi (pc := 49) h (c_X6_countLate (g := 69) (n := n) h.quiet (W_prog W57) (fq_hO hO fm2).J (by rw [fm2 1 (by omega)]; exact hn) (fun j hj => by have := (hA.2.2.2 j hj).1; have := okD_c hD hj; show 0 ≤ μ39 (57 + 16) j ∧ μ39 (57 + 16) j ≤ 4000; omega)) kv_X6_countLate hd69 wM_X11_199 rfl rfl (Nat.le_of_ble_eq_true rfl) (RM.of rfl) rfl rfl (dk dt_X11_isFeasible 22 rfl) ?_
    rw [show latN (μ39 7) (μ39 (69 + 4)) n = lateE (jm μ) n (kof 6 (μ 27 0) 0 (μ 27 4) (μ 27 2)) (μ 27 3) from hl]
    refine v_if_ne (pc := 52) h 59 (dk dt_X11_isFeasible 23 rfl) rfl (by have := hD.1; omega) (fun c52 => ?_) (fun c52 => ?_)
    ·
      refine v_iconst (pc := 59) h (dk dt_X11_isFeasible 26 rfl) ?_
      exact v_zret (pc := 60) h r (dk dt_X11_isFeasible 27 rfl) (Nat.le_of_ble_eq_true rfl) (Nat.le_of_ble_eq_true rfl) (by omega) ⟨by unfold rcW; rw [if_neg d7], by first | rw [if_pos c52] | rw [if_neg c52], fm2⟩
    ·
      refine v_iconst (pc := 55) h (dk dt_X11_isFeasible 24 rfl) ?_
      refine v_goto (pc := 56) h 60 (dk dt_X11_isFeasible 25 rfl) rfl ?_
      exact v_zret (pc := 60) h r (dk dt_X11_isFeasible 27 rfl) (Nat.le_of_ble_eq_true rfl) (Nat.le_of_ble_eq_true rfl) (by omega) ⟨by unfold rcW; rw [if_neg d7], by first | rw [if_pos c52] | rw [if_neg c52], fm2⟩
  ·
    have d7 : smW (μ 11) n := by by_cases q : smW (μ 11) n; exact q; rw [if_neg q] at c7; omega
    exact v_throw (pc := 10) h r t kt_X11_69 (dk dt_X11_isFeasible 4 rfl) (dk dt_X11_isFeasible 5 rfl) (dk dt_X11_isFeasible 6 rfl) (dk dt_X11_isFeasible 7 rfl) ⟨Nat.le_of_ble_eq_true rfl, Nat.le_of_ble_eq_true rfl, Nat.le_of_ble_eq_true rfl, Nat.le_of_ble_eq_true rfl⟩ (Nat.le_of_ble_eq_true rfl) (Nat.le_of_ble_eq_true rfl) (Nat.le_of_ble_eq_true rfl) ⟨⟨0, by unfold rcW; rw [if_pos d7]; rfl, rfl⟩, rfl⟩
end
