/-! ===== errors on the class ===== -/
section
variable {l : Launch} {B : Nat} {D : va_G} {E : Nat → ClassId} {μ m σ : Mm} {w n : Nat} {K : Nat → Int} {s : St} {J : Mm}
/-- a rule keeps the deadlines, the nearest deadline does not -/
def er3 (μ : Mm) (n : Nat) : Int := if ¬ lateE (jm μ) n (kE μ 6) (μ 27 3) = 0 ∧ smD μ n 9 = true then 1 else 0
/-- the nearest deadline, and no stretch too full: not alike -/
def er4 (μ : Mm) (n : Nat) : Int := if (lateE (jm μ) n (kE μ 6) (μ 27 3) = 0 ↔ fuB (μ 3) (μ 5) (μ 7) n 100 0 = -1) then 0 else 1
def erA (μ : Mm) (n : Nat) : Int := if smW (μ 11) n then 0 else er3 μ n + er4 μ n
theorem er3_b (μ : Mm) (n : Nat) : er3 μ n = 0 ∨ er3 μ n = 1 := by unfold er3; split; exact Or.inr rfl; exact Or.inl rfl
theorem er4_b (μ : Mm) (n : Nat) : er4 μ n = 0 ∨ er4 μ n = 1 := by unfold er4; split; exact Or.inl rfl; exact Or.inr rfl
theorem erA_b (μ : Mm) (n : Nat) : 0 ≤ erA μ n ∧ erA μ n ≤ 2 := by
  unfold erA
  have h3 := er3_b μ n
  have h4 := er4_b μ n
  split <;> omega
theorem fullC_0 {c l d : Nat → Int} {n : Nat} : fullC c l d n 0 = fuB c l d n 100 0 := by
  unfold fullC
  by_cases q : fuB c l d n 100 0 = -1
  · rw [if_pos q, q]
  · rw [if_neg q, if_pos rfl]
theorem fuB_b {c l d : Nat → Int} {n : Nat} : ∀ k a : Nat, -1 ≤ fuB c l d n k a ∧ fuB c l d n k a ≤ a + k := by
  intro k
  induction k with
  | zero => intro a; simp only [fuB]; omega
  | succ k ih =>
    intro a
    have := ih (a + 1)
    simp only [fuB]
    split <;> omega
theorem smD_c (hm : fq μ m) : ∀ i, smD m n i = smD μ n i := by
  have jm1 : jm m = jm μ := jm_c (fun a q => hm a (by omega))
  have e27 : m 27 = μ 27 := hm 27 (by omega)
  intro i
  induction i with
  | zero => rfl
  | succ i ih =>
    simp only [smD]
    rw [ih]
    show (smD μ n i || decide (lateE (jm m) n (kof (i : Int) (m 27 0) 0 (m 27 4) (m 27 2)) (m 27 3) = 0)) = _
    rw [jm1, e27]
/-- the number of a truth, told by both -/
abbrev isB (k : Int) (p : Prop) : Prop := (k = 1 ∧ p) ∨ (k = 0 ∧ ¬ p)
theorem isB_ite {p : Prop} [Decidable p] : isB (if p then 1 else 0) p := by
  by_cases q : p
  · rw [if_pos q]; exact Or.inl ⟨rfl, q⟩
  · rw [if_neg q]; exact Or.inr ⟨rfl, q⟩
theorem er4_y {k x : Int} (hk : isB k (lateE (jm μ) n (kE μ 6) (μ 27 3) = 0)) (hx : isB x (fuB (μ 3) (μ 5) (μ 7) n 100 0 = -1)) (e : k = x) : er4 μ n = 0 := by
  unfold er4
  rcases hk with ⟨e1, q1⟩ | ⟨e1, q1⟩ <;> rcases hx with ⟨e2, q2⟩ | ⟨e2, q2⟩
  · rw [if_pos ⟨fun _ => q2, fun _ => q1⟩]
  · omega
  · omega
  · rw [if_pos ⟨fun q => absurd q q1, fun q => absurd q q2⟩]
theorem er4_n {k x : Int} (hk : isB k (lateE (jm μ) n (kE μ 6) (μ 27 3) = 0)) (hx : isB x (fuB (μ 3) (μ 5) (μ 7) n 100 0 = -1)) (e : ¬ k = x) : er4 μ n = 1 := by
  unfold er4
  rcases hk with ⟨e1, q1⟩ | ⟨e1, q1⟩ <;> rcases hx with ⟨e2, q2⟩ | ⟨e2, q2⟩
  · omega
  · rw [if_neg (fun q => q2 (q.1 q1))]
  · rw [if_neg (fun q => q1 (q.2 q2))]
  · omega
theorem er3_k {k : Int} (hk : isB k (lateE (jm μ) n (kE μ 6) (μ 27 3) = 0)) (e : k ≠ 0) : er3 μ n = 0 := by
  unfold er3
  rcases hk with ⟨e1, q1⟩ | ⟨e1, q1⟩
  · rw [if_neg (fun z => z.1 q1)]
  · omega
theorem er3_x {k x : Int} (hk : isB k (lateE (jm μ) n (kE μ 6) (μ 27 3) = 0)) (e : k = 0) (hx : isB x (smD μ n 9 = true)) : er3 μ n = x := by
  unfold er3
  rcases hk with ⟨e1, q1⟩ | ⟨e1, q1⟩
  · omega
  · rcases hx with ⟨e2, q2⟩ | ⟨e2, q2⟩
    · rw [if_pos ⟨q1, q2⟩, e2]
    · rw [if_neg (fun z => q2 z.2), e2]
theorem c_X11_errors (hst : l.stackTraces = false) (hO : hOK μ) (hn : μ 1 9 = (n : Int)) :
    Ct l B D E yX11_errors (.code yX11_errors cX11_errors 3 (some .int)) rm_X11_errors [.ref (pl B 0)] μ (fun v m => v = some (iI (erA μ n)) ∧ fq μ m) NX := by
  have hA := erA_b μ n
  have hn12 : 0 ≤ μ 1 9 ∧ μ 1 9 ≤ 12 := hO.J.1
  have enn : (μ 1 9).toNat = n := by omega
  have h3 := er3_b μ n
  have h4 := er4_b μ n
  refine ct_of (own := RX11) (lv := [(0, _)]) hst (by decide) rfl rfl (Nat.le_of_ble_eq_true rfl) fun a h r t => ?_
  have go90 : ∀ m, fq μ m → VV a B (SP B D E m) 0 0 90 [(1, iI (erA μ n)), (0, .ref (pl B 0))] [] := by
    intro m fm
    have hnm : m 1 9 = (n : Int) := by rw [fm 1 (by omega)]; exact hn
    refine v_iload_n (pc := 90) h (dk dt_X11_errors 51 rfl) rfl ?_
    refine v_aload_n (pc := 91) h (dk dt_X11_errors 52 rfl) rfl ?_
    refine v_cV (pc := 92) h (c_X11_isRingFair (n := n) h.quiet (fq_hO hO fm) hnm) kv_X11_isRingFair sh0 wM_X11_245 rfl rfl (Nat.le_of_ble_eq_true rfl) (RM.of rfl) rfl rfl (dk dt_X11_errors 53 rfl) (fun v92 μ92 p92 => ?_)
    obtain ⟨rfl, f92⟩ := p92
    have fm2 := fq_tr fm f92
    refine v_if_eq (pc := 95) h 102 (dk dt_X11_errors 54 rfl) rfl (by omega) (fun c95 => ?_) (fun c95 => ?_)
    ·
      exact absurd c95 (by decide)
    ·
      refine v_iconst (pc := 98) h (dk dt_X11_errors 55 rfl) ?_
      refine v_goto (pc := 99) h 103 (dk dt_X11_errors 56 rfl) rfl ?_
      refine v_iadd (pc := 103) h (dk dt_X11_errors 58 rfl) ?_
      refine v_istore_n (lv' := [(1, _), (0, _)]) (pc := 104) h (dk dt_X11_errors 59 rfl) (Nat.le_of_ble_eq_true rfl) rfl ?_
      refine v_iload_n (pc := 105) h (dk dt_X11_errors 60 rfl) rfl ?_
      refine v_aload_n (pc := 106) h (dk dt_X11_errors 61 rfl) rfl ?_
      refine v_cV (pc := 107) h (c_X11_isHighestFreeInTime (n := n) h.quiet (fq_hO hO fm2) (by rw [fm2 1 (by omega)]; exact hn)) kv_X11_isHighestFreeInTime sh0 wM_X11_248 rfl rfl (Nat.le_of_ble_eq_true rfl) (RM.of rfl) rfl rfl (dk dt_X11_errors 62 rfl) (fun v107 μ107 p107 => ?_)
      obtain ⟨rfl, f107⟩ := p107
      refine v_if_eq (pc := 110) h 117 (dk dt_X11_errors 63 rfl) rfl (by omega) (fun c110 => ?_) (fun c110 => ?_)
      ·
        exact absurd c110 (by decide)
      ·
        refine v_iconst (pc := 113) h (dk dt_X11_errors 64 rfl) ?_
        refine v_goto (pc := 114) h 118 (dk dt_X11_errors 65 rfl) rfl ?_
        refine v_iadd (pc := 118) h (dk dt_X11_errors 67 rfl) ?_
        refine v_istore_n (lv' := [(1, _), (0, _)]) (pc := 119) h (dk dt_X11_errors 68 rfl) (Nat.le_of_ble_eq_true rfl) rfl ?_
        rw [show erA μ n + 0 + 0 = erA μ n by omega]
        refine v_iload_n (pc := 120) h (dk dt_X11_errors 69 rfl) rfl ?_
        exact v_iret (pc := 121) h r (dk dt_X11_errors 70 rfl) (Nat.le_of_ble_eq_true rfl) (Nat.le_of_ble_eq_true rfl) ⟨rfl, fq_tr fm2 f107⟩
  have go90b : ∀ m, fq μ m → VV a B (SP B D E m) 1 6 90 [(1, iI (erA μ n)), (0, .ref (pl B 0))] [] := by
    intro m fm
    have hnm : m 1 9 = (n : Int) := by rw [fm 1 (by omega)]; exact hn
    refine v_iload_n (pc := 90) h (dk dt_X11_errors 51 rfl) rfl ?_
    refine v_aload_n (pc := 91) h (dk dt_X11_errors 52 rfl) rfl ?_
    refine v_cV (pc := 92) h (c_X11_isRingFair (n := n) h.quiet (fq_hO hO fm) hnm) kv_X11_isRingFair sh0 wM_X11_245 rfl rfl (Nat.le_of_ble_eq_true rfl) (RM.of rfl) rfl rfl (dk dt_X11_errors 53 rfl) (fun v92 μ92 p92 => ?_)
    obtain ⟨rfl, f92⟩ := p92
    have fm2 := fq_tr fm f92
    refine v_if_eq (pc := 95) h 102 (dk dt_X11_errors 54 rfl) rfl (by omega) (fun c95 => ?_) (fun c95 => ?_)
    ·
      exact absurd c95 (by decide)
    ·
      refine v_iconst (pc := 98) h (dk dt_X11_errors 55 rfl) ?_
      refine v_goto (pc := 99) h 103 (dk dt_X11_errors 56 rfl) rfl ?_
      refine v_iadd (pc := 103) h (dk dt_X11_errors 58 rfl) ?_
      refine v_istore_n (lv' := [(1, _), (0, _)]) (pc := 104) h (dk dt_X11_errors 59 rfl) (Nat.le_of_ble_eq_true rfl) rfl ?_
      refine v_iload_n (pc := 105) h (dk dt_X11_errors 60 rfl) rfl ?_
      refine v_aload_n (pc := 106) h (dk dt_X11_errors 61 rfl) rfl ?_
      refine v_cV (pc := 107) h (c_X11_isHighestFreeInTime (n := n) h.quiet (fq_hO hO fm2) (by rw [fm2 1 (by omega)]; exact hn)) kv_X11_isHighestFreeInTime sh0 wM_X11_248 rfl rfl (Nat.le_of_ble_eq_true rfl) (RM.of rfl) rfl rfl (dk dt_X11_errors 62 rfl) (fun v107 μ107 p107 => ?_)
      obtain ⟨rfl, f107⟩ := p107
      refine v_if_eq (pc := 110) h 117 (dk dt_X11_errors 63 rfl) rfl (by omega) (fun c110 => ?_) (fun c110 => ?_)
      ·
        exact absurd c110 (by decide)
      ·
        refine v_iconst (pc := 113) h (dk dt_X11_errors 64 rfl) ?_
        refine v_goto (pc := 114) h 118 (dk dt_X11_errors 65 rfl) rfl ?_
        refine v_iadd (pc := 118) h (dk dt_X11_errors 67 rfl) ?_
        refine v_istore_n (lv' := [(1, _), (0, _)]) (pc := 119) h (dk dt_X11_errors 68 rfl) (Nat.le_of_ble_eq_true rfl) rfl ?_
        rw [show erA μ n + 0 + 0 = erA μ n by omega]
        refine v_iload_n (pc := 120) h (dk dt_X11_errors 69 rfl) rfl ?_
        exact v_iret (pc := 121) h r (dk dt_X11_errors 70 rfl) (Nat.le_of_ble_eq_true rfl) (Nat.le_of_ble_eq_true rfl) ⟨rfl, fq_tr fm2 f107⟩
  have go64 : ∀ (m : Mm) (k : Int), fq μ m → ¬ smW (μ 11) n → isB k (lateE (jm μ) n (kE μ 6) (μ 27 3) = 0) → VV a B (SP B D E m) 0 0 64 [(1, iI (er3 μ n)), (2, iI k), (0, .ref (pl B 0))] [] := by
    intro m k fm hw hk
    have hOm := fq_hO hO fm
    have hnm : m 1 9 = (n : Int) := by rw [fm 1 (by omega)]; exact hn
    have eA : erA μ n = er3 μ n + er4 μ n := by unfold erA; rw [if_neg hw]
    have hfb := fuB_b (c := μ 3) (l := μ 5) (d := μ 7) (n := n) 100 0
    refine v_iload_n (pc := 64) h (dk dt_X11_errors 35 rfl) rfl ?_
    refine v_iload_n (pc := 65) h (dk dt_X11_errors 36 rfl) rfl ?_
    refine v_aload_n (pc := 66) h (dk dt_X11_errors 37 rfl) rfl ?_
    refine v_iconst (pc := 67) h (dk dt_X11_errors 38 rfl) ?_
    refine v_callVX (pc := 68) h (c_X11_full (n := n) h.quiet hOm hnm (by omega)) kv_X11_full sh0 wM_X11_242 rfl rfl (Nat.le_of_ble_eq_true rfl) (RM.of rfl) (dk dt_X11_errors 39 rfl) (fun e68 μ68 p68 => ?_) (fun v68 μ68 p68 => ?_)
    ·
      obtain ⟨⟨i, h1, -⟩, -⟩ := p68
      have h1 : (0 : Int) = (i : Int) + 1 := h1
      omega
    ·
      obtain ⟨-, rfl, rfl⟩ := p68
      rw [fullC_0, fm 3 (by omega), fm 5 (by omega), fm 7 (by omega)]
      refine v_iconst (pc := 71) h (dk dt_X11_errors 40 rfl) ?_
      refine v_icmp_ne (pc := 72) h 79 (dk dt_X11_errors 41 rfl) rfl (by omega) (fun c72 => ?_) (fun c72 => ?_)
      ·
        have g := fun (x : Int) (e : x = 0) => (show isB x (fuB (μ 3) (μ 5) (μ 7) n 100 0 = -1) from Or.inr ⟨e, by omega⟩)
        refine v_iconst (pc := 79) h (dk dt_X11_errors 44 rfl) ?_
        refine v_icmp_ne (pc := 80) h 87 (dk dt_X11_errors 45 rfl) rfl (by omega) (fun c80 => ?_) (fun c80 => ?_)
        ·
          have g4 : er4 μ n = 1 := er4_n hk (g _ rfl) c80
          refine v_iconst (pc := 87) h (dk dt_X11_errors 48 rfl) ?_
          refine v_iadd (pc := 88) h (dk dt_X11_errors 49 rfl) ?_
          refine v_istore_n (lv' := [(1, _), (2, _), (0, _)]) (pc := 89) h (dk dt_X11_errors 50 rfl) (Nat.le_of_ble_eq_true rfl) rfl ?_
          exact VV.loc (lv' := [(1, _), (0, _)]) (go90b _ fm) ⟨lvI (by omega), rfl, trivial⟩
        ·
          have g4 : er4 μ n = 0 := er4_y hk (g _ rfl) (by omega)
          refine v_iconst (pc := 83) h (dk dt_X11_errors 46 rfl) ?_
          refine v_goto (pc := 84) h 88 (dk dt_X11_errors 47 rfl) rfl ?_
          refine v_iadd (pc := 88) h (dk dt_X11_errors 49 rfl) ?_
          refine v_istore_n (lv' := [(1, _), (2, _), (0, _)]) (pc := 89) h (dk dt_X11_errors 50 rfl) (Nat.le_of_ble_eq_true rfl) rfl ?_
          exact VV.loc (lv' := [(1, _), (0, _)]) (go90b _ fm) ⟨lvI (by omega), rfl, trivial⟩
      ·
        have g := fun (x : Int) (e : x = 1) => (show isB x (fuB (μ 3) (μ 5) (μ 7) n 100 0 = -1) from Or.inl ⟨e, by omega⟩)
        refine v_iconst (pc := 75) h (dk dt_X11_errors 42 rfl) ?_
        refine v_goto (pc := 76) h 80 (dk dt_X11_errors 43 rfl) rfl ?_
        refine v_icmp_ne (pc := 80) h 87 (dk dt_X11_errors 45 rfl) rfl (by omega) (fun c80 => ?_) (fun c80 => ?_)
        ·
          have g4 : er4 μ n = 1 := er4_n hk (g _ rfl) c80
          refine v_iconst (pc := 87) h (dk dt_X11_errors 48 rfl) ?_
          refine v_iadd (pc := 88) h (dk dt_X11_errors 49 rfl) ?_
          refine v_istore_n (lv' := [(1, _), (2, _), (0, _)]) (pc := 89) h (dk dt_X11_errors 50 rfl) (Nat.le_of_ble_eq_true rfl) rfl ?_
          exact VV.loc (lv' := [(1, _), (0, _)]) (go90b _ fm) ⟨lvI (by omega), rfl, trivial⟩
        ·
          have g4 : er4 μ n = 0 := er4_y hk (g _ rfl) (by omega)
          refine v_iconst (pc := 83) h (dk dt_X11_errors 46 rfl) ?_
          refine v_goto (pc := 84) h 88 (dk dt_X11_errors 47 rfl) rfl ?_
          refine v_iadd (pc := 88) h (dk dt_X11_errors 49 rfl) ?_
          refine v_istore_n (lv' := [(1, _), (2, _), (0, _)]) (pc := 89) h (dk dt_X11_errors 50 rfl) (Nat.le_of_ble_eq_true rfl) rfl ?_
          exact VV.loc (lv' := [(1, _), (0, _)]) (go90b _ fm) ⟨lvI (by omega), rfl, trivial⟩
  have go23 : ∀ m, fq μ m → ¬ smW (μ 11) n → VV a B (SP B D E m) 0 0 23 [(1, iI 0), (0, .ref (pl B 0))] [] := by
    intro m fm hw
    have hOm := fq_hO hO fm
    have hnm : m 1 9 = (n : Int) := by rw [fm 1 (by omega)]; exact hn
    have jm1 : jm m = jm μ := jm_c (fun a q => fm a (by omega))
    have e27 : m 27 = μ 27 := fm 27 (by omega)
    have eE : lateE (jm m) n (kE m 6) (m 27 3) = lateE (jm μ) n (kE μ 6) (μ 27 3) := by show lateE (jm m) n (kof 6 (m 27 0) 0 (m 27 4) (m 27 2)) (m 27 3) = _; rw [jm1, e27]
    refine v_aload_n (pc := 23) h (dk dt_X11_errors 11 rfl) rfl ?_
    refine v_bipush (pc := 24) h (dk dt_X11_errors 12 rfl) rfl ?_
    refine v_cV (pc := 26) h (c_X11_keepsDeadlines (n := n) h.quiet hOm hnm (by omega)) kv_X11_keepsDeadlines sh0 wM_X11_232 rfl rfl (Nat.le_of_ble_eq_true rfl) (RM.of rfl) rfl rfl (dk dt_X11_errors 13 rfl) (fun v26 μ26 p26 => ?_)
    obtain ⟨rfl, f26⟩ := p26
    rw [eE]
    have hk := isB_ite (p := lateE (jm μ) n (kE μ 6) (μ 27 3) = 0)
    generalize (if lateE (jm μ) n (kE μ 6) (μ 27 3) = 0 then (1 : Int) else 0) = k at *
    have fm2 := fq_tr fm f26
    refine v_istore_n (lv' := [(2, _), (1, _), (0, _)]) (pc := 29) h (dk dt_X11_errors 14 rfl) (Nat.le_of_ble_eq_true rfl) rfl ?_
    refine v_iload_n (pc := 30) h (dk dt_X11_errors 15 rfl) rfl ?_
    refine v_aload_n (pc := 31) h (dk dt_X11_errors 16 rfl) rfl ?_
    refine v_cV (pc := 32) h (c_X11_hasLeastLeftLeastEnds (n := n) h.quiet (fq_hO hO fm2) (by rw [fm2 1 (by omega)]; exact hn) (by rw [fm2 11 (by omega)]; exact hw)) kv_X11_hasLeastLeftLeastEnds sh0 wM_X11_236 rfl rfl (Nat.le_of_ble_eq_true rfl) (RM.of rfl) rfl rfl (dk dt_X11_errors 17 rfl) (fun v32 μ32 p32 => ?_)
    obtain ⟨rfl, f32⟩ := p32
    have fm3 := fq_tr fm2 f32
    refine v_if_eq (pc := 35) h 42 (dk dt_X11_errors 18 rfl) rfl (by omega) (fun c35 => ?_) (fun c35 => ?_)
    ·
      exact absurd c35 (by decide)
    ·
      refine v_iconst (pc := 38) h (dk dt_X11_errors 19 rfl) ?_
      refine v_goto (pc := 39) h 43 (dk dt_X11_errors 20 rfl) rfl ?_
      refine v_iadd (pc := 43) h (dk dt_X11_errors 22 rfl) ?_
      refine v_istore_n (lv' := [(1, _), (2, _), (0, _)]) (pc := 44) h (dk dt_X11_errors 23 rfl) (Nat.le_of_ble_eq_true rfl) rfl ?_
      refine v_iload_n (pc := 45) h (dk dt_X11_errors 24 rfl) rfl ?_
      refine v_iload_n (pc := 46) h (dk dt_X11_errors 25 rfl) rfl ?_
      refine v_if_ne (pc := 47) h 57 (dk dt_X11_errors 26 rfl) rfl (by omega) (fun c47 => ?_) (fun c47 => ?_)
      ·
        have g3 : er3 μ n = 0 := er3_k hk c47
        refine v_iconst (pc := 57) h (dk dt_X11_errors 30 rfl) ?_
        refine v_goto (pc := 58) h 62 (dk dt_X11_errors 31 rfl) rfl ?_
        refine v_iadd (pc := 62) h (dk dt_X11_errors 33 rfl) ?_
        refine v_istore_n (lv' := [(1, _), (2, _), (0, _)]) (pc := 63) h (dk dt_X11_errors 34 rfl) (Nat.le_of_ble_eq_true rfl) rfl ?_
        first
          | exact VV.loc (lv' := [(1, _), (2, _), (0, _)]) (go64 _ k fm4 hw hk) ⟨lvI (by omega), rfl, rfl, trivial⟩
          | exact VV.loc (lv' := [(1, _), (2, _), (0, _)]) (go64 _ k fm3 hw hk) ⟨lvI (by omega), rfl, rfl, trivial⟩
      ·
        refine v_aload_n (pc := 50) h (dk dt_X11_errors 27 rfl) rfl ?_
        refine v_cV (pc := 51) h (c_X11_doesSomeRuleKeepDeadlines (n := n) h.quiet (fq_hO hO fm3) (by rw [fm3 1 (by omega)]; exact hn)) kv_X11_doesSomeRuleKeepDeadlines sh0 wM_X11_239 rfl rfl (Nat.le_of_ble_eq_true rfl) (RM.of rfl) rfl rfl (dk dt_X11_errors 28 rfl) (fun v51 μ51 p51 => ?_)
        obtain ⟨rfl, f51⟩ := p51
        rw [smD_c fm3]
        have hx := isB_ite (p := smD μ n 9 = true)
        generalize (if smD μ n 9 = true then (1 : Int) else 0) = x at *
        have fm4 := fq_tr fm3 f51
        refine v_if_ne (pc := 54) h 61 (dk dt_X11_errors 29 rfl) rfl (by omega) (fun c54 => ?_) (fun c54 => ?_)
        ·
          have g3 : er3 μ n = 1 := (er3_x hk c47 hx).trans (by omega)
          refine v_iconst (pc := 61) h (dk dt_X11_errors 32 rfl) ?_
          refine v_iadd (pc := 62) h (dk dt_X11_errors 33 rfl) ?_
          refine v_istore_n (lv' := [(1, _), (2, _), (0, _)]) (pc := 63) h (dk dt_X11_errors 34 rfl) (Nat.le_of_ble_eq_true rfl) rfl ?_
          first
            | exact VV.loc (lv' := [(1, _), (2, _), (0, _)]) (go64 _ k fm4 hw hk) ⟨lvI (by omega), rfl, rfl, trivial⟩
            | exact VV.loc (lv' := [(1, _), (2, _), (0, _)]) (go64 _ k fm3 hw hk) ⟨lvI (by omega), rfl, rfl, trivial⟩
        ·
          have g3 : er3 μ n = 0 := (er3_x hk c47 hx).trans (by omega)
          refine v_iconst (pc := 57) h (dk dt_X11_errors 30 rfl) ?_
          refine v_goto (pc := 58) h 62 (dk dt_X11_errors 31 rfl) rfl ?_
          refine v_iadd (pc := 62) h (dk dt_X11_errors 33 rfl) ?_
          refine v_istore_n (lv' := [(1, _), (2, _), (0, _)]) (pc := 63) h (dk dt_X11_errors 34 rfl) (Nat.le_of_ble_eq_true rfl) rfl ?_
          first
            | exact VV.loc (lv' := [(1, _), (2, _), (0, _)]) (go64 _ k fm4 hw hk) ⟨lvI (by omega), rfl, rfl, trivial⟩
            | exact VV.loc (lv' := [(1, _), (2, _), (0, _)]) (go64 _ k fm3 hw hk) ⟨lvI (by omega), rfl, rfl, trivial⟩
  refine v_aload_n (pc := 0) h (dk dt_X11_errors 0 rfl) rfl ?_
  refine v_cV (pc := 1) h (c_X11_haveRulesSameBusyTime (n := n) h.quiet hO hn) kv_X11_haveRulesSameBusyTime sh0 wM_X11_229 rfl rfl (Nat.le_of_ble_eq_true rfl) (RM.of rfl) rfl rfl (dk dt_X11_errors 1 rfl) (fun v1 μ1 p1 => ?_)
  obtain ⟨rfl, f1⟩ := p1
  refine v_if_eq (pc := 4) h 11 (dk dt_X11_errors 2 rfl) rfl (by omega) (fun c4 => ?_) (fun c4 => ?_)
  ·
    exact absurd c4 (by decide)
  ·
    refine v_iconst (pc := 7) h (dk dt_X11_errors 3 rfl) ?_
    refine v_goto (pc := 8) h 12 (dk dt_X11_errors 4 rfl) rfl ?_
    refine v_istore_n (lv' := [(1, _), (0, _)]) (pc := 12) h (dk dt_X11_errors 6 rfl) (Nat.le_of_ble_eq_true rfl) rfl ?_
    refine v_aload_n (pc := 13) h (dk dt_X11_errors 7 rfl) rfl ?_
    refine v_getr (pc := 14) h ci11 sh0 (Nat.le_of_ble_eq_true rfl) (j := 0) wF_X11_10 rfl (dk dt_X11_errors 8 rfl) ?_
    refine v_cVi (pc := 17) h (c_X1_someWait h.quiet (fq_hO hO f1).J) kv_X1_someWait sh1 wM_X11_202 rfl rfl (Nat.le_of_ble_eq_true rfl) (RM.of rfl) rfl rfl (dk dt_X11_errors 9 rfl) ?_
    rw [f1 11 (by omega), f1 1 (by omega), enn]
    have hw := isB_ite (p := smW (μ 11) n)
    generalize (if smW (μ 11) n then (1 : Int) else 0) = x at *
    refine v_if_ne (pc := 20) h 90 (dk dt_X11_errors 10 rfl) rfl (by omega) (fun c20 => ?_) (fun c20 => ?_)
    ·
      have d20 : smW (μ 11) n := by rcases hw with q | q; exact q.2; omega
      exact VV.loc (lv' := [(1, _), (0, _)]) (go90 _ f1) ⟨lvI (by unfold erA; rw [if_pos d20]), rfl, trivial⟩
    ·
      have d20 : ¬ smW (μ 11) n := by rcases hw with q | q; omega; exact q.2
      exact VV.loc (go23 _ f1 d20) ⟨rfl, rfl, trivial⟩
end
