/-! ===== Progress ===== -/
/-- what is told of the jobs -/
def jm (μ : Mm) : Mm
  | 0 => μ 3
  | 1 => μ 5
  | 2 => μ 7
  | 3 => μ 9
  | 4 => μ 11
  | 5 => μ 13
  | 6 => μ 15
  | 7 => μ 17
  | 8 => μ 19
  | _ + 9 => fun _ => 0
theorem okJD {μ : Mm} {n : Nat} (hs : okJ μ) (hn : μ 1 9 = (n : Int)) : okD (jm μ) n := by
  unfold okD
  rw [← hn]
  exact okT_ky hs
/-- the Progress at g holds the numbers σ of n jobs -/
def aP (g n : Nat) (μ σ : Mm) : Prop := (∀ j, j < n → μ (g + 2) j = σ 0 j ∧ μ (g + 4) j = σ 1 j ∧ μ (g + 6) j = σ 2 j) ∧ μ g 3 = ((bsN (fun j => decide (rdy σ j)) n : Nat) : Int) ∧ μ g 5 = ((bsN (fun j => decide (σ 0 j = 0)) n : Nat) : Int) ∧ μ g 6 = ((2 ^ n - 1 : Nat) : Int)
theorem bs_add {f : Nat → Bool} {j : Nat} (h : f j = true) : bsN f j ||| 2 ^ j = bsN f (j + 1) := by
  refine bsN_eq (Nat.or_lt_two_pow (Nat.lt_of_lt_of_le (bsN_lt f j) (p2lt (by omega))) (Nat.pow_lt_pow_right (by decide) (by omega))) (fun i hi => ?_)
  rw [Nat.testBit_or, bsN_bit, Nat.testBit_two_pow]
  by_cases e : j = i
  · subst e; simp [h]
  · simp [e, show i < j by omega]
theorem bs_skip {f : Nat → Bool} {j : Nat} (h : f j = false) : bsN f (j + 1) = bsN f j := by simp [bsN, h]
theorem bs_all {f : Nat → Bool} {n : Nat} : bsN f n = 2 ^ n - 1 ↔ ∀ j, j < n → f j = true := by
  constructor
  · intro h j hj
    have h1 := bsN_bit f n j
    rw [h, Nat.testBit_two_pow_sub_one] at h1
    simpa [hj] using h1.symm
  · intro h
    refine (bsN_eq (by have := Nat.two_pow_pos n; omega) (fun i hi => ?_)).symm
    rw [Nat.testBit_two_pow_sub_one, h i hi]
    simp [hi]
theorem bs_none {f : Nat → Bool} {n : Nat} (h : ∀ j, j < n → f j = false) : bsN f n = 0 := by
  have := bsN_eq (f := f) (n := n) (r := 0) (Nat.two_pow_pos n) (fun i hi => by rw [h i hi, Nat.zero_testBit])
  exact this.symm
def mbeg (μ : Mm) (g n i : Nat) : Mm := fun a b => if a = g + 2 ∧ b < i then μ 5 b else if (a = g + 4 ∨ a = g + 6) ∧ b < i then 0 else if a = g ∧ b = 3 then 0 else if a = g ∧ b = 5 then 0 else if a = g ∧ b = 6 then ((2 ^ n - 1 : Nat) : Int) else μ a b
theorem mbeg_s (μ : Mm) (g n i : Nat) : mup (mup (mup (mbeg μ g n i) (g + 2) i (μ 5 i)) (g + 4) i 0) (g + 6) i 0 = mbeg μ g n (i + 1) := by
  funext a b
  simp only [mup, mbeg]
  grind
theorem mbeg_0 (μ : Mm) (g n : Nat) : mup (mup (mup μ g 3 0) g 5 0) g 6 ((2 ^ n - 1 : Nat) : Int) = mbeg μ g n 0 := by
  funext a b
  simp only [mup, mbeg]
  grind
def lat (d e : Int) : Int := if d = 0 then 0 else if 0 < e - d then e - d else 0
def latN (d e : Nat → Int) : Nat → Int
  | 0 => 0
  | j + 1 => latN d e j + if 0 < lat (d j) (e j) then 1 else 0
theorem latN_b (d e : Nat → Int) (n : Nat) : 0 ≤ latN d e n ∧ latN d e n ≤ n := by
  induction n with
  | zero => simp [latN]
  | succ n ih => simp only [latN]; split <;> omega
theorem smF_b {f : Nat → Int} {c : Int} : ∀ {n : Nat}, (∀ j, j < n → 0 ≤ f j ∧ f j ≤ c) → 0 ≤ smF f n ∧ smF f n ≤ n * c := by
  intro n h
  refine ⟨smF_nn (fun j hj => (h j hj).1), ?_⟩
  have := smF_le (g := fun _ => c) (fun j hj => (h j hj).2)
  rwa [smF_const] at this
def madI (μ : Mm) (g : Nat) (σ : Mm) (i : Nat) : Mm := fun a b => if a = g + 6 ∧ b < i ∧ comP (jm μ) σ (σ 6 6) b then σ 6 6 else μ a b
theorem madI_y {μ σ : Mm} {g i : Nat} (h : comP (jm μ) σ (σ 6 6) i) : mup (madI μ g σ i) (g + 6) i (σ 6 6) = madI μ g σ (i + 1) := by
  funext a b
  simp only [mup, madI]
  by_cases e : a = g + 6 ∧ b = i
  · rw [if_pos e, if_pos ⟨e.1, by omega, by rw [e.2]; exact h⟩]
  · rw [if_neg e]
    by_cases c : a = g + 6 ∧ b < i ∧ comP (jm μ) σ (σ 6 6) b
    · rw [if_pos c, if_pos ⟨c.1, by omega, c.2.2⟩]
    · rw [if_neg c, if_neg (fun z => c ⟨z.1, by omega, z.2.2⟩)]
theorem madI_n {μ σ : Mm} {g i : Nat} (h : ¬ comP (jm μ) σ (σ 6 6) i) : madI μ g σ i = madI μ g σ (i + 1) := by
  funext a b
  simp only [madI]
  by_cases c : a = g + 6 ∧ b < i ∧ comP (jm μ) σ (σ 6 6) b
  · rw [if_pos c, if_pos ⟨c.1, by omega, c.2.2⟩]
  · rw [if_neg c, if_neg (fun z => c ⟨z.1, by
      rcases Nat.lt_succ_iff_lt_or_eq.mp z.2.1 with q | q
      · exact q
      · exact absurd (q ▸ z.2.2) h, z.2.2⟩)]
theorem madI_tail {μ σ : Mm} {g i n : Nat} (h : i ≤ n) (q : ∀ k, i ≤ k → k < n → ¬ comP (jm μ) σ (σ 6 6) k) : madI μ g σ i = madI μ g σ n := by
  induction n with
  | zero => rw [show i = 0 by omega]
  | succ n ih =>
    by_cases e : i = n + 1
    · rw [e]
    · rw [ih (by omega) (fun k h1 h2 => q k h1 (by omega)), madI_n (q n (by omega) (by omega))]
theorem bs_tail {f : Nat → Bool} {i n : Nat} (h : i ≤ n) (q : ∀ k, i ≤ k → k < n → f k = false) : bsN f i = bsN f n := by
  induction n with
  | zero => rw [show i = 0 by omega]
  | succ n ih =>
    by_cases e : i = n + 1
    · rw [e]
    · rw [ih (by omega) (fun k h1 h2 => q k h1 (by omega)), bs_skip (q n (by omega) (by omega))]
def madm (μ : Mm) (g n : Nat) (σ : Mm) : Mm := mup (madI μ g σ n) g 3 ((bsN (fun j => decide (rdy σ j) || decide (comP (jm μ) σ (σ 6 6) j)) n : Nat) : Int)
theorem ndn_0 {a b : Nat} : ndn a b = 0 ↔ ∀ k, a.testBit k = true → b.testBit k = true := by
  constructor
  · intro h k hk
    have := ndn_bit a b k
    rw [h, hk] at this
    simpa using this.symm
  · intro h
    apply Nat.eq_of_testBit_eq
    intro i
    rw [ndn_bit, Nat.zero_testBit]
    cases ha : a.testBit i
    · rfl
    · simp [h i ha]
section
variable {l : Launch} {B : Nat} {D : va_G} {E : Nat → ClassId} {μ σ : Mm} {g n : Nat}
theorem c_X6_begin (hst : l.stackTraces = false) (hr : isP g) (hg : 20 ≤ g) (hs : okJ μ) (hn : μ 1 9 = (n : Int)) :
    Ct l B D E yX6_begin (.code yX6_begin cX6_begin 2 none) rm_X6_begin [.ref (pl B g)] μ (rv (mbeg μ g n n)) NX := by
  have hb := hs.1
  have e1 : ∀ i, mbeg μ g n i 1 9 = (n : Int) := by intro i; rw [← hn]; simp only [mbeg]; grind
  have e5 : ∀ i b, mbeg μ g n i 5 b = μ 5 b := by intro i b; simp only [mbeg]; grind
  have e0 : bsl 1 (n : Int) - 1 = ((2 ^ n - 1 : Nat) : Int) := by
    rw [bsl_1 n (by omega)]
    have := Nat.two_pow_pos n
    omega
  refine ct_of (own := RX6) (lv := [(0, _)]) hst (by decide) rfl rfl (Nat.le_of_ble_eq_true rfl) fun a h r t => ?_
  have loop : ∀ (d i : Nat), i + d = n → VV a B (SP B D E (mbeg μ g n i)) 0 0 27 [(1, iI (i : Int)), (0, .ref (pl B g))] [] := by
    intro d
    induction d with
    | zero =>
      intro i hi
      have e1i := e1 i
      refine v_iload_n (pc := 27) h (dk dt_X6_begin 17 rfl) rfl ?_
      refine v_aload_n (pc := 28) h (dk dt_X6_begin 18 rfl) rfl ?_
      refine v_getr (pc := 29) h ci6 (P_hd hr) (Nat.le_of_ble_eq_true rfl) (j := 4) wF_X6_36 rfl (dk dt_X6_begin 19 rfl) ?_
      refine v_geti (pc := 32) h ci1 sh1 (Nat.le_of_ble_eq_true rfl) (j := 9) wF_X6_40 rfl (dk dt_X6_begin 20 rfl) ?_
      refine v_icmp_ge (pc := 35) h 81 (dk dt_X6_begin 21 rfl) rfl (by omega) (fun c35 => ?_) (fun c35 => ?_)
      ·
        exact v_vret (pc := 81) h r (dk dt_X6_begin 43 rfl) (Nat.le_of_ble_eq_true rfl) (Nat.le_of_ble_eq_true rfl) ⟨rfl, by rw [show n = i by omega]⟩
      ·
        exact absurd c35 (by omega)
    | succ d ih =>
      intro i hi
      have e1i := e1 i
      refine v_iload_n (pc := 27) h (dk dt_X6_begin 17 rfl) rfl ?_
      refine v_aload_n (pc := 28) h (dk dt_X6_begin 18 rfl) rfl ?_
      refine v_getr (pc := 29) h ci6 (P_hd hr) (Nat.le_of_ble_eq_true rfl) (j := 4) wF_X6_36 rfl (dk dt_X6_begin 19 rfl) ?_
      refine v_geti (pc := 32) h ci1 sh1 (Nat.le_of_ble_eq_true rfl) (j := 9) wF_X6_40 rfl (dk dt_X6_begin 20 rfl) ?_
      refine v_icmp_ge (pc := 35) h 81 (dk dt_X6_begin 21 rfl) rfl (by omega) (fun c35 => ?_) (fun c35 => ?_)
      ·
        exact absurd c35 (by omega)
      ·
        refine v_aload_n (pc := 38) h (dk dt_X6_begin 22 rfl) rfl ?_
        refine v_getr (pc := 39) h ci6 (P_hd hr) (Nat.le_of_ble_eq_true rfl) (j := 0) wF_X6_14 rfl (dk dt_X6_begin 23 rfl) ?_
        refine v_iload_n (pc := 42) h (dk dt_X6_begin 24 rfl) rfl ?_
        refine v_aload_n (pc := 43) h (dk dt_X6_begin 25 rfl) rfl ?_
        refine v_getr (pc := 44) h ci6 (P_hd hr) (Nat.le_of_ble_eq_true rfl) (j := 4) wF_X6_36 rfl (dk dt_X6_begin 26 rfl) ?_
        refine v_getr (pc := 47) h ci1 sh1 (Nat.le_of_ble_eq_true rfl) (j := 1) wF_X6_45 rfl (dk dt_X6_begin 27 rfl) ?_
        refine v_iload_n (pc := 50) h (dk dt_X6_begin 28 rfl) rfl ?_
        refine v_cVi (pc := 51) h (c_X7_atn h.quiet jr1 (o1 := 5) rfl (Nat.le_of_ble_eq_true rfl) (by omega)) kv_X7_at jr1.1 wM_X6_48 rfl rfl (Nat.le_of_ble_eq_true rfl) (RM.of rfl) rfl rfl (dk dt_X6_begin 29 rfl) ?_
        refine v_cVv (pc := 54) h (c_X7_putn h.quiet (P_lefts hr) (o1 := g + 2) rfl (Nat.le_of_ble_eq_true rfl) (by omega)) kv_X7_put (P_lefts hr).1 wM_X6_52 rfl rfl (Nat.le_of_ble_eq_true rfl) (RM.of rfl) rfl rfl (dk dt_X6_begin 30 rfl) ?_
        refine v_aload_n (pc := 57) h (dk dt_X6_begin 31 rfl) rfl ?_
        refine v_getr (pc := 58) h ci6 (P_hd hr) (Nat.le_of_ble_eq_true rfl) (j := 1) wF_X6_20 rfl (dk dt_X6_begin 32 rfl) ?_
        refine v_iload_n (pc := 61) h (dk dt_X6_begin 33 rfl) rfl ?_
        refine v_iconst (pc := 62) h (dk dt_X6_begin 34 rfl) ?_
        refine v_cVv (pc := 63) h (c_X7_putn h.quiet (P_ends hr) (o1 := g + 4) rfl (Nat.le_of_ble_eq_true rfl) (by omega)) kv_X7_put (P_ends hr).1 wM_X6_52 rfl rfl (Nat.le_of_ble_eq_true rfl) (RM.of rfl) rfl rfl (dk dt_X6_begin 35 rfl) ?_
        refine v_aload_n (pc := 66) h (dk dt_X6_begin 36 rfl) rfl ?_
        refine v_getr (pc := 67) h ci6 (P_hd hr) (Nat.le_of_ble_eq_true rfl) (j := 2) wF_X6_23 rfl (dk dt_X6_begin 37 rfl) ?_
        refine v_iload_n (pc := 70) h (dk dt_X6_begin 38 rfl) rfl ?_
        refine v_iconst (pc := 71) h (dk dt_X6_begin 39 rfl) ?_
        refine v_cVv (pc := 72) h (c_X7_putn h.quiet (P_since hr) (o1 := g + 6) rfl (Nat.le_of_ble_eq_true rfl) (by omega)) kv_X7_put (P_since hr).1 wM_X6_52 rfl rfl (Nat.le_of_ble_eq_true rfl) (RM.of rfl) rfl rfl (dk dt_X6_begin 40 rfl) ?_
        refine v_iinc (lv' := [(1, _), (0, _)]) (pc := 75) h (dk dt_X6_begin 41 rfl) rfl (Nat.le_of_ble_eq_true rfl) rfl ?_
        refine v_goto (pc := 78) h 27 (dk dt_X6_begin 42 rfl) rfl ?_
        rw [e5, mbeg_s]
        exact VV.loc (ih (i + 1) (by omega)) ⟨rfl, rfl, trivial⟩
  refine v_aload_n (pc := 0) h (dk dt_X6_begin 0 rfl) rfl ?_
  refine v_iconst (pc := 1) h (dk dt_X6_begin 1 rfl) ?_
  refine v_put (pc := 2) h ci6 (P_hd hr) (Nat.le_of_ble_eq_true rfl) (j := 3) wF_X6_26 rfl rfl rfl rfl (dk dt_X6_begin 2 rfl) ?_
  refine v_aload_n (pc := 5) h (dk dt_X6_begin 3 rfl) rfl ?_
  refine v_iconst (pc := 6) h (dk dt_X6_begin 4 rfl) ?_
  refine v_put (pc := 7) h ci6 (P_hd hr) (Nat.le_of_ble_eq_true rfl) (j := 5) wF_X6_30 rfl rfl rfl rfl (dk dt_X6_begin 5 rfl) ?_
  refine v_aload_n (pc := 10) h (dk dt_X6_begin 6 rfl) rfl ?_
  refine v_iconst (pc := 11) h (dk dt_X6_begin 7 rfl) ?_
  refine v_aload_n (pc := 12) h (dk dt_X6_begin 8 rfl) rfl ?_
  refine v_getr (pc := 13) h ci6 (P_hd hr) (Nat.le_of_ble_eq_true rfl) (j := 4) wF_X6_36 rfl (dk dt_X6_begin 9 rfl) ?_
  refine v_geti (pc := 16) h ci1 sh1 (Nat.le_of_ble_eq_true rfl) (j := 9) wF_X6_40 rfl (dk dt_X6_begin 10 rfl) ?_
  rw [mup_nk (a := 1) (by omega), mup_nk (a := 1) (by omega), hn]
  refine v_ishl (pc := 19) h (dk dt_X6_begin 11 rfl) ?_
  refine v_iconst (pc := 20) h (dk dt_X6_begin 12 rfl) ?_
  refine v_isub (pc := 21) h (dk dt_X6_begin 13 rfl) ?_
  rw [e0]
  refine v_put (pc := 22) h ci6 (P_hd hr) (Nat.le_of_ble_eq_true rfl) (j := 6) wF_X6_33 rfl rfl rfl rfl (dk dt_X6_begin 14 rfl) ?_
  refine v_iconst (pc := 25) h (dk dt_X6_begin 15 rfl) ?_
  refine v_istore_n (lv' := [(1, _), (0, _)]) (pc := 26) h (dk dt_X6_begin 16 rfl) (Nat.le_of_ble_eq_true rfl) rfl ?_
  rw [mbeg_0]
  exact VV.loc (loop n 0 (by omega)) ⟨rfl, rfl, trivial⟩
theorem c_X6_admit (hst : l.stackTraces = false) (hr : isP g) (hg : 20 ≤ g) (hs : okJ μ) (hn : μ 1 9 = (n : Int)) (ha : aP g n μ σ) (hB : vB (jm μ) n σ) (ht : σ 6 6 ≤ 4000) :
    Ct l B D E yX6_admit (.code yX6_admit cX6_admit 6 (some .int)) rm_X6_admit [.ref (pl B g), iI (σ 6 6)] μ (ri ((bsN (fun j => decide (comP (jm μ) σ (σ 6 6) j)) n : Nat) : Int) (madm μ g n σ)) NX := by
  have hb := hs.1
  have hn12 : n ≤ 12 := by omega
  have hD := okJD hs hn
  have ht0 := hB.1
  obtain ⟨-, hR, hN, hA⟩ := ha
  generalize hRd : bsN (fun j => decide (rdy σ j)) n = R at hR
  generalize hNd : bsN (fun j => decide (σ 0 j = 0)) n = N at hN
  have hR12 : R < 4096 := by rw [← hRd]; exact bsN_lt12 _ hn12
  have hN12 : N < 4096 := by rw [← hNd]; exact bsN_lt12 _ hn12
  have hp : 2 ^ n - 1 < 4096 := by have : 2 ^ n ≤ 4096 := p2lt hn12; have := Nat.two_pow_pos n; omega
  have hRN : R ||| N < 4096 := Nat.or_lt_two_pow (n := 12) hR12 hN12
  have hRb : ∀ i, i < n → R.testBit i = decide (rdy σ i) := fun i hi => by rw [← hRd, bsN_bit]; simp [hi]
  have hNb : ∀ i, N.testBit i = (decide (i < n) && decide (σ 0 i = 0)) := fun i => by rw [← hNd, bsN_bit]
  generalize hAd : ndn (2 ^ n - 1) (R ||| N) = A
  have hA12 : A < 4096 := by rw [← hAd]; exact ndn_lt (k := 12) hp
  have hAv : bnd ((2 ^ n - 1 : Nat) : Int) (bxr (bor (R : Int) (N : Int)) (-1)) = ((A : Nat) : Int) := by
    rw [bor_n (by omega) (by omega), bndx_n (by omega) (by omega), hAd]
  have hAb : ∀ i, A.testBit i = true ↔ (i < n ∧ σ 5 i ≠ 1) := by
    intro i
    rw [← hAd, ndn_bit, Nat.testBit_two_pow_sub_one, Nat.testBit_or, hNb]
    by_cases hi : i < n
    · rw [hRb i hi]
      have h1 := hB.2 i hi
      have h2 := okD_l hD hi
      simp only [hi, decide_true, Bool.true_and, true_and, Bool.not_or, Bool.and_eq_true, Bool.not_eq_true', decide_eq_false_iff_not]
      constructor
      · rintro ⟨q1, q2⟩ q3; exact q1 ⟨q3, by have := h1.2.1; omega⟩
      · intro q
        have : σ 5 i = 0 := by rcases h1.1 with z | z; exact z; exact absurd z q
        have := h1.2.2.1 this
        exact ⟨fun z => q z.1, by omega⟩
    · simp [hi]
  generalize hcd : (fun j => decide (comP (jm μ) σ (σ 6 6) j)) = cm
  have hcm : ∀ j, cm j = true ↔ comP (jm μ) σ (σ 6 6) j := fun j => by rw [← hcd]; simp
  have hcf : ∀ j, cm j = false ↔ ¬ comP (jm μ) σ (σ 6 6) j := fun j => by rw [← hcd]; simp
  have e1 : ∀ i, madI μ g σ i 1 9 = (n : Int) := by intro i; rw [← hn]; simp only [madI]; rw [if_neg (by omega)]
  have eo : ∀ i a b, a ≠ g + 6 → madI μ g σ i a b = μ a b := by intro i a b h; simp only [madI]; rw [if_neg (fun z => h z.1)]
  have hw : ∀ i, i < n → bnd (μ 11 i) (bxr (N : Int) (-1)) = ((ndn (μ 11 i).toNat N : Nat) : Int) := by
    intro i hi
    have h1 := (hs.2 i (by omega)).2.2.2.2.1
    have h2 : 2 ^ i ≤ 2 ^ 11 := p2lt (by omega)
    have e : μ 11 i = (((μ 11 i).toNat : Nat) : Int) := by omega
    rw [e, bndx_n (by omega) (by omega)]
    rfl
  have hw0 : ∀ i, i < n → (((ndn (μ 11 i).toNat N : Nat) : Int) = 0 ↔ ∀ k, k < i → (μ 11 i).toNat.testBit k = true → σ 0 k = 0) := by
    intro i hi
    have h1 := (hs.2 i (by omega)).2.2.2.2.1
    rw [show (((ndn (μ 11 i).toNat N : Nat) : Int) = 0 ↔ ndn (μ 11 i).toNat N = 0) by omega, ndn_0]
    constructor
    · intro q k hk hb
      have := q k hb
      rw [hNb] at this
      simp only [Bool.and_eq_true, decide_eq_true_eq] at this
      exact this.2
    · intro q k hb
      have hk : k < i := by
        rcases Nat.lt_or_ge k i with z | z
        · exact z
        · rw [Nat.testBit_lt_two_pow (Nat.lt_of_lt_of_le (show (μ 11 i).toNat < 2 ^ i by omega) (p2lt z))] at hb
          exact absurd hb (by decide)
      rw [hNb]
      simp [q k hk hb, show k < n by omega]
  refine ct_of (own := RX6) (lv := [(0, _), (1, _)]) hst (by decide) rfl rfl (Nat.le_of_ble_eq_true rfl) fun a h r t => ?_
  have fin : ∀ i : Nat, bsN cm i = bsN cm n → madI μ g σ i = madI μ g σ n → VV a B (SP B D E (madI μ g σ i)) 0 0 123 [(2, iI ((bsN cm i : Nat) : Int)), (0, .ref (pl B g))] [] := by
    intro i q1 q2
    have hc12 := bsN_lt12 cm hn12
    refine v_aload_n (pc := 123) h (dk dt_X6_admit 67 rfl) rfl ?_
    refine v_dup (pc := 124) h (dk dt_X6_admit 68 rfl) rfl ?_
    refine v_geti (pc := 125) h ci6 (P_hd hr) (Nat.le_of_ble_eq_true rfl) (j := 3) wF_X6_26 rfl (dk dt_X6_admit 69 rfl) ?_
    rw [eo _ _ _ (show g ≠ g + 6 by omega), hR, q1]
    refine v_iload_n (pc := 128) h (dk dt_X6_admit 70 rfl) rfl ?_
    refine v_ior (pc := 129) h (dk dt_X6_admit 71 rfl) ?_
    rw [bor_n (by omega) (by omega)]
    refine v_put (pc := 130) h ci6 (P_hd hr) (Nat.le_of_ble_eq_true rfl) (j := 3) wF_X6_26 rfl rfl rfl rfl (dk dt_X6_admit 72 rfl) ?_
    refine v_iload_n (pc := 133) h (dk dt_X6_admit 73 rfl) rfl ?_
    exact v_iret (pc := 134) h r (dk dt_X6_admit 74 rfl) (Nat.le_of_ble_eq_true rfl) (Nat.le_of_ble_eq_true rfl) ⟨rfl, by rw [q2]; unfold madm; congr 2; exact bsN_eq (Nat.or_lt_two_pow (by rw [← hRd]; exact bsN_lt _ _) (bsN_lt _ _)) (fun i hi => by rw [Nat.testBit_or, hRb i hi, bsN_bit, ← hcd]; simp [hi])⟩
  have loop : ∀ (d i : Nat), i + d = n → VV a B (SP B D E (madI μ g σ i)) 0 0 22 [(4, iI (i : Int)), (2, iI ((bsN cm i : Nat) : Int)), (3, iI ((A : Nat) : Int)), (0, .ref (pl B g)), (1, iI (σ 6 6))] [] := by
    intro d
    induction d with
    | zero =>
      intro i hi
      have e1i := e1 i
      refine v_iload (pc := 22) h (dk dt_X6_admit 15 rfl) rfl ?_
      refine v_aload_n (pc := 24) h (dk dt_X6_admit 16 rfl) rfl ?_
      refine v_getr (pc := 25) h ci6 (P_hd hr) (Nat.le_of_ble_eq_true rfl) (j := 4) wF_X6_36 rfl (dk dt_X6_admit 17 rfl) ?_
      refine v_geti (pc := 28) h ci1 sh1 (Nat.le_of_ble_eq_true rfl) (j := 9) wF_X6_40 rfl (dk dt_X6_admit 18 rfl) ?_
      refine v_icmp_ge (pc := 31) h 123 (dk dt_X6_admit 19 rfl) rfl (by omega) (fun c31 => ?_) (fun c31 => ?_)
      ·
        exact VV.loc (fin i (by rw [show i = n by omega]) (by rw [show i = n by omega])) ⟨rfl, rfl, trivial⟩
      ·
        exact absurd c31 (by omega)
    | succ d ih =>
      intro i hi
      have e1i := e1 i
      have hin : i < n := by omega
      have hc12 := bsN_lt12 cm (n := i) (by omega)
      have hce := okD_c hD hin
      have hcv : jm μ 0 i = μ 3 i := rfl
      have hsr := bsr_n (a := A) (j := i) (by omega) (by omega)
      have hdv : A / 2 ^ i ≤ A := Nat.div_le_self _ _
      generalize A / 2 ^ i = Q at hsr hdv
      have hnd : ndn (μ 11 i).toNat N < 4096 := ndn_lt (k := 12) (by have h1 := (hs.2 i (by omega)).2.2.2.2.1; have h2 : 2 ^ i ≤ 2 ^ 11 := p2lt (by omega); omega)
      have hAi := hAb i
      have hwi := hw0 i hin
      have hcomp : comP (jm μ) σ (σ 6 6) i ↔ σ 5 i ≠ 1 ∧ μ 3 i ≤ σ 6 6 ∧ ∀ k, k < i → (μ 11 i).toNat.testBit k = true → σ 0 k = 0 := Iff.rfl
      have out : (¬ comP (jm μ) σ (σ 6 6) i) → VV a B (SP B D E (madI μ g σ i)) 0 0 22 [(4, iI ((i : Int) + 1)), (2, iI ((bsN cm i : Nat) : Int)), (3, iI ((A : Nat) : Int)), (0, .ref (pl B g)), (1, iI (σ 6 6))] [] := by
        intro q
        rw [madI_n q, ← bs_skip ((hcf i).mpr q)]
        exact ih (i + 1) (by omega)
      refine v_iload (pc := 22) h (dk dt_X6_admit 15 rfl) rfl ?_
      refine v_aload_n (pc := 24) h (dk dt_X6_admit 16 rfl) rfl ?_
      refine v_getr (pc := 25) h ci6 (P_hd hr) (Nat.le_of_ble_eq_true rfl) (j := 4) wF_X6_36 rfl (dk dt_X6_admit 17 rfl) ?_
      refine v_geti (pc := 28) h ci1 sh1 (Nat.le_of_ble_eq_true rfl) (j := 9) wF_X6_40 rfl (dk dt_X6_admit 18 rfl) ?_
      refine v_icmp_ge (pc := 31) h 123 (dk dt_X6_admit 19 rfl) rfl (by omega) (fun c31 => ?_) (fun c31 => ?_)
      ·
        exact absurd c31 (by omega)
      ·
        refine v_iload_n (pc := 34) h (dk dt_X6_admit 20 rfl) rfl ?_
        refine v_iload (pc := 35) h (dk dt_X6_admit 21 rfl) rfl ?_
        refine v_ishr (pc := 37) h (dk dt_X6_admit 22 rfl) ?_
        refine v_if_eq (pc := 38) h 123 (dk dt_X6_admit 23 rfl) rfl (by rw [hsr]; omega) (fun c38 => ?_) (fun c38 => ?_)
        ·
          have z38 : ∀ k, i ≤ k → k < n → ¬ comP (jm μ) σ (σ 6 6) k := fun k hk hkn q => by
            have := (hAb k).mpr ⟨hkn, q.1⟩
            rw [bsr_0 (by omega) (by omega) c38 hk] at this
            exact absurd this (by decide)
          exact VV.loc (fin i (bs_tail (by omega) (fun k h1 h2 => (hcf k).mpr (z38 k h1 h2))) (madI_tail (by omega) z38)) ⟨rfl, rfl, trivial⟩
        ·
          refine v_iload_n (pc := 41) h (dk dt_X6_admit 24 rfl) rfl ?_
          refine v_iload (pc := 42) h (dk dt_X6_admit 25 rfl) rfl ?_
          refine v_ishr (pc := 44) h (dk dt_X6_admit 26 rfl) ?_
          refine v_iconst (pc := 45) h (dk dt_X6_admit 27 rfl) ?_
          refine v_iand (pc := 46) h (dk dt_X6_admit 28 rfl) ?_
          rw [bit1 (by omega) (by omega)]
          refine v_if_eq (pc := 47) h 54 (dk dt_X6_admit 29 rfl) rfl (by split <;> omega) (fun c47 => ?_) (fun c47 => ?_)
          ·
            have d47 : ¬ A.testBit i = true := fun q => by rw [if_pos q] at c47; omega
            refine v_iconst (pc := 54) h (dk dt_X6_admit 32 rfl) ?_
            refine v_istore (lv' := [(5, _), (4, _), (2, _), (3, _), (0, _), (1, _)]) (pc := 55) h (dk dt_X6_admit 33 rfl) (Nat.le_of_ble_eq_true rfl) rfl ?_
            refine v_iload (pc := 57) h (dk dt_X6_admit 34 rfl) rfl ?_
            refine v_if_eq (pc := 59) h 117 (dk dt_X6_admit 35 rfl) rfl (by omega) (fun c59 => ?_) (fun c59 => ?_)
            ·
              have d59 : ¬ comP (jm μ) σ (σ 6 6) i := by first | exact absurd c59 (by decide) | exact fun q => d47 (hAi.mpr ⟨hin, q.1⟩)
              refine v_iinc (lv' := [(4, _), (5, _), (2, _), (3, _), (0, _), (1, _)]) (pc := 117) h (dk dt_X6_admit 65 rfl) rfl (Nat.le_of_ble_eq_true rfl) rfl ?_
              refine v_goto (pc := 120) h 22 (dk dt_X6_admit 66 rfl) rfl ?_
              first
                | exact absurd rfl c59
                | exact VV.loc (out d59) ⟨rfl, rfl, rfl, rfl, rfl, trivial⟩
                | exact VV.loc (ih (i + 1) (by omega)) ⟨rfl, rfl, rfl, rfl, rfl, trivial⟩
            ·
              refine v_aload_n (pc := 62) h (dk dt_X6_admit 36 rfl) rfl ?_
              refine v_getr (pc := 63) h ci6 (P_hd hr) (Nat.le_of_ble_eq_true rfl) (j := 4) wF_X6_36 rfl (dk dt_X6_admit 37 rfl) ?_
              refine v_getr (pc := 66) h ci1 sh1 (Nat.le_of_ble_eq_true rfl) (j := 0) wF_X6_56 rfl (dk dt_X6_admit 38 rfl) ?_
              refine v_iload (pc := 69) h (dk dt_X6_admit 39 rfl) rfl ?_
              refine v_cVi (pc := 71) h (c_X7_atn h.quiet jr0 (o1 := 3) rfl (Nat.le_of_ble_eq_true rfl) (by omega)) kv_X7_at jr0.1 wM_X6_48 rfl rfl (Nat.le_of_ble_eq_true rfl) (RM.of rfl) rfl rfl (dk dt_X6_admit 40 rfl) ?_
              rw [eo _ _ _ (show (3 : Nat) ≠ g + 6 by omega)]
              refine v_iload_n (pc := 74) h (dk dt_X6_admit 41 rfl) rfl ?_
              refine v_icmp_gt (pc := 75) h 117 (dk dt_X6_admit 42 rfl) rfl (by omega) (fun c75 => ?_) (fun c75 => ?_)
              ·
                have d59 : ¬ comP (jm μ) σ (σ 6 6) i := fun q => by have := q.2.1; omega
                refine v_iinc (lv' := [(4, _), (5, _), (2, _), (3, _), (0, _), (1, _)]) (pc := 117) h (dk dt_X6_admit 65 rfl) rfl (Nat.le_of_ble_eq_true rfl) rfl ?_
                refine v_goto (pc := 120) h 22 (dk dt_X6_admit 66 rfl) rfl ?_
                first
                  | exact absurd rfl c59
                  | exact VV.loc (out d59) ⟨rfl, rfl, rfl, rfl, rfl, trivial⟩
                  | exact VV.loc (ih (i + 1) (by omega)) ⟨rfl, rfl, rfl, rfl, rfl, trivial⟩
              ·
                refine v_aload_n (pc := 78) h (dk dt_X6_admit 43 rfl) rfl ?_
                refine v_getr (pc := 79) h ci6 (P_hd hr) (Nat.le_of_ble_eq_true rfl) (j := 4) wF_X6_36 rfl (dk dt_X6_admit 44 rfl) ?_
                refine v_getr (pc := 82) h ci1 sh1 (Nat.le_of_ble_eq_true rfl) (j := 4) wF_X6_59 rfl (dk dt_X6_admit 45 rfl) ?_
                refine v_iload (pc := 85) h (dk dt_X6_admit 46 rfl) rfl ?_
                refine v_cVi (pc := 87) h (c_X7_atn h.quiet jr4 (o1 := 11) rfl (Nat.le_of_ble_eq_true rfl) (by omega)) kv_X7_at jr4.1 wM_X6_48 rfl rfl (Nat.le_of_ble_eq_true rfl) (RM.of rfl) rfl rfl (dk dt_X6_admit 47 rfl) ?_
                rw [eo _ _ _ (show (11 : Nat) ≠ g + 6 by omega)]
                refine v_aload_n (pc := 90) h (dk dt_X6_admit 48 rfl) rfl ?_
                refine v_geti (pc := 91) h ci6 (P_hd hr) (Nat.le_of_ble_eq_true rfl) (j := 5) wF_X6_30 rfl (dk dt_X6_admit 49 rfl) ?_
                rw [eo _ _ _ (show g ≠ g + 6 by omega), hN]
                refine v_iconst (pc := 94) h (dk dt_X6_admit 50 rfl) ?_
                refine v_ixor (pc := 95) h (dk dt_X6_admit 51 rfl) ?_
                refine v_iand (pc := 96) h (dk dt_X6_admit 52 rfl) ?_
                rw [hw i hin]
                refine v_if_ne (pc := 97) h 117 (dk dt_X6_admit 53 rfl) rfl (by omega) (fun c97 => ?_) (fun c97 => ?_)
                ·
                  have d59 : ¬ comP (jm μ) σ (σ 6 6) i := fun q => c97 (hwi.mpr q.2.2)
                  refine v_iinc (lv' := [(4, _), (5, _), (2, _), (3, _), (0, _), (1, _)]) (pc := 117) h (dk dt_X6_admit 65 rfl) rfl (Nat.le_of_ble_eq_true rfl) rfl ?_
                  refine v_goto (pc := 120) h 22 (dk dt_X6_admit 66 rfl) rfl ?_
                  first
                    | exact absurd rfl c59
                    | exact VV.loc (out d59) ⟨rfl, rfl, rfl, rfl, rfl, trivial⟩
                    | exact VV.loc (ih (i + 1) (by omega)) ⟨rfl, rfl, rfl, rfl, rfl, trivial⟩
                ·
                  have d59 : comP (jm μ) σ (σ 6 6) i := ⟨by first | exact absurd rfl c59 | exact (hAi.mp d47).2, by omega, hwi.mp c97⟩
                  refine v_iload_n (pc := 100) h (dk dt_X6_admit 54 rfl) rfl ?_
                  refine v_iconst (pc := 101) h (dk dt_X6_admit 55 rfl) ?_
                  refine v_iload (pc := 102) h (dk dt_X6_admit 56 rfl) rfl ?_
                  refine v_ishl (pc := 104) h (dk dt_X6_admit 57 rfl) ?_
                  rw [bsl_1 i (by omega)]
                  refine v_ior (pc := 105) h (dk dt_X6_admit 58 rfl) ?_
                  rw [bor_n (by omega) (by have := p2lt (show i ≤ 12 by omega); omega), bs_add ((hcm i).mpr d59)]
                  refine v_istore_n (lv' := [(2, _), (5, _), (4, _), (3, _), (0, _), (1, _)]) (pc := 106) h (dk dt_X6_admit 59 rfl) (Nat.le_of_ble_eq_true rfl) rfl ?_
                  refine v_aload_n (pc := 107) h (dk dt_X6_admit 60 rfl) rfl ?_
                  refine v_getr (pc := 108) h ci6 (P_hd hr) (Nat.le_of_ble_eq_true rfl) (j := 2) wF_X6_23 rfl (dk dt_X6_admit 61 rfl) ?_
                  refine v_iload (pc := 111) h (dk dt_X6_admit 62 rfl) rfl ?_
                  refine v_iload_n (pc := 113) h (dk dt_X6_admit 63 rfl) rfl ?_
                  refine v_cVv (pc := 114) h (c_X7_putn h.quiet (P_since hr) (o1 := g + 6) rfl (Nat.le_of_ble_eq_true rfl) (by omega)) kv_X7_put (P_since hr).1 wM_X6_52 rfl rfl (Nat.le_of_ble_eq_true rfl) (RM.of rfl) rfl rfl (dk dt_X6_admit 64 rfl) ?_
                  rw [madI_y d59]
                  refine v_iinc (lv' := [(4, _), (2, _), (5, _), (3, _), (0, _), (1, _)]) (pc := 117) h (dk dt_X6_admit 65 rfl) rfl (Nat.le_of_ble_eq_true rfl) rfl ?_
                  refine v_goto (pc := 120) h 22 (dk dt_X6_admit 66 rfl) rfl ?_
                  first
                    | exact absurd rfl c59
                    | exact VV.loc (out d59) ⟨rfl, rfl, rfl, rfl, rfl, trivial⟩
                    | exact VV.loc (ih (i + 1) (by omega)) ⟨rfl, rfl, rfl, rfl, rfl, trivial⟩
          ·
            have d47 : A.testBit i = true := by by_cases q : A.testBit i = true; exact q; rw [if_neg q] at c47; omega
            refine v_iconst (pc := 50) h (dk dt_X6_admit 30 rfl) ?_
            refine v_goto (pc := 51) h 55 (dk dt_X6_admit 31 rfl) rfl ?_
            refine v_istore (lv' := [(5, _), (4, _), (2, _), (3, _), (0, _), (1, _)]) (pc := 55) h (dk dt_X6_admit 33 rfl) (Nat.le_of_ble_eq_true rfl) rfl ?_
            refine v_iload (pc := 57) h (dk dt_X6_admit 34 rfl) rfl ?_
            refine v_if_eq (pc := 59) h 117 (dk dt_X6_admit 35 rfl) rfl (by omega) (fun c59 => ?_) (fun c59 => ?_)
            ·
              have d59 : ¬ comP (jm μ) σ (σ 6 6) i := by first | exact absurd c59 (by decide) | exact fun q => d47 (hAi.mpr ⟨hin, q.1⟩)
              refine v_iinc (lv' := [(4, _), (5, _), (2, _), (3, _), (0, _), (1, _)]) (pc := 117) h (dk dt_X6_admit 65 rfl) rfl (Nat.le_of_ble_eq_true rfl) rfl ?_
              refine v_goto (pc := 120) h 22 (dk dt_X6_admit 66 rfl) rfl ?_
              first
                | exact absurd rfl c59
                | exact VV.loc (out d59) ⟨rfl, rfl, rfl, rfl, rfl, trivial⟩
                | exact VV.loc (ih (i + 1) (by omega)) ⟨rfl, rfl, rfl, rfl, rfl, trivial⟩
            ·
              refine v_aload_n (pc := 62) h (dk dt_X6_admit 36 rfl) rfl ?_
              refine v_getr (pc := 63) h ci6 (P_hd hr) (Nat.le_of_ble_eq_true rfl) (j := 4) wF_X6_36 rfl (dk dt_X6_admit 37 rfl) ?_
              refine v_getr (pc := 66) h ci1 sh1 (Nat.le_of_ble_eq_true rfl) (j := 0) wF_X6_56 rfl (dk dt_X6_admit 38 rfl) ?_
              refine v_iload (pc := 69) h (dk dt_X6_admit 39 rfl) rfl ?_
              refine v_cVi (pc := 71) h (c_X7_atn h.quiet jr0 (o1 := 3) rfl (Nat.le_of_ble_eq_true rfl) (by omega)) kv_X7_at jr0.1 wM_X6_48 rfl rfl (Nat.le_of_ble_eq_true rfl) (RM.of rfl) rfl rfl (dk dt_X6_admit 40 rfl) ?_
              rw [eo _ _ _ (show (3 : Nat) ≠ g + 6 by omega)]
              refine v_iload_n (pc := 74) h (dk dt_X6_admit 41 rfl) rfl ?_
              refine v_icmp_gt (pc := 75) h 117 (dk dt_X6_admit 42 rfl) rfl (by omega) (fun c75 => ?_) (fun c75 => ?_)
              ·
                have d59 : ¬ comP (jm μ) σ (σ 6 6) i := fun q => by have := q.2.1; omega
                refine v_iinc (lv' := [(4, _), (5, _), (2, _), (3, _), (0, _), (1, _)]) (pc := 117) h (dk dt_X6_admit 65 rfl) rfl (Nat.le_of_ble_eq_true rfl) rfl ?_
                refine v_goto (pc := 120) h 22 (dk dt_X6_admit 66 rfl) rfl ?_
                first
                  | exact absurd rfl c59
                  | exact VV.loc (out d59) ⟨rfl, rfl, rfl, rfl, rfl, trivial⟩
                  | exact VV.loc (ih (i + 1) (by omega)) ⟨rfl, rfl, rfl, rfl, rfl, trivial⟩
              ·
                refine v_aload_n (pc := 78) h (dk dt_X6_admit 43 rfl) rfl ?_
                refine v_getr (pc := 79) h ci6 (P_hd hr) (Nat.le_of_ble_eq_true rfl) (j := 4) wF_X6_36 rfl (dk dt_X6_admit 44 rfl) ?_
                refine v_getr (pc := 82) h ci1 sh1 (Nat.le_of_ble_eq_true rfl) (j := 4) wF_X6_59 rfl (dk dt_X6_admit 45 rfl) ?_
                refine v_iload (pc := 85) h (dk dt_X6_admit 46 rfl) rfl ?_
                refine v_cVi (pc := 87) h (c_X7_atn h.quiet jr4 (o1 := 11) rfl (Nat.le_of_ble_eq_true rfl) (by omega)) kv_X7_at jr4.1 wM_X6_48 rfl rfl (Nat.le_of_ble_eq_true rfl) (RM.of rfl) rfl rfl (dk dt_X6_admit 47 rfl) ?_
                rw [eo _ _ _ (show (11 : Nat) ≠ g + 6 by omega)]
                refine v_aload_n (pc := 90) h (dk dt_X6_admit 48 rfl) rfl ?_
                refine v_geti (pc := 91) h ci6 (P_hd hr) (Nat.le_of_ble_eq_true rfl) (j := 5) wF_X6_30 rfl (dk dt_X6_admit 49 rfl) ?_
                rw [eo _ _ _ (show g ≠ g + 6 by omega), hN]
                refine v_iconst (pc := 94) h (dk dt_X6_admit 50 rfl) ?_
                refine v_ixor (pc := 95) h (dk dt_X6_admit 51 rfl) ?_
                refine v_iand (pc := 96) h (dk dt_X6_admit 52 rfl) ?_
                rw [hw i hin]
                refine v_if_ne (pc := 97) h 117 (dk dt_X6_admit 53 rfl) rfl (by omega) (fun c97 => ?_) (fun c97 => ?_)
                ·
                  have d59 : ¬ comP (jm μ) σ (σ 6 6) i := fun q => c97 (hwi.mpr q.2.2)
                  refine v_iinc (lv' := [(4, _), (5, _), (2, _), (3, _), (0, _), (1, _)]) (pc := 117) h (dk dt_X6_admit 65 rfl) rfl (Nat.le_of_ble_eq_true rfl) rfl ?_
                  refine v_goto (pc := 120) h 22 (dk dt_X6_admit 66 rfl) rfl ?_
                  first
                    | exact absurd rfl c59
                    | exact VV.loc (out d59) ⟨rfl, rfl, rfl, rfl, rfl, trivial⟩
                    | exact VV.loc (ih (i + 1) (by omega)) ⟨rfl, rfl, rfl, rfl, rfl, trivial⟩
                ·
                  have d59 : comP (jm μ) σ (σ 6 6) i := ⟨by first | exact absurd rfl c59 | exact (hAi.mp d47).2, by omega, hwi.mp c97⟩
                  refine v_iload_n (pc := 100) h (dk dt_X6_admit 54 rfl) rfl ?_
                  refine v_iconst (pc := 101) h (dk dt_X6_admit 55 rfl) ?_
                  refine v_iload (pc := 102) h (dk dt_X6_admit 56 rfl) rfl ?_
                  refine v_ishl (pc := 104) h (dk dt_X6_admit 57 rfl) ?_
                  rw [bsl_1 i (by omega)]
                  refine v_ior (pc := 105) h (dk dt_X6_admit 58 rfl) ?_
                  rw [bor_n (by omega) (by have := p2lt (show i ≤ 12 by omega); omega), bs_add ((hcm i).mpr d59)]
                  refine v_istore_n (lv' := [(2, _), (5, _), (4, _), (3, _), (0, _), (1, _)]) (pc := 106) h (dk dt_X6_admit 59 rfl) (Nat.le_of_ble_eq_true rfl) rfl ?_
                  refine v_aload_n (pc := 107) h (dk dt_X6_admit 60 rfl) rfl ?_
                  refine v_getr (pc := 108) h ci6 (P_hd hr) (Nat.le_of_ble_eq_true rfl) (j := 2) wF_X6_23 rfl (dk dt_X6_admit 61 rfl) ?_
                  refine v_iload (pc := 111) h (dk dt_X6_admit 62 rfl) rfl ?_
                  refine v_iload_n (pc := 113) h (dk dt_X6_admit 63 rfl) rfl ?_
                  refine v_cVv (pc := 114) h (c_X7_putn h.quiet (P_since hr) (o1 := g + 6) rfl (Nat.le_of_ble_eq_true rfl) (by omega)) kv_X7_put (P_since hr).1 wM_X6_52 rfl rfl (Nat.le_of_ble_eq_true rfl) (RM.of rfl) rfl rfl (dk dt_X6_admit 64 rfl) ?_
                  rw [madI_y d59]
                  refine v_iinc (lv' := [(4, _), (2, _), (5, _), (3, _), (0, _), (1, _)]) (pc := 117) h (dk dt_X6_admit 65 rfl) rfl (Nat.le_of_ble_eq_true rfl) rfl ?_
                  refine v_goto (pc := 120) h 22 (dk dt_X6_admit 66 rfl) rfl ?_
                  first
                    | exact absurd rfl c59
                    | exact VV.loc (out d59) ⟨rfl, rfl, rfl, rfl, rfl, trivial⟩
                    | exact VV.loc (ih (i + 1) (by omega)) ⟨rfl, rfl, rfl, rfl, rfl, trivial⟩
  refine v_iconst (pc := 0) h (dk dt_X6_admit 0 rfl) ?_
  refine v_istore_n (lv' := [(2, _), (0, _), (1, _)]) (pc := 1) h (dk dt_X6_admit 1 rfl) (Nat.le_of_ble_eq_true rfl) rfl ?_
  refine v_aload_n (pc := 2) h (dk dt_X6_admit 2 rfl) rfl ?_
  refine v_geti (pc := 3) h ci6 (P_hd hr) (Nat.le_of_ble_eq_true rfl) (j := 6) wF_X6_33 rfl (dk dt_X6_admit 3 rfl) ?_
  refine v_aload_n (pc := 6) h (dk dt_X6_admit 4 rfl) rfl ?_
  refine v_geti (pc := 7) h ci6 (P_hd hr) (Nat.le_of_ble_eq_true rfl) (j := 3) wF_X6_26 rfl (dk dt_X6_admit 5 rfl) ?_
  refine v_aload_n (pc := 10) h (dk dt_X6_admit 6 rfl) rfl ?_
  refine v_geti (pc := 11) h ci6 (P_hd hr) (Nat.le_of_ble_eq_true rfl) (j := 5) wF_X6_30 rfl (dk dt_X6_admit 7 rfl) ?_
  refine v_ior (pc := 14) h (dk dt_X6_admit 8 rfl) ?_
  refine v_iconst (pc := 15) h (dk dt_X6_admit 9 rfl) ?_
  refine v_ixor (pc := 16) h (dk dt_X6_admit 10 rfl) ?_
  refine v_iand (pc := 17) h (dk dt_X6_admit 11 rfl) ?_
  rw [hA, hR, hN, hAv]
  refine v_istore_n (lv' := [(3, _), (2, _), (0, _), (1, _)]) (pc := 18) h (dk dt_X6_admit 12 rfl) (Nat.le_of_ble_eq_true rfl) rfl ?_
  refine v_iconst (pc := 19) h (dk dt_X6_admit 13 rfl) ?_
  refine v_istore (lv' := [(4, _), (3, _), (2, _), (0, _), (1, _)]) (pc := 20) h (dk dt_X6_admit 14 rfl) (Nat.le_of_ble_eq_true rfl) rfl ?_
  exact VV.of (loop n 0 (by omega)) (fun _ q => by rw [show madI μ g σ 0 = μ by funext a b; simp [madI]]; exact q) ⟨rfl, rfl, rfl, rfl, rfl, trivial⟩
theorem aP_adm (ha : aP g n μ σ) (hg : 20 ≤ g) (hD : okD (jm μ) n) (hB : vB (jm μ) n σ) : aP g n (madm μ g n σ) (adN (jm μ) n σ) := by
  obtain ⟨h1, h2, h3, h4⟩ := ha
  have e0 : adN (jm μ) n σ 0 = σ 0 := ad_o (by decide) (by decide) (by decide)
  refine ⟨fun j hj => ?_, ?_, ?_, ?_⟩
  · have := h1 j hj
    rw [e0, ad_o (a := 1) (by decide) (by decide) (by decide), ad_2]
    unfold madm
    rw [mup_nk (by omega), mup_nk (by omega), mup_nk (by omega)]
    simp only [madI]
    rw [if_neg (by omega), if_neg (by omega)]
    refine ⟨this.1, this.2.1, ?_⟩
    by_cases c : comP (jm μ) σ (σ 6 6) j
    · rw [if_pos ⟨trivial, hj, c⟩, if_pos ⟨hj, c⟩]
    · rw [if_neg (fun z => c z.2.2), if_neg (fun z => c z.2)]; exact this.2.2
  · unfold madm
    rw [mup_eq]
    congr 1
    refine bsN_cong (fun j hj => ?_)
    have := ad_rdy (J := jm μ) hD hB hj
    rw [← Bool.decide_or, decide_eq_decide]
    exact this.symm
  · unfold madm
    rw [mup_ne (by omega), e0]
    simp only [madI]
    rw [if_neg (by omega)]; exact h3
  · unfold madm
    rw [mup_ne (by omega)]
    simp only [madI]
    rw [if_neg (by omega)]; exact h4
theorem aP_in (hg : 20 ≤ g) (hD : okD (jm μ) n) {z : Int} : aP g n (mbeg μ g n n) (inN (jm μ) z) := by
  have e0 : inN (jm μ) z 0 = μ 5 := by funext b; simp [inN, jm]
  have eo : ∀ a, a ≠ 0 → a ≠ 6 → ∀ b, inN (jm μ) z a b = 0 := fun a h1 h2 b => by simp [inN, h1, h2]
  refine ⟨fun j hj => ?_, ?_, ?_, ?_⟩
  · rw [e0, eo 1 (by decide) (by decide), eo 2 (by decide) (by decide)]
    refine ⟨?_, ?_, ?_⟩ <;> unfold mbeg
    · rw [if_pos ⟨rfl, hj⟩]
    · rw [if_neg (by omega), if_pos ⟨by omega, hj⟩]
    · rw [if_neg (by omega), if_pos ⟨by omega, hj⟩]
  · rw [bs_none (fun j _ => decide_eq_false (fun q => by have := q.1; rw [eo 5 (by decide) (by decide)] at this; omega))]
    unfold mbeg
    rw [if_neg (by omega), if_neg (by omega), if_pos ⟨rfl, rfl⟩]; rfl
  · rw [bs_none (fun j hj => decide_eq_false (fun q => by have := okD_l hD hj; have e : jm μ 1 j = μ 5 j := rfl; have e2 := congrFun e0 j; omega))]
    unfold mbeg
    rw [if_neg (by omega), if_neg (by omega), if_neg (by omega), if_pos ⟨rfl, rfl⟩]; rfl
  · unfold mbeg
    rw [if_neg (by omega), if_neg (by omega), if_neg (by omega), if_neg (by omega), if_pos ⟨rfl, rfl⟩]
theorem c_X6_isReady (hst : l.stackTraces = false) (hr : isP g) (hn : n ≤ 12) (ha : aP g n μ σ) {j : Nat} (hj : j < n) :
    Ct l B D E yX6_isReady (.code yX6_isReady cX6_isReady 2 (some .boolean)) rm_X6_isReady [.ref (pl B g), iI (j : Int)] μ (ri (if rdy σ j then 1 else 0) μ) NX := by
  have hR := ha.2.1
  have h12 := bsN_lt12 (fun j => decide (rdy σ j)) hn
  have hb : (bsN (fun j => decide (rdy σ j)) n).testBit j = true ↔ rdy σ j := by rw [bsN_bit]; simp [hj]
  generalize bsN (fun j => decide (rdy σ j)) n = R at hR h12 hb
  refine ct_of (own := RX6) (lv := [(0, _), (1, _)]) hst (by decide) rfl rfl (Nat.le_of_ble_eq_true rfl) fun a h r t => ?_
  refine v_iload_n (pc := 0) h (dk dt_X6_isReady 0 rfl) rfl ?_
  refine v_if_lt (pc := 1) h 19 (dk dt_X6_isReady 1 rfl) rfl (by omega) (fun c1 => ?_) (fun c1 => ?_)
  ·
    exact absurd c1 (by omega)
  ·
    refine v_aload_n (pc := 4) h (dk dt_X6_isReady 2 rfl) rfl ?_
    refine v_geti (pc := 5) h ci6 (P_hd hr) (Nat.le_of_ble_eq_true rfl) (j := 3) wF_X6_26 rfl (dk dt_X6_isReady 3 rfl) ?_
    rw [hR]
    refine v_iload_n (pc := 8) h (dk dt_X6_isReady 4 rfl) rfl ?_
    refine v_ishr (pc := 9) h (dk dt_X6_isReady 5 rfl) ?_
    refine v_iconst (pc := 10) h (dk dt_X6_isReady 6 rfl) ?_
    refine v_iand (pc := 11) h (dk dt_X6_isReady 7 rfl) ?_
    rw [bit1 (by omega) (by omega)]
    refine v_if_eq (pc := 12) h 19 (dk dt_X6_isReady 8 rfl) rfl (by split <;> omega) (fun c12 => ?_) (fun c12 => ?_)
    ·
      have d12 : ¬ rdy σ j := fun q => by rw [if_pos (hb.mpr q)] at c12; omega
      refine v_iconst (pc := 19) h (dk dt_X6_isReady 11 rfl) ?_
      exact v_zret (pc := 20) h r (dk dt_X6_isReady 12 rfl) (Nat.le_of_ble_eq_true rfl) (Nat.le_of_ble_eq_true rfl) (by omega) ⟨by first | rw [if_pos d12] | rw [if_neg d12], rfl⟩
    ·
      have d12 : rdy σ j := by by_cases q : rdy σ j; exact q; rw [if_neg (fun z => q (hb.mp z))] at c12; omega
      refine v_iconst (pc := 15) h (dk dt_X6_isReady 9 rfl) ?_
      refine v_goto (pc := 16) h 20 (dk dt_X6_isReady 10 rfl) rfl ?_
      exact v_zret (pc := 20) h r (dk dt_X6_isReady 12 rfl) (Nat.le_of_ble_eq_true rfl) (Nat.le_of_ble_eq_true rfl) (by omega) ⟨by first | rw [if_pos d12] | rw [if_neg d12], rfl⟩
theorem c_X6_isOver (hst : l.stackTraces = false) (hr : isP g) (hn : n ≤ 12) (ha : aP g n μ σ) :
    Ct l B D E yX6_isOver (.code yX6_isOver cX6_isOver 1 (some .boolean)) rm_X6_isOver [.ref (pl B g)] μ (ri (if ovr n σ then 1 else 0) μ) NX := by
  obtain ⟨-, -, hN, hA⟩ := ha
  have h12 := bsN_lt12 (fun j => decide (σ 0 j = 0)) hn
  have hb : bsN (fun j => decide (σ 0 j = 0)) n = 2 ^ n - 1 ↔ ovr n σ := by rw [bs_all]; simp [ovr]
  have hp : 2 ^ n - 1 < 4096 := by have : 2 ^ n ≤ 4096 := p2lt hn; have := Nat.two_pow_pos n; omega
  generalize bsN (fun j => decide (σ 0 j = 0)) n = N at hN h12 hb
  generalize 2 ^ n - 1 = A at hA hb hp
  refine ct_of (own := RX6) (lv := [(0, _)]) hst (by decide) rfl rfl (Nat.le_of_ble_eq_true rfl) fun a h r t => ?_
  refine v_aload_n (pc := 0) h (dk dt_X6_isOver 0 rfl) rfl ?_
  refine v_geti (pc := 1) h ci6 (P_hd hr) (Nat.le_of_ble_eq_true rfl) (j := 5) wF_X6_30 rfl (dk dt_X6_isOver 1 rfl) ?_
  refine v_aload_n (pc := 4) h (dk dt_X6_isOver 2 rfl) rfl ?_
  refine v_geti (pc := 5) h ci6 (P_hd hr) (Nat.le_of_ble_eq_true rfl) (j := 6) wF_X6_33 rfl (dk dt_X6_isOver 3 rfl) ?_
  refine v_icmp_ne (pc := 8) h 15 (dk dt_X6_isOver 4 rfl) rfl (by omega) (fun c8 => ?_) (fun c8 => ?_)
  ·
    have d8 : ¬ ovr n σ := fun q => c8 (by rw [hN, hA, hb.mpr q])
    refine v_iconst (pc := 15) h (dk dt_X6_isOver 7 rfl) ?_
    exact v_zret (pc := 16) h r (dk dt_X6_isOver 8 rfl) (Nat.le_of_ble_eq_true rfl) (Nat.le_of_ble_eq_true rfl) (by omega) ⟨by first | rw [if_pos d8] | rw [if_neg d8], rfl⟩
  ·
    have d8 : ovr n σ := hb.mp (by omega)
    refine v_iconst (pc := 11) h (dk dt_X6_isOver 5 rfl) ?_
    refine v_goto (pc := 12) h 16 (dk dt_X6_isOver 6 rfl) rfl ?_
    exact v_zret (pc := 16) h r (dk dt_X6_isOver 8 rfl) (Nat.le_of_ble_eq_true rfl) (Nat.le_of_ble_eq_true rfl) (by omega) ⟨by first | rw [if_pos d8] | rw [if_neg d8], rfl⟩
theorem c_X6_done (hst : l.stackTraces = false) (hr : isP g) {j : Nat} (hj : j < 12) :
    Ct l B D E yX6_done (.code yX6_done cX6_done 2 (some .int)) rm_X6_done [.ref (pl B g), iI (j : Int)] μ (ri (μ 5 j - μ (g + 2) j) μ) NX := by
  refine ct_of (own := RX6) (lv := [(0, _), (1, _)]) hst (by decide) rfl rfl (Nat.le_of_ble_eq_true rfl) fun a h r t => ?_
  refine v_aload_n (pc := 0) h (dk dt_X6_done 0 rfl) rfl ?_
  refine v_getr (pc := 1) h ci6 (P_hd hr) (Nat.le_of_ble_eq_true rfl) (j := 4) wF_X6_36 rfl (dk dt_X6_done 1 rfl) ?_
  refine v_getr (pc := 4) h ci1 sh1 (Nat.le_of_ble_eq_true rfl) (j := 1) wF_X6_45 rfl (dk dt_X6_done 2 rfl) ?_
  refine v_iload_n (pc := 7) h (dk dt_X6_done 3 rfl) rfl ?_
  refine v_cVi (pc := 8) h (c_X7_atn h.quiet jr1 (o1 := 5) rfl (Nat.le_of_ble_eq_true rfl) (by omega)) kv_X7_at jr1.1 wM_X6_48 rfl rfl (Nat.le_of_ble_eq_true rfl) (RM.of rfl) rfl rfl (dk dt_X6_done 4 rfl) ?_
  refine v_aload_n (pc := 11) h (dk dt_X6_done 5 rfl) rfl ?_
  refine v_getr (pc := 12) h ci6 (P_hd hr) (Nat.le_of_ble_eq_true rfl) (j := 0) wF_X6_14 rfl (dk dt_X6_done 6 rfl) ?_
  refine v_iload_n (pc := 15) h (dk dt_X6_done 7 rfl) rfl ?_
  refine v_cVi (pc := 16) h (c_X7_atn h.quiet (P_lefts hr) (o1 := g + 2) rfl (Nat.le_of_ble_eq_true rfl) (by omega)) kv_X7_at (P_lefts hr).1 wM_X6_48 rfl rfl (Nat.le_of_ble_eq_true rfl) (RM.of rfl) rfl rfl (dk dt_X6_done 8 rfl) ?_
  refine v_isub (pc := 19) h (dk dt_X6_done 9 rfl) ?_
  exact v_iret (pc := 20) h r (dk dt_X6_done 10 rfl) (Nat.le_of_ble_eq_true rfl) (Nat.le_of_ble_eq_true rfl) ⟨rfl, rfl⟩
/-- one moment's work at j -/
def mspd (μ : Mm) (g : Nat) (σ : Mm) (n j : Nat) (t : Int) : Mm := if σ 0 j = 1 then mup (mup (mup (mup μ (g + 2) j (σ 0 j - 1)) g 3 ((ndn (bsN (fun j => decide (rdy σ j)) n) (2 ^ j) : Nat) : Int)) g 5 ((bsN (fun j => decide (σ 0 j = 0)) n ||| 2 ^ j : Nat) : Int)) (g + 4) j (t + 1) else mup μ (g + 2) j (σ 0 j - 1)
theorem c_X6_spendOn (hst : l.stackTraces = false) (hr : isP g) (hn : n ≤ 12) (ha : aP g n μ σ) {j : Nat} (hj : j < n) (h0 : 1 ≤ σ 0 j ∧ σ 0 j ≤ 30) {t : Int} :
    Ct l B D E yX6_spendOn (.code yX6_spendOn cX6_spendOn 3 none) rm_X6_spendOn [.ref (pl B g), iI (j : Int), iI t] μ (rv (mspd μ g σ n j t)) NX := by
  obtain ⟨hl, hR, hN, -⟩ := ha
  have hlj := (hl j hj).1
  have h12 := bsN_lt12 (fun j => decide (rdy σ j)) hn
  have h13 := bsN_lt12 (fun j => decide (σ 0 j = 0)) hn
  have h14 : 2 ^ j ≤ 2 ^ 11 := p2lt (by omega)
  have hd : mspd μ g σ n j t = if σ 0 j = 1 then mup (mup (mup (mup μ (g + 2) j (σ 0 j - 1)) g 3 ((ndn (bsN (fun j => decide (rdy σ j)) n) (2 ^ j) : Nat) : Int)) g 5 ((bsN (fun j => decide (σ 0 j = 0)) n ||| 2 ^ j : Nat) : Int)) (g + 4) j (t + 1) else mup μ (g + 2) j (σ 0 j - 1) := rfl
  have e1 : μ (g + 2) j + -1 = σ 0 j - 1 := by omega
  generalize bsN (fun j => decide (rdy σ j)) n = R at hR h12 hd
  generalize bsN (fun j => decide (σ 0 j = 0)) n = N at hN h13 hd
  refine ct_of (own := RX6) (lv := [(0, _), (1, _), (2, _)]) hst (by decide) rfl rfl (Nat.le_of_ble_eq_true rfl) fun a h r t => ?_
  refine v_aload_n (pc := 0) h (dk dt_X6_spendOn 0 rfl) rfl ?_
  refine v_getr (pc := 1) h ci6 (P_hd hr) (Nat.le_of_ble_eq_true rfl) (j := 0) wF_X6_14 rfl (dk dt_X6_spendOn 1 rfl) ?_
  refine v_iload_n (pc := 4) h (dk dt_X6_spendOn 2 rfl) rfl ?_
  refine v_iconst (pc := 5) h (dk dt_X6_spendOn 3 rfl) ?_
  refine v_cVv (pc := 6) h (c_X7_addn h.quiet (P_lefts hr) (o1 := g + 2) rfl (Nat.le_of_ble_eq_true rfl) (by omega)) kv_X7_add (P_lefts hr).1 wM_X6_62 rfl rfl (Nat.le_of_ble_eq_true rfl) (RM.of rfl) rfl rfl (dk dt_X6_spendOn 4 rfl) ?_
  rw [e1]
  refine v_aload_n (pc := 9) h (dk dt_X6_spendOn 5 rfl) rfl ?_
  refine v_getr (pc := 10) h ci6 (P_hd hr) (Nat.le_of_ble_eq_true rfl) (j := 0) wF_X6_14 rfl (dk dt_X6_spendOn 6 rfl) ?_
  refine v_iload_n (pc := 13) h (dk dt_X6_spendOn 7 rfl) rfl ?_
  refine v_cVi (pc := 14) h (c_X7_atn h.quiet (P_lefts hr) (o1 := g + 2) rfl (Nat.le_of_ble_eq_true rfl) (by omega)) kv_X7_at (P_lefts hr).1 wM_X6_48 rfl rfl (Nat.le_of_ble_eq_true rfl) (RM.of rfl) rfl rfl (dk dt_X6_spendOn 8 rfl) ?_
  rw [mup_eq]
  refine v_if_gt (pc := 17) h 57 (dk dt_X6_spendOn 9 rfl) rfl (by omega) (fun c17 => ?_) (fun c17 => ?_)
  ·
    exact v_vret (pc := 57) h r (dk dt_X6_spendOn 35 rfl) (Nat.le_of_ble_eq_true rfl) (Nat.le_of_ble_eq_true rfl) ⟨rfl, by first | rw [hd, if_pos (by omega)] | rw [hd, if_neg (by omega)]⟩
  ·
    refine v_aload_n (pc := 20) h (dk dt_X6_spendOn 10 rfl) rfl ?_
    refine v_dup (pc := 21) h (dk dt_X6_spendOn 11 rfl) rfl ?_
    refine v_geti (pc := 22) h ci6 (P_hd hr) (Nat.le_of_ble_eq_true rfl) (j := 3) wF_X6_26 rfl (dk dt_X6_spendOn 12 rfl) ?_
    rw [mup_nk (show g ≠ g + 2 by omega), hR]
    refine v_iconst (pc := 25) h (dk dt_X6_spendOn 13 rfl) ?_
    refine v_iload_n (pc := 26) h (dk dt_X6_spendOn 14 rfl) rfl ?_
    refine v_ishl (pc := 27) h (dk dt_X6_spendOn 15 rfl) ?_
    rw [bsl_1 j (by omega)]
    refine v_iconst (pc := 28) h (dk dt_X6_spendOn 16 rfl) ?_
    refine v_ixor (pc := 29) h (dk dt_X6_spendOn 17 rfl) ?_
    refine v_iand (pc := 30) h (dk dt_X6_spendOn 18 rfl) ?_
    rw [bndx_n (by omega) (by omega)]
    refine v_put (pc := 31) h ci6 (P_hd hr) (Nat.le_of_ble_eq_true rfl) (j := 3) wF_X6_26 rfl rfl rfl rfl (dk dt_X6_spendOn 19 rfl) ?_
    refine v_aload_n (pc := 34) h (dk dt_X6_spendOn 20 rfl) rfl ?_
    refine v_dup (pc := 35) h (dk dt_X6_spendOn 21 rfl) rfl ?_
    refine v_geti (pc := 36) h ci6 (P_hd hr) (Nat.le_of_ble_eq_true rfl) (j := 5) wF_X6_30 rfl (dk dt_X6_spendOn 22 rfl) ?_
    rw [mup_ne (show ¬ (g = g ∧ 5 = 3) by omega), mup_nk (show g ≠ g + 2 by omega), hN]
    refine v_iconst (pc := 39) h (dk dt_X6_spendOn 23 rfl) ?_
    refine v_iload_n (pc := 40) h (dk dt_X6_spendOn 24 rfl) rfl ?_
    refine v_ishl (pc := 41) h (dk dt_X6_spendOn 25 rfl) ?_
    rw [bsl_1 j (by omega)]
    refine v_ior (pc := 42) h (dk dt_X6_spendOn 26 rfl) ?_
    rw [bor_n (by omega) (by omega)]
    refine v_put (pc := 43) h ci6 (P_hd hr) (Nat.le_of_ble_eq_true rfl) (j := 5) wF_X6_30 rfl rfl rfl rfl (dk dt_X6_spendOn 27 rfl) ?_
    refine v_aload_n (pc := 46) h (dk dt_X6_spendOn 28 rfl) rfl ?_
    refine v_getr (pc := 47) h ci6 (P_hd hr) (Nat.le_of_ble_eq_true rfl) (j := 1) wF_X6_20 rfl (dk dt_X6_spendOn 29 rfl) ?_
    refine v_iload_n (pc := 50) h (dk dt_X6_spendOn 30 rfl) rfl ?_
    refine v_iload_n (pc := 51) h (dk dt_X6_spendOn 31 rfl) rfl ?_
    refine v_iconst (pc := 52) h (dk dt_X6_spendOn 32 rfl) ?_
    refine v_iadd (pc := 53) h (dk dt_X6_spendOn 33 rfl) ?_
    refine v_cVv (pc := 54) h (c_X7_putn h.quiet (P_ends hr) (o1 := g + 4) rfl (Nat.le_of_ble_eq_true rfl) (by omega)) kv_X7_put (P_ends hr).1 wM_X6_52 rfl rfl (Nat.le_of_ble_eq_true rfl) (RM.of rfl) rfl rfl (dk dt_X6_spendOn 34 rfl) ?_
    exact v_vret (pc := 57) h r (dk dt_X6_spendOn 35 rfl) (Nat.le_of_ble_eq_true rfl) (Nat.le_of_ble_eq_true rfl) ⟨rfl, by first | rw [hd, if_pos (by omega)] | rw [hd, if_neg (by omega)]⟩
theorem aP_spd {σ' : Mm} {c : Nat} {t : Int} (ha : aP g n μ σ) (hc : c < n) (hr : rdy σ c) (h0 : ∀ b, σ' 0 b = if b = c then σ 0 c - 1 else σ 0 b) (h1 : ∀ b, σ' 1 b = if σ 0 c = 1 ∧ b = c then t + 1 else σ 1 b) (h2 : σ' 2 = σ 2) (h5 : σ' 5 = σ 5) : aP g n (mspd μ g σ n c t) σ' := by
  obtain ⟨q1, q2, q3, q4⟩ := ha
  have hrc := hr.2
  refine ⟨fun j hj => ?_, ?_, ?_, ?_⟩
  · have := q1 j hj
    rw [h0, h1, h2]
    unfold mspd
    split
    · rename_i e
      simp only [mup]
      grind
    · rename_i e
      simp only [mup]
      grind
  · unfold mspd
    split
    · rename_i e
      rw [mup_nk (by omega), mup_ne (by omega), mup_eq]
      congr 1
      refine bsN_eq (ndn_lt (bsN_lt _ _)) (fun i hi => ?_)
      rw [ndn_bit, bsN_bit, Nat.testBit_two_pow]
      have h0i := h0 i
      have hri : rdy σ' i ↔ (rdy σ i ∧ i ≠ c) := by
        unfold rdy
        rw [h5]
        by_cases k : i = c
        · rw [if_pos k] at h0i
          constructor
          · intro z; omega
          · intro z; exact absurd k z.2
        · rw [if_neg k] at h0i
          rw [h0i]
          exact ⟨fun z => ⟨z, k⟩, fun z => z.1⟩
      rw [show decide (rdy σ' i) = decide (rdy σ i ∧ i ≠ c) from decide_eq_decide.mpr hri]
      by_cases k : i = c
      · simp [k]
      · simp [hi, k, Ne.symm k]
    · rename_i e
      rw [mup_nk (by omega), q2]
      congr 1
      refine bsN_cong (fun i hi => ?_)
      rw [decide_eq_decide]
      have := h0 i
      unfold rdy
      rw [h5]
      by_cases k : i = c
      · rw [if_pos k] at this
        rw [k] at this ⊢
        constructor
        · intro z; exact ⟨z.1, by omega⟩
        · intro z; exact hr
      · rw [if_neg k] at this; rw [this]
  · unfold mspd
    split
    · rename_i e
      rw [mup_nk (by omega), mup_eq]
      congr 1
      refine bsN_eq (Nat.or_lt_two_pow (bsN_lt _ _) (Nat.pow_lt_pow_right (by decide) hc)) (fun i hi => ?_)
      rw [Nat.testBit_or, bsN_bit, Nat.testBit_two_pow]
      have := h0 i
      by_cases k : i = c
      · rw [if_pos k] at this
        have z : σ' 0 i = 0 := by omega
        simp [z, k.symm]
      · rw [if_neg k] at this
        rw [this]
        simp [hi, Ne.symm k]
    · rename_i e
      rw [mup_nk (by omega), q3]
      congr 1
      refine bsN_cong (fun i hi => ?_)
      rw [decide_eq_decide]
      have := h0 i
      by_cases k : i = c
      · rw [if_pos k] at this
        rw [k] at this ⊢
        omega
      · rw [if_neg k] at this; rw [this]
  · unfold mspd
    split
    · rw [mup_nk (by omega), mup_ne (by omega), mup_ne (by omega), mup_nk (by omega), q4]
    · rw [mup_nk (by omega), q4]
theorem c_X6_endsTogether (hst : l.stackTraces = false) (hr : isP g) (hs : okJ μ) (hn : μ 1 9 = (n : Int)) (he : ∀ j, j < n → 0 ≤ μ (g + 4) j ∧ μ (g + 4) j ≤ 4000) :
    Ct l B D E yX6_endsTogether (.code yX6_endsTogether cX6_endsTogether 3 (some .int)) rm_X6_endsTogether [.ref (pl B g)] μ (ri (smF (μ (g + 4)) n) μ) NX := by
  have hb := hs.1
  refine ct_of (own := RX6) (lv := [(0, _)]) hst (by decide) rfl rfl (Nat.le_of_ble_eq_true rfl) fun a h r t => ?_
  have loop : ∀ (d i : Nat), i + d = n → VV a B (SP B D E μ) 0 0 4 [(2, iI (i : Int)), (1, iI (smF (μ (g + 4)) i)), (0, .ref (pl B g))] [] := by
    intro d
    induction d with
    | zero =>
      intro i hi
      refine v_iload_n (pc := 4) h (dk dt_X6_endsTogether 4 rfl) rfl ?_
      refine v_aload_n (pc := 5) h (dk dt_X6_endsTogether 5 rfl) rfl ?_
      refine v_getr (pc := 6) h ci6 (P_hd hr) (Nat.le_of_ble_eq_true rfl) (j := 4) wF_X6_36 rfl (dk dt_X6_endsTogether 6 rfl) ?_
      refine v_geti (pc := 9) h ci1 sh1 (Nat.le_of_ble_eq_true rfl) (j := 9) wF_X6_40 rfl (dk dt_X6_endsTogether 7 rfl) ?_
      refine v_icmp_ge (pc := 12) h 32 (dk dt_X6_endsTogether 8 rfl) rfl (by omega) (fun c12 => ?_) (fun c12 => ?_)
      ·
        refine v_iload_n (pc := 32) h (dk dt_X6_endsTogether 18 rfl) rfl ?_
        exact v_iret (pc := 33) h r (dk dt_X6_endsTogether 19 rfl) (Nat.le_of_ble_eq_true rfl) (Nat.le_of_ble_eq_true rfl) ⟨by rw [show n = i by omega], rfl⟩
      ·
        exact absurd c12 (by omega)
    | succ d ih =>
      intro i hi
      refine v_iload_n (pc := 4) h (dk dt_X6_endsTogether 4 rfl) rfl ?_
      refine v_aload_n (pc := 5) h (dk dt_X6_endsTogether 5 rfl) rfl ?_
      refine v_getr (pc := 6) h ci6 (P_hd hr) (Nat.le_of_ble_eq_true rfl) (j := 4) wF_X6_36 rfl (dk dt_X6_endsTogether 6 rfl) ?_
      refine v_geti (pc := 9) h ci1 sh1 (Nat.le_of_ble_eq_true rfl) (j := 9) wF_X6_40 rfl (dk dt_X6_endsTogether 7 rfl) ?_
      refine v_icmp_ge (pc := 12) h 32 (dk dt_X6_endsTogether 8 rfl) rfl (by omega) (fun c12 => ?_) (fun c12 => ?_)
      ·
        exact absurd c12 (by omega)
      ·
        refine v_iload_n (pc := 15) h (dk dt_X6_endsTogether 9 rfl) rfl ?_
        refine v_aload_n (pc := 16) h (dk dt_X6_endsTogether 10 rfl) rfl ?_
        refine v_getr (pc := 17) h ci6 (P_hd hr) (Nat.le_of_ble_eq_true rfl) (j := 1) wF_X6_20 rfl (dk dt_X6_endsTogether 11 rfl) ?_
        refine v_iload_n (pc := 20) h (dk dt_X6_endsTogether 12 rfl) rfl ?_
        refine v_cVi (pc := 21) h (c_X7_atn h.quiet (P_ends hr) (o1 := g + 4) rfl (Nat.le_of_ble_eq_true rfl) (by omega)) kv_X7_at (P_ends hr).1 wM_X6_48 rfl rfl (Nat.le_of_ble_eq_true rfl) (RM.of rfl) rfl rfl (dk dt_X6_endsTogether 13 rfl) ?_
        refine v_iadd (pc := 24) h (dk dt_X6_endsTogether 14 rfl) ?_
        refine v_istore_n (lv' := [(1, _), (2, _), (0, _)]) (pc := 25) h (dk dt_X6_endsTogether 15 rfl) (Nat.le_of_ble_eq_true rfl) rfl ?_
        refine v_iinc (lv' := [(2, _), (1, _), (0, _)]) (pc := 26) h (dk dt_X6_endsTogether 16 rfl) rfl (Nat.le_of_ble_eq_true rfl) rfl ?_
        refine v_goto (pc := 29) h 4 (dk dt_X6_endsTogether 17 rfl) rfl ?_
        exact VV.loc (ih (i + 1) (by omega)) ⟨rfl, rfl, rfl, trivial⟩
  refine v_iconst (pc := 0) h (dk dt_X6_endsTogether 0 rfl) ?_
  refine v_istore_n (lv' := [(1, _), (0, _)]) (pc := 1) h (dk dt_X6_endsTogether 1 rfl) (Nat.le_of_ble_eq_true rfl) rfl ?_
  refine v_iconst (pc := 2) h (dk dt_X6_endsTogether 2 rfl) ?_
  refine v_istore_n (lv' := [(2, _), (1, _), (0, _)]) (pc := 3) h (dk dt_X6_endsTogether 3 rfl) (Nat.le_of_ble_eq_true rfl) rfl ?_
  exact VV.loc (loop n 0 (by omega)) ⟨rfl, rfl, rfl, trivial⟩
theorem c_X6_lateness (hst : l.stackTraces = false) (hr : isP g) {j : Nat} (hj : j < 12) (he : 0 ≤ μ (g + 4) j ∧ μ (g + 4) j ≤ 4000) (hd : 0 ≤ μ 7 j ∧ μ 7 j ≤ 400) :
    Ct l B D E yX6_lateness (.code yX6_lateness cX6_lateness 3 (some .int)) rm_X6_lateness [.ref (pl B g), iI (j : Int)] μ (ri (lat (μ 7 j) (μ (g + 4) j)) μ) NX := by
  refine ct_of (own := RX6) (lv := [(0, _), (1, _)]) hst (by decide) rfl rfl (Nat.le_of_ble_eq_true rfl) fun a h r t => ?_
  refine v_aload_n (pc := 0) h (dk dt_X6_lateness 0 rfl) rfl ?_
  refine v_getr (pc := 1) h ci6 (P_hd hr) (Nat.le_of_ble_eq_true rfl) (j := 4) wF_X6_36 rfl (dk dt_X6_lateness 1 rfl) ?_
  refine v_getr (pc := 4) h ci1 sh1 (Nat.le_of_ble_eq_true rfl) (j := 2) wF_X6_65 rfl (dk dt_X6_lateness 2 rfl) ?_
  refine v_iload_n (pc := 7) h (dk dt_X6_lateness 3 rfl) rfl ?_
  refine v_cVi (pc := 8) h (c_X7_atn h.quiet jr2 (o1 := 7) rfl (Nat.le_of_ble_eq_true rfl) (by omega)) kv_X7_at jr2.1 wM_X6_48 rfl rfl (Nat.le_of_ble_eq_true rfl) (RM.of rfl) rfl rfl (dk dt_X6_lateness 4 rfl) ?_
  refine v_istore_n (lv' := [(2, _), (0, _), (1, _)]) (pc := 11) h (dk dt_X6_lateness 5 rfl) (Nat.le_of_ble_eq_true rfl) rfl ?_
  refine v_iload_n (pc := 12) h (dk dt_X6_lateness 6 rfl) rfl ?_
  refine v_if_ne (pc := 13) h 20 (dk dt_X6_lateness 7 rfl) rfl (by omega) (fun c13 => ?_) (fun c13 => ?_)
  ·
    refine v_iconst (pc := 20) h (dk dt_X6_lateness 10 rfl) ?_
    refine v_aload_n (pc := 21) h (dk dt_X6_lateness 11 rfl) rfl ?_
    refine v_getr (pc := 22) h ci6 (P_hd hr) (Nat.le_of_ble_eq_true rfl) (j := 1) wF_X6_20 rfl (dk dt_X6_lateness 12 rfl) ?_
    refine v_iload_n (pc := 25) h (dk dt_X6_lateness 13 rfl) rfl ?_
    refine v_cVi (pc := 26) h (c_X7_atn h.quiet (P_ends hr) (o1 := g + 4) rfl (Nat.le_of_ble_eq_true rfl) (by omega)) kv_X7_at (P_ends hr).1 wM_X6_48 rfl rfl (Nat.le_of_ble_eq_true rfl) (RM.of rfl) rfl rfl (dk dt_X6_lateness 14 rfl) ?_
    refine v_iload_n (pc := 29) h (dk dt_X6_lateness 15 rfl) rfl ?_
    refine v_isub (pc := 30) h (dk dt_X6_lateness 16 rfl) ?_
    refine v_max (pc := 31) h km_max wM_X6_68 (by omega) (Nat.le_of_ble_eq_true rfl) ⟨Nat.le_of_ble_eq_true rfl, Nat.le_of_ble_eq_true rfl, Nat.le_of_ble_eq_true rfl, Nat.le_of_ble_eq_true rfl⟩ (dk dt_X6_lateness 17 rfl) ?_
    exact v_iret (pc := 34) h r (dk dt_X6_lateness 18 rfl) (Nat.le_of_ble_eq_true rfl) (Nat.le_of_ble_eq_true rfl) ⟨by first | rw [lat, if_pos c13] | rw [lat, if_neg c13], rfl⟩
  ·
    refine v_iconst (pc := 16) h (dk dt_X6_lateness 8 rfl) ?_
    refine v_goto (pc := 17) h 34 (dk dt_X6_lateness 9 rfl) rfl ?_
    exact v_iret (pc := 34) h r (dk dt_X6_lateness 18 rfl) (Nat.le_of_ble_eq_true rfl) (Nat.le_of_ble_eq_true rfl) ⟨by first | rw [lat, if_pos c13] | rw [lat, if_neg c13], rfl⟩
theorem lat_b {d e : Int} (hd : 0 ≤ d ∧ d ≤ 400) (he : 0 ≤ e ∧ e ≤ 4000) : 0 ≤ lat d e ∧ lat d e ≤ 4000 := by unfold lat; split; omega; split <;> omega
theorem c_X6_countLate (hst : l.stackTraces = false) (hr : isP g) (hs : okJ μ) (hn : μ 1 9 = (n : Int)) (he : ∀ j, j < n → 0 ≤ μ (g + 4) j ∧ μ (g + 4) j ≤ 4000) :
    Ct l B D E yX6_countLate (.code yX6_countLate cX6_countLate 3 (some .int)) rm_X6_countLate [.ref (pl B g)] μ (ri (latN (μ 7) (μ (g + 4)) n) μ) NX := by
  have hb := hs.1
  refine ct_of (own := RX6) (lv := [(0, _)]) hst (by decide) rfl rfl (Nat.le_of_ble_eq_true rfl) fun a h r t => ?_
  have loop : ∀ (d i : Nat), i + d = n → VV a B (SP B D E μ) 0 0 4 [(2, iI (i : Int)), (1, iI (latN (μ 7) (μ (g + 4)) i)), (0, .ref (pl B g))] [] := by
    intro d
    induction d with
    | zero =>
      intro i hi
      refine v_iload_n (pc := 4) h (dk dt_X6_countLate 4 rfl) rfl ?_
      refine v_aload_n (pc := 5) h (dk dt_X6_countLate 5 rfl) rfl ?_
      refine v_getr (pc := 6) h ci6 (P_hd hr) (Nat.le_of_ble_eq_true rfl) (j := 4) wF_X6_36 rfl (dk dt_X6_countLate 6 rfl) ?_
      refine v_geti (pc := 9) h ci1 sh1 (Nat.le_of_ble_eq_true rfl) (j := 9) wF_X6_40 rfl (dk dt_X6_countLate 7 rfl) ?_
      refine v_icmp_ge (pc := 12) h 32 (dk dt_X6_countLate 8 rfl) rfl (by omega) (fun c12 => ?_) (fun c12 => ?_)
      ·
        refine v_iload_n (pc := 32) h (dk dt_X6_countLate 16 rfl) rfl ?_
        exact v_iret (pc := 33) h r (dk dt_X6_countLate 17 rfl) (Nat.le_of_ble_eq_true rfl) (Nat.le_of_ble_eq_true rfl) ⟨by rw [show n = i by omega], rfl⟩
      ·
        exact absurd c12 (by omega)
    | succ d ih =>
      intro i hi
      have hei := he i (by omega)
      have hdi := (hs.2 i (by omega)).2.2.1
      have hli := lat_b hdi hei
      refine v_iload_n (pc := 4) h (dk dt_X6_countLate 4 rfl) rfl ?_
      refine v_aload_n (pc := 5) h (dk dt_X6_countLate 5 rfl) rfl ?_
      refine v_getr (pc := 6) h ci6 (P_hd hr) (Nat.le_of_ble_eq_true rfl) (j := 4) wF_X6_36 rfl (dk dt_X6_countLate 6 rfl) ?_
      refine v_geti (pc := 9) h ci1 sh1 (Nat.le_of_ble_eq_true rfl) (j := 9) wF_X6_40 rfl (dk dt_X6_countLate 7 rfl) ?_
      refine v_icmp_ge (pc := 12) h 32 (dk dt_X6_countLate 8 rfl) rfl (by omega) (fun c12 => ?_) (fun c12 => ?_)
      ·
        exact absurd c12 (by omega)
      ·
        refine v_aload_n (pc := 15) h (dk dt_X6_countLate 9 rfl) rfl ?_
        refine v_iload_n (pc := 16) h (dk dt_X6_countLate 10 rfl) rfl ?_
        refine v_cVi (pc := 17) h (c_X6_lateness h.quiet hr (by omega) (by omega) (by omega)) kv_X6_lateness (P_hd hr) wM_X6_74 rfl rfl (Nat.le_of_ble_eq_true rfl) (RM.of rfl) rfl rfl (dk dt_X6_countLate 11 rfl) ?_
        refine v_if_le (pc := 20) h 26 (dk dt_X6_countLate 12 rfl) rfl (by omega) (fun c20 => ?_) (fun c20 => ?_)
        ·
          refine v_iinc (lv' := [(2, _), (1, _), (0, _)]) (pc := 26) h (dk dt_X6_countLate 14 rfl) rfl (Nat.le_of_ble_eq_true rfl) rfl ?_
          refine v_goto (pc := 29) h 4 (dk dt_X6_countLate 15 rfl) rfl ?_
          refine VV.loc (ih (i + 1) (by omega)) ⟨rfl, ?_, rfl, trivial⟩
          simp only [latN]
          first | rw [if_pos (by omega)]; rfl | rw [if_neg (by omega), Int.add_zero]; rfl
        ·
          refine v_iinc (lv' := [(1, _), (2, _), (0, _)]) (pc := 23) h (dk dt_X6_countLate 13 rfl) rfl (Nat.le_of_ble_eq_true rfl) rfl ?_
          refine v_iinc (lv' := [(2, _), (1, _), (0, _)]) (pc := 26) h (dk dt_X6_countLate 14 rfl) rfl (Nat.le_of_ble_eq_true rfl) rfl ?_
          refine v_goto (pc := 29) h 4 (dk dt_X6_countLate 15 rfl) rfl ?_
          refine VV.loc (ih (i + 1) (by omega)) ⟨rfl, ?_, rfl, trivial⟩
          simp only [latN]
          first | rw [if_pos (by omega)]; rfl | rw [if_neg (by omega), Int.add_zero]; rfl
  refine v_iconst (pc := 0) h (dk dt_X6_countLate 0 rfl) ?_
  refine v_istore_n (lv' := [(1, _), (0, _)]) (pc := 1) h (dk dt_X6_countLate 1 rfl) (Nat.le_of_ble_eq_true rfl) rfl ?_
  refine v_iconst (pc := 2) h (dk dt_X6_countLate 2 rfl) ?_
  refine v_istore_n (lv' := [(2, _), (1, _), (0, _)]) (pc := 3) h (dk dt_X6_countLate 3 rfl) (Nat.le_of_ble_eq_true rfl) rfl ?_
  exact VV.loc (loop n 0 (by omega)) ⟨rfl, rfl, rfl, trivial⟩
end
