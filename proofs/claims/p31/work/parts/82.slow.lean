/-! ===== the law: the greatest stretch, who is kept by locks ===== -/
def anP (p : Nat → Bool) : Nat → Int
  | 0 => 0
  | i + 1 => if p i = true then 1 else anP p i
def alP (p : Nat → Bool) : Nat → Int
  | 0 => 1
  | i + 1 => if p i = true then alP p i else 0
theorem anP_b (p : Nat → Bool) : ∀ i : Nat, anP p i = 0 ∨ anP p i = 1 := by
  intro i
  induction i with
  | zero => exact Or.inl rfl
  | succ i ih => simp only [anP]; split; exact Or.inr rfl; exact ih
theorem alP_b (p : Nat → Bool) : ∀ i : Nat, alP p i = 0 ∨ alP p i = 1 := by
  intro i
  induction i with
  | zero => exact Or.inr rfl
  | succ i ih => simp only [alP]; split; exact ih; exact Or.inl rfl
theorem anP_y {p : Nat → Bool} : ∀ {i k : Nat}, k < i → p k = true → anP p i = 1 := by
  intro i
  induction i with
  | zero => intro k q _; exact absurd q (by omega)
  | succ i ih =>
    intro k q hk
    simp only [anP]
    by_cases y : p i = true
    · rw [if_pos y]
    · rw [if_neg y]
      by_cases e : k = i
      · rw [e] at hk; exact absurd hk y
      · exact ih (by omega) hk
theorem alP_y {p : Nat → Bool} : ∀ {i : Nat}, alP p i = 1 → ∀ k, k < i → p k = true := by
  intro i
  induction i with
  | zero => intro _ k q; exact absurd q (by omega)
  | succ i ih =>
    intro h k q
    simp only [alP] at h
    by_cases y : p i = true
    · rw [if_pos y] at h
      by_cases e : k = i
      · rw [e]; exact y
      · exact ih h k (by omega)
    · rw [if_neg y] at h; exact absurd h (by decide)
theorem anP_1 {p : Nat → Bool} {i : Nat} (h : p i = true) : bor (anP p i) 1 = anP p (i + 1) := by
  simp only [anP]; rw [if_pos h]; rcases anP_b p i with e | e <;> rw [e] <;> decide
theorem anP_0 {p : Nat → Bool} {i : Nat} (h : ¬ p i = true) : bor (anP p i) 0 = anP p (i + 1) := by
  simp only [anP]; rw [if_neg h]; rcases anP_b p i with e | e <;> rw [e] <;> decide
theorem alP_1 {p : Nat → Bool} {i : Nat} (h : p i = true) : bnd (alP p i) 1 = alP p (i + 1) := by
  simp only [alP]; rw [if_pos h]; rcases alP_b p i with e | e <;> rw [e] <;> decide
theorem alP_0 {p : Nat → Bool} {i : Nat} (h : ¬ p i = true) : bnd (alP p i) 0 = alP p (i + 1) := by
  simp only [alP]; rw [if_neg h]; rcases alP_b p i with e | e <;> rw [e] <;> decide
theorem slF_top {e c ln : Nat → Int} {n : Nat} (h : ∀ j, j < n → 1 ≤ ln j ∧ c j < e j) : ∀ i : Nat, i ≤ n → (∀ k, k < i → (e k - c k).toNat * (slF e c ln i).2 ≤ (slF e c ln i).1 * (ln k).toNat) ∧ (0 < i → ∃ k, k < i ∧ (slF e c ln i).1 = (e k - c k).toNat ∧ (slF e c ln i).2 = (ln k).toNat) := by
  intro i
  induction i with
  | zero => intro _; exact ⟨fun k hk => absurd hk (by omega), fun q => absurd q (by omega)⟩
  | succ i ih =>
    intro hi
    obtain ⟨h1, h2⟩ := ih (by omega)
    have hl := h i (by omega)
    rw [slF]
    by_cases q : (slF e c ln i).1 * (ln i).toNat < (e i - c i).toNat * (slF e c ln i).2
    · rw [if_pos q]
      refine ⟨fun k hk => ?_, fun _ => ⟨i, by omega, rfl, rfl⟩⟩
      show (e k - c k).toNat * (ln i).toNat ≤ (e i - c i).toNat * (ln k).toNat
      by_cases ek : k = i
      · rw [ek]; exact Nat.le_refl _
      · have h3 := h1 k (by omega)
        have h4 := h k (by omega)
        generalize (slF e c ln i).1 = x at *
        generalize (slF e c ln i).2 = y at *
        generalize hu : (e k - c k).toNat = u at *
        generalize hv : (e i - c i).toNat = v at *
        generalize hw : (ln k).toNat = w at *
        generalize hz : (ln i).toNat = z at *
        have w0 : 0 < w := by omega
        have e1 : u * y * z ≤ x * w * z := Nat.mul_le_mul_right z h3
        have e2 : x * z * w < v * y * w := Nat.mul_lt_mul_of_pos_right q w0
        have e3 : u * z * y < v * w * y := by
          have a1 : u * z * y = u * y * z := by rw [Nat.mul_assoc, Nat.mul_comm z y, ← Nat.mul_assoc]
          have a2 : x * w * z = x * z * w := by rw [Nat.mul_assoc, Nat.mul_comm w z, ← Nat.mul_assoc]
          have a3 : v * w * y = v * y * w := by rw [Nat.mul_assoc, Nat.mul_comm w y, ← Nat.mul_assoc]
          omega
        exact Nat.le_of_lt (Nat.lt_of_mul_lt_mul_right e3)
    · rw [if_neg q]
      refine ⟨fun k hk => ?_, fun _ => ?_⟩
      · by_cases ek : k = i
        · rw [ek]; omega
        · exact h1 k (by omega)
      · by_cases i0 : 0 < i
        · obtain ⟨k, k1, k2⟩ := h2 i0
          exact ⟨k, by omega, k2⟩
        · exfalso
          have : i = 0 := by omega
          subst this
          refine q ?_
          show 0 * _ < _ * 1
          omega
theorem sl_red {u x y w : Nat} (hx : 0 < x ∨ 0 < y) : (u * y ≤ x * w → u * (y / Nat.gcd y x) ≤ x / Nat.gcd x y * w) ∧ (u * y = x * w → u * (y / Nat.gcd y x) = x / Nat.gcd x y * w) := by
  have hg : 0 < Nat.gcd x y := by rcases hx with q | q; exact Nat.gcd_pos_of_pos_left _ q; exact Nat.gcd_pos_of_pos_right _ q
  rw [Nat.gcd_comm y x]
  obtain ⟨a, ha⟩ := Nat.gcd_dvd_left x y
  obtain ⟨b, hb⟩ := Nat.gcd_dvd_right x y
  generalize Nat.gcd x y = g at *
  subst ha hb
  rw [Nat.mul_div_cancel_left _ hg, Nat.mul_div_cancel_left _ hg]
  have e1 : u * (g * b) = u * b * g := by rw [Nat.mul_comm g b, Nat.mul_assoc]
  have e2 : g * a * w = a * w * g := by rw [Nat.mul_comm g a, Nat.mul_assoc, Nat.mul_comm g w, ← Nat.mul_assoc]
  rw [e1, e2]
  exact ⟨fun q => Nat.le_of_mul_le_mul_right q hg, fun q => Nat.eq_of_mul_eq_mul_right hg q⟩
theorem lRest_le {k lo lf lt : Nat → Int} {j : Nat} {y its : Int} (h0 : 0 ≤ its) : ∀ c : Nat, (∀ p : Nat, p < c → ((p % 3 : Nat) : Int) < k (p / 3) → p / 3 ≠ j → lo p = y → lt p - lf p ≤ its) → lRest k lo lf lt j y c ≤ its := by
  intro c
  induction c with
  | zero => intro _; exact h0
  | succ c ih =>
    intro h
    have i := ih (fun p hp => h p (by omega))
    simp only [lRest]
    split
    · rename_i q
      have := h c (by omega) q.1 q.2.1 q.2.2
      split <;> omega
    · exact i
section
variable {l : Launch} {B : Nat} {D : va_G} {E : Nat → ClassId} {μ m σ : Mm} {w n : Nat} {K : Nat → Int} {s : St} {J : Mm}
theorem c_L_isSlowest (hst : l.stackTraces = false) (hO : hOK μ) (hn : μ 1 9 = (n : Int)) (h7 : μ 0 7 = 1) (hA : eqA (jm μ) n (μ 124)) (h21 : ∀ k, k < n → μ 124 (60 * k + 21) = μ 44 k) (h0 : 0 < n) :
    Ct l B D E yL_isSlowest (.code yL_isSlowest cL_isSlowest 8 (some .boolean)) rm_L_isSlowest [.ref (pl B 0), .ref (pl B 124), iI (n : Int)] μ (ri 1 μ) NX := by
  have hn12 : n ≤ 12 := by have := hO.J.1; omega
  have hj : ∀ j, j < n → 1 ≤ μ 5 j ∧ μ 5 j ≤ 30 ∧ 0 ≤ μ 3 j ∧ μ 3 j < μ 44 j ∧ μ 44 j ≤ 2304 := fun j hj => by
    have h1 := hO.J.2 j (by omega)
    have h2 := (hO.R h7).2 j (by omega)
    omega
  have hrc : rcSl (μ 0 7) (μ 1 9) = 0 := by unfold rcSl; rw [if_neg (by omega)]
  have ht := slF_top (e := μ 44) (c := μ 3) (ln := μ 5) (n := n) (fun j q => by have := hj j q; omega) n (Nat.le_refl _)
  have hb := slF_b (e := μ 44) (c := μ 3) (ln := μ 5) (n := n) (fun j q => by have := hj j q; omega) n (Nat.le_refl _)
  generalize hp : slF (μ 44) (μ 3) (μ 5) n = p at ht hb
  obtain ⟨ht1, ht2⟩ := ht
  have e0 : anSl p 0 = ((p.1 / Nat.gcd p.1 p.2 : Nat) : Int) := by unfold anSl; rw [if_pos rfl]
  have e1 : anSl p 1 = ((p.2 / Nat.gcd p.2 p.1 : Nat) : Int) := by unfold anSl; rw [if_neg (by decide)]
  have hx : p.1 / Nat.gcd p.1 p.2 ≤ 2304 := Nat.le_trans (Nat.div_le_self _ _) hb.1
  have hle : ∀ k, k < n → (μ 44 k - μ 3 k) * anSl p 1 ≤ anSl p 0 * μ 5 k := by
    intro k hk
    have := (sl_red (u := (μ 44 k - μ 3 k).toNat) (x := p.1) (y := p.2) (w := (μ 5 k).toNat) (Or.inr (by omega))).1 (ht1 k hk)
    have h3 := hj k hk
    rw [e0, e1, show μ 44 k - μ 3 k = (((μ 44 k - μ 3 k).toNat : Nat) : Int) by omega, show μ 5 k = (((μ 5 k).toNat : Nat) : Int) by omega, ← Int.natCast_mul, ← Int.natCast_mul]
    exact Int.ofNat_le.mpr this
  obtain ⟨c, hc, heq⟩ : ∃ c, c < n ∧ (μ 44 c - μ 3 c) * anSl p 1 = anSl p 0 * μ 5 c := by
    obtain ⟨k, hk, q1, q2⟩ := ht2 h0
    refine ⟨k, hk, ?_⟩
    have := (sl_red (u := (μ 44 k - μ 3 k).toNat) (x := p.1) (y := p.2) (w := (μ 5 k).toNat) (Or.inr (by omega))).2 (by rw [q1, q2])
    have h3 := hj k hk
    rw [e0, e1, show μ 44 k - μ 3 k = (((μ 44 k - μ 3 k).toNat : Nat) : Int) by omega, show μ 5 k = (((μ 5 k).toNat : Nat) : Int) by omega, ← Int.natCast_mul, ← Int.natCast_mul, this]
  have hbd : ∀ k, k < n → 0 ≤ (μ 44 k - μ 3 k) * anSl p 1 ∧ anSl p 0 * μ 5 k ≤ 69120 := by
    intro k hk
    have h3 := hj k hk
    refine ⟨Int.mul_nonneg (by omega) (by rw [e1]; exact Int.natCast_nonneg _), ?_⟩
    have := Int.mul_le_mul (a := anSl p 0) (b := μ 5 k) (c := 2304) (d := 30) (by rw [e0]; exact Int.ofNat_le.mpr hx) (by omega) (by omega) (by omega)
    omega
  generalize hx0 : anSl p 0 = x0 at *
  generalize hx1 : anSl p 1 = x1 at *
  refine ct_of (own := RL) (lv := [(0, _), (1, _), (2, _)]) hst (by decide) rfl rfl (Nat.le_of_ble_eq_true rfl) fun a h r t => ?_
  have loop : ∀ (d i : Nat), i + d = n → VV a B (SP B D E μ) 40 240 29 [(6, iI (i : Int)), (5, iI (anP (fun k => decide ((μ 44 k - μ 3 k) * x1 = x0 * μ 5 k)) i)), (4, iI x1), (3, iI x0), (0, .ref (pl B 0)), (1, .ref (pl B 124)), (2, iI (n : Int))] [] := by
    intro d
    induction d with
    | zero =>
      intro i hi
      have ei : i = n := by omega
      subst ei
      have e := anP_y (p := fun k => decide ((μ 44 k - μ 3 k) * x1 = x0 * μ 5 k)) hc (decide_eq_true heq)
      refine v_iload (pc := 29) h (dk dt_L_isSlowest 20 rfl) rfl ?_
      refine v_iload_n (pc := 31) h (dk dt_L_isSlowest 21 rfl) rfl ?_
      refine v_icmp_ge (pc := 32) h 111 (dk dt_L_isSlowest 22 rfl) rfl (by omega) (fun c32 => ?_) (fun c32 => ?_)
      ·
        refine v_iload (pc := 111) h (dk dt_L_isSlowest 73 rfl) rfl ?_
        rw [e]
        exact v_zret (pc := 113) h r (dk dt_L_isSlowest 74 rfl) (Nat.le_of_ble_eq_true rfl) (Nat.le_of_ble_eq_true rfl) (by omega) ⟨rfl, rfl⟩
      ·
        exact absurd c32 (by omega)
    | succ d ih =>
      intro i hi
      have hin : i < n := by omega
      have ai := hA i hin
      have f21 : μ 124 (60 * (i : Int) + 21).toNat = μ 44 i := by rw [show (60 * (i : Int) + 21).toNat = 60 * i + 21 by omega]; exact h21 i hin
      have f0 : μ 124 (60 * (i : Int)).toNat = μ 3 i := by rw [show (60 * (i : Int)).toNat = 60 * i by omega]; exact ai.1
      have f1 : μ 124 (60 * (i : Int) + 1).toNat = μ 5 i := by rw [show (60 * (i : Int) + 1).toNat = 60 * i + 1 by omega]; exact ai.2.1
      have h1 := hle i hin
      have h2 := hbd i hin
      refine v_iload (pc := 29) h (dk dt_L_isSlowest 20 rfl) rfl ?_
      refine v_iload_n (pc := 31) h (dk dt_L_isSlowest 21 rfl) rfl ?_
      refine v_icmp_ge (pc := 32) h 111 (dk dt_L_isSlowest 22 rfl) rfl (by omega) (fun c32 => ?_) (fun c32 => ?_)
      ·
        exact absurd c32 (by omega)
      ·
        refine v_aload_n (pc := 35) h (dk dt_L_isSlowest 23 rfl) rfl ?_
        refine v_bipush (pc := 36) h (dk dt_L_isSlowest 24 rfl) rfl ?_
        refine v_iload (pc := 38) h (dk dt_L_isSlowest 25 rfl) rfl ?_
        refine v_imul (pc := 40) h (dk dt_L_isSlowest 26 rfl) ?_
        refine v_bipush (pc := 41) h (dk dt_L_isSlowest 27 rfl) rfl ?_
        refine v_iadd (pc := 43) h (dk dt_L_isSlowest 28 rfl) ?_
        refine v_iald (pc := 44) h sh124 (Nat.le_of_ble_eq_true rfl) (by omega) (dk dt_L_isSlowest 29 rfl) ?_
        rw [f21]
        refine v_aload_n (pc := 45) h (dk dt_L_isSlowest 30 rfl) rfl ?_
        refine v_bipush (pc := 46) h (dk dt_L_isSlowest 31 rfl) rfl ?_
        refine v_iload (pc := 48) h (dk dt_L_isSlowest 32 rfl) rfl ?_
        refine v_imul (pc := 50) h (dk dt_L_isSlowest 33 rfl) ?_
        refine v_iald (pc := 51) h sh124 (Nat.le_of_ble_eq_true rfl) (by omega) (dk dt_L_isSlowest 34 rfl) ?_
        rw [f0]
        refine v_isub (pc := 52) h (dk dt_L_isSlowest 35 rfl) ?_
        refine v_istore (lv' := [(7, _), (6, _), (5, _), (4, _), (3, _), (0, _), (1, _), (2, _)]) (pc := 53) h (dk dt_L_isSlowest 36 rfl) (Nat.le_of_ble_eq_true rfl) rfl ?_
        refine v_iload (pc := 55) h (dk dt_L_isSlowest 37 rfl) rfl ?_
        refine v_iload (pc := 57) h (dk dt_L_isSlowest 38 rfl) rfl ?_
        refine v_imul (pc := 59) h (dk dt_L_isSlowest 39 rfl) ?_
        refine v_iload_n (pc := 60) h (dk dt_L_isSlowest 40 rfl) rfl ?_
        refine v_aload_n (pc := 61) h (dk dt_L_isSlowest 41 rfl) rfl ?_
        refine v_bipush (pc := 62) h (dk dt_L_isSlowest 42 rfl) rfl ?_
        refine v_iload (pc := 64) h (dk dt_L_isSlowest 43 rfl) rfl ?_
        refine v_imul (pc := 66) h (dk dt_L_isSlowest 44 rfl) ?_
        refine v_iconst (pc := 67) h (dk dt_L_isSlowest 45 rfl) ?_
        refine v_iadd (pc := 68) h (dk dt_L_isSlowest 46 rfl) ?_
        refine v_iald (pc := 69) h sh124 (Nat.le_of_ble_eq_true rfl) (by omega) (dk dt_L_isSlowest 47 rfl) ?_
        rw [f1]
        refine v_imul (pc := 70) h (dk dt_L_isSlowest 48 rfl) ?_
        refine v_icmp_le (pc := 71) h 76 (dk dt_L_isSlowest 49 rfl) rfl (by omega) (fun c71 => ?_) (fun c71 => ?_)
        ·
          refine v_iload (pc := 76) h (dk dt_L_isSlowest 52 rfl) rfl ?_
          refine v_iload (pc := 78) h (dk dt_L_isSlowest 53 rfl) rfl ?_
          refine v_iload (pc := 80) h (dk dt_L_isSlowest 54 rfl) rfl ?_
          refine v_imul (pc := 82) h (dk dt_L_isSlowest 55 rfl) ?_
          refine v_iload_n (pc := 83) h (dk dt_L_isSlowest 56 rfl) rfl ?_
          refine v_aload_n (pc := 84) h (dk dt_L_isSlowest 57 rfl) rfl ?_
          refine v_bipush (pc := 85) h (dk dt_L_isSlowest 58 rfl) rfl ?_
          refine v_iload (pc := 87) h (dk dt_L_isSlowest 59 rfl) rfl ?_
          refine v_imul (pc := 89) h (dk dt_L_isSlowest 60 rfl) ?_
          refine v_iconst (pc := 90) h (dk dt_L_isSlowest 61 rfl) ?_
          refine v_iadd (pc := 91) h (dk dt_L_isSlowest 62 rfl) ?_
          refine v_iald (pc := 92) h sh124 (Nat.le_of_ble_eq_true rfl) (by omega) (dk dt_L_isSlowest 63 rfl) ?_
          rw [f1]
          refine v_imul (pc := 93) h (dk dt_L_isSlowest 64 rfl) ?_
          refine v_icmp_ne (pc := 94) h 101 (dk dt_L_isSlowest 65 rfl) rfl (by omega) (fun c94 => ?_) (fun c94 => ?_)
          ·
            refine v_iconst (pc := 101) h (dk dt_L_isSlowest 68 rfl) ?_
            refine v_ior (pc := 102) h (dk dt_L_isSlowest 69 rfl) ?_
            refine v_istore (lv' := [(5, _), (7, _), (6, _), (4, _), (3, _), (0, _), (1, _), (2, _)]) (pc := 103) h (dk dt_L_isSlowest 70 rfl) (Nat.le_of_ble_eq_true rfl) rfl ?_
            refine v_iinc (lv' := [(6, _), (5, _), (7, _), (4, _), (3, _), (0, _), (1, _), (2, _)]) (pc := 105) h (dk dt_L_isSlowest 71 rfl) rfl (Nat.le_of_ble_eq_true rfl) rfl ?_
            refine v_goto (pc := 108) h 29 (dk dt_L_isSlowest 72 rfl) rfl ?_
            first
              | exact VV.loc (ih (i + 1) (by omega)) ⟨rfl, lvI (anP_1 (p := fun k => decide ((μ 44 k - μ 3 k) * x1 = x0 * μ 5 k)) (decide_eq_true c94)), rfl, rfl, rfl, rfl, rfl, trivial⟩
              | exact VV.loc (ih (i + 1) (by omega)) ⟨rfl, lvI (anP_0 (p := fun k => decide ((μ 44 k - μ 3 k) * x1 = x0 * μ 5 k)) (fun y => c94 (of_decide_eq_true y))), rfl, rfl, rfl, rfl, rfl, trivial⟩
          ·
            refine v_iconst (pc := 97) h (dk dt_L_isSlowest 66 rfl) ?_
            refine v_goto (pc := 98) h 102 (dk dt_L_isSlowest 67 rfl) rfl ?_
            refine v_ior (pc := 102) h (dk dt_L_isSlowest 69 rfl) ?_
            refine v_istore (lv' := [(5, _), (7, _), (6, _), (4, _), (3, _), (0, _), (1, _), (2, _)]) (pc := 103) h (dk dt_L_isSlowest 70 rfl) (Nat.le_of_ble_eq_true rfl) rfl ?_
            refine v_iinc (lv' := [(6, _), (5, _), (7, _), (4, _), (3, _), (0, _), (1, _), (2, _)]) (pc := 105) h (dk dt_L_isSlowest 71 rfl) rfl (Nat.le_of_ble_eq_true rfl) rfl ?_
            refine v_goto (pc := 108) h 29 (dk dt_L_isSlowest 72 rfl) rfl ?_
            first
              | exact VV.loc (ih (i + 1) (by omega)) ⟨rfl, lvI (anP_1 (p := fun k => decide ((μ 44 k - μ 3 k) * x1 = x0 * μ 5 k)) (decide_eq_true c94)), rfl, rfl, rfl, rfl, rfl, trivial⟩
              | exact VV.loc (ih (i + 1) (by omega)) ⟨rfl, lvI (anP_0 (p := fun k => decide ((μ 44 k - μ 3 k) * x1 = x0 * μ 5 k)) (fun y => c94 (of_decide_eq_true y))), rfl, rfl, rfl, rfl, rfl, trivial⟩
        ·
          exact absurd c71 (by omega)
  refine v_aload_n (pc := 0) h (dk dt_L_isSlowest 0 rfl) rfl ?_
  refine v_bipush (pc := 1) h (dk dt_L_isSlowest 1 rfl) rfl ?_
  refine v_iconst (pc := 3) h (dk dt_L_isSlowest 2 rfl) ?_
  refine v_iconst (pc := 4) h (dk dt_L_isSlowest 3 rfl) ?_
  refine v_iconst (pc := 5) h (dk dt_L_isSlowest 4 rfl) ?_
  refine v_iconst (pc := 6) h (dk dt_L_isSlowest 5 rfl) ?_
  refine v_callH (pc := 7) h (d_slowest (n := n) h.quiet hO hn (Or.inl rfl)) kh_L_done wM_L_84 rfl rfl (Nat.le_of_ble_eq_true rfl) (RM.of rfl) (dk dt_L_isSlowest 6 rfl) (fun v7 μ7 p7 => ?_)
  rcases p7 with ⟨-, rfl, rfl⟩ | ⟨q, -, -⟩
  case inr => exact absurd hrc q
  rw [hp, hx0]
  refine v_istore_n (lv' := [(3, _), (0, _), (1, _), (2, _)]) (pc := 10) h (dk dt_L_isSlowest 7 rfl) (Nat.le_of_ble_eq_true rfl) rfl ?_
  refine v_aload_n (pc := 11) h (dk dt_L_isSlowest 8 rfl) rfl ?_
  refine v_bipush (pc := 12) h (dk dt_L_isSlowest 9 rfl) rfl ?_
  refine v_iconst (pc := 14) h (dk dt_L_isSlowest 10 rfl) ?_
  refine v_iconst (pc := 15) h (dk dt_L_isSlowest 11 rfl) ?_
  refine v_iconst (pc := 16) h (dk dt_L_isSlowest 12 rfl) ?_
  refine v_iconst (pc := 17) h (dk dt_L_isSlowest 13 rfl) ?_
  refine v_callH (pc := 18) h (d_slowest (n := n) h.quiet hO hn (Or.inr rfl)) kh_L_done wM_L_84 rfl rfl (Nat.le_of_ble_eq_true rfl) (RM.of rfl) (dk dt_L_isSlowest 14 rfl) (fun v18 μ18 p18 => ?_)
  rcases p18 with ⟨-, rfl, rfl⟩ | ⟨q, -, -⟩
  case inr => exact absurd hrc q
  rw [hp, hx1]
  refine v_istore (lv' := [(4, _), (3, _), (0, _), (1, _), (2, _)]) (pc := 21) h (dk dt_L_isSlowest 15 rfl) (Nat.le_of_ble_eq_true rfl) rfl ?_
  refine v_iconst (pc := 23) h (dk dt_L_isSlowest 16 rfl) ?_
  refine v_istore (lv' := [(5, _), (4, _), (3, _), (0, _), (1, _), (2, _)]) (pc := 24) h (dk dt_L_isSlowest 17 rfl) (Nat.le_of_ble_eq_true rfl) rfl ?_
  refine v_iconst (pc := 26) h (dk dt_L_isSlowest 18 rfl) ?_
  refine v_istore (lv' := [(6, _), (5, _), (4, _), (3, _), (0, _), (1, _), (2, _)]) (pc := 27) h (dk dt_L_isSlowest 19 rfl) (Nat.le_of_ble_eq_true rfl) rfl ?_
  exact VV.loc (loop n 0 (by omega)) ⟨rfl, rfl, rfl, rfl, rfl, rfl, rfl, trivial⟩
end
