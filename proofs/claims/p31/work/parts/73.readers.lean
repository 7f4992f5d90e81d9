/-! ===== the law's readers: who is ready, who keeps, gaps ===== -/
/-- the law's row of jobs tells what the house was told -/
def eqA (J : Mm) (n : Nat) (x : Nat → Int) : Prop := ∀ k, k < n → x (60 * k) = J 0 k ∧ x (60 * k + 1) = J 1 k ∧ x (60 * k + 2) = J 2 k ∧ x (60 * k + 3) = J 3 k ∧ x (60 * k + 4) = J 4 k ∧ x (60 * k + 5) = J 5 k ∧
  ∀ p : Nat, (p : Int) < J 5 k → x (60 * k + 6 + 3 * p) = J 6 (3 * k + p) ∧ x (60 * k + 7 + 3 * p) = J 7 (3 * k + p) ∧ x (60 * k + 8 + 3 * p) = J 8 (3 * k + p)
/-- .. and the work done -/
def dnA (J σ : Mm) (n : Nat) (x : Nat → Int) : Prop := ∀ k, k < n → x (60 * k + 20) = J 1 k - σ 0 k
abbrev leA (J σ : Mm) (n : Nat) : Prop := ∀ k, k < n → 0 ≤ σ 0 k ∧ σ 0 k ≤ J 1 k
def gaF (g : Nat → Int) (j : Int) : Nat → Int × Int
  | 0 => (0, -1)
  | t + 1 => if g t = j then ((if (gaF g j t).2 < 0 then 0 else if (gaF g j t).1 < (t : Int) - (gaF g j t).2 - 1 then (t : Int) - (gaF g j t).2 - 1 else (gaF g j t).1), (t : Int)) else gaF g j t
theorem gaF_b (g : Nat → Int) (j : Int) : ∀ t : Nat, (0 ≤ (gaF g j t).1 ∧ (gaF g j t).1 ≤ t) ∧ (-1 ≤ (gaF g j t).2 ∧ (gaF g j t).2 < t) := by
  intro t
  induction t with
  | zero => exact ⟨⟨Int.le_refl _, Int.le_refl _⟩, ⟨Int.le_refl _, by show (-1 : Int) < ((0 : Nat) : Int); decide⟩⟩
  | succ t ih =>
    obtain ⟨⟨h1, h2⟩, h3, h4⟩ := ih
    have et : ((t + 1 : Nat) : Int) = (t : Int) + 1 := rfl
    simp only [gaF, et]
    by_cases e : g t = j
    · rw [if_pos e]
      simp only
      split
      · omega
      · split <;> omega
    · rw [if_neg e]; omega
/-- the gaps that the law counts are those from the first work on -/
theorem gaF_gp (g : Nat → Int) (j : Int) (f : Nat) (h0 : ∀ b, b < f → g b ≠ j) (h1 : g f = j) : ∀ k : Nat, (gaF g j (f + (k + 1))).2 + 1 = ((gpS g j f (k + 1)).1 : Int) ∧ (gaF g j (f + (k + 1))).1 = (gpS g j f (k + 1)).2 := by
  have hf : ∀ t, t ≤ f → gaF g j t = (0, -1) := by
    intro t
    induction t with
    | zero => intro _; rfl
    | succ t ih => intro ht; simp only [gaF]; rw [if_neg (h0 t (by omega))]; exact ih (by omega)
  intro k
  induction k with
  | zero =>
    have e1 : gaF g j (f + 1) = (0, (f : Int)) := by simp only [gaF]; rw [if_pos h1, hf f (Nat.le_refl _)]; rfl
    have e2 : gpS g j f 1 = (f + 1, 0) := by
      show (if g f = j then (f + 1, if (0 : Int) < (f : Int) - (f : Int) then (f : Int) - (f : Int) else 0) else (f, 0)) = (f + 1, 0)
      rw [if_pos h1, if_neg (by omega)]
    rw [show f + (0 + 1) = f + 1 by omega, show 0 + 1 = 1 by omega, e1, e2]
    exact ⟨rfl, rfl⟩
  | succ k ih =>
    obtain ⟨i1, i2⟩ := ih
    have hb := gaF_b g j (f + (k + 1))
    have hs : 0 ≤ (gaF g j (f + (k + 1))).2 := by
      have := (gpS_le (g := g) (j := j) (f := f) (k + 1)).1
      have h3 : ∀ k, f + 1 ≤ (gpS g j f (k + 1)).1 := by
        intro k
        induction k with
        | zero =>
          simp only [gpS, Nat.add_zero]
          rw [if_pos h1]
          exact Nat.le_refl _
        | succ k ih2 =>
          rw [gpS]
          split
          · show f + 1 ≤ f + (k + 1) + 1; omega
          · exact ih2
      have := h3 k
      omega
    have e1 : gaF g j (f + (k + 1 + 1)) = if g (f + (k + 1)) = j then ((if (gaF g j (f + (k + 1))).2 < 0 then 0 else if (gaF g j (f + (k + 1))).1 < ((f + (k + 1) : Nat) : Int) - (gaF g j (f + (k + 1))).2 - 1 then ((f + (k + 1) : Nat) : Int) - (gaF g j (f + (k + 1))).2 - 1 else (gaF g j (f + (k + 1))).1), ((f + (k + 1) : Nat) : Int)) else gaF g j (f + (k + 1)) := rfl
    have e2 : gpS g j f (k + 1 + 1) = if g (f + (k + 1)) = j then (f + (k + 1) + 1, if (gpS g j f (k + 1)).2 < ((f + (k + 1) : Nat) : Int) - ((gpS g j f (k + 1)).1 : Int) then ((f + (k + 1) : Nat) : Int) - ((gpS g j f (k + 1)).1 : Int) else (gpS g j f (k + 1)).2) else gpS g j f (k + 1) := rfl
    rw [e1, e2]
    by_cases e : g (f + (k + 1)) = j
    · rw [if_pos e, if_pos e]
      simp only
      rw [if_neg (by omega), i2]
      refine ⟨rfl, ?_⟩
      rw [← i1]
      rw [show ((f + (k + 1) : Nat) : Int) - (gaF g j (f + (k + 1))).2 - 1 = ((f + (k + 1) : Nat) : Int) - ((gaF g j (f + (k + 1))).2 + 1) by omega]
    · rw [if_neg e, if_neg e]
      exact ⟨i1, i2⟩
theorem gaF_c {g g' : Nat → Int} {j : Int} : ∀ {t : Nat}, (∀ b, b < t → g' b = g b) → gaF g' j t = gaF g j t := by
  intro t
  induction t with
  | zero => intro _; rfl
  | succ t ih =>
    intro h
    simp only [gaF]
    rw [ih (fun b hb => h b (by omega)), h t (by omega)]
/-- in turn, nobody waits longer than for each other's slice -/
theorem gaF_ring {J : Mm} {n : Nat} {K : Nat → Int} {z : Int} {T j : Nat} (hD : okD J n) (hK : okK K) (h0 : K 0 = 0) (h2 : K 2 = 0) (hj : j < n) (hT : (fnF J n K z).1 6 6 = (T : Int)) : (gaF ((fnF J n K z).1 7) (j : Int) T).1 ≤ ((n : Int) - 1) * K 1 := by
  have hpos : 0 ≤ ((n : Int) - 1) * K 1 := Int.mul_nonneg (by omega) (by have := hK.2.1.1; omega)
  have hw := fst_is ((fnF J n K z).1 7) (j : Int) T 0
  generalize hf : fstW ((fnF J n K z).1 7) (j : Int) T 0 = f at hw
  obtain ⟨w1, -, w3, w4⟩ := hw
  by_cases q : f < T
  · have h := fn_ring hD hK h0 h2 hj (z := z) f (by omega) (fun b hb => w1 b (by omega) hb) (w4 (by omega))
    rw [gap_0, show ((fnF J n K z).1 6 6).toNat - f = (T - f - 1) + 1 by omega] at h
    have h3 := (gaF_gp ((fnF J n K z).1 7) (j : Int) f (fun b hb => w1 b (by omega) hb) (w4 (by omega)) (T - f - 1)).2
    rw [show f + (T - f - 1 + 1) = T by omega] at h3
    omega
  · have : ∀ t, t ≤ T → gaF ((fnF J n K z).1 7) (j : Int) t = (0, -1) := by
      intro t
      induction t with
      | zero => intro _; rfl
      | succ t ih => intro ht; simp only [gaF]; rw [if_neg (w1 t (by omega) (by omega))]; exact ih (by omega)
    rw [this T (Nat.le_refl _)]
    exact hpos
section
variable {l : Launch} {B : Nat} {D : va_G} {E : Nat → ClassId} {μ m σ : Mm} {w n : Nat} {K : Nat → Int} {s : St} {J : Mm}
theorem c_L_isReady (hst : l.stackTraces = false) (hD : okD J n) (hA : eqA J n (μ 124)) (hL : dnA J σ n (μ 124)) (hB : leA J σ n) {k : Nat} (hk : k < n) {now : Int} (h66 : σ 6 6 = now) (hnow : 0 ≤ now ∧ now ≤ 3000) :
    Ct l B D E yL_isReady (.code yL_isReady cL_isReady 6 (some .boolean)) rm_L_isReady [.ref (pl B 124), iI (n : Int), iI (k : Int), iI now] μ (ri (if rdL J σ k then 1 else 0) μ) NX := by
  have hn12 : n ≤ 12 := by have := hD.1; omega
  have a1 := hA k hk
  have b1 := hB k hk
  have d1 := hD.2 k (by omega)
  have x4 : 0 ≤ J 4 k ∧ J 4 k < 4096 := ⟨d1.2.2.2.2.1.1, by have h1 := d1.2.2.2.2.1.2; have h2 := p2lt (show k ≤ 12 by omega); omega⟩
  have e0 : μ 124 (60 * (k : Int)).toNat = J 0 k := by rw [show (60 * (k : Int)).toNat = 60 * k by omega]; exact a1.1
  have e1 : μ 124 (60 * (k : Int) + 1).toNat = J 1 k := by rw [show (60 * (k : Int) + 1).toNat = 60 * k + 1 by omega]; exact a1.2.1
  have e4 : μ 124 (60 * (k : Int) + 4).toNat = J 4 k := by rw [show (60 * (k : Int) + 4).toNat = 60 * k + 4 by omega]; exact a1.2.2.2.2.1
  have e20 : μ 124 (60 * (k : Int) + 20).toNat = J 1 k - σ 0 k := by rw [show (60 * (k : Int) + 20).toNat = 60 * k + 20 by omega]; exact hL k hk
  refine ct_of (own := RL) (lv := [(0, _), (1, _), (2, _), (3, _)]) hst (by decide) rfl rfl (Nat.le_of_ble_eq_true rfl) fun a h r t => ?_
  have loop : J 0 k ≤ σ 6 6 → σ 0 k ≠ 0 → ∀ (d i : Nat), i + d = k → (∀ x, x < i → (J 4 k).toNat.testBit x = true → σ 0 x = 0) → VV a B (SP B D E μ) 0 0 35 [(5, iI (i : Int)), (4, iI (60 * (k : Int))), (0, .ref (pl B 124)), (1, iI (n : Int)), (2, iI (k : Int)), (3, iI now)] [] := by
    intro h1 h2 d
    induction d with
    | zero =>
      intro i hi q
      refine v_iload (pc := 35) h (dk dt_L_isReady 24 rfl) rfl ?_
      refine v_iload_n (pc := 37) h (dk dt_L_isReady 25 rfl) rfl ?_
      refine v_icmp_ge (pc := 38) h 86 (dk dt_L_isReady 26 rfl) rfl (by omega) (fun c38 => ?_) (fun c38 => ?_)
      ·
        refine v_iconst (pc := 86) h (dk dt_L_isReady 57 rfl) ?_
        exact v_zret (pc := 87) h r (dk dt_L_isReady 58 rfl) (Nat.le_of_ble_eq_true rfl) (Nat.le_of_ble_eq_true rfl) (by omega) ⟨by rw [if_pos ⟨h1, h2, fun x hx hb => q x (by omega) hb⟩], rfl⟩
      ·
        exact absurd c38 (by omega)
    | succ d ih =>
      intro i hi q
      have eb : bnd (bsr (J 4 k) (i : Int)) 1 = if (J 4 k).toNat.testBit i then 1 else 0 := by
        have := bit1 (a := (J 4 k).toNat) (j := i) (by omega) (by omega)
        rwa [show (((J 4 k).toNat : Nat) : Int) = J 4 k by omega] at this
      have ai := hA i (by omega)
      have bi := hB i (by omega)
      have di := okD_l hD (j := i) (by omega)
      have e20i : μ 124 (60 * (i : Int) + 20).toNat = J 1 i - σ 0 i := by rw [show (60 * (i : Int) + 20).toNat = 60 * i + 20 by omega]; exact hL i (by omega)
      have e1i : μ 124 (60 * (i : Int) + 1).toNat = J 1 i := by rw [show (60 * (i : Int) + 1).toNat = 60 * i + 1 by omega]; exact ai.2.1
      refine v_iload (pc := 35) h (dk dt_L_isReady 24 rfl) rfl ?_
      refine v_iload_n (pc := 37) h (dk dt_L_isReady 25 rfl) rfl ?_
      refine v_icmp_ge (pc := 38) h 86 (dk dt_L_isReady 26 rfl) rfl (by omega) (fun c38 => ?_) (fun c38 => ?_)
      ·
        exact absurd c38 (by omega)
      ·
        refine v_aload_n (pc := 41) h (dk dt_L_isReady 27 rfl) rfl ?_
        refine v_iload (pc := 42) h (dk dt_L_isReady 28 rfl) rfl ?_
        refine v_iconst (pc := 44) h (dk dt_L_isReady 29 rfl) ?_
        refine v_iadd (pc := 45) h (dk dt_L_isReady 30 rfl) ?_
        refine v_iald (pc := 46) h sh124 (Nat.le_of_ble_eq_true rfl) (by omega) (dk dt_L_isReady 31 rfl) ?_
        rw [e4]
        refine v_iload (pc := 47) h (dk dt_L_isReady 32 rfl) rfl ?_
        refine v_ishr (pc := 49) h (dk dt_L_isReady 33 rfl) ?_
        refine v_iconst (pc := 50) h (dk dt_L_isReady 34 rfl) ?_
        refine v_iand (pc := 51) h (dk dt_L_isReady 35 rfl) ?_
        rw [eb]
        refine v_iconst (pc := 52) h (dk dt_L_isReady 36 rfl) ?_
        refine v_icmp_ne (pc := 53) h 80 (dk dt_L_isReady 37 rfl) rfl (by split <;> omega) (fun c53 => ?_) (fun c53 => ?_)
        ·
          refine v_iinc (lv' := [(5, _), (4, _), (0, _), (1, _), (2, _), (3, _)]) (pc := 80) h (dk dt_L_isReady 55 rfl) rfl (Nat.le_of_ble_eq_true rfl) rfl ?_
          refine v_goto (pc := 83) h 35 (dk dt_L_isReady 56 rfl) rfl ?_
          exact VV.loc (ih (i + 1) (by omega) (fun x hx hb => by
            by_cases e : x = i
            · rw [e] at hb ⊢
              first
              | (have c75 := c75; omega)
              | (rw [if_pos hb] at c53; exact absurd rfl c53)
            · exact q x (by omega) hb)) ⟨rfl, rfl, rfl, rfl, rfl, rfl, trivial⟩
        ·
          refine v_aload_n (pc := 56) h (dk dt_L_isReady 38 rfl) rfl ?_
          refine v_bipush (pc := 57) h (dk dt_L_isReady 39 rfl) rfl ?_
          refine v_iload (pc := 59) h (dk dt_L_isReady 40 rfl) rfl ?_
          refine v_imul (pc := 61) h (dk dt_L_isReady 41 rfl) ?_
          refine v_bipush (pc := 62) h (dk dt_L_isReady 42 rfl) rfl ?_
          refine v_iadd (pc := 64) h (dk dt_L_isReady 43 rfl) ?_
          refine v_iald (pc := 65) h sh124 (Nat.le_of_ble_eq_true rfl) (by omega) (dk dt_L_isReady 44 rfl) ?_
          rw [e20i]
          refine v_aload_n (pc := 66) h (dk dt_L_isReady 45 rfl) rfl ?_
          refine v_bipush (pc := 67) h (dk dt_L_isReady 46 rfl) rfl ?_
          refine v_iload (pc := 69) h (dk dt_L_isReady 47 rfl) rfl ?_
          refine v_imul (pc := 71) h (dk dt_L_isReady 48 rfl) ?_
          refine v_iconst (pc := 72) h (dk dt_L_isReady 49 rfl) ?_
          refine v_iadd (pc := 73) h (dk dt_L_isReady 50 rfl) ?_
          refine v_iald (pc := 74) h sh124 (Nat.le_of_ble_eq_true rfl) (by omega) (dk dt_L_isReady 51 rfl) ?_
          rw [e1i]
          refine v_icmp_ge (pc := 75) h 80 (dk dt_L_isReady 52 rfl) rfl (by omega) (fun c75 => ?_) (fun c75 => ?_)
          ·
            refine v_iinc (lv' := [(5, _), (4, _), (0, _), (1, _), (2, _), (3, _)]) (pc := 80) h (dk dt_L_isReady 55 rfl) rfl (Nat.le_of_ble_eq_true rfl) rfl ?_
            refine v_goto (pc := 83) h 35 (dk dt_L_isReady 56 rfl) rfl ?_
            exact VV.loc (ih (i + 1) (by omega) (fun x hx hb => by
              by_cases e : x = i
              · rw [e] at hb ⊢
                first
                | (have c75 := c75; omega)
                | (rw [if_pos hb] at c53; exact absurd rfl c53)
              · exact q x (by omega) hb)) ⟨rfl, rfl, rfl, rfl, rfl, rfl, trivial⟩
          ·
            refine v_iconst (pc := 78) h (dk dt_L_isReady 53 rfl) ?_
            exact v_zret (pc := 79) h r (dk dt_L_isReady 54 rfl) (Nat.le_of_ble_eq_true rfl) (Nat.le_of_ble_eq_true rfl) (by omega) ⟨by rw [if_neg (fun z => by have hbt : (J 4 k).toNat.testBit i = true := (by by_cases y : (J 4 k).toNat.testBit i = true; exact y; rw [if_neg y] at c53; omega); have := z.2.2 i (by omega) hbt; omega)], rfl⟩
  refine v_bipush (pc := 0) h (dk dt_L_isReady 0 rfl) rfl ?_
  refine v_iload_n (pc := 2) h (dk dt_L_isReady 1 rfl) rfl ?_
  refine v_imul (pc := 3) h (dk dt_L_isReady 2 rfl) ?_
  refine v_istore (lv' := [(4, _), (0, _), (1, _), (2, _), (3, _)]) (pc := 4) h (dk dt_L_isReady 3 rfl) (Nat.le_of_ble_eq_true rfl) rfl ?_
  refine v_aload_n (pc := 6) h (dk dt_L_isReady 4 rfl) rfl ?_
  refine v_iload (pc := 7) h (dk dt_L_isReady 5 rfl) rfl ?_
  refine v_iald (pc := 9) h sh124 (Nat.le_of_ble_eq_true rfl) (by omega) (dk dt_L_isReady 6 rfl) ?_
  rw [e0]
  refine v_iload_n (pc := 10) h (dk dt_L_isReady 7 rfl) rfl ?_
  refine v_icmp_gt (pc := 11) h 30 (dk dt_L_isReady 8 rfl) rfl (by omega) (fun c11 => ?_) (fun c11 => ?_)
  ·
    refine v_iconst (pc := 30) h (dk dt_L_isReady 20 rfl) ?_
    exact v_zret (pc := 31) h r (dk dt_L_isReady 21 rfl) (Nat.le_of_ble_eq_true rfl) (Nat.le_of_ble_eq_true rfl) (by omega) ⟨by rw [if_neg (fun z => by have z1 := z.1; have z2 := z.2.1; omega)], rfl⟩
  ·
    refine v_aload_n (pc := 14) h (dk dt_L_isReady 9 rfl) rfl ?_
    refine v_iload (pc := 15) h (dk dt_L_isReady 10 rfl) rfl ?_
    refine v_bipush (pc := 17) h (dk dt_L_isReady 11 rfl) rfl ?_
    refine v_iadd (pc := 19) h (dk dt_L_isReady 12 rfl) ?_
    refine v_iald (pc := 20) h sh124 (Nat.le_of_ble_eq_true rfl) (by omega) (dk dt_L_isReady 13 rfl) ?_
    rw [e20]
    refine v_aload_n (pc := 21) h (dk dt_L_isReady 14 rfl) rfl ?_
    refine v_iload (pc := 22) h (dk dt_L_isReady 15 rfl) rfl ?_
    refine v_iconst (pc := 24) h (dk dt_L_isReady 16 rfl) ?_
    refine v_iadd (pc := 25) h (dk dt_L_isReady 17 rfl) ?_
    refine v_iald (pc := 26) h sh124 (Nat.le_of_ble_eq_true rfl) (by omega) (dk dt_L_isReady 18 rfl) ?_
    rw [e1]
    refine v_icmp_ne (pc := 27) h 32 (dk dt_L_isReady 19 rfl) rfl (by omega) (fun c27 => ?_) (fun c27 => ?_)
    ·
      refine v_iconst (pc := 32) h (dk dt_L_isReady 22 rfl) ?_
      refine v_istore (lv' := [(5, _), (4, _), (0, _), (1, _), (2, _), (3, _)]) (pc := 33) h (dk dt_L_isReady 23 rfl) (Nat.le_of_ble_eq_true rfl) rfl ?_
      exact VV.loc (loop (by omega) (by omega) k 0 (by omega) (fun x hx => absurd hx (by omega))) ⟨rfl, rfl, rfl, rfl, rfl, rfl, trivial⟩
    ·
      refine v_iconst (pc := 30) h (dk dt_L_isReady 20 rfl) ?_
      exact v_zret (pc := 31) h r (dk dt_L_isReady 21 rfl) (Nat.le_of_ble_eq_true rfl) (Nat.le_of_ble_eq_true rfl) (by omega) ⟨by rw [if_neg (fun z => by have z1 := z.1; have z2 := z.2.1; omega)], rfl⟩
theorem c_L_keeper (hst : l.stackTraces = false) (hD : okD J n) (hA : eqA J n (μ 124)) (hL : dnA J σ n (μ 124)) (hB : leA J σ n) {k : Nat} (hk : k < n) (hno : kpr J n σ k = -1) :
    Ct l B D E yL_keeper (.code yL_keeper cL_keeper 8 (some .int)) rm_L_keeper [.ref (pl B 124), iI (n : Int), iI (k : Int)] μ (ri (-1) μ) NX := by
  have hn12 : n ≤ 12 := by have := hD.1; omega
  have key : ∀ q i p : Nat, q < (J 5 k).toNat → i < n → p < (J 5 i).toNat → i ≠ k → J 7 (3 * k + q) ≤ J 1 k - σ 0 k → J 1 k - σ 0 k < J 8 (3 * k + q) → J 6 (3 * i + p) = J 6 (3 * k + q) → J 7 (3 * i + p) < J 1 i - σ 0 i → J 1 i - σ 0 i < J 8 (3 * i + p) → False := by
    intro q i p hq hi hp hne h1 h2 h3 h4 h5
    have e1 := nd_of (σ := σ) hD hk hq h1 h2
    have s1 := okD_s hD hk hq
    rcases kpr_is (J := J) (n := n) (σ := σ) k with ⟨-, y | y⟩ | ⟨x, x1, x2, x3, x4, x5⟩
    · omega
    · refine y i hi hne ?_
      rcases hdF_is (σ := σ) hD hi with ⟨-, z⟩ | ⟨x, x1, x2, x3⟩
      · exact absurd ⟨h4, h5⟩ (z p hp)
      · have := okD_o hD hi hp x1 (z := J 1 i - σ 0 i) (by omega) h5 (by omega) x2.2
        rw [x3, ← this, h3, e1]
    · omega
  have a1 := hA k hk
  have b1 := hB k hk
  have l1 := okD_l hD hk
  have k1 := okD_k hD hk
  have e5 : μ 124 (60 * (k : Int) + 5).toNat = J 5 k := by rw [show (60 * (k : Int) + 5).toNat = 60 * k + 5 by omega]; exact a1.2.2.2.2.2.1
  have e20 : μ 124 (60 * (k : Int) + 20).toNat = J 1 k - σ 0 k := by rw [show (60 * (k : Int) + 20).toNat = 60 * k + 20 by omega]; exact hL k hk
  refine ct_of (own := RL) (lv := [(0, _), (1, _), (2, _)]) hst (by decide) rfl rfl (Nat.le_of_ble_eq_true rfl) fun a h r t => ?_
  have loop : ∀ (d q : Nat), q + d = (J 5 k).toNat → VV a B (SP B D E μ) 0 0 8 [(4, iI (q : Int)), (3, iI (60 * (k : Int))), (0, .ref (pl B 124)), (1, iI (n : Int)), (2, iI (k : Int))] [] := by
    intro d
    induction d with
    | zero =>
      intro q hq
      refine v_iload (pc := 8) h (dk dt_L_keeper_0 6 rfl) rfl ?_
      refine v_aload_n (pc := 10) h (dk dt_L_keeper_0 7 rfl) rfl ?_
      refine v_iload_n (pc := 11) h (dk dt_L_keeper_0 8 rfl) rfl ?_
      refine v_iconst (pc := 12) h (dk dt_L_keeper_0 9 rfl) ?_
      refine v_iadd (pc := 13) h (dk dt_L_keeper_0 10 rfl) ?_
      refine v_iald (pc := 14) h sh124 (Nat.le_of_ble_eq_true rfl) (by omega) (dk dt_L_keeper_0 11 rfl) ?_
      rw [e5]
      refine v_icmp_ge (pc := 15) h 185 (dk dt_L_keeper_0 12 rfl) rfl (by omega) (fun c15 => ?_) (fun c15 => ?_)
      ·
        refine v_iconst (pc := 185) h (dk dt_L_keeper_1 56 rfl) ?_
        exact v_iret (pc := 186) h r (dk dt_L_keeper_1 57 rfl) (Nat.le_of_ble_eq_true rfl) (Nat.le_of_ble_eq_true rfl) ⟨rfl, rfl⟩
      ·
        exact absurd c15 (by omega)
    | succ d ih =>
      intro q hq
      have sq := a1.2.2.2.2.2.2 q (by omega)
      have oq := okD_s hD hk (i := q) (by omega)
      have e6 : μ 124 (60 * (k : Int) + 6 + 3 * (q : Int)).toNat = J 6 (3 * k + q) := by rw [show (60 * (k : Int) + 6 + 3 * (q : Int)).toNat = 60 * k + 6 + 3 * q by omega]; exact sq.1
      have e7 : μ 124 (60 * (k : Int) + 7 + 3 * (q : Int)).toNat = J 7 (3 * k + q) := by rw [show (60 * (k : Int) + 7 + 3 * (q : Int)).toNat = 60 * k + 7 + 3 * q by omega]; exact sq.2.1
      have e8 : μ 124 (60 * (k : Int) + 8 + 3 * (q : Int)).toNat = J 8 (3 * k + q) := by rw [show (60 * (k : Int) + 8 + 3 * (q : Int)).toNat = 60 * k + 8 + 3 * q by omega]; exact sq.2.2
      have go179 : ∀ lv, lvs lv [(4, iI (q : Int)), (3, iI (60 * (k : Int))), (0, .ref (pl B 124)), (1, iI (n : Int)), (2, iI (k : Int))] → VV a B (SP B D E μ) 0 0 179 lv [] := by
        intro lv hlv
        refine VV.loc (lv' := [(4, iI (q : Int)), (3, iI (60 * (k : Int))), (0, .ref (pl B 124)), (1, iI (n : Int)), (2, iI (k : Int))]) ?_ hlv
        refine v_iinc (lv' := [(4, _), (3, _), (0, _), (1, _), (2, _)]) (pc := 179) h (dk dt_L_keeper_1 54 rfl) rfl (Nat.le_of_ble_eq_true rfl) rfl ?_
        refine v_goto (pc := 182) h 8 (dk dt_L_keeper_1 55 rfl) rfl ?_
        exact VV.loc (ih (q + 1) (by omega)) ⟨rfl, rfl, rfl, rfl, rfl, trivial⟩
      have mid : J 7 (3 * k + q) ≤ J 1 k - σ 0 k → J 1 k - σ 0 k < J 8 (3 * k + q) → ∀ (d i : Nat), i + d = n → VV a B (SP B D E μ) 0 0 64 [(5, iI (i : Int)), (4, iI (q : Int)), (3, iI (60 * (k : Int))), (0, .ref (pl B 124)), (1, iI (n : Int)), (2, iI (k : Int))] [] := by
        intro h1 h2 d
        induction d with
        | zero =>
          intro i hi
          refine v_iload (pc := 64) h (dk dt_L_keeper_0 46 rfl) rfl ?_
          refine v_iload_n (pc := 66) h (dk dt_L_keeper_0 47 rfl) rfl ?_
          refine v_icmp_ge (pc := 67) h 179 (dk dt_L_keeper_0 48 rfl) rfl (by omega) (fun c67 => ?_) (fun c67 => ?_)
          ·
            exact go179 _ ⟨rfl, rfl, rfl, rfl, rfl, trivial⟩
          ·
            exact absurd c67 (by omega)
        | succ d ih2 =>
          intro i hi
          have ai := hA i (by omega)
          have bi := hB i (by omega)
          have li := okD_l hD (j := i) (by omega)
          have ki := okD_k hD (j := i) (by omega)
          have e5i : μ 124 (60 * (i : Int) + 5).toNat = J 5 i := by rw [show (60 * (i : Int) + 5).toNat = 60 * i + 5 by omega]; exact ai.2.2.2.2.2.1
          have e20i : μ 124 (60 * (i : Int) + 20).toNat = J 1 i - σ 0 i := by rw [show (60 * (i : Int) + 20).toNat = 60 * i + 20 by omega]; exact hL i (by omega)
          have inner : ∀ (d p : Nat), p + d = (J 5 i).toNat → ∀ lv, lvs lv [(6, iI (p : Int)), (5, iI (i : Int)), (4, iI (q : Int)), (3, iI (60 * (k : Int))), (0, .ref (pl B 124)), (1, iI (n : Int)), (2, iI (k : Int))] → VV a B (SP B D E μ) 0 0 73 lv [] := by
            intro d
            induction d with
            | zero =>
              intro p hp lv hlv
              refine VV.loc (lv' := [(6, iI (p : Int)), (5, iI (i : Int)), (4, iI (q : Int)), (3, iI (60 * (k : Int))), (0, .ref (pl B 124)), (1, iI (n : Int)), (2, iI (k : Int))]) ?_ hlv
              refine v_iload (pc := 73) h (dk dt_L_keeper_0 51 rfl) rfl ?_
              refine v_aload_n (pc := 75) h (dk dt_L_keeper_0 52 rfl) rfl ?_
              refine v_bipush (pc := 76) h (dk dt_L_keeper_0 53 rfl) rfl ?_
              refine v_iload (pc := 78) h (dk dt_L_keeper_0 54 rfl) rfl ?_
              refine v_imul (pc := 80) h (dk dt_L_keeper_0 55 rfl) ?_
              refine v_iconst (pc := 81) h (dk dt_L_keeper_0 56 rfl) ?_
              refine v_iadd (pc := 82) h (dk dt_L_keeper_0 57 rfl) ?_
              refine v_iald (pc := 83) h sh124 (Nat.le_of_ble_eq_true rfl) (by omega) (dk dt_L_keeper_0 58 rfl) ?_
              rw [e5i]
              refine v_icmp_ge (pc := 84) h 173 (dk dt_L_keeper_0 59 rfl) rfl (by omega) (fun c84 => ?_) (fun c84 => ?_)
              ·
                refine v_iinc (lv' := [(5, _), (6, _), (4, _), (3, _), (0, _), (1, _), (2, _)]) (pc := 173) h (dk dt_L_keeper_1 52 rfl) rfl (Nat.le_of_ble_eq_true rfl) rfl ?_
                refine v_goto (pc := 176) h 64 (dk dt_L_keeper_1 53 rfl) rfl ?_
                exact VV.loc (ih2 (i + 1) (by omega)) ⟨rfl, rfl, rfl, rfl, rfl, rfl, trivial⟩
              ·
                exact absurd c84 (by omega)
            | succ d ih3 =>
              intro p hp lv hlv
              refine VV.loc (lv' := [(6, iI (p : Int)), (5, iI (i : Int)), (4, iI (q : Int)), (3, iI (60 * (k : Int))), (0, .ref (pl B 124)), (1, iI (n : Int)), (2, iI (k : Int))]) ?_ hlv
              have sp := ai.2.2.2.2.2.2 p (by omega)
              have op := okD_s hD (j := i) (i := p) (by omega) (by omega)
              have f6 : μ 124 (60 * (i : Int) + 6 + 3 * (p : Int)).toNat = J 6 (3 * i + p) := by rw [show (60 * (i : Int) + 6 + 3 * (p : Int)).toNat = 60 * i + 6 + 3 * p by omega]; exact sp.1
              have f7 : μ 124 (60 * (i : Int) + 6 + 3 * (p : Int) + 1).toNat = J 7 (3 * i + p) := by rw [show (60 * (i : Int) + 6 + 3 * (p : Int) + 1).toNat = 60 * i + 7 + 3 * p by omega]; exact sp.2.1
              have f8 : μ 124 (60 * (i : Int) + 6 + 3 * (p : Int) + 2).toNat = J 8 (3 * i + p) := by rw [show (60 * (i : Int) + 6 + 3 * (p : Int) + 2).toNat = 60 * i + 8 + 3 * p by omega]; exact sp.2.2
              refine v_iload (pc := 73) h (dk dt_L_keeper_0 51 rfl) rfl ?_
              refine v_aload_n (pc := 75) h (dk dt_L_keeper_0 52 rfl) rfl ?_
              refine v_bipush (pc := 76) h (dk dt_L_keeper_0 53 rfl) rfl ?_
              refine v_iload (pc := 78) h (dk dt_L_keeper_0 54 rfl) rfl ?_
              refine v_imul (pc := 80) h (dk dt_L_keeper_0 55 rfl) ?_
              refine v_iconst (pc := 81) h (dk dt_L_keeper_0 56 rfl) ?_
              refine v_iadd (pc := 82) h (dk dt_L_keeper_0 57 rfl) ?_
              refine v_iald (pc := 83) h sh124 (Nat.le_of_ble_eq_true rfl) (by omega) (dk dt_L_keeper_0 58 rfl) ?_
              rw [e5i]
              refine v_icmp_ge (pc := 84) h 173 (dk dt_L_keeper_0 59 rfl) rfl (by omega) (fun c84 => ?_) (fun c84 => ?_)
              ·
                exact absurd c84 (by omega)
              ·
                refine v_iload (pc := 87) h (dk dt_L_keeper_0 60 rfl) rfl ?_
                refine v_iload_n (pc := 89) h (dk dt_L_keeper_0 61 rfl) rfl ?_
                refine v_icmp_eq (pc := 90) h 173 (dk dt_L_keeper_0 62 rfl) rfl (by omega) (fun c90 => ?_) (fun c90 => ?_)
                ·
                  refine v_iinc (lv' := [(5, _), (6, _), (4, _), (3, _), (0, _), (1, _), (2, _)]) (pc := 173) h (dk dt_L_keeper_1 52 rfl) rfl (Nat.le_of_ble_eq_true rfl) rfl ?_
                  refine v_goto (pc := 176) h 64 (dk dt_L_keeper_1 53 rfl) rfl ?_
                  exact VV.loc (ih2 (i + 1) (by omega)) ⟨rfl, rfl, rfl, rfl, rfl, rfl, trivial⟩
                ·
                  refine v_bipush (pc := 93) h (dk dt_L_keeper_0 63 rfl) rfl ?_
                  refine v_iload (pc := 95) h (dk dt_L_keeper_1 0 rfl) rfl ?_
                  refine v_imul (pc := 97) h (dk dt_L_keeper_1 1 rfl) ?_
                  refine v_bipush (pc := 98) h (dk dt_L_keeper_1 2 rfl) rfl ?_
                  refine v_iadd (pc := 100) h (dk dt_L_keeper_1 3 rfl) ?_
                  refine v_iconst (pc := 101) h (dk dt_L_keeper_1 4 rfl) ?_
                  refine v_iload (pc := 102) h (dk dt_L_keeper_1 5 rfl) rfl ?_
                  refine v_imul (pc := 104) h (dk dt_L_keeper_1 6 rfl) ?_
                  refine v_iadd (pc := 105) h (dk dt_L_keeper_1 7 rfl) ?_
                  refine v_istore (lv' := [(7, _), (6, _), (5, _), (4, _), (3, _), (0, _), (1, _), (2, _)]) (pc := 106) h (dk dt_L_keeper_1 8 rfl) (Nat.le_of_ble_eq_true rfl) rfl ?_
                  refine v_aload_n (pc := 108) h (dk dt_L_keeper_1 9 rfl) rfl ?_
                  refine v_iload (pc := 109) h (dk dt_L_keeper_1 10 rfl) rfl ?_
                  refine v_iald (pc := 111) h sh124 (Nat.le_of_ble_eq_true rfl) (by omega) (dk dt_L_keeper_1 11 rfl) ?_
                  rw [f6]
                  refine v_aload_n (pc := 112) h (dk dt_L_keeper_1 12 rfl) rfl ?_
                  refine v_iload_n (pc := 113) h (dk dt_L_keeper_1 13 rfl) rfl ?_
                  refine v_bipush (pc := 114) h (dk dt_L_keeper_1 14 rfl) rfl ?_
                  refine v_iadd (pc := 116) h (dk dt_L_keeper_1 15 rfl) ?_
                  refine v_iconst (pc := 117) h (dk dt_L_keeper_1 16 rfl) ?_
                  refine v_iload (pc := 118) h (dk dt_L_keeper_1 17 rfl) rfl ?_
                  refine v_imul (pc := 120) h (dk dt_L_keeper_1 18 rfl) ?_
                  refine v_iadd (pc := 121) h (dk dt_L_keeper_1 19 rfl) ?_
                  refine v_iald (pc := 122) h sh124 (Nat.le_of_ble_eq_true rfl) (by omega) (dk dt_L_keeper_1 20 rfl) ?_
                  rw [e6]
                  refine v_icmp_ne (pc := 123) h 167 (dk dt_L_keeper_1 21 rfl) rfl (by omega) (fun c123 => ?_) (fun c123 => ?_)
                  ·
                    refine v_iinc (lv' := [(6, _), (7, _), (5, _), (4, _), (3, _), (0, _), (1, _), (2, _)]) (pc := 167) h (dk dt_L_keeper_1 50 rfl) rfl (Nat.le_of_ble_eq_true rfl) rfl ?_
                    refine v_goto (pc := 170) h 73 (dk dt_L_keeper_1 51 rfl) rfl ?_
                    exact ih3 (p + 1) (by omega) _ ⟨rfl, rfl, rfl, rfl, rfl, rfl, rfl, trivial⟩
                  ·
                    refine v_aload_n (pc := 126) h (dk dt_L_keeper_1 22 rfl) rfl ?_
                    refine v_iload (pc := 127) h (dk dt_L_keeper_1 23 rfl) rfl ?_
                    refine v_iconst (pc := 129) h (dk dt_L_keeper_1 24 rfl) ?_
                    refine v_iadd (pc := 130) h (dk dt_L_keeper_1 25 rfl) ?_
                    refine v_iald (pc := 131) h sh124 (Nat.le_of_ble_eq_true rfl) (by omega) (dk dt_L_keeper_1 26 rfl) ?_
                    rw [f7]
                    refine v_aload_n (pc := 132) h (dk dt_L_keeper_1 27 rfl) rfl ?_
                    refine v_bipush (pc := 133) h (dk dt_L_keeper_1 28 rfl) rfl ?_
                    refine v_iload (pc := 135) h (dk dt_L_keeper_1 29 rfl) rfl ?_
                    refine v_imul (pc := 137) h (dk dt_L_keeper_1 30 rfl) ?_
                    refine v_bipush (pc := 138) h (dk dt_L_keeper_1 31 rfl) rfl ?_
                    refine v_iadd (pc := 140) h (dk dt_L_keeper_1 32 rfl) ?_
                    refine v_iald (pc := 141) h sh124 (Nat.le_of_ble_eq_true rfl) (by omega) (dk dt_L_keeper_1 33 rfl) ?_
                    rw [e20i]
                    refine v_icmp_ge (pc := 142) h 167 (dk dt_L_keeper_1 34 rfl) rfl (by omega) (fun c142 => ?_) (fun c142 => ?_)
                    ·
                      refine v_iinc (lv' := [(6, _), (7, _), (5, _), (4, _), (3, _), (0, _), (1, _), (2, _)]) (pc := 167) h (dk dt_L_keeper_1 50 rfl) rfl (Nat.le_of_ble_eq_true rfl) rfl ?_
                      refine v_goto (pc := 170) h 73 (dk dt_L_keeper_1 51 rfl) rfl ?_
                      exact ih3 (p + 1) (by omega) _ ⟨rfl, rfl, rfl, rfl, rfl, rfl, rfl, trivial⟩
                    ·
                      refine v_aload_n (pc := 145) h (dk dt_L_keeper_1 35 rfl) rfl ?_
                      refine v_bipush (pc := 146) h (dk dt_L_keeper_1 36 rfl) rfl ?_
                      refine v_iload (pc := 148) h (dk dt_L_keeper_1 37 rfl) rfl ?_
                      refine v_imul (pc := 150) h (dk dt_L_keeper_1 38 rfl) ?_
                      refine v_bipush (pc := 151) h (dk dt_L_keeper_1 39 rfl) rfl ?_
                      refine v_iadd (pc := 153) h (dk dt_L_keeper_1 40 rfl) ?_
                      refine v_iald (pc := 154) h sh124 (Nat.le_of_ble_eq_true rfl) (by omega) (dk dt_L_keeper_1 41 rfl) ?_
                      rw [e20i]
                      refine v_aload_n (pc := 155) h (dk dt_L_keeper_1 42 rfl) rfl ?_
                      refine v_iload (pc := 156) h (dk dt_L_keeper_1 43 rfl) rfl ?_
                      refine v_iconst (pc := 158) h (dk dt_L_keeper_1 44 rfl) ?_
                      refine v_iadd (pc := 159) h (dk dt_L_keeper_1 45 rfl) ?_
                      refine v_iald (pc := 160) h sh124 (Nat.le_of_ble_eq_true rfl) (by omega) (dk dt_L_keeper_1 46 rfl) ?_
                      rw [f8]
                      refine v_icmp_ge (pc := 161) h 167 (dk dt_L_keeper_1 47 rfl) rfl (by omega) (fun c161 => ?_) (fun c161 => ?_)
                      ·
                        refine v_iinc (lv' := [(6, _), (7, _), (5, _), (4, _), (3, _), (0, _), (1, _), (2, _)]) (pc := 167) h (dk dt_L_keeper_1 50 rfl) rfl (Nat.le_of_ble_eq_true rfl) rfl ?_
                        refine v_goto (pc := 170) h 73 (dk dt_L_keeper_1 51 rfl) rfl ?_
                        exact ih3 (p + 1) (by omega) _ ⟨rfl, rfl, rfl, rfl, rfl, rfl, rfl, trivial⟩
                      ·
                        exact (key q i p (by omega) (by omega) (by omega) (by omega) h1 h2 c123 c142 c161).elim
          refine v_iload (pc := 64) h (dk dt_L_keeper_0 46 rfl) rfl ?_
          refine v_iload_n (pc := 66) h (dk dt_L_keeper_0 47 rfl) rfl ?_
          refine v_icmp_ge (pc := 67) h 179 (dk dt_L_keeper_0 48 rfl) rfl (by omega) (fun c67 => ?_) (fun c67 => ?_)
          ·
            exact absurd c67 (by omega)
          ·
            refine v_iconst (pc := 70) h (dk dt_L_keeper_0 49 rfl) ?_
            refine v_istore (lv' := [(6, _), (5, _), (4, _), (3, _), (0, _), (1, _), (2, _)]) (pc := 71) h (dk dt_L_keeper_0 50 rfl) (Nat.le_of_ble_eq_true rfl) rfl ?_
            exact inner (J 5 i).toNat 0 (by omega) _ ⟨rfl, rfl, rfl, rfl, rfl, rfl, rfl, trivial⟩
      refine v_iload (pc := 8) h (dk dt_L_keeper_0 6 rfl) rfl ?_
      refine v_aload_n (pc := 10) h (dk dt_L_keeper_0 7 rfl) rfl ?_
      refine v_iload_n (pc := 11) h (dk dt_L_keeper_0 8 rfl) rfl ?_
      refine v_iconst (pc := 12) h (dk dt_L_keeper_0 9 rfl) ?_
      refine v_iadd (pc := 13) h (dk dt_L_keeper_0 10 rfl) ?_
      refine v_iald (pc := 14) h sh124 (Nat.le_of_ble_eq_true rfl) (by omega) (dk dt_L_keeper_0 11 rfl) ?_
      rw [e5]
      refine v_icmp_ge (pc := 15) h 185 (dk dt_L_keeper_0 12 rfl) rfl (by omega) (fun c15 => ?_) (fun c15 => ?_)
      ·
        exact absurd c15 (by omega)
      ·
        refine v_aload_n (pc := 18) h (dk dt_L_keeper_0 13 rfl) rfl ?_
        refine v_iload_n (pc := 19) h (dk dt_L_keeper_0 14 rfl) rfl ?_
        refine v_bipush (pc := 20) h (dk dt_L_keeper_0 15 rfl) rfl ?_
        refine v_iadd (pc := 22) h (dk dt_L_keeper_0 16 rfl) ?_
        refine v_iald (pc := 23) h sh124 (Nat.le_of_ble_eq_true rfl) (by omega) (dk dt_L_keeper_0 17 rfl) ?_
        rw [e20]
        refine v_aload_n (pc := 24) h (dk dt_L_keeper_0 18 rfl) rfl ?_
        refine v_iload_n (pc := 25) h (dk dt_L_keeper_0 19 rfl) rfl ?_
        refine v_bipush (pc := 26) h (dk dt_L_keeper_0 20 rfl) rfl ?_
        refine v_iadd (pc := 28) h (dk dt_L_keeper_0 21 rfl) ?_
        refine v_iconst (pc := 29) h (dk dt_L_keeper_0 22 rfl) ?_
        refine v_iload (pc := 30) h (dk dt_L_keeper_0 23 rfl) rfl ?_
        refine v_imul (pc := 32) h (dk dt_L_keeper_0 24 rfl) ?_
        refine v_iadd (pc := 33) h (dk dt_L_keeper_0 25 rfl) ?_
        refine v_iald (pc := 34) h sh124 (Nat.le_of_ble_eq_true rfl) (by omega) (dk dt_L_keeper_0 26 rfl) ?_
        rw [e7]
        refine v_icmp_lt (pc := 35) h 179 (dk dt_L_keeper_0 27 rfl) rfl (by omega) (fun c35 => ?_) (fun c35 => ?_)
        ·
          exact go179 _ ⟨rfl, rfl, rfl, rfl, rfl, trivial⟩
        ·
          refine v_aload_n (pc := 38) h (dk dt_L_keeper_0 28 rfl) rfl ?_
          refine v_iload_n (pc := 39) h (dk dt_L_keeper_0 29 rfl) rfl ?_
          refine v_bipush (pc := 40) h (dk dt_L_keeper_0 30 rfl) rfl ?_
          refine v_iadd (pc := 42) h (dk dt_L_keeper_0 31 rfl) ?_
          refine v_iald (pc := 43) h sh124 (Nat.le_of_ble_eq_true rfl) (by omega) (dk dt_L_keeper_0 32 rfl) ?_
          rw [e20]
          refine v_aload_n (pc := 44) h (dk dt_L_keeper_0 33 rfl) rfl ?_
          refine v_iload_n (pc := 45) h (dk dt_L_keeper_0 34 rfl) rfl ?_
          refine v_bipush (pc := 46) h (dk dt_L_keeper_0 35 rfl) rfl ?_
          refine v_iadd (pc := 48) h (dk dt_L_keeper_0 36 rfl) ?_
          refine v_iconst (pc := 49) h (dk dt_L_keeper_0 37 rfl) ?_
          refine v_iload (pc := 50) h (dk dt_L_keeper_0 38 rfl) rfl ?_
          refine v_imul (pc := 52) h (dk dt_L_keeper_0 39 rfl) ?_
          refine v_iadd (pc := 53) h (dk dt_L_keeper_0 40 rfl) ?_
          refine v_iald (pc := 54) h sh124 (Nat.le_of_ble_eq_true rfl) (by omega) (dk dt_L_keeper_0 41 rfl) ?_
          rw [e8]
          refine v_icmp_lt (pc := 55) h 61 (dk dt_L_keeper_0 42 rfl) rfl (by omega) (fun c55 => ?_) (fun c55 => ?_)
          ·
            refine v_iconst (pc := 61) h (dk dt_L_keeper_0 44 rfl) ?_
            refine v_istore (lv' := [(5, _), (4, _), (3, _), (0, _), (1, _), (2, _)]) (pc := 62) h (dk dt_L_keeper_0 45 rfl) (Nat.le_of_ble_eq_true rfl) rfl ?_
            exact VV.loc (mid (by omega) (by omega) n 0 (by omega)) ⟨rfl, rfl, rfl, rfl, rfl, rfl, trivial⟩
          ·
            refine v_goto (pc := 58) h 179 (dk dt_L_keeper_0 43 rfl) rfl ?_
            exact go179 _ ⟨rfl, rfl, rfl, rfl, rfl, trivial⟩
  refine v_bipush (pc := 0) h (dk dt_L_keeper_0 0 rfl) rfl ?_
  refine v_iload_n (pc := 2) h (dk dt_L_keeper_0 1 rfl) rfl ?_
  refine v_imul (pc := 3) h (dk dt_L_keeper_0 2 rfl) ?_
  refine v_istore_n (lv' := [(3, _), (0, _), (1, _), (2, _)]) (pc := 4) h (dk dt_L_keeper_0 3 rfl) (Nat.le_of_ble_eq_true rfl) rfl ?_
  refine v_iconst (pc := 5) h (dk dt_L_keeper_0 4 rfl) ?_
  refine v_istore (lv' := [(4, _), (3, _), (0, _), (1, _), (2, _)]) (pc := 6) h (dk dt_L_keeper_0 5 rfl) (Nat.le_of_ble_eq_true rfl) rfl ?_
  exact VV.loc (loop (J 5 k).toNat 0 (by omega)) ⟨rfl, rfl, rfl, rfl, rfl, trivial⟩
theorem c_L_noWaits (hst : l.stackTraces = false) (hD : okD J n) (hA : eqA J n (μ 124)) (hw : ∀ k, k < n → J 4 k = 0) :
    Ct l B D E yL_noWaits (.code yL_noWaits cL_noWaits 3 (some .boolean)) rm_L_noWaits [.ref (pl B 124), iI (n : Int)] μ (ri 1 μ) NX := by
  have hn12 : n ≤ 12 := by have := hD.1; omega
  refine ct_of (own := RL) (lv := [(0, _), (1, _)]) hst (by decide) rfl rfl (Nat.le_of_ble_eq_true rfl) fun a h r t => ?_
  have loop : ∀ (d i : Nat), i + d = n → VV a B (SP B D E μ) 0 0 2 [(2, iI (i : Int)), (0, .ref (pl B 124)), (1, iI (n : Int))] [] := by
    intro d
    induction d with
    | zero =>
      intro i hi
      refine v_iload_n (pc := 2) h (dk dt_L_noWaits 2 rfl) rfl ?_
      refine v_iload_n (pc := 3) h (dk dt_L_noWaits 3 rfl) rfl ?_
      refine v_icmp_ge (pc := 4) h 26 (dk dt_L_noWaits 4 rfl) rfl (by omega) (fun c4 => ?_) (fun c4 => ?_)
      ·
        refine v_iconst (pc := 26) h (dk dt_L_noWaits 17 rfl) ?_
        exact v_zret (pc := 27) h r (dk dt_L_noWaits 18 rfl) (Nat.le_of_ble_eq_true rfl) (Nat.le_of_ble_eq_true rfl) (by omega) ⟨rfl, rfl⟩
      ·
        exact absurd c4 (by omega)
    | succ d ih =>
      intro i hi
      have e4 : μ 124 (60 * (i : Int) + 4).toNat = 0 := by rw [show (60 * (i : Int) + 4).toNat = 60 * i + 4 by omega, (hA i (by omega)).2.2.2.2.1]; exact hw i (by omega)
      refine v_iload_n (pc := 2) h (dk dt_L_noWaits 2 rfl) rfl ?_
      refine v_iload_n (pc := 3) h (dk dt_L_noWaits 3 rfl) rfl ?_
      refine v_icmp_ge (pc := 4) h 26 (dk dt_L_noWaits 4 rfl) rfl (by omega) (fun c4 => ?_) (fun c4 => ?_)
      ·
        exact absurd c4 (by omega)
      ·
        refine v_aload_n (pc := 7) h (dk dt_L_noWaits 5 rfl) rfl ?_
        refine v_bipush (pc := 8) h (dk dt_L_noWaits 6 rfl) rfl ?_
        refine v_iload_n (pc := 10) h (dk dt_L_noWaits 7 rfl) rfl ?_
        refine v_imul (pc := 11) h (dk dt_L_noWaits 8 rfl) ?_
        refine v_iconst (pc := 12) h (dk dt_L_noWaits 9 rfl) ?_
        refine v_iadd (pc := 13) h (dk dt_L_noWaits 10 rfl) ?_
        refine v_iald (pc := 14) h sh124 (Nat.le_of_ble_eq_true rfl) (by omega) (dk dt_L_noWaits 11 rfl) ?_
        rw [e4]
        refine v_if_eq (pc := 15) h 20 (dk dt_L_noWaits 12 rfl) rfl (by omega) (fun c15 => ?_) (fun c15 => ?_)
        ·
          refine v_iinc (lv' := [(2, _), (0, _), (1, _)]) (pc := 20) h (dk dt_L_noWaits 15 rfl) rfl (Nat.le_of_ble_eq_true rfl) rfl ?_
          refine v_goto (pc := 23) h 2 (dk dt_L_noWaits 16 rfl) rfl ?_
          exact VV.loc (ih (i + 1) (by omega)) ⟨rfl, rfl, rfl, trivial⟩
        ·
          exact absurd c15 (by omega)
  refine v_iconst (pc := 0) h (dk dt_L_noWaits 0 rfl) ?_
  refine v_istore_n (lv' := [(2, _), (0, _), (1, _)]) (pc := 1) h (dk dt_L_noWaits 1 rfl) (Nat.le_of_ble_eq_true rfl) rfl ?_
  exact VV.loc (loop n 0 (by omega)) ⟨rfl, rfl, rfl, trivial⟩
theorem c_L_gap (hst : l.stackTraces = false) {T : Nat} (hT : T ≤ 2304) (hg : ∀ t, t < T → InR (μ 125 t)) {j : Int} (hj : InR j) :
    Ct l B D E yL_gap (.code yL_gap cL_gap 6 (some .int)) rm_L_gap [.ref (pl B 125), iI (T : Int), iI j] μ (ri (gaF (μ 125) j T).1 μ) NX := by
  refine ct_of (own := RL) (lv := [(0, _), (1, _), (2, _)]) hst (by decide) rfl rfl (Nat.le_of_ble_eq_true rfl) fun a h r t => ?_
  have loop : ∀ (d i : Nat), i + d = T → VV a B (SP B D E μ) 0 0 8 [(5, iI (i : Int)), (4, iI (gaF (μ 125) j i).2), (3, iI (gaF (μ 125) j i).1), (0, .ref (pl B 125)), (1, iI (T : Int)), (2, iI j)] [] := by
    intro d
    induction d with
    | zero =>
      intro i hi
      refine v_iload (pc := 8) h (dk dt_L_gap 6 rfl) rfl ?_
      refine v_iload_n (pc := 10) h (dk dt_L_gap 7 rfl) rfl ?_
      refine v_icmp_ge (pc := 11) h 56 (dk dt_L_gap 8 rfl) rfl (by omega) (fun c11 => ?_) (fun c11 => ?_)
      ·
        refine v_iload_n (pc := 56) h (dk dt_L_gap 31 rfl) rfl ?_
        exact v_iret (pc := 57) h r (dk dt_L_gap 32 rfl) (Nat.le_of_ble_eq_true rfl) (Nat.le_of_ble_eq_true rfl) ⟨by rw [show i = T by omega], rfl⟩
      ·
        exact absurd c11 (by omega)
    | succ d ih =>
      intro i hi
      have gb := gaF_b (μ 125) j i
      have gi := hg i (by omega)
      have ei : μ 125 (i : Int).toNat = μ 125 i := by rw [Int.toNat_natCast]
      have eN : μ 125 i ≠ j → gaF (μ 125) j (i + 1) = gaF (μ 125) j i := fun q => by simp only [gaF]; rw [if_neg q]
      have eY1 : μ 125 i = j → (gaF (μ 125) j (i + 1)).2 = (i : Int) := fun q => by simp only [gaF]; rw [if_pos q]
      have eY2 : μ 125 i = j → (gaF (μ 125) j i).2 < 0 → (gaF (μ 125) j (i + 1)).1 = 0 := fun q q2 => by simp only [gaF]; rw [if_pos q]; simp only; rw [if_pos q2]
      have eY3 : μ 125 i = j → 0 ≤ (gaF (μ 125) j i).2 → (gaF (μ 125) j (i + 1)).1 = if (gaF (μ 125) j i).1 < (i : Int) - (gaF (μ 125) j i).2 - 1 then (i : Int) - (gaF (μ 125) j i).2 - 1 else (gaF (μ 125) j i).1 := fun q q2 => by simp only [gaF]; rw [if_pos q]; simp only; rw [if_neg (by omega)]
      refine v_iload (pc := 8) h (dk dt_L_gap 6 rfl) rfl ?_
      refine v_iload_n (pc := 10) h (dk dt_L_gap 7 rfl) rfl ?_
      refine v_icmp_ge (pc := 11) h 56 (dk dt_L_gap 8 rfl) rfl (by omega) (fun c11 => ?_) (fun c11 => ?_)
      ·
        exact absurd c11 (by omega)
      ·
        refine v_aload_n (pc := 14) h (dk dt_L_gap 9 rfl) rfl ?_
        refine v_iload (pc := 15) h (dk dt_L_gap 10 rfl) rfl ?_
        refine v_iald (pc := 17) h sh125 (Nat.le_of_ble_eq_true rfl) (by omega) (dk dt_L_gap 11 rfl) ?_
        rw [ei]
        refine v_iload_n (pc := 18) h (dk dt_L_gap 12 rfl) rfl ?_
        refine v_icmp_eq (pc := 19) h 25 (dk dt_L_gap 13 rfl) rfl (by omega) (fun c19 => ?_) (fun c19 => ?_)
        ·
          refine v_iload (pc := 25) h (dk dt_L_gap 15 rfl) rfl ?_
          refine v_if_ge (pc := 27) h 34 (dk dt_L_gap 16 rfl) rfl (by omega) (fun c27 => ?_) (fun c27 => ?_)
          ·
            refine v_iload_n (pc := 34) h (dk dt_L_gap 19 rfl) rfl ?_
            refine v_iload (pc := 35) h (dk dt_L_gap 20 rfl) rfl ?_
            refine v_iload (pc := 37) h (dk dt_L_gap 21 rfl) rfl ?_
            refine v_isub (pc := 39) h (dk dt_L_gap 22 rfl) ?_
            refine v_iconst (pc := 40) h (dk dt_L_gap 23 rfl) ?_
            refine v_isub (pc := 41) h (dk dt_L_gap 24 rfl) ?_
            refine v_max (pc := 42) h km_max wM_L_79 (by omega) (Nat.le_of_ble_eq_true rfl) ⟨Nat.le_of_ble_eq_true rfl, Nat.le_of_ble_eq_true rfl, Nat.le_of_ble_eq_true rfl, Nat.le_of_ble_eq_true rfl⟩ (dk dt_L_gap 25 rfl) ?_
            refine v_istore_n (lv' := [(3, _), (5, _), (4, _), (0, _), (1, _), (2, _)]) (pc := 45) h (dk dt_L_gap 26 rfl) (Nat.le_of_ble_eq_true rfl) rfl ?_
            refine v_iload (pc := 46) h (dk dt_L_gap 27 rfl) rfl ?_
            refine v_istore (lv' := [(4, _), (3, _), (5, _), (0, _), (1, _), (2, _)]) (pc := 48) h (dk dt_L_gap 28 rfl) (Nat.le_of_ble_eq_true rfl) rfl ?_
            refine v_iinc (lv' := [(5, _), (4, _), (3, _), (0, _), (1, _), (2, _)]) (pc := 50) h (dk dt_L_gap 29 rfl) rfl (Nat.le_of_ble_eq_true rfl) rfl ?_
            refine v_goto (pc := 53) h 8 (dk dt_L_gap 30 rfl) rfl ?_
            first
              | exact VV.loc (lv' := [(5, _), (4, _), (3, _), (0, _), (1, _), (2, _)]) (ih (i + 1) (by omega)) ⟨rfl, lvI (eY1 c19).symm, lvI (eY2 c19 (by omega)).symm, rfl, rfl, rfl, trivial⟩
              | exact VV.loc (lv' := [(5, _), (4, _), (3, _), (0, _), (1, _), (2, _)]) (ih (i + 1) (by omega)) ⟨rfl, lvI (eY1 c19).symm, lvI (eY3 c19 (by omega)).symm, rfl, rfl, rfl, trivial⟩
              | exact VV.loc (lv' := [(5, _), (4, _), (3, _), (0, _), (1, _), (2, _)]) (ih (i + 1) (by omega)) ⟨rfl, lvI (by rw [eN c19]), lvI (by rw [eN c19]), rfl, rfl, rfl, trivial⟩
          ·
            refine v_iconst (pc := 30) h (dk dt_L_gap 17 rfl) ?_
            refine v_goto (pc := 31) h 45 (dk dt_L_gap 18 rfl) rfl ?_
            refine v_istore_n (lv' := [(3, _), (5, _), (4, _), (0, _), (1, _), (2, _)]) (pc := 45) h (dk dt_L_gap 26 rfl) (Nat.le_of_ble_eq_true rfl) rfl ?_
            refine v_iload (pc := 46) h (dk dt_L_gap 27 rfl) rfl ?_
            refine v_istore (lv' := [(4, _), (3, _), (5, _), (0, _), (1, _), (2, _)]) (pc := 48) h (dk dt_L_gap 28 rfl) (Nat.le_of_ble_eq_true rfl) rfl ?_
            refine v_iinc (lv' := [(5, _), (4, _), (3, _), (0, _), (1, _), (2, _)]) (pc := 50) h (dk dt_L_gap 29 rfl) rfl (Nat.le_of_ble_eq_true rfl) rfl ?_
            refine v_goto (pc := 53) h 8 (dk dt_L_gap 30 rfl) rfl ?_
            first
              | exact VV.loc (lv' := [(5, _), (4, _), (3, _), (0, _), (1, _), (2, _)]) (ih (i + 1) (by omega)) ⟨rfl, lvI (eY1 c19).symm, lvI (eY2 c19 (by omega)).symm, rfl, rfl, rfl, trivial⟩
              | exact VV.loc (lv' := [(5, _), (4, _), (3, _), (0, _), (1, _), (2, _)]) (ih (i + 1) (by omega)) ⟨rfl, lvI (eY1 c19).symm, lvI (eY3 c19 (by omega)).symm, rfl, rfl, rfl, trivial⟩
              | exact VV.loc (lv' := [(5, _), (4, _), (3, _), (0, _), (1, _), (2, _)]) (ih (i + 1) (by omega)) ⟨rfl, lvI (by rw [eN c19]), lvI (by rw [eN c19]), rfl, rfl, rfl, trivial⟩
        ·
          refine v_goto (pc := 22) h 50 (dk dt_L_gap 14 rfl) rfl ?_
          refine v_iinc (lv' := [(5, _), (4, _), (3, _), (0, _), (1, _), (2, _)]) (pc := 50) h (dk dt_L_gap 29 rfl) rfl (Nat.le_of_ble_eq_true rfl) rfl ?_
          refine v_goto (pc := 53) h 8 (dk dt_L_gap 30 rfl) rfl ?_
          first
            | exact VV.loc (lv' := [(5, _), (4, _), (3, _), (0, _), (1, _), (2, _)]) (ih (i + 1) (by omega)) ⟨rfl, lvI (eY1 c19).symm, lvI (eY2 c19 (by omega)).symm, rfl, rfl, rfl, trivial⟩
            | exact VV.loc (lv' := [(5, _), (4, _), (3, _), (0, _), (1, _), (2, _)]) (ih (i + 1) (by omega)) ⟨rfl, lvI (eY1 c19).symm, lvI (eY3 c19 (by omega)).symm, rfl, rfl, rfl, trivial⟩
            | exact VV.loc (lv' := [(5, _), (4, _), (3, _), (0, _), (1, _), (2, _)]) (ih (i + 1) (by omega)) ⟨rfl, lvI (by rw [eN c19]), lvI (by rw [eN c19]), rfl, rfl, rfl, trivial⟩
  refine v_iconst (pc := 0) h (dk dt_L_gap 0 rfl) ?_
  refine v_istore_n (lv' := [(3, _), (0, _), (1, _), (2, _)]) (pc := 1) h (dk dt_L_gap 1 rfl) (Nat.le_of_ble_eq_true rfl) rfl ?_
  refine v_iconst (pc := 2) h (dk dt_L_gap 2 rfl) ?_
  refine v_istore (lv' := [(4, _), (3, _), (0, _), (1, _), (2, _)]) (pc := 3) h (dk dt_L_gap 3 rfl) (Nat.le_of_ble_eq_true rfl) rfl ?_
  refine v_iconst (pc := 5) h (dk dt_L_gap 4 rfl) ?_
  refine v_istore (lv' := [(5, _), (4, _), (3, _), (0, _), (1, _), (2, _)]) (pc := 6) h (dk dt_L_gap 5 rfl) (Nat.le_of_ble_eq_true rfl) rfl ?_
  exact VV.loc (loop T 0 (by omega)) ⟨rfl, rfl, rfl, rfl, rfl, rfl, trivial⟩
end
