/-! ===== the law: all rules on the same jobs: the contract ===== -/
theorem hOK_no {m2 : Mm} (hJ : okJ m2) (hT : okTk m2) (hW : okWy m2) (h : m2 0 7 = 0) : hOK m2 := ⟨hJ, hT, hW, Or.inl h, fun z => by rw [h] at z; exact absurd z (by decide)⟩
section
variable {a : Ax} {B : Nat} {D : va_G} {E : Nat → ClassId} {n : Nat} {sl co le ri z wp : Int} {J m : Mm} {P : Pv} {X : Px} {l : Launch} {μ : Mm}
theorem RX.fq {m' : Mm} (h : RX n sl co le ri z wp J m) (hq : fq m m') : RX n sl co le ri z wp J m' := by
  obtain ⟨⟨h1, h2, h3, h4⟩, ⟨h5, h6, h7, h8, h9⟩, h10, h11⟩ := h
  refine ⟨⟨fq_hO h1 hq, by rw [hq 1 (by omega)]; exact h2, by rw [hq 124 (by omega)]; exact h3, ?_⟩, by rw [hq 27 (by omega)]; exact ⟨h5, h6, h7, h8, h9⟩, h10, h11⟩
  rw [← h4]
  exact jm_c (fun a q => hq a (by omega))
theorem rcW_0 {x : Nat → Int} (h : ∀ k, k < n → x k = 0) : rcW x n = 0 := by
  unfold rcW
  rw [if_neg (fun ⟨k, k1, k2⟩ => k2 (h k k1))]
theorem rcW_ne {x : Nat → Int} (h : rcW x n = 0) : ∀ k, k < n → x k = 0 := by
  intro k hk
  by_cases y : x k = 0
  · exact y
  · unfold rcW at h
    rw [if_pos ⟨k, hk, y⟩] at h
    exact absurd h (by decide)
theorem rcW_b {x : Nat → Int} : rcW x n = 0 ∨ rcW x n = 1 := by unfold rcW; split; exact Or.inr rfl; exact Or.inl rfl
/-- behind all rules -/
theorem r_end (h : Ac a B D E RL cL_runs 18 rm_L_runs) (r : Rt a B D E (some .boolean) P X rm_L_runs.cells rm_L_runs.slots) (hX : RX n sl co le ri z wp J m) {kp : Int} (hkp : kp = 0 ∨ kp = 1) (hk6 : kp = 1 ↔ lateE J n (kof 6 sl co le ri) z = 0) {kc ns : Nat} (hkc : kc ≤ 4800) (hns : ns ≤ 28800)
    (hp : ∀ m', RX n sl co le ri z wp J m' → P (some (iI 1)) m') :
    VV a B (SP B D E m) kc ns 385 [(13, iI kp), (12, iI (anP (fun i => decide (lateE J n (kof (rho i) sl co le ri) z = 0)) 9)), (9, iI le), (8, iI sl), (7, iI co), (0, .ref (pl B 0)), (1, .ref (pl B 123)), (2, .ref (pl B 124)), (3, iI (n : Int)), (4, iI wp), (5, .ref (pl B 125)), (6, .ref (pl B 126))] [] := by
  have hD := hX.D
  have hR := hX.2.2.1
  have hwp := hX.2.2.2.2.1
  have go413 : ∀ m' kc' ns', RX n sl co le ri z wp J m' → kc' ≤ 5000 → ns' ≤ 30000 → VV a B (SP B D E m') kc' ns' 413 [(9, iI le), (8, iI sl), (7, iI co), (0, .ref (pl B 0)), (1, .ref (pl B 123)), (2, .ref (pl B 124)), (3, iI (n : Int)), (4, iI wp), (5, .ref (pl B 125)), (6, .ref (pl B 126))] [] := by
    intro m' kc ns hX' hkc hns
    refine v_iconst (pc := 413) h (dk dt_L_runs_3 31 rfl) ?_
    refine v_goto (pc := 414) h 418 (dk dt_L_runs_3 32 rfl) rfl ?_
    exact v_zret (pc := 418) h r (dk dt_L_runs_3 34 rfl) (by show kc ≤ 5000; omega) (by show ns ≤ 30000; omega) (by omega) (hp _ hX')
  have go465 : ∀ m' kc' ns', RX n sl co le ri z wp J m' → kc' ≤ 5000 → ns' ≤ 30000 → VV a B (SP B D E m') kc' ns' 465 [(9, iI le), (8, iI sl), (7, iI co), (0, .ref (pl B 0)), (1, .ref (pl B 123)), (2, .ref (pl B 124)), (3, iI (n : Int)), (4, iI wp), (5, .ref (pl B 125)), (6, .ref (pl B 126))] [] := by
    intro m' kc ns hX' hkc hns
    refine v_iconst (pc := 465) h (dk dt_L_runs_3 59 rfl) ?_
    refine v_goto (pc := 466) h 470 (dk dt_L_runs_3 60 rfl) rfl ?_
    exact v_zret (pc := 470) h r (dk dt_L_runs_3 62 rfl) (by show kc ≤ 5000; omega) (by show ns ≤ 30000; omega) (by omega) (hp _ hX')
  have go405 : ∀ m' kc' ns', RX n sl co le ri z wp J m' → (∀ k, k < n → m' 11 k = 0) → kc' ≤ 5000 → ns' ≤ 30000 → VV a B (SP B D E m') kc' ns' 405 [(9, iI le), (8, iI sl), (7, iI co), (0, .ref (pl B 0)), (1, .ref (pl B 123)), (2, .ref (pl B 124)), (3, iI (n : Int)), (4, iI wp), (5, .ref (pl B 125)), (6, .ref (pl B 126))] [] := by
    intro m' kc ns hX' hw hkc hns
    have hj := hX'.1.2.2.2
    refine v_aload_n (pc := 405) h (dk dt_L_runs_3 27 rfl) rfl ?_
    refine v_iload_n (pc := 406) h (dk dt_L_runs_3 28 rfl) rfl ?_
    refine v_cSi (pc := 407) h (c_L_noWaits (J := J) (n := n) h.quiet hD hX'.1.2.2.1 (fun k hk => by rw [← hj]; exact hw k hk)) kv_L_noWaits wM_L_143 rfl rfl (Nat.le_of_ble_eq_true rfl) ⟨⟨Nat.le_of_ble_eq_true rfl, Nat.le_of_ble_eq_true rfl⟩, by show kc + 0 ≤ 5000; omega, by show ns + 0 ≤ 30000; omega⟩ rfl rfl (dk dt_L_runs_3 29 rfl) ?_
    refine v_if_eq (pc := 410) h 417 (dk dt_L_runs_3 30 rfl) rfl (by omega) (fun c410 => ?_) (fun c410 => ?_)
    ·
      exact absurd c410 (by decide)
    ·
      exact go413 m' kc ns hX' hkc hns
  have hfe : (if lateE (jm m) n (kof 6 (m 27 0) 0 (m 27 4) (m 27 2)) (m 27 3) = 0 then (1 : Int) else 0) = if lateE J n (kof 6 sl 0 le ri) z = 0 then 1 else 0 := by
    rw [hX.1.2.2.2, hX.2.1.1, hX.2.1.2.2.1, hX.2.1.2.2.2.1, hX.2.1.2.2.2.2]
  have go419 : wp = 0 → VV a B (SP B D E m) kc ns 419 [(13, iI kp), (12, iI (anP (fun i => decide (lateE J n (kof (rho i) sl co le ri) z = 0)) 9)), (9, iI le), (8, iI sl), (7, iI co), (0, .ref (pl B 0)), (1, .ref (pl B 123)), (2, .ref (pl B 124)), (3, iI (n : Int)), (4, iI wp), (5, .ref (pl B 125)), (6, .ref (pl B 126))] [] := by
    intro y
    have ecan : co = 0 → anP (fun i => decide (lateE J n (kof (rho i) sl co le ri) z = 0)) 9 = kp := by
      intro y0
      have hb := anP_b (fun i => decide (lateE J n (kof (rho i) sl co le ri) z = 0)) 9
      by_cases q : lateE J n (kof 6 sl co le ri) z = 0
      · rw [hk6.mpr q]
        exact anP_y (p := fun i => decide (lateE J n (kof (rho i) sl co le ri) z = 0)) (k := 6) (by omega) (decide_eq_true (by rw [rho_6.mpr rfl]; exact q))
      · have hk0 : kp = 0 := by
          rcases hkp with e | e
          · exact e
          · exact absurd (hk6.mp e) q
        rw [hk0]
        have : ∀ i : Nat, i ≤ 9 → anP (fun i => decide (lateE J n (kof (rho i) sl co le ri) z = 0)) i = 0 := by
          intro i
          induction i with
          | zero => intro _; rfl
          | succ i ih =>
            intro hi
            simp only [anP]
            rw [if_neg (fun w => q (keep_iff hX y0 y (rho_b (k := i) (by omega)) (of_decide_eq_true w)))]
            exact ih (by omega)
        exact this 9 (Nat.le_refl _)
    have efe : co = 0 → (if lateE J n (kof 6 sl 0 le ri) z = 0 then (1 : Int) else 0) = kp := by
      intro y0
      subst y0
      by_cases q : lateE J n (kof 6 sl 0 le ri) z = 0
      · rw [if_pos q, hk6.mpr q]
      · rw [if_neg q]
        rcases hkp with e | e
        · exact e.symm
        · exact absurd (hk6.mp e) q
    have hnw : ∀ k, k < n → m 11 k = 0 := fun k hk => by
      have := hX.2.2.2.2.2 y k hk
      rw [← hX.1.2.2.2] at this
      exact this
    have hfl : co = 0 → (kp = 1 ↔ fuB (J 0) (J 1) (J 2) n 100 0 = -1) := fun y0 => by
      rw [hk6]
      exact ⟨fun q => any_full hD (hX.K (r := 6) (by omega)) y0 q, fun q => edf_full hD (hX.K (r := 6) (by omega)) rfl y0 (hX.2.2.2.2.2 y) q⟩
    have go454 : co = 0 → ∀ m' kc' ns', RX n sl co le ri z wp J m' → kc' ≤ 4850 → ns' ≤ 29100 → VV a B (SP B D E m') kc' ns' 454 [(13, iI kp), (9, iI le), (8, iI sl), (7, iI co), (0, .ref (pl B 0)), (1, .ref (pl B 123)), (2, .ref (pl B 124)), (3, iI (n : Int)), (4, iI wp), (5, .ref (pl B 125)), (6, .ref (pl B 126))] [] := by
      intro y0 m' kc ns hX' hkc hns
      have hj := hX'.1.2.2.2
      have e0 : m' 3 = J 0 := by rw [← hj]; rfl
      have e1 : m' 5 = J 1 := by rw [← hj]; rfl
      have e2 : m' 7 = J 2 := by rw [← hj]; rfl
      refine v_aload_n (pc := 454) h (dk dt_L_runs_3 53 rfl) rfl ?_
      refine v_aload_n (pc := 455) h (dk dt_L_runs_3 54 rfl) rfl ?_
      refine v_iload_n (pc := 456) h (dk dt_L_runs_3 55 rfl) rfl ?_
      refine v_iload (pc := 457) h (dk dt_L_runs_3 56 rfl) rfl ?_
      refine v_callSi (pc := 459) h (c_L_isFull (n := n) h.quiet hX'.1.1 hX'.1.2.1 (by rw [hj]; exact hX'.1.2.2.1) (by rw [e0, e2]; exact hX'.2.2.2.1) hkp (by rw [e0, e1, e2]; exact hfl y0)) kv_L_isFull wM_L_147 rfl rfl (Nat.le_of_ble_eq_true rfl) ⟨⟨Nat.le_of_ble_eq_true rfl, Nat.le_of_ble_eq_true rfl⟩, by show kc + 100 ≤ 5000; omega, by show ns + 600 ≤ 30000; omega⟩ (dk dt_L_runs_3 57 rfl) ?_
      refine v_if_eq (pc := 462) h 469 (dk dt_L_runs_3 58 rfl) rfl (by omega) (fun c462 => ?_) (fun c462 => ?_)
      ·
        exact absurd c462 (by decide)
      ·
        exact VV.loc (go465 m' _ _ hX' (by simp only [rm_L_isFull]; omega) (by simp only [rm_L_isFull]; omega)) ⟨rfl, rfl, rfl, rfl, rfl, rfl, rfl, rfl, rfl, rfl, trivial⟩
    refine v_iload (pc := 419) h (dk dt_L_runs_3 35 rfl) rfl ?_
    refine v_if_gt (pc := 421) h 465 (dk dt_L_runs_3 36 rfl) rfl (by omega) (fun c421 => ?_) (fun c421 => ?_)
    ·
      exact VV.loc (go465 m _ _ hX (by omega) (by omega)) ⟨rfl, rfl, rfl, rfl, rfl, rfl, rfl, rfl, rfl, rfl, trivial⟩
    ·
      have y0 : co = 0 := by omega
      rw [ecan y0]
      refine v_iload (pc := 424) h (dk dt_L_runs_3 37 rfl) rfl ?_
      refine v_iload (pc := 426) h (dk dt_L_runs_3 38 rfl) rfl ?_
      refine v_icmp_neS (pc := 428) h 469 (dk dt_L_runs_3 39 rfl) rfl ?_
      refine v_aload_n (pc := 431) h (dk dt_L_runs_3 40 rfl) rfl ?_
      refine v_bipush (pc := 432) h (dk dt_L_runs_3 41 rfl) rfl ?_
      refine v_iconst (pc := 434) h (dk dt_L_runs_3 42 rfl) ?_
      refine v_iconst (pc := 435) h (dk dt_L_runs_3 43 rfl) ?_
      refine v_iconst (pc := 436) h (dk dt_L_runs_3 44 rfl) ?_
      refine v_iconst (pc := 437) h (dk dt_L_runs_3 45 rfl) ?_
      refine v_callH (pc := 438) h (d_isFeasible (n := n) h.quiet hX.1.1 hX.1.2.1) kh_L_done wM_L_84 rfl rfl (Nat.le_of_ble_eq_true rfl) ⟨⟨Nat.le_of_ble_eq_true rfl, Nat.le_of_ble_eq_true rfl⟩, by show kc + 20 ≤ 5000; omega, by show ns + 120 ≤ 30000; omega⟩ (dk dt_L_runs_3 46 rfl) (fun v438 μ438 p438 => ?_)
      rcases p438 with ⟨-, rfl, hq⟩ | ⟨q, -, -⟩
      case inr => exact absurd (rcW_0 hnw) q
      rw [hfe, efe y0]
      refine v_iload (pc := 441) h (dk dt_L_runs_3 47 rfl) rfl ?_
      refine v_if_eq (pc := 443) h 450 (dk dt_L_runs_3 48 rfl) rfl (by omega) (fun c443 => ?_) (fun c443 => ?_)
      ·
        refine v_iconst (pc := 450) h (dk dt_L_runs_3 51 rfl) ?_
        refine v_icmp_ne (pc := 451) h 469 (dk dt_L_runs_3 52 rfl) rfl (by omega) (fun c451 => ?_) (fun c451 => ?_)
        ·
          exact absurd (by omega) c451
        ·
          exact VV.loc (go454 y0 _ _ _ (hX.fq hq) (by simp only [rm_L_done]; omega) (by simp only [rm_L_done]; omega)) ⟨rfl, rfl, rfl, rfl, rfl, rfl, rfl, rfl, rfl, rfl, rfl, trivial⟩
      ·
        refine v_iconst (pc := 446) h (dk dt_L_runs_3 49 rfl) ?_
        refine v_goto (pc := 447) h 451 (dk dt_L_runs_3 50 rfl) rfl ?_
        refine v_icmp_ne (pc := 451) h 469 (dk dt_L_runs_3 52 rfl) rfl (by omega) (fun c451 => ?_) (fun c451 => ?_)
        ·
          exact absurd (by omega) c451
        ·
          exact VV.loc (go454 y0 _ _ _ (hX.fq hq) (by simp only [rm_L_done]; omega) (by simp only [rm_L_done]; omega)) ⟨rfl, rfl, rfl, rfl, rfl, rfl, rfl, rfl, rfl, rfl, rfl, trivial⟩
  refine v_iload (pc := 385) h (dk dt_L_runs_3 16 rfl) rfl ?_
  refine v_if_eq (pc := 387) h 419 (dk dt_L_runs_3 17 rfl) rfl (by omega) (fun c387 => ?_) (fun c387 => ?_)
  ·
    exact go419 (by omega)
  ·
    refine v_aload_n (pc := 390) h (dk dt_L_runs_3 18 rfl) rfl ?_
    refine v_bipush (pc := 391) h (dk dt_L_runs_3 19 rfl) rfl ?_
    refine v_iconst (pc := 393) h (dk dt_L_runs_3 20 rfl) ?_
    refine v_iconst (pc := 394) h (dk dt_L_runs_3 21 rfl) ?_
    refine v_iconst (pc := 395) h (dk dt_L_runs_3 22 rfl) ?_
    refine v_iconst (pc := 396) h (dk dt_L_runs_3 23 rfl) ?_
    refine v_callH (pc := 397) h (d_isFeasible (n := n) h.quiet hX.1.1 hX.1.2.1) kh_L_done wM_L_84 rfl rfl (Nat.le_of_ble_eq_true rfl) ⟨⟨Nat.le_of_ble_eq_true rfl, Nat.le_of_ble_eq_true rfl⟩, by show kc + 20 ≤ 5000; omega, by show ns + 120 ≤ 30000; omega⟩ (dk dt_L_runs_3 24 rfl) (fun v397 μ397 p397 => ?_)
    rcases p397 with ⟨q, rfl, hq⟩ | ⟨q, rfl, rfl⟩
    case inr =>
      have hb := rcW_b (x := μ397 11) (n := n)
      rw [show rcW (μ397 11) n = 1 from by rcases hb with e | e; exact absurd e q; exact e]
      show VV a B _ _ _ _ _ [iI (-13)]
      refine v_bipush (pc := 400) h (dk dt_L_runs_3 25 rfl) rfl ?_
      refine v_icmp_eqS (pc := 402) h 413 (dk dt_L_runs_3 26 rfl) rfl ?_
      exact VV.loc (go413 _ _ _ hX (by simp only [rm_L_done]; omega) (by simp only [rm_L_done]; omega)) ⟨rfl, rfl, rfl, rfl, rfl, rfl, rfl, rfl, rfl, rfl, trivial⟩
    rw [hfe]
    refine v_bipush (pc := 400) h (dk dt_L_runs_3 25 rfl) rfl ?_
    refine v_icmp_eq (pc := 402) h 413 (dk dt_L_runs_3 26 rfl) rfl (by split <;> omega) (fun c402 => ?_) (fun c402 => ?_)
    ·
      exact absurd c402 (by split <;> omega)
    ·
      exact VV.loc (go405 _ _ _ (hX.fq hq) (fun k hk => by rw [hq 11 (by omega)]; exact rcW_ne q k hk) (by simp only [rm_L_done]; omega) (by simp only [rm_L_done]; omega)) ⟨rfl, rfl, rfl, rfl, rfl, rfl, rfl, rfl, rfl, rfl, trivial⟩
end
section
variable {a : Ax} {B : Nat} {D : va_G} {E : Nat → ClassId} {n : Nat} {sl co le ri z wp : Int} {J m : Mm} {P : Pv} {X : Px} {l : Launch} {μ : Mm}
theorem r_loop (h : Ac a B D E RL cL_runs 18 rm_L_runs) (r : Rt a B D E (some .boolean) P X rm_L_runs.cells rm_L_runs.slots) (hsl : sl ≤ 6) (hp : ∀ m', RX n sl co le ri z wp J m' → P (some (iI 1)) m') :
    ∀ (d k kc ns : Nat) (m : Mm) (kp bz ls : Int), k + d = 9 → RX n sl co le ri z wp J m → (kp = 0 ∨ kp = 1) → (6 < k → (kp = 1 ↔ lateE J n (kof 6 sl co le ri) z = 0)) → (co = 0 → 0 < k → bz = pat0 J n sl co le ri z) → (co = 0 → wp = 0 → 0 < k → ls = sumE J n (kof 3 sl co le ri) z) → kc ≤ 10 + 480 * k → ns ≤ 60 + 2880 * k →
      VV a B (SP B D E m) kc ns 101 [(14, iI (k : Int)), (13, iI kp), (12, iI (anP (fun i => decide (lateE J n (kof (rho i) sl co le ri) z = 0)) k)), (11, iI bz), (10, iI ls), (9, iI le), (8, iI sl), (7, iI co), (0, .ref (pl B 0)), (1, .ref (pl B 123)), (2, .ref (pl B 124)), (3, iI (n : Int)), (4, iI wp), (5, .ref (pl B 125)), (6, .ref (pl B 126))] [] := by
  intro d
  induction d with
  | zero =>
    intro k kc ns m kp bz ls hk hX h1 h2 h3 h4 hkc hns
    have ek : k = 9 := by omega
    subst ek
    refine v_iload (pc := 101) h (dk dt_L_runs_0 58 rfl) rfl ?_
    refine v_bipush (pc := 103) h (dk dt_L_runs_0 59 rfl) rfl ?_
    refine v_icmp_ge (pc := 105) h 385 (dk dt_L_runs_0 60 rfl) rfl (by omega) (fun c105 => ?_) (fun c105 => ?_)
    ·
      exact VV.loc (r_end h r hX h1 (h2 (by omega)) (by omega) (by omega) hp) ⟨rfl, rfl, rfl, rfl, rfl, rfl, rfl, rfl, rfl, rfl, rfl, rfl, trivial⟩
    ·
      exact absurd c105 (by omega)
  | succ d ih =>
    intro k kc ns m kp bz ls hk hX h1 h2 h3 h4 hkc hns
    have hk9 : k < 9 := by omega
    have hn12 : n ≤ 12 := by have := hX.D.1; omega
    have go132 : ∀ rl : Int, rl = rho k → VV a B (SP B D E m) kc ns 132 [(14, iI (k : Int)), (13, iI kp), (12, iI (anP (fun i => decide (lateE J n (kof (rho i) sl co le ri) z = 0)) k)), (11, iI bz), (10, iI ls), (9, iI le), (8, iI sl), (7, iI co), (0, .ref (pl B 0)), (1, .ref (pl B 123)), (2, .ref (pl B 124)), (3, iI (n : Int)), (4, iI wp), (5, .ref (pl B 125)), (6, .ref (pl B 126))] [iI rl] := by
      intro rl hrl
      subst hrl
      have hw := c_L_walks (n := n) (l := axL a) (B := B) (D := D) (E := E) h.quiet hX.1.1 hX.1.2.1 (by rw [hX.1.2.2.2]; exact hX.1.2.2.1) (rho_b hk9)
      rw [hX.2.1.2.1] at hw
      have go166 : ∀ m', PW m n J (kof (rho k) sl co le ri) z m' → VV a B (SP B D E m') (kc + 440) (ns + 2640) 166 [(15, iI (rho k)), (14, iI (k : Int)), (13, iI kp), (12, iI (anP (fun i => decide (lateE J n (kof (rho i) sl co le ri) z = 0)) k)), (11, iI bz), (10, iI ls), (9, iI le), (8, iI sl), (7, iI co), (0, .ref (pl B 0)), (1, .ref (pl B 123)), (2, .ref (pl B 124)), (3, iI (n : Int)), (4, iI wp), (5, .ref (pl B 125)), (6, .ref (pl B 126))] [] := by
        intro m' hP
        refine r_walked h hX hsl hk9 hP h1 h2 h3 h4 (by omega) (by omega) (fun kp' bz' ls' q1 q2 q3 q4 => ?_)
        refine v_iinc (lv' := [(14, _), (13, _), (12, _), (11, _), (10, _), (9, _), (8, _), (7, _), (0, _), (1, _), (2, _), (3, _), (4, _), (5, _), (6, _)]) (pc := 379) h (dk dt_L_runs_3 14 rfl) rfl (Nat.le_of_ble_eq_true rfl) rfl ?_
        refine v_goto (pc := 382) h 101 (dk dt_L_runs_3 15 rfl) rfl ?_
        exact VV.loc (ih (k + 1) (kc + 480) (ns + 2880) m' kp' bz' ls' (by omega) (hX.walk hP) q1 q2 (fun y _ => q3 y) (fun y y2 _ => q4 y y2) (by omega) (by omega)) ⟨rfl, rfl, rfl, rfl, rfl, rfl, rfl, rfl, rfl, rfl, rfl, rfl, rfl, rfl, rfl, trivial⟩
      refine v_istore (lv' := [(15, _), (14, _), (13, _), (12, _), (11, _), (10, _), (9, _), (8, _), (7, _), (0, _), (1, _), (2, _), (3, _), (4, _), (5, _), (6, _)]) (pc := 132) h (dk dt_L_runs_1 9 rfl) (Nat.le_of_ble_eq_true rfl) rfl ?_
      refine v_aload_n (pc := 134) h (dk dt_L_runs_1 10 rfl) rfl ?_
      refine v_aload_n (pc := 135) h (dk dt_L_runs_1 11 rfl) rfl ?_
      refine v_iload_n (pc := 136) h (dk dt_L_runs_1 12 rfl) rfl ?_
      refine v_iload (pc := 137) h (dk dt_L_runs_1 13 rfl) rfl ?_
      refine v_iload (pc := 139) h (dk dt_L_runs_1 14 rfl) rfl ?_
      refine v_aload (pc := 141) h (dk dt_L_runs_1 15 rfl) rfl ?_
      refine v_aload (pc := 143) h (dk dt_L_runs_1 16 rfl) rfl ?_
      refine v_callS (pc := 145) h (hw) kv_L_walks wM_L_129 rfl rfl (Nat.le_of_ble_eq_true rfl) ⟨⟨Nat.le_of_ble_eq_true rfl, Nat.le_of_ble_eq_true rfl⟩, by show kc + 400 ≤ 5000; omega, by show ns + 2400 ≤ 30000; omega⟩ (dk dt_L_runs_1 17 rfl) (fun v145 μ145 p145 => ?_)
      obtain ⟨rfl, hP⟩ := p145
      have hP : PW m n (jm m) (kM m (rho k)) (m 27 3) μ145 := hP
      rw [hX.1.2.2.2, hX.kM, hX.2.1.2.2.2.1] at hP
      have hX1 := hX.walk hP
      refine v_if_eq (pc := 148) h 164 (dk dt_L_runs_1 18 rfl) rfl (by omega) (fun c148 => ?_) (fun c148 => ?_)
      ·
        exact absurd c148 (by decide)
      ·
        refine v_iload_n (pc := 151) h (dk dt_L_runs_1 19 rfl) rfl ?_
        refine v_if_le (pc := 152) h 166 (dk dt_L_runs_1 20 rfl) rfl (by omega) (fun c152 => ?_) (fun c152 => ?_)
        ·
          first
            | exact VV.loc (go166 _ hP) ⟨rfl, rfl, rfl, rfl, rfl, rfl, rfl, rfl, rfl, rfl, rfl, rfl, rfl, rfl, rfl, rfl, trivial⟩
            | exact VV.widen (by simp only [rm_L_walks]; omega) (by simp only [rm_L_walks]; omega) (VV.loc (go166 _ hP) ⟨rfl, rfl, rfl, rfl, rfl, rfl, rfl, rfl, rfl, rfl, rfl, rfl, rfl, rfl, rfl, rfl, trivial⟩)
        ·
          refine v_aload_n (pc := 155) h (dk dt_L_runs_1 21 rfl) rfl ?_
          refine v_aload_n (pc := 156) h (dk dt_L_runs_1 22 rfl) rfl ?_
          refine v_iload_n (pc := 157) h (dk dt_L_runs_1 23 rfl) rfl ?_
          refine v_callSi (pc := 158) h (c_L_isSlowest (n := n) h.quiet hX1.1.1 hX1.1.2.1 hP.2.1 (by rw [hX1.1.2.2.2]; exact hX1.1.2.2.1) (fun x hx => (hP.2.2.2.2.2.2.2 x hx).1.trans (hP.2.2.2.2.2.2.2 x hx).2.1.symm) (by omega)) kv_L_isSlowest wM_L_133 rfl rfl (Nat.le_of_ble_eq_true rfl) ⟨⟨Nat.le_of_ble_eq_true rfl, Nat.le_of_ble_eq_true rfl⟩, by show kc + 400 + (40) ≤ 5000; omega, by show ns + 2400 + (240) ≤ 30000; omega⟩ (dk dt_L_runs_1 24 rfl) ?_
          refine v_if_ne (pc := 161) h 166 (dk dt_L_runs_1 25 rfl) rfl (by omega) (fun c161 => ?_) (fun c161 => ?_)
          ·
            first
              | exact VV.loc (go166 _ hP) ⟨rfl, rfl, rfl, rfl, rfl, rfl, rfl, rfl, rfl, rfl, rfl, rfl, rfl, rfl, rfl, rfl, trivial⟩
              | exact VV.widen (by simp only [rm_L_walks]; omega) (by simp only [rm_L_walks]; omega) (VV.loc (go166 _ hP) ⟨rfl, rfl, rfl, rfl, rfl, rfl, rfl, rfl, rfl, rfl, rfl, rfl, rfl, rfl, rfl, rfl, trivial⟩)
          ·
            exact absurd c161 (by decide)
    refine v_iload (pc := 101) h (dk dt_L_runs_0 58 rfl) rfl ?_
    refine v_bipush (pc := 103) h (dk dt_L_runs_0 59 rfl) rfl ?_
    refine v_icmp_ge (pc := 105) h 385 (dk dt_L_runs_0 60 rfl) rfl (by omega) (fun c105 => ?_) (fun c105 => ?_)
    ·
      exact absurd c105 (by omega)
    ·
      refine v_iload (pc := 108) h (dk dt_L_runs_0 61 rfl) rfl ?_
      refine v_if_ne (pc := 110) h 117 (dk dt_L_runs_0 62 rfl) rfl (by omega) (fun c110 => ?_) (fun c110 => ?_)
      ·
        refine v_iload (pc := 117) h (dk dt_L_runs_1 1 rfl) rfl ?_
        refine v_iconst (pc := 119) h (dk dt_L_runs_1 2 rfl) ?_
        refine v_icmp_gt (pc := 120) h 130 (dk dt_L_runs_1 3 rfl) rfl (by omega) (fun c120 => ?_) (fun c120 => ?_)
        ·
          refine v_iload (pc := 130) h (dk dt_L_runs_1 8 rfl) rfl ?_
          first
            | exact go132 _ (by unfold rho; rw [if_pos (by omega)])
            | exact go132 _ (by unfold rho; rw [if_neg (by omega), if_pos (by omega)])
            | exact go132 _ (by unfold rho; rw [if_neg (by omega), if_neg (by omega)])
        ·
          refine v_iload (pc := 123) h (dk dt_L_runs_1 4 rfl) rfl ?_
          refine v_iconst (pc := 125) h (dk dt_L_runs_1 5 rfl) ?_
          refine v_isub (pc := 126) h (dk dt_L_runs_1 6 rfl) ?_
          refine v_goto (pc := 127) h 132 (dk dt_L_runs_1 7 rfl) rfl ?_
          first
            | exact go132 _ (by unfold rho; rw [if_pos (by omega)])
            | exact go132 _ (by unfold rho; rw [if_neg (by omega), if_pos (by omega)])
            | exact go132 _ (by unfold rho; rw [if_neg (by omega), if_neg (by omega)])
      ·
        refine v_iconst (pc := 113) h (dk dt_L_runs_0 63 rfl) ?_
        refine v_goto (pc := 114) h 132 (dk dt_L_runs_1 0 rfl) rfl ?_
        first
          | exact go132 _ (by unfold rho; rw [if_pos (by omega)])
          | exact go132 _ (by unfold rho; rw [if_neg (by omega), if_pos (by omega)])
          | exact go132 _ (by unfold rho; rw [if_neg (by omega), if_neg (by omega)])
theorem c_L_runs (hst : l.stackTraces = false) (hO : hOK μ) (hn : μ 1 9 = (n : Int)) (hA : eqA (jm μ) n (μ 124)) (hd : ∀ k, k < n → μ 7 k = 0 ∨ μ 3 k - 1 ≤ μ 7 k) (hwp : wp = 0 ∨ wp = 1) (hw : wp = 0 → ∀ k, k < n → μ 11 k = 0) :
    Ct l B D E yL_runs (.code yL_runs cL_runs 18 (some .boolean)) rm_L_runs [.ref (pl B 0), .ref (pl B 123), .ref (pl B 124), iI (n : Int), iI wp, .ref (pl B 125), .ref (pl B 126)] μ (fun v m => v = some (iI 1) ∧ ∃ sl co le ri z : Int, RX n sl co le ri z wp (jm μ) m) NX := by
  have hn12 : n ≤ 12 := by have := hO.J.1; omega
  refine ct_of (own := RL) (lv := [(0, _), (1, _), (2, _), (3, _), (4, _), (5, _), (6, _)]) hst (by decide) rfl rfl (Nat.le_of_ble_eq_true rfl) fun a h r t => ?_
  have go71 : ∀ (m : Mm) (ri co sl le : Int), (∀ a, a ≠ 123 → m a = μ a) → (0 ≤ ri ∧ ri ≤ 30) → (0 ≤ co ∧ co ≤ 5) → (1 ≤ sl ∧ sl ≤ 6) → (le = 0 ∨ le = 1) → VV a B (SP B D E m) 0 0 71 [(9, iI le), (8, iI sl), (7, iI co), (0, .ref (pl B 0)), (1, .ref (pl B 123)), (2, .ref (pl B 124)), (3, iI (n : Int)), (4, iI wp), (5, .ref (pl B 125)), (6, .ref (pl B 126))] [iI ri, iI co, iI sl, .ref (pl B 0)] := by
    intro m ri co sl le hm hri hco hsl hle
    have fx : ∀ y : Int, ∀ a, a ≠ 123 → mup m 123 0 y a = μ a := fun y a q => by rw [← hm a q]; funext b; exact mup_nk q
    have hOx : ∀ y : Int, hOK (mup m 123 0 y) := fun y => hO_c (fun a q => fx y a (by omega)) hO
    have hRX : ∀ y sd : Int, RX n sl co le ri sd wp (jm μ) (mturn (mup m 123 0 y) sl co ri sd le) := by
      intro y sd
      have same : ∀ a, a ≠ 0 → a ≠ 27 → a ≠ 123 → mturn (mup m 123 0 y) sl co ri sd le a = μ a := fun a h0 h27 h123 => by
        rw [← fx y a h123]
        funext b
        unfold mturn
        rw [mup_nk h0, mup_nk h27, mup_nk h27, mup_nk h27, mup_nk h27, mup_nk h27]
      have r0 : mturn (mup m 123 0 y) sl co ri sd le 27 0 = sl := by simp [mturn, mup]
      have r1 : mturn (mup m 123 0 y) sl co ri sd le 27 1 = co := by simp [mturn, mup]
      have r2 : mturn (mup m 123 0 y) sl co ri sd le 27 2 = ri := by simp [mturn, mup]
      have r3 : mturn (mup m 123 0 y) sl co ri sd le 27 3 = sd := by simp [mturn, mup]
      have r4 : mturn (mup m 123 0 y) sl co ri sd le 27 4 = le := by simp [mturn, mup]
      have r7 : mturn (mup m 123 0 y) sl co ri sd le 0 7 = 0 := by simp [mturn, mup]
      generalize mturn (mup m 123 0 y) sl co ri sd le = m2 at *
      have ej : jm m2 = jm μ := by
        unfold jm
        rw [same 3 (by decide) (by decide) (by decide), same 5 (by decide) (by decide) (by decide), same 7 (by decide) (by decide) (by decide), same 9 (by decide) (by decide) (by decide), same 11 (by decide) (by decide) (by decide), same 13 (by decide) (by decide) (by decide), same 15 (by decide) (by decide) (by decide), same 17 (by decide) (by decide) (by decide), same 19 (by decide) (by decide) (by decide)]
      refine ⟨⟨hOK_no ?_ ?_ ⟨by rw [r0]; omega, by rw [r1]; omega, by rw [r2]; omega, by rw [r4]; exact hle⟩ r7, by rw [same 1 (by decide) (by decide) (by decide)]; exact hn, by rw [same 124 (by decide) (by decide) (by decide)]; exact hA, ej⟩, ⟨r0, r1, r2, r3, r4⟩, ⟨by omega, hco, hle, by omega⟩, hd, hwp, hw⟩
      · unfold okJ
        rw [same 1 (by decide) (by decide) (by decide), same 2 (by decide) (by decide) (by decide), same 3 (by decide) (by decide) (by decide), same 5 (by decide) (by decide) (by decide), same 7 (by decide) (by decide) (by decide), same 9 (by decide) (by decide) (by decide), same 11 (by decide) (by decide) (by decide), same 13 (by decide) (by decide) (by decide), same 15 (by decide) (by decide) (by decide), same 17 (by decide) (by decide) (by decide), same 19 (by decide) (by decide) (by decide)]
        exact hO.J
      · unfold okTk
        rw [same 20 (by decide) (by decide) (by decide), same 22 (by decide) (by decide) (by decide), same 24 (by decide) (by decide) (by decide), same 26 (by decide) (by decide) (by decide)]
        exact hO.T
    refine v_aload_n (pc := 71) h (dk dt_L_runs_0 40 rfl) rfl ?_
    refine v_cS (pc := 72) h (c_L_next h.quiet) kv_L_next wM_L_8 rfl rfl (Nat.le_of_ble_eq_true rfl) (RM.of rfl) rfl rfl (dk dt_L_runs_0 41 rfl) (fun v72 μ72 p72 => ?_)
    obtain ⟨sd, y, rfl, y1, y2, rfl⟩ := p72
    have hsl0 := (hOx y).W.1
    refine v_iload (pc := 75) h (dk dt_L_runs_0 42 rfl) rfl ?_
    refine v_callVX (pc := 77) h (c_X11_turns h.quiet (hOx y) (by omega) (by omega) hle) kv_X11_turns sh0 wM_L_59 rfl rfl (Nat.le_of_ble_eq_true rfl) (RM.of rfl) (dk dt_L_runs_0 43 rfl) (fun e77 μ77 p77 => ?_) (fun v77 μ77 p77 => ?_)
    ·
      exfalso
      obtain ⟨⟨i2, q1, -⟩, -⟩ := p77
      unfold rcTn at q1
      rw [if_neg (by omega)] at q1; omega
    ·
      obtain ⟨-, rfl, rfl⟩ := p77
      refine v_iconst (pc := 80) h (dk dt_L_runs_0 44 rfl) ?_
      refine v_icmp_ge (pc := 81) h 86 (dk dt_L_runs_0 45 rfl) rfl (by omega) (fun c81 => ?_) (fun c81 => ?_)
      ·
        refine v_iconst (pc := 86) h (dk dt_L_runs_0 48 rfl) ?_
        refine v_istore (lv' := [(10, _), (9, _), (8, _), (7, _), (0, _), (1, _), (2, _), (3, _), (4, _), (5, _), (6, _)]) (pc := 87) h (dk dt_L_runs_0 49 rfl) (Nat.le_of_ble_eq_true rfl) rfl ?_
        refine v_iconst (pc := 89) h (dk dt_L_runs_0 50 rfl) ?_
        refine v_istore (lv' := [(11, _), (10, _), (9, _), (8, _), (7, _), (0, _), (1, _), (2, _), (3, _), (4, _), (5, _), (6, _)]) (pc := 90) h (dk dt_L_runs_0 51 rfl) (Nat.le_of_ble_eq_true rfl) rfl ?_
        refine v_iconst (pc := 92) h (dk dt_L_runs_0 52 rfl) ?_
        refine v_istore (lv' := [(12, _), (11, _), (10, _), (9, _), (8, _), (7, _), (0, _), (1, _), (2, _), (3, _), (4, _), (5, _), (6, _)]) (pc := 93) h (dk dt_L_runs_0 53 rfl) (Nat.le_of_ble_eq_true rfl) rfl ?_
        refine v_iconst (pc := 95) h (dk dt_L_runs_0 54 rfl) ?_
        refine v_istore (lv' := [(13, _), (12, _), (11, _), (10, _), (9, _), (8, _), (7, _), (0, _), (1, _), (2, _), (3, _), (4, _), (5, _), (6, _)]) (pc := 96) h (dk dt_L_runs_0 55 rfl) (Nat.le_of_ble_eq_true rfl) rfl ?_
        refine v_iconst (pc := 98) h (dk dt_L_runs_0 56 rfl) ?_
        refine v_istore (lv' := [(14, _), (13, _), (12, _), (11, _), (10, _), (9, _), (8, _), (7, _), (0, _), (1, _), (2, _), (3, _), (4, _), (5, _), (6, _)]) (pc := 99) h (dk dt_L_runs_0 57 rfl) (Nat.le_of_ble_eq_true rfl) rfl ?_
        exact VV.loc (r_loop h r (by omega) (fun m' hX => ⟨rfl, _, _, _, _, _, hX⟩) 9 0 _ _ _ 0 0 0 (by omega) (hRX y sd) (Or.inl rfl) (fun q => absurd q (by omega)) (fun _ q => absurd q (by omega)) (fun _ _ q => absurd q (by omega)) (Nat.le_of_ble_eq_true rfl) (Nat.le_of_ble_eq_true rfl)) ⟨rfl, rfl, rfl, rfl, rfl, rfl, rfl, rfl, rfl, rfl, rfl, rfl, rfl, rfl, rfl, trivial⟩
      ·
        exact absurd c81 (by omega)
  have go44 : ∀ (m : Mm) (co sl le : Int), (∀ a, a ≠ 123 → m a = μ a) → (0 ≤ co ∧ co ≤ 5) → (1 ≤ sl ∧ sl ≤ 6) → (le = 0 ∨ le = 1) → VV a B (SP B D E m) 0 0 44 [(8, iI sl), (7, iI co), (0, .ref (pl B 0)), (1, .ref (pl B 123)), (2, .ref (pl B 124)), (3, iI (n : Int)), (4, iI wp), (5, .ref (pl B 125)), (6, .ref (pl B 126))] [iI le] := by
    intro m co sl le hm hco hsl hle
    have fx : ∀ (m : Mm), (∀ a, a ≠ 123 → m a = μ a) → ∀ y : Int, ∀ a, a ≠ 123 → mup m 123 0 y a = μ a := fun m hm y a q => by rw [← hm a q]; funext b; exact mup_nk q
    refine v_istore (lv' := [(9, _), (8, _), (7, _), (0, _), (1, _), (2, _), (3, _), (4, _), (5, _), (6, _)]) (pc := 44) h (dk dt_L_runs_0 25 rfl) (Nat.le_of_ble_eq_true rfl) rfl ?_
    refine v_aload_n (pc := 46) h (dk dt_L_runs_0 26 rfl) rfl ?_
    refine v_iload (pc := 47) h (dk dt_L_runs_0 27 rfl) rfl ?_
    refine v_iload (pc := 49) h (dk dt_L_runs_0 28 rfl) rfl ?_
    refine v_aload_n (pc := 51) h (dk dt_L_runs_0 29 rfl) rfl ?_
    refine v_cS (pc := 52) h (c_L_next h.quiet) kv_L_next wM_L_8 rfl rfl (Nat.le_of_ble_eq_true rfl) (RM.of rfl) rfl rfl (dk dt_L_runs_0 30 rfl) (fun v52 μ52 p52 => ?_)
    obtain ⟨x, y, rfl, y1, y2, rfl⟩ := p52
    refine v_iconst (pc := 55) h (dk dt_L_runs_0 31 rfl) ?_
    refine v_irem (pc := 56) h (dk dt_L_runs_0 32 rfl) (by omega) (by omega) ?_
    refine v_if_ne (pc := 57) h 64 (dk dt_L_runs_0 33 rfl) rfl (by omega) (fun c57 => ?_) (fun c57 => ?_)
    ·
      refine v_aload_n (pc := 64) h (dk dt_L_runs_0 36 rfl) rfl ?_
      refine v_iconst (pc := 65) h (dk dt_L_runs_0 37 rfl) ?_
      refine v_bipush (pc := 66) h (dk dt_L_runs_0 38 rfl) rfl ?_
      refine v_cS (pc := 68) h (c_L_from h.quiet (by omega) (by omega)) kv_L_from wM_L_75 rfl rfl (Nat.le_of_ble_eq_true rfl) (RM.of rfl) rfl rfl (dk dt_L_runs_0 39 rfl) (fun v68 μ68 p68 => ?_)
      obtain ⟨x2, w, rfl, w1, w2, rfl⟩ := p68
      first
        | exact VV.loc (go71 _ x2 co sl le (fx _ (fx _ hm y) w) (by omega) hco hsl hle) ⟨rfl, rfl, rfl, rfl, rfl, rfl, rfl, rfl, rfl, rfl, trivial⟩
        | exact VV.loc (go71 _ 0 co sl le (fx _ hm y) (by omega) hco hsl hle) ⟨rfl, rfl, rfl, rfl, rfl, rfl, rfl, rfl, rfl, rfl, trivial⟩
    ·
      refine v_iconst (pc := 60) h (dk dt_L_runs_0 34 rfl) ?_
      refine v_goto (pc := 61) h 71 (dk dt_L_runs_0 35 rfl) rfl ?_
      first
        | exact VV.loc (go71 _ x2 co sl le (fx _ (fx _ hm y) w) (by omega) hco hsl hle) ⟨rfl, rfl, rfl, rfl, rfl, rfl, rfl, rfl, rfl, rfl, trivial⟩
        | exact VV.loc (go71 _ 0 co sl le (fx _ hm y) (by omega) hco hsl hle) ⟨rfl, rfl, rfl, rfl, rfl, rfl, rfl, rfl, rfl, rfl, trivial⟩
  have go19 : ∀ (m : Mm) (co : Int), (∀ a, a ≠ 123 → m a = μ a) → (0 ≤ co ∧ co ≤ 5) → VV a B (SP B D E m) 0 0 19 [(0, .ref (pl B 0)), (1, .ref (pl B 123)), (2, .ref (pl B 124)), (3, iI (n : Int)), (4, iI wp), (5, .ref (pl B 125)), (6, .ref (pl B 126))] [iI co] := by
    intro m co hm hco
    have fx : ∀ (m : Mm), (∀ a, a ≠ 123 → m a = μ a) → ∀ y : Int, ∀ a, a ≠ 123 → mup m 123 0 y a = μ a := fun m hm y a q => by rw [← hm a q]; funext b; exact mup_nk q
    refine v_istore (lv' := [(7, _), (0, _), (1, _), (2, _), (3, _), (4, _), (5, _), (6, _)]) (pc := 19) h (dk dt_L_runs_0 11 rfl) (Nat.le_of_ble_eq_true rfl) rfl ?_
    refine v_aload_n (pc := 21) h (dk dt_L_runs_0 12 rfl) rfl ?_
    refine v_iconst (pc := 22) h (dk dt_L_runs_0 13 rfl) ?_
    refine v_bipush (pc := 23) h (dk dt_L_runs_0 14 rfl) rfl ?_
    refine v_cS (pc := 25) h (c_L_from h.quiet (by omega) (by omega)) kv_L_from wM_L_75 rfl rfl (Nat.le_of_ble_eq_true rfl) (RM.of rfl) rfl rfl (dk dt_L_runs_0 15 rfl) (fun v25 μ25 p25 => ?_)
    obtain ⟨sl, y, rfl, y1, y2, rfl⟩ := p25
    refine v_istore (lv' := [(8, _), (7, _), (0, _), (1, _), (2, _), (3, _), (4, _), (5, _), (6, _)]) (pc := 28) h (dk dt_L_runs_0 16 rfl) (Nat.le_of_ble_eq_true rfl) rfl ?_
    refine v_aload_n (pc := 30) h (dk dt_L_runs_0 17 rfl) rfl ?_
    refine v_cS (pc := 31) h (c_L_next h.quiet) kv_L_next wM_L_8 rfl rfl (Nat.le_of_ble_eq_true rfl) (RM.of rfl) rfl rfl (dk dt_L_runs_0 18 rfl) (fun v31 μ31 p31 => ?_)
    obtain ⟨x, w, rfl, w1, w2, rfl⟩ := p31
    refine v_iconst (pc := 34) h (dk dt_L_runs_0 19 rfl) ?_
    refine v_irem (pc := 35) h (dk dt_L_runs_0 20 rfl) (by omega) (by omega) ?_
    refine v_if_ne (pc := 36) h 43 (dk dt_L_runs_0 21 rfl) rfl (by omega) (fun c36 => ?_) (fun c36 => ?_)
    ·
      refine v_iconst (pc := 43) h (dk dt_L_runs_0 24 rfl) ?_
      first
        | exact VV.loc (go44 _ co sl 0 (fx _ (fx _ hm y) w) hco (by omega) (Or.inl rfl)) ⟨rfl, rfl, rfl, rfl, rfl, rfl, rfl, rfl, rfl, trivial⟩
        | exact VV.loc (go44 _ co sl 1 (fx _ (fx _ hm y) w) hco (by omega) (Or.inr rfl)) ⟨rfl, rfl, rfl, rfl, rfl, rfl, rfl, rfl, rfl, trivial⟩
    ·
      refine v_iconst (pc := 39) h (dk dt_L_runs_0 22 rfl) ?_
      refine v_goto (pc := 40) h 44 (dk dt_L_runs_0 23 rfl) rfl ?_
      first
        | exact VV.loc (go44 _ co sl 0 (fx _ (fx _ hm y) w) hco (by omega) (Or.inl rfl)) ⟨rfl, rfl, rfl, rfl, rfl, rfl, rfl, rfl, rfl, trivial⟩
        | exact VV.loc (go44 _ co sl 1 (fx _ (fx _ hm y) w) hco (by omega) (Or.inr rfl)) ⟨rfl, rfl, rfl, rfl, rfl, rfl, rfl, rfl, rfl, trivial⟩
  have fx : ∀ (m : Mm), (∀ a, a ≠ 123 → m a = μ a) → ∀ y : Int, ∀ a, a ≠ 123 → mup m 123 0 y a = μ a := fun m hm y a q => by rw [← hm a q]; funext b; exact mup_nk q
  refine v_aload_n (pc := 0) h (dk dt_L_runs_0 0 rfl) rfl ?_
  refine v_cS (pc := 1) h (c_L_next h.quiet) kv_L_next wM_L_8 rfl rfl (Nat.le_of_ble_eq_true rfl) (RM.of rfl) rfl rfl (dk dt_L_runs_0 1 rfl) (fun v1 μ1 p1 => ?_)
  obtain ⟨x, y, rfl, y1, y2, rfl⟩ := p1
  refine v_iconst (pc := 4) h (dk dt_L_runs_0 2 rfl) ?_
  refine v_irem (pc := 5) h (dk dt_L_runs_0 3 rfl) (by omega) (by omega) ?_
  refine v_if_ne (pc := 6) h 13 (dk dt_L_runs_0 4 rfl) rfl (by omega) (fun c6 => ?_) (fun c6 => ?_)
  ·
    refine v_aload_n (pc := 13) h (dk dt_L_runs_0 7 rfl) rfl ?_
    refine v_iconst (pc := 14) h (dk dt_L_runs_0 8 rfl) ?_
    refine v_iconst (pc := 15) h (dk dt_L_runs_0 9 rfl) ?_
    refine v_cS (pc := 16) h (c_L_from h.quiet (by omega) (by omega)) kv_L_from wM_L_75 rfl rfl (Nat.le_of_ble_eq_true rfl) (RM.of rfl) rfl rfl (dk dt_L_runs_0 10 rfl) (fun v16 μ16 p16 => ?_)
    obtain ⟨x2, w, rfl, w1, w2, rfl⟩ := p16
    first
      | exact VV.loc (go19 _ x2 (fx _ (fx _ (fun _ _ => rfl) y) w) (by omega)) ⟨rfl, rfl, rfl, rfl, rfl, rfl, rfl, trivial⟩
      | exact VV.loc (go19 _ 0 (fx _ (fun _ _ => rfl) y) (by omega)) ⟨rfl, rfl, rfl, rfl, rfl, rfl, rfl, trivial⟩
  ·
    refine v_iconst (pc := 9) h (dk dt_L_runs_0 5 rfl) ?_
    refine v_goto (pc := 10) h 19 (dk dt_L_runs_0 6 rfl) rfl ?_
    first
      | exact VV.loc (go19 _ x2 (fx _ (fx _ (fun _ _ => rfl) y) w) (by omega)) ⟨rfl, rfl, rfl, rfl, rfl, rfl, rfl, trivial⟩
      | exact VV.loc (go19 _ 0 (fx _ (fun _ _ => rfl) y) (by omega)) ⟨rfl, rfl, rfl, rfl, rfl, rfl, rfl, trivial⟩
end
