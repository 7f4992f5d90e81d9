/-! ===== the law: how long a task is in the house ===== -/
section
variable {a : Ax} {B : Nat} {D : va_G} {E : Nat → ClassId} {n : Nat} {m : Mm} {l : Launch} {μ : Mm} {kc ns : Nat} {P : Pv} {X : Px}
theorem t_now (h : Ac a B D E RL cL_tasks 15 rm_L_tasks) (hT : TK n m) {j : Nat} (hj : j < n) (hd30 : m 26 j ≤ 30)
    (next : VV a B (SP B D E m) kc ns 379 [(11, iI (rsT (m 22) (m 24) (m 26) n j (m 26 j).toNat 1)), (8, iI (j : Int)), (3, iI (n : Int)), (0, .ref (pl B 0)), (1, .ref (pl B 123)), (2, .ref (pl B 127))] []) :
    ∀ (q x : Nat) (A L du : Int), (x : Int) + q = m 26 j → 0 ≤ A → (0 < L ∧ du = -1 ∧ A + L + x = wahF (m 22) (m 24) (m 26) j (x : Int) n ∧ rsT (m 22) (m 24) (m 26) n j (m 26 j).toNat 1 = rsT (m 22) (m 24) (m 26) n j q (x + 1)) ∨ (L = 0 ∧ A ≤ 0 ∧ du = rsT (m 22) (m 24) (m 26) n j (m 26 j).toNat 1) → VV a B (SP B D E m) kc ns 225 [(12, iI (x : Int)), (11, iI du), (10, iI L), (9, iI A), (8, iI (j : Int)), (3, iI (n : Int)), (0, .ref (pl B 0)), (1, .ref (pl B 123)), (2, .ref (pl B 127))] [] := by
  have hn5 : n ≤ 5 := by have := hT.1.T.1; have := hT.2.1; omega
  have hok : okK5 (m 22) (m 24) (m 26) (n : Int) := by have := hT.1.T; unfold okTk at this; rw [hT.2.1] at this; exact this
  have g2 : m 127 (4 * (j : Int) + 2).toNat = m 26 j := by rw [show (4 * (j : Int) + 2).toNat = 4 * j + 2 by omega]; exact (hT.2.2 j hj).2.2
  have hjb := hok.2 j (by omega)
  intro q
  induction q with
  | zero =>
    intro x A L du hx hA hI
    have edu : du = rsT (m 22) (m 24) (m 26) n j (m 26 j).toNat 1 := by
      rcases hI with ⟨-, i2, -, i4⟩ | ⟨-, -, i3⟩
      · rw [i4, i2]; rfl
      · exact i3
    rw [edu]
    refine v_iload (pc := 225) h (dk dt_L_tasks_2 27 rfl) rfl ?_
    refine v_aload_n (pc := 227) h (dk dt_L_tasks_2 28 rfl) rfl ?_
    refine v_iconst (pc := 228) h (dk dt_L_tasks_2 29 rfl) ?_
    refine v_iload (pc := 229) h (dk dt_L_tasks_2 30 rfl) rfl ?_
    refine v_imul (pc := 231) h (dk dt_L_tasks_2 31 rfl) ?_
    refine v_iconst (pc := 232) h (dk dt_L_tasks_2 32 rfl) ?_
    refine v_iadd (pc := 233) h (dk dt_L_tasks_2 33 rfl) ?_
    refine v_iald (pc := 234) h sh127 (Nat.le_of_ble_eq_true rfl) (by omega) (dk dt_L_tasks_2 34 rfl) ?_
    rw [g2]
    refine v_icmp_ge (pc := 235) h 379 (dk dt_L_tasks_2 35 rfl) rfl (by omega) (fun c235 => ?_) (fun c235 => ?_)
    ·
      exact VV.loc next ⟨rfl, rfl, rfl, rfl, rfl, rfl, trivial⟩
    ·
      exact absurd c235 (by omega)
  | succ q ih =>
    intro x A L du hx hA hI
    have hwb := wahF_b hok (k := j) (by omega) (r := (x : Int) + 1) (by omega) n (by omega)
    have hwx : 0 < L → A + L + x ≤ 30 + 3600 * 5 := fun q => by
      rcases hI with ⟨-, -, i3, -⟩ | ⟨i1, -, -⟩
      · rw [i3]
        rcases Nat.eq_zero_or_pos x with z | z
        · rw [z, show ((0 : Nat) : Int) = 0 from rfl, wah_0 hok n (by omega)]; omega
        · have := wahF_b hok (k := j) (by omega) (r := (x : Int)) (by omega) n (by omega); omega
      · omega
    have go358 : ∀ A2 L2 du2 : Int, 0 ≤ A2 → 0 ≤ L2 → (L2 = 0 → A2 = 0) → A2 + L2 + ((x : Int) + 1) = wahF (m 22) (m 24) (m 26) j ((x : Int) + 1) n → rsT (m 22) (m 24) (m 26) n j (m 26 j).toNat 1 = rsT (m 22) (m 24) (m 26) n j (q + 1) (x + 1) → VV a B (SP B D E m) kc ns 358 [(9, iI A2), (10, iI L2), (12, iI (x : Int)), (11, iI du2), (8, iI (j : Int)), (3, iI (n : Int)), (0, .ref (pl B 0)), (1, .ref (pl B 123)), (2, .ref (pl B 127))] [] := by
      intro A2 L2 du2 hA2 hL2 h0 hw hr
      have ec : ((x + 1 : Nat) : Int) = (x : Int) + 1 := by omega
      have st : rsT (m 22) (m 24) (m 26) n j (q + 1) (x + 1) = if wahF (m 22) (m 24) (m 26) j ((x : Int) + 1) n = (x : Int) + 1 then (x : Int) + 1 else rsT (m 22) (m 24) (m 26) n j q (x + 1 + 1) := by
        simp only [rsT]; rw [ec]
      have goY : L2 = 0 → VV a B (SP B D E m) kc ns 225 [(12, iI ((x : Int) + 1)), (11, iI ((x : Int) + 1)), (10, iI L2), (9, iI A2), (8, iI (j : Int)), (3, iI (n : Int)), (0, .ref (pl B 0)), (1, .ref (pl B 123)), (2, .ref (pl B 127))] [] := fun q0 => by
        have := ih (x + 1) A2 L2 ((x : Int) + 1) (by omega) hA2 (Or.inr ⟨q0, by have := h0 q0; omega, by rw [hr, st, if_pos (by have := h0 q0; omega)]⟩)
        rw [ec] at this
        exact this
      have goN : L2 ≠ 0 → VV a B (SP B D E m) kc ns 225 [(12, iI ((x : Int) + 1)), (11, iI (-1)), (10, iI L2), (9, iI A2), (8, iI (j : Int)), (3, iI (n : Int)), (0, .ref (pl B 0)), (1, .ref (pl B 123)), (2, .ref (pl B 127))] [] := fun q0 => by
        have := ih (x + 1) A2 L2 (-1) (by omega) hA2 (Or.inl ⟨by omega, rfl, by rw [ec]; exact hw, by rw [hr, st, if_neg (by omega)]⟩)
        rw [ec] at this
        exact this
      refine v_iload (pc := 358) h (dk dt_L_tasks_3 45 rfl) rfl ?_
      refine v_if_ne (pc := 360) h 370 (dk dt_L_tasks_3 46 rfl) rfl (by omega) (fun c360 => ?_) (fun c360 => ?_)
      ·
        refine v_iconst (pc := 370) h (dk dt_L_tasks_3 51 rfl) ?_
        refine v_istore (lv' := [(11, _), (9, _), (10, _), (12, _), (8, _), (3, _), (0, _), (1, _), (2, _)]) (pc := 371) h (dk dt_L_tasks_3 52 rfl) (Nat.le_of_ble_eq_true rfl) rfl ?_
        refine v_iinc (lv' := [(12, _), (11, _), (9, _), (10, _), (8, _), (3, _), (0, _), (1, _), (2, _)]) (pc := 373) h (dk dt_L_tasks_3 53 rfl) rfl (Nat.le_of_ble_eq_true rfl) rfl ?_
        refine v_goto (pc := 376) h 225 (dk dt_L_tasks_3 54 rfl) rfl ?_
        first | exact VV.loc (goY c360) ⟨rfl, rfl, rfl, rfl, rfl, rfl, rfl, rfl, rfl, trivial⟩ | exact VV.loc (goN c360) ⟨rfl, rfl, rfl, rfl, rfl, rfl, rfl, rfl, rfl, trivial⟩
      ·
        refine v_iload (pc := 363) h (dk dt_L_tasks_3 47 rfl) rfl ?_
        refine v_iconst (pc := 365) h (dk dt_L_tasks_3 48 rfl) ?_
        refine v_iadd (pc := 366) h (dk dt_L_tasks_3 49 rfl) ?_
        refine v_goto (pc := 367) h 371 (dk dt_L_tasks_3 50 rfl) rfl ?_
        refine v_istore (lv' := [(11, _), (9, _), (10, _), (12, _), (8, _), (3, _), (0, _), (1, _), (2, _)]) (pc := 371) h (dk dt_L_tasks_3 52 rfl) (Nat.le_of_ble_eq_true rfl) rfl ?_
        refine v_iinc (lv' := [(12, _), (11, _), (9, _), (10, _), (8, _), (3, _), (0, _), (1, _), (2, _)]) (pc := 373) h (dk dt_L_tasks_3 53 rfl) rfl (Nat.le_of_ble_eq_true rfl) rfl ?_
        refine v_goto (pc := 376) h 225 (dk dt_L_tasks_3 54 rfl) rfl ?_
        first | exact VV.loc (goY c360) ⟨rfl, rfl, rfl, rfl, rfl, rfl, rfl, rfl, rfl, trivial⟩ | exact VV.loc (goN c360) ⟨rfl, rfl, rfl, rfl, rfl, rfl, rfl, rfl, rfl, trivial⟩
    have go344 : 0 < L → A + L + x = wahF (m 22) (m 24) (m 26) j (x : Int) n → rsT (m 22) (m 24) (m 26) n j (m 26 j).toNat 1 = rsT (m 22) (m 24) (m 26) n j (q + 1) (x + 1) → VV a B (SP B D E m) kc ns 344 [(9, iI (A + (wahF (m 22) (m 24) (m 26) j ((x : Int) + 1) n - wahF (m 22) (m 24) (m 26) j (x : Int) n))), (12, iI (x : Int)), (11, iI du), (10, iI L), (8, iI (j : Int)), (3, iI (n : Int)), (0, .ref (pl B 0)), (1, .ref (pl B 123)), (2, .ref (pl B 127))] [] := by
      intro i1 i3 i4
      have hwd := wah_d hok (k := j) (x := (x : Int)) (by omega) n (by omega)
      have hLb := hwx i1
      generalize hA' : A + (wahF (m 22) (m 24) (m 26) j ((x : Int) + 1) n - wahF (m 22) (m 24) (m 26) j (x : Int) n) = A'
      refine v_iload (pc := 344) h (dk dt_L_tasks_3 40 rfl) rfl ?_
      refine v_if_le (pc := 346) h 355 (dk dt_L_tasks_3 41 rfl) rfl (by omega) (fun c346 => ?_) (fun c346 => ?_)
      ·
        refine v_iinc (lv' := [(10, _), (9, _), (12, _), (11, _), (8, _), (3, _), (0, _), (1, _), (2, _)]) (pc := 355) h (dk dt_L_tasks_3 44 rfl) rfl (Nat.le_of_ble_eq_true rfl) rfl ?_
        exact VV.loc (go358 A' (L - 1) du (by omega) (by omega) (fun _ => by omega) (by omega) i4) ⟨rfl, lvI (by omega), rfl, rfl, rfl, rfl, rfl, rfl, rfl, trivial⟩
      ·
        refine v_iinc (lv' := [(9, _), (12, _), (11, _), (10, _), (8, _), (3, _), (0, _), (1, _), (2, _)]) (pc := 349) h (dk dt_L_tasks_3 42 rfl) rfl (Nat.le_of_ble_eq_true rfl) rfl ?_
        refine v_goto (pc := 352) h 358 (dk dt_L_tasks_3 43 rfl) rfl ?_
        exact VV.loc (go358 (A' - 1) L du (by omega) (by omega) (fun _ => by omega) (by omega) i4) ⟨lvI (by omega), rfl, rfl, rfl, rfl, rfl, rfl, rfl, rfl, trivial⟩
    refine v_iload (pc := 225) h (dk dt_L_tasks_2 27 rfl) rfl ?_
    refine v_aload_n (pc := 227) h (dk dt_L_tasks_2 28 rfl) rfl ?_
    refine v_iconst (pc := 228) h (dk dt_L_tasks_2 29 rfl) ?_
    refine v_iload (pc := 229) h (dk dt_L_tasks_2 30 rfl) rfl ?_
    refine v_imul (pc := 231) h (dk dt_L_tasks_2 31 rfl) ?_
    refine v_iconst (pc := 232) h (dk dt_L_tasks_2 32 rfl) ?_
    refine v_iadd (pc := 233) h (dk dt_L_tasks_2 33 rfl) ?_
    refine v_iald (pc := 234) h sh127 (Nat.le_of_ble_eq_true rfl) (by omega) (dk dt_L_tasks_2 34 rfl) ?_
    rw [g2]
    refine v_icmp_ge (pc := 235) h 379 (dk dt_L_tasks_2 35 rfl) rfl (by omega) (fun c235 => ?_) (fun c235 => ?_)
    ·
      exact absurd c235 (by omega)
    ·
      refine v_iload (pc := 238) h (dk dt_L_tasks_2 36 rfl) rfl ?_
      refine v_if_le (pc := 240) h 379 (dk dt_L_tasks_2 37 rfl) rfl (by rcases hI with ⟨i1, -⟩ | ⟨i1, -, -⟩; have := hwx i1; omega; omega) (fun c240 => ?_) (fun c240 => ?_)
      ·
        rcases hI with ⟨i1, -⟩ | ⟨-, -, i3⟩
        · exact absurd c240 (by omega)
        · rw [i3]; exact VV.loc next ⟨rfl, rfl, rfl, rfl, rfl, rfl, trivial⟩
      ·
        obtain ⟨i1, i2, i3, i4⟩ : 0 < L ∧ du = -1 ∧ A + L + x = wahF (m 22) (m 24) (m 26) j (x : Int) n ∧ rsT (m 22) (m 24) (m 26) n j (m 26 j).toNat 1 = rsT (m 22) (m 24) (m 26) n j (q + 1) (x + 1) := by rcases hI with z | ⟨z, -, -⟩; exact z; exact absurd z (by omega)
        have hLb := hwx i1
        refine v_iconst (pc := 243) h (dk dt_L_tasks_2 38 rfl) ?_
        refine v_istore (lv' := [(13, _), (12, _), (11, _), (10, _), (9, _), (8, _), (3, _), (0, _), (1, _), (2, _)]) (pc := 244) h (dk dt_L_tasks_2 39 rfl) (Nat.le_of_ble_eq_true rfl) rfl ?_
        exact VV.loc (t_ahead h hT hj (x := x) (by omega) ⟨hA, by omega⟩ (go344 i1 i3 i4) n 0 (by omega)) ⟨rfl, lvI (by simp [wahF]), rfl, rfl, rfl, rfl, rfl, rfl, rfl, rfl, trivial⟩
/-- every task's answer -/
theorem t_resp (h : Ac a B D E RL cL_tasks 15 rm_L_tasks) (hT : TK n m) (h30 : ∀ j, j < n → m 26 j ≤ 30)
    (next : VV a B (SP B D E m) (kc + 20 * n) (ns + 120 * n) 403 [(3, iI (n : Int)), (0, .ref (pl B 0)), (1, .ref (pl B 123)), (2, .ref (pl B 127))] []) (hk : kc ≤ 200 ∧ ns ≤ 1200) :
    ∀ (q j : Nat), j + q = n → VV a B (SP B D E m) (kc + 20 * j) (ns + 120 * j) 200 [(8, iI (j : Int)), (3, iI (n : Int)), (0, .ref (pl B 0)), (1, .ref (pl B 123)), (2, .ref (pl B 127))] [] := by
  have hn5 : n ≤ 5 := by have := hT.1.T.1; have := hT.2.1; omega
  have hok : okK5 (m 22) (m 24) (m 26) (n : Int) := by have := hT.1.T; unfold okTk at this; rw [hT.2.1] at this; exact this
  intro q
  induction q with
  | zero =>
    intro j hj
    have ej : j = n := by omega
    subst ej
    generalize kc + 20 * j = kc at *
    generalize ns + 120 * j = ns at *
    refine v_iload (pc := 200) h (dk dt_L_tasks_2 10 rfl) rfl ?_
    refine v_iload_n (pc := 202) h (dk dt_L_tasks_2 11 rfl) rfl ?_
    refine v_icmp_ge (pc := 203) h 403 (dk dt_L_tasks_2 12 rfl) rfl (by omega) (fun c203 => ?_) (fun c203 => ?_)
    ·
      exact VV.loc next ⟨rfl, rfl, rfl, rfl, trivial⟩
    ·
      exact absurd c203 (by omega)
  | succ q ih =>
    intro j hj
    have hjn : j < n := by omega
    have hjb := hok.2 j (by omega)
    have ih2 := ih (j + 1) (by omega)
    have e1 : kc + 20 * (j + 1) = kc + 20 * j + 20 := by omega
    have e2 : ns + 120 * (j + 1) = ns + 120 * j + 120 := by omega
    rw [e1, e2] at ih2
    have k1 : kc + 20 * j ≤ 300 := by omega
    have k2 : ns + 120 * j ≤ 1800 := by omega
    generalize kc + 20 * j = kc at *
    generalize ns + 120 * j = ns at *
    have g1 : m 127 (4 * (j : Int) + 1).toNat = m 24 j := by rw [show (4 * (j : Int) + 1).toNat = 4 * j + 1 by omega]; exact (hT.2.2 j hjn).2.1
    have go379 : VV a B (SP B D E m) kc ns 379 [(11, iI (rsT (m 22) (m 24) (m 26) n j (m 26 j).toNat 1)), (8, iI (j : Int)), (3, iI (n : Int)), (0, .ref (pl B 0)), (1, .ref (pl B 123)), (2, .ref (pl B 127))] [] := by
      refine v_aload_n (pc := 379) h (dk dt_L_tasks_3 55 rfl) rfl ?_
      refine v_bipush (pc := 380) h (dk dt_L_tasks_3 56 rfl) rfl ?_
      refine v_iload (pc := 382) h (dk dt_L_tasks_3 57 rfl) rfl ?_
      refine v_iconst (pc := 384) h (dk dt_L_tasks_3 58 rfl) ?_
      refine v_iconst (pc := 385) h (dk dt_L_tasks_3 59 rfl) ?_
      refine v_iconst (pc := 386) h (dk dt_L_tasks_3 60 rfl) ?_
      refine v_callH (pc := 387) h (d_response h.quiet hT.1 hT.2.1 (by omega)) kh_L_done wM_L_84 rfl rfl (Nat.le_of_ble_eq_true rfl) ⟨⟨Nat.le_of_ble_eq_true rfl, Nat.le_of_ble_eq_true rfl⟩, by show kc + 20 ≤ 400; omega, by show ns + 120 ≤ 2400; omega⟩ (dk dt_L_tasks_3 61 rfl) (fun v387 μ387 p387 => ?_)
      rcases p387 with ⟨-, rfl, rfl⟩ | ⟨q, -, -⟩
      case inr => exact absurd (show rcRs (m 20 3) (j : Int) = 0 by unfold rcRs; rw [hT.2.1, if_neg (by omega)]) q
      rw [Int.toNat_natCast]
      refine v_iload (pc := 390) h (dk dt_L_tasks_3 62 rfl) rfl ?_
      refine v_icmp_eqS (pc := 392) h 397 (dk dt_L_tasks_3 63 rfl) rfl ?_
      refine v_iinc (lv' := [(8, _), (11, _), (3, _), (0, _), (1, _), (2, _)]) (pc := 397) h (dk dt_L_tasks_4 2 rfl) rfl (Nat.le_of_ble_eq_true rfl) rfl ?_
      refine v_goto (pc := 400) h 200 (dk dt_L_tasks_4 3 rfl) rfl ?_
      exact VV.loc ih2 ⟨lvI (by omega), rfl, rfl, rfl, rfl, trivial⟩
    refine v_iload (pc := 200) h (dk dt_L_tasks_2 10 rfl) rfl ?_
    refine v_iload_n (pc := 202) h (dk dt_L_tasks_2 11 rfl) rfl ?_
    refine v_icmp_ge (pc := 203) h 403 (dk dt_L_tasks_2 12 rfl) rfl (by omega) (fun c203 => ?_) (fun c203 => ?_)
    ·
      exact absurd c203 (by omega)
    ·
      refine v_iconst (pc := 206) h (dk dt_L_tasks_2 13 rfl) ?_
      refine v_istore (lv' := [(9, _), (8, _), (3, _), (0, _), (1, _), (2, _)]) (pc := 207) h (dk dt_L_tasks_2 14 rfl) (Nat.le_of_ble_eq_true rfl) rfl ?_
      refine v_aload_n (pc := 209) h (dk dt_L_tasks_2 15 rfl) rfl ?_
      refine v_iconst (pc := 210) h (dk dt_L_tasks_2 16 rfl) ?_
      refine v_iload (pc := 211) h (dk dt_L_tasks_2 17 rfl) rfl ?_
      refine v_imul (pc := 213) h (dk dt_L_tasks_2 18 rfl) ?_
      refine v_iconst (pc := 214) h (dk dt_L_tasks_2 19 rfl) ?_
      refine v_iadd (pc := 215) h (dk dt_L_tasks_2 20 rfl) ?_
      refine v_iald (pc := 216) h sh127 (Nat.le_of_ble_eq_true rfl) (by omega) (dk dt_L_tasks_2 21 rfl) ?_
      rw [g1]
      refine v_istore (lv' := [(10, _), (9, _), (8, _), (3, _), (0, _), (1, _), (2, _)]) (pc := 217) h (dk dt_L_tasks_2 22 rfl) (Nat.le_of_ble_eq_true rfl) rfl ?_
      refine v_iconst (pc := 219) h (dk dt_L_tasks_2 23 rfl) ?_
      refine v_istore (lv' := [(11, _), (10, _), (9, _), (8, _), (3, _), (0, _), (1, _), (2, _)]) (pc := 220) h (dk dt_L_tasks_2 24 rfl) (Nat.le_of_ble_eq_true rfl) rfl ?_
      refine v_iconst (pc := 222) h (dk dt_L_tasks_2 25 rfl) ?_
      refine v_istore (lv' := [(12, _), (11, _), (10, _), (9, _), (8, _), (3, _), (0, _), (1, _), (2, _)]) (pc := 223) h (dk dt_L_tasks_2 26 rfl) (Nat.le_of_ble_eq_true rfl) rfl ?_
      exact VV.loc (t_now h hT hjn (h30 j hjn) go379 (m 26 j).toNat 0 0 (m 24 j) (-1) (by omega) (by omega) (Or.inl ⟨by omega, rfl, by rw [show ((0 : Nat) : Int) = 0 from rfl, wah_0 hok n (by omega)]; omega, rfl⟩)) ⟨rfl, rfl, rfl, rfl, rfl, rfl, rfl, rfl, rfl, trivial⟩
end
