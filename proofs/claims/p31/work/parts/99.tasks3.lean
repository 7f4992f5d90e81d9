/-! ===== the law: tasks() answers true ===== -/
section
variable {a : Ax} {B : Nat} {D : va_G} {E : Nat → ClassId} {n : Nat} {m : Mm} {l : Launch} {μ : Mm} {kc ns : Nat} {P : Pv} {X : Px}
/-- one task is told -/
theorem t_task (h : Ac a B D E RL cL_tasks 15 rm_L_tasks) {k : Nat} (hk : k < n) (hn : n ≤ 5) (hT : TK k m) (hp30 : ∀ j, j < k → m 26 j ≤ 30) (hb : kc + 20 ≤ 300 ∧ ns + 120 ≤ 1800)
    (next : ∀ m', TK (k + 1) m' → (∀ j, j < k + 1 → m' 26 j ≤ 30) → VV a B (SP B D E m') (kc + 20) (ns + 120) 13 [(6, iI ((k : Int) + 1)), (4, .double (sqF (m' 22) (m' 24) (k + 1))), (3, iI (n : Int)), (0, .ref (pl B 0)), (1, .ref (pl B 123)), (2, .ref (pl B 127))] []) :
    VV a B (SP B D E m) kc ns 13 [(6, iI (k : Int)), (4, .double (sqF (m 22) (m 24) k)), (3, iI (n : Int)), (0, .ref (pl B 0)), (1, .ref (pl B 123)), (2, .ref (pl B 127))] [] := by
  have i0 : (4 * (k : Int)).toNat = 4 * k + 0 := by omega
  have i1 : (4 * (k : Int) + 1).toNat = 4 * k + 1 := by omega
  have i2 : (4 * (k : Int) + 2).toNat = 4 * k + 2 := by omega
  have go75 : ∀ (m1 : Mm) (p le : Int), TC k [(1, le), (0, p)] m1 → m1 22 = m 22 → m1 24 = m 24 → m1 26 = m 26 → (1 ≤ p ∧ p ≤ 30) → (1 ≤ le ∧ le ≤ p) → VV a B (SP B D E m1) kc ns 75 [(6, iI (k : Int)), (4, .double (sqF (m1 22) (m1 24) k)), (3, iI (n : Int)), (0, .ref (pl B 0)), (1, .ref (pl B 123)), (2, .ref (pl B 127))] [] := by
    intro m1 p le hC h22 h24 h26 hp hle
    have e1 : m1 127 (4 * k + 1) = le := hC.2 (1, le) (by simp)
    have e0 : m1 127 (4 * k + 0) = p := hC.2 (0, p) (by simp)
    refine v_aload_n (pc := 75) h (dk dt_L_tasks_0 49 rfl) rfl ?_
    refine v_iconst (pc := 76) h (dk dt_L_tasks_0 50 rfl) ?_
    refine v_iload (pc := 77) h (dk dt_L_tasks_0 51 rfl) rfl ?_
    refine v_imul (pc := 79) h (dk dt_L_tasks_0 52 rfl) ?_
    refine v_iconst (pc := 80) h (dk dt_L_tasks_0 53 rfl) ?_
    refine v_iadd (pc := 81) h (dk dt_L_tasks_0 54 rfl) ?_
    refine v_aload_n (pc := 82) h (dk dt_L_tasks_0 55 rfl) rfl ?_
    refine v_aload_n (pc := 83) h (dk dt_L_tasks_0 56 rfl) rfl ?_
    refine v_iconst (pc := 84) h (dk dt_L_tasks_0 57 rfl) ?_
    refine v_iload (pc := 85) h (dk dt_L_tasks_0 58 rfl) rfl ?_
    refine v_imul (pc := 87) h (dk dt_L_tasks_0 59 rfl) ?_
    refine v_iconst (pc := 88) h (dk dt_L_tasks_0 60 rfl) ?_
    refine v_iadd (pc := 89) h (dk dt_L_tasks_0 61 rfl) ?_
    refine v_iald (pc := 90) h sh127 (Nat.le_of_ble_eq_true rfl) (by omega) (dk dt_L_tasks_0 62 rfl) ?_
    rw [i1, e1]
    refine v_aload_n (pc := 91) h (dk dt_L_tasks_0 63 rfl) rfl ?_
    refine v_iconst (pc := 92) h (dk dt_L_tasks_1 0 rfl) ?_
    refine v_iload (pc := 93) h (dk dt_L_tasks_1 1 rfl) rfl ?_
    refine v_imul (pc := 95) h (dk dt_L_tasks_1 2 rfl) ?_
    refine v_iald (pc := 96) h sh127 (Nat.le_of_ble_eq_true rfl) (by omega) (dk dt_L_tasks_1 3 rfl) ?_
    rw [i0, e0]
    refine v_cS (pc := 97) h (c_L_from h.quiet (by omega) (by omega)) kv_L_from wM_L_75 rfl rfl (Nat.le_of_ble_eq_true rfl) ⟨⟨Nat.le_of_ble_eq_true rfl, Nat.le_of_ble_eq_true rfl⟩, by show kc + 0 ≤ 400; omega, by show ns + 0 ≤ 2400; omega⟩ rfl rfl (dk dt_L_tasks_1 4 rfl) (fun v97 μ97 p97 => ?_)
    obtain ⟨d, y, rfl, y1, y2, rfl⟩ := p97
    obtain ⟨hC, g22, g24⟩ := TC_r hC y
    have g26 : mup m1 123 0 y 26 = m1 26 := by funext b; exact mup_nk (by decide)
    rw [← g22, ← g24]
    generalize mup m1 123 0 y = m2 at hC g22 g24 g26 ⊢
    refine v_iast (pc := 100) h sh127 (Nat.le_of_ble_eq_true rfl) (by omega) (dk dt_L_tasks_1 5 rfl) ?_
    rw [i2]
    obtain ⟨hC, q22, q24⟩ := TC_w hC 2 d (by simp)
    have q26 : mup m2 127 (4 * k + 2) d 26 = m2 26 := by funext b; exact mup_nk (by decide)
    rw [← q22, ← q24]
    generalize mup m2 127 (4 * k + 2) d = m3 at hC q22 q24 q26 ⊢
    obtain ⟨hT3, hv⟩ := hC
    have e0 : m3 127 (4 * k) = p := hv (0, p) (by simp)
    have e1 : m3 127 (4 * k + 1) = le := hv (1, le) (by simp)
    have e2 : m3 127 (4 * k + 2) = d := hv (2, d) (by simp)
    obtain ⟨hT4, hs, p22, p24, r127⟩ := TK_task hT3 (by omega) (p := p) (le := le) (d := d) (by omega) (by omega) (by omega) e0 e1 e2
    have h20 := hT3.2.1
    have h36 : ∀ j, j < k + 1 → mtask m3 p le d 26 j ≤ 30 := fun j hj => by
      have : mtask m3 p le d 26 j = if j = k then d else m3 26 j := by simp [mtask, mup, h20]
      rw [this]
      by_cases q : j = k
      · rw [if_pos q]; omega
      · rw [if_neg q, q26, g26, h26]; exact hp30 j (by omega)
    clear hv
    refine v_aload_n (pc := 101) h (dk dt_L_tasks_1 6 rfl) rfl ?_
    refine v_bipush (pc := 102) h (dk dt_L_tasks_1 7 rfl) rfl ?_
    refine v_aload_n (pc := 104) h (dk dt_L_tasks_1 8 rfl) rfl ?_
    refine v_iconst (pc := 105) h (dk dt_L_tasks_1 9 rfl) ?_
    refine v_iload (pc := 106) h (dk dt_L_tasks_1 10 rfl) rfl ?_
    refine v_imul (pc := 108) h (dk dt_L_tasks_1 11 rfl) ?_
    refine v_iald (pc := 109) h sh127 (Nat.le_of_ble_eq_true rfl) (by omega) (dk dt_L_tasks_1 12 rfl) ?_
    rw [i0, show m3 127 (4 * k + 0) = p from e0]
    refine v_aload_n (pc := 110) h (dk dt_L_tasks_1 13 rfl) rfl ?_
    refine v_iconst (pc := 111) h (dk dt_L_tasks_1 14 rfl) ?_
    refine v_iload (pc := 112) h (dk dt_L_tasks_1 15 rfl) rfl ?_
    refine v_imul (pc := 114) h (dk dt_L_tasks_1 16 rfl) ?_
    refine v_iconst (pc := 115) h (dk dt_L_tasks_1 17 rfl) ?_
    refine v_iadd (pc := 116) h (dk dt_L_tasks_1 18 rfl) ?_
    refine v_iald (pc := 117) h sh127 (Nat.le_of_ble_eq_true rfl) (by omega) (dk dt_L_tasks_1 19 rfl) ?_
    rw [i1, e1]
    refine v_aload_n (pc := 118) h (dk dt_L_tasks_1 20 rfl) rfl ?_
    refine v_iconst (pc := 119) h (dk dt_L_tasks_1 21 rfl) ?_
    refine v_iload (pc := 120) h (dk dt_L_tasks_1 22 rfl) rfl ?_
    refine v_imul (pc := 122) h (dk dt_L_tasks_1 23 rfl) ?_
    refine v_iconst (pc := 123) h (dk dt_L_tasks_1 24 rfl) ?_
    refine v_iadd (pc := 124) h (dk dt_L_tasks_1 25 rfl) ?_
    refine v_iald (pc := 125) h sh127 (Nat.le_of_ble_eq_true rfl) (by omega) (dk dt_L_tasks_1 26 rfl) ?_
    rw [i2, e2]
    refine v_iconst (pc := 126) h (dk dt_L_tasks_1 27 rfl) ?_
    refine v_callH (pc := 127) h (d_task h.quiet hT3.1 (by omega) (by omega)) kh_L_done wM_L_84 rfl rfl (Nat.le_of_ble_eq_true rfl) ⟨⟨Nat.le_of_ble_eq_true rfl, Nat.le_of_ble_eq_true rfl⟩, by show kc + 20 ≤ 400; omega, by show ns + 120 ≤ 2400; omega⟩ (dk dt_L_tasks_1 28 rfl) (fun v127 μ127 p127 => ?_)
    rcases p127 with ⟨-, rfl, rfl⟩ | ⟨q, -, -⟩
    case inr => exact absurd (show rcTk (m3 20 3) p le d = 0 by unfold rcTk; rw [h20, if_neg (by omega), if_neg (by omega)]) q
    rw [h20, ← hs]
    generalize mtask m3 p le d = m4 at hT4 hs p22 p24 r127 h36 ⊢
    refine v_iload (pc := 130) h (dk dt_L_tasks_1 29 rfl) rfl ?_
    refine v_icmp_eqS (pc := 132) h 137 (dk dt_L_tasks_1 30 rfl) rfl ?_
    refine v_dload (pc := 137) h (dk dt_L_tasks_1 33 rfl) rfl ?_
    refine v_aload_n (pc := 139) h (dk dt_L_tasks_1 34 rfl) rfl ?_
    refine v_iconst (pc := 140) h (dk dt_L_tasks_1 35 rfl) ?_
    refine v_iload (pc := 141) h (dk dt_L_tasks_1 36 rfl) rfl ?_
    refine v_imul (pc := 143) h (dk dt_L_tasks_1 37 rfl) ?_
    refine v_iconst (pc := 144) h (dk dt_L_tasks_1 38 rfl) ?_
    refine v_iadd (pc := 145) h (dk dt_L_tasks_1 39 rfl) ?_
    refine v_iald (pc := 146) h sh127 (Nat.le_of_ble_eq_true rfl) (by omega) (dk dt_L_tasks_1 40 rfl) ?_
    rw [i1, r127, e1, ← p24]
    refine v_i2d (pc := 147) h (dk dt_L_tasks_1 41 rfl) ?_
    refine v_aload_n (pc := 148) h (dk dt_L_tasks_1 42 rfl) rfl ?_
    refine v_iconst (pc := 149) h (dk dt_L_tasks_1 43 rfl) ?_
    refine v_iload (pc := 150) h (dk dt_L_tasks_1 44 rfl) rfl ?_
    refine v_imul (pc := 152) h (dk dt_L_tasks_1 45 rfl) ?_
    refine v_iald (pc := 153) h sh127 (Nat.le_of_ble_eq_true rfl) (by omega) (dk dt_L_tasks_1 46 rfl) ?_
    rw [i0, r127, show m3 127 (4 * k + 0) = p from e0, ← p22]
    refine v_i2d (pc := 154) h (dk dt_L_tasks_1 47 rfl) ?_
    refine v_ddiv (pc := 155) h (dk dt_L_tasks_1 48 rfl) (sq_n64 (n := k + 1) (by omega) (TK_ok hT4) (Nat.lt_succ_self k)).1 ?_
    refine v_dadd (pc := 156) h (dk dt_L_tasks_1 49 rfl) (sq_n64 (n := k + 1) (by omega) (TK_ok hT4) (Nat.lt_succ_self k)).2 ?_
    refine v_dstore (lv' := [(4, _), (6, _), (3, _), (0, _), (1, _), (2, _)]) (pc := 157) h (dk dt_L_tasks_1 50 rfl) (Nat.le_of_ble_eq_true rfl) rfl ?_
    refine v_iinc (lv' := [(6, _), (4, _), (3, _), (0, _), (1, _), (2, _)]) (pc := 159) h (dk dt_L_tasks_1 51 rfl) rfl (Nat.le_of_ble_eq_true rfl) rfl ?_
    refine v_goto (pc := 162) h 13 (dk dt_L_tasks_1 52 rfl) rfl ?_
    exact VV.loc (next m4 hT4 h36) ⟨rfl, rfl, rfl, rfl, rfl, rfl, trivial⟩
  have go64 : ∀ (m1 : Mm) (p s : Int), TC k [(0, p)] m1 → m1 22 = m 22 → m1 24 = m 24 → m1 26 = m 26 → (1 ≤ p ∧ p ≤ 30) → (s = 1 ∨ s = 3) → VV a B (SP B D E m1) kc ns 64 [(6, iI (k : Int)), (4, .double (sqF (m1 22) (m1 24) k)), (3, iI (n : Int)), (0, .ref (pl B 0)), (1, .ref (pl B 123)), (2, .ref (pl B 127))] [iI s, iI p, iI 1, iI 30, iI 1, .ref (pl B 123), iI (4 * (k : Int) + 1), .ref (pl B 127)] := by
    intro m1 p s hC h22 h24 h26 hp hs
    have hq : 0 ≤ p / s ∧ p / s ≤ p := by rcases hs with e | e <;> (rw [e]; omega)
    refine v_idiv (pc := 64) h (dk dt_L_tasks_0 44 rfl) (by omega) (by omega) ?_
    generalize p / s = q at hq ⊢
    refine v_max (pc := 65) h km_max wM_L_79 (by omega) (Nat.le_of_ble_eq_true rfl) ⟨Nat.le_of_ble_eq_true rfl, Nat.le_of_ble_eq_true rfl, by show kc ≤ 400; omega, by show ns ≤ 2400; omega⟩ (dk dt_L_tasks_0 45 rfl) ?_
    refine v_min (pc := 68) h km_min wM_L_154 (by omega) (Nat.le_of_ble_eq_true rfl) ⟨Nat.le_of_ble_eq_true rfl, Nat.le_of_ble_eq_true rfl, by show kc ≤ 400; omega, by show ns ≤ 2400; omega⟩ (dk dt_L_tasks_0 46 rfl) ?_
    obtain ⟨w, hw⟩ : ∃ w : Int, w = (if (if 1 < q then q else 1) < 30 then (if 1 < q then q else 1) else (30 : Int)) := ⟨_, rfl⟩
    have hw2 : 1 ≤ w ∧ w ≤ p := by rw [hw]; split <;> split <;> omega
    rw [← hw]
    refine v_cS (pc := 71) h (c_L_from h.quiet (by omega) (by omega)) kv_L_from wM_L_75 rfl rfl (Nat.le_of_ble_eq_true rfl) ⟨⟨Nat.le_of_ble_eq_true rfl, Nat.le_of_ble_eq_true rfl⟩, by show kc + 0 ≤ 400; omega, by show ns + 0 ≤ 2400; omega⟩ rfl rfl (dk dt_L_tasks_0 47 rfl) (fun v71 μ71 p71 => ?_)
    obtain ⟨le, y, rfl, y1, y2, rfl⟩ := p71
    obtain ⟨hC, g22, g24⟩ := TC_r hC y
    have g26 : mup m1 123 0 y 26 = m1 26 := by funext b; exact mup_nk (by decide)
    rw [← g22, ← g24]
    generalize mup m1 123 0 y = m2 at hC g22 g24 g26 ⊢
    refine v_iast (pc := 74) h sh127 (Nat.le_of_ble_eq_true rfl) (by omega) (dk dt_L_tasks_0 48 rfl) ?_
    rw [i1]
    obtain ⟨hC, q22, q24⟩ := TC_w hC 1 le (by simp)
    have q26 : mup m2 127 (4 * k + 1) le 26 = m2 26 := by funext b; exact mup_nk (by decide)
    rw [← q22, ← q24]
    generalize mup m2 127 (4 * k + 1) le = m3 at hC q22 q24 q26 ⊢
    exact VV.loc (go75 m3 p le hC (by rw [q22, g22, h22]) (by rw [q24, g24, h24]) (by rw [q26, g26, h26]) hp ⟨y1, by omega⟩) ⟨rfl, rfl, rfl, rfl, rfl, rfl, trivial⟩
  refine v_iload (pc := 13) h (dk dt_L_tasks_0 9 rfl) rfl ?_
  refine v_iload_n (pc := 15) h (dk dt_L_tasks_0 10 rfl) rfl ?_
  refine v_icmp_ge (pc := 16) h 165 (dk dt_L_tasks_0 11 rfl) rfl (by omega) (fun c16 => ?_) (fun c16 => ?_)
  ·
    exact absurd c16 (by omega)
  ·
    refine v_aload_n (pc := 19) h (dk dt_L_tasks_0 12 rfl) rfl ?_
    refine v_iconst (pc := 20) h (dk dt_L_tasks_0 13 rfl) ?_
    refine v_iload (pc := 21) h (dk dt_L_tasks_0 14 rfl) rfl ?_
    refine v_imul (pc := 23) h (dk dt_L_tasks_0 15 rfl) ?_
    refine v_aload_n (pc := 24) h (dk dt_L_tasks_0 16 rfl) rfl ?_
    refine v_iconst (pc := 25) h (dk dt_L_tasks_0 17 rfl) ?_
    refine v_bipush (pc := 26) h (dk dt_L_tasks_0 18 rfl) rfl ?_
    refine v_cS (pc := 28) h (c_L_from h.quiet (by omega) (by omega)) kv_L_from wM_L_75 rfl rfl (Nat.le_of_ble_eq_true rfl) ⟨⟨Nat.le_of_ble_eq_true rfl, Nat.le_of_ble_eq_true rfl⟩, by show kc + 0 ≤ 400; omega, by show ns + 0 ≤ 2400; omega⟩ rfl rfl (dk dt_L_tasks_0 19 rfl) (fun v28 μ28 p28 => ?_)
    obtain ⟨p, y, rfl, y1, y2, rfl⟩ := p28
    obtain ⟨hC, g22, g24⟩ := TC_r (show TC k [] m from ⟨hT, fun q hq => absurd hq (by simp)⟩) y
    have g26 : mup m 123 0 y 26 = m 26 := by funext b; exact mup_nk (by decide)
    rw [← g22, ← g24]
    generalize mup m 123 0 y = m1 at hC g22 g24 g26 ⊢
    refine v_iast (pc := 31) h sh127 (Nat.le_of_ble_eq_true rfl) (by omega) (dk dt_L_tasks_0 20 rfl) ?_
    rw [i0]
    obtain ⟨hC, q22, q24⟩ := TC_w hC 0 p (by simp)
    have q26 : mup m1 127 (4 * k + 0) p 26 = m1 26 := by funext b; exact mup_nk (by decide)
    rw [← q22, ← q24]
    generalize mup m1 127 (4 * k + 0) p = m2 at hC q22 q24 q26 ⊢
    have e0 : m2 127 (4 * k + 0) = p := hC.2 (0, p) (by simp)
    refine v_aload_n (pc := 32) h (dk dt_L_tasks_0 21 rfl) rfl ?_
    refine v_iconst (pc := 33) h (dk dt_L_tasks_0 22 rfl) ?_
    refine v_iload (pc := 34) h (dk dt_L_tasks_0 23 rfl) rfl ?_
    refine v_imul (pc := 36) h (dk dt_L_tasks_0 24 rfl) ?_
    refine v_iconst (pc := 37) h (dk dt_L_tasks_0 25 rfl) ?_
    refine v_iadd (pc := 38) h (dk dt_L_tasks_0 26 rfl) ?_
    refine v_aload_n (pc := 39) h (dk dt_L_tasks_0 27 rfl) rfl ?_
    refine v_iconst (pc := 40) h (dk dt_L_tasks_0 28 rfl) ?_
    refine v_bipush (pc := 41) h (dk dt_L_tasks_0 29 rfl) rfl ?_
    refine v_iconst (pc := 43) h (dk dt_L_tasks_0 30 rfl) ?_
    refine v_aload_n (pc := 44) h (dk dt_L_tasks_0 31 rfl) rfl ?_
    refine v_iconst (pc := 45) h (dk dt_L_tasks_0 32 rfl) ?_
    refine v_iload (pc := 46) h (dk dt_L_tasks_0 33 rfl) rfl ?_
    refine v_imul (pc := 48) h (dk dt_L_tasks_0 34 rfl) ?_
    refine v_iald (pc := 49) h sh127 (Nat.le_of_ble_eq_true rfl) (by omega) (dk dt_L_tasks_0 35 rfl) ?_
    rw [i0, e0]
    refine v_aload_n (pc := 50) h (dk dt_L_tasks_0 36 rfl) rfl ?_
    refine v_cS (pc := 51) h (c_L_next h.quiet) kv_L_next wM_L_8 rfl rfl (Nat.le_of_ble_eq_true rfl) ⟨⟨Nat.le_of_ble_eq_true rfl, Nat.le_of_ble_eq_true rfl⟩, by show kc + 0 ≤ 400; omega, by show ns + 0 ≤ 2400; omega⟩ rfl rfl (dk dt_L_tasks_0 37 rfl) (fun v51 μ51 p51 => ?_)
    obtain ⟨x, y3, rfl, x1, x2, rfl⟩ := p51
    obtain ⟨hC, r22, r24⟩ := TC_r hC y3
    have r26 : mup m2 123 0 y3 26 = m2 26 := by funext b; exact mup_nk (by decide)
    rw [← r22, ← r24]
    generalize mup m2 123 0 y3 = m3 at hC r22 r24 r26 ⊢
    refine v_iconst (pc := 54) h (dk dt_L_tasks_0 38 rfl) ?_
    refine v_irem (pc := 55) h (dk dt_L_tasks_0 39 rfl) (by omega) (by omega) ?_
    have hx := Int.emod_lt_of_pos x (show (0 : Int) < 2 by decide)
    have hx2 := Int.emod_nonneg x (show (2 : Int) ≠ 0 by decide)
    generalize x % 2 = qt at hx hx2 ⊢
    refine v_if_ne (pc := 56) h 63 (dk dt_L_tasks_0 40 rfl) rfl (by omega) (fun c56 => ?_) (fun c56 => ?_)
    ·
      refine v_iconst (pc := 63) h (dk dt_L_tasks_0 43 rfl) ?_
      exact VV.loc (go64 m3 p _ hC (by rw [r22, q22, g22]) (by rw [r24, q24, g24]) (by rw [r26, q26, g26]) ⟨y1, y2⟩ (by first | exact Or.inl rfl | exact Or.inr rfl)) ⟨rfl, rfl, rfl, rfl, rfl, rfl, trivial⟩
    ·
      refine v_iconst (pc := 59) h (dk dt_L_tasks_0 41 rfl) ?_
      refine v_goto (pc := 60) h 64 (dk dt_L_tasks_0 42 rfl) rfl ?_
      exact VV.loc (go64 m3 p _ hC (by rw [r22, q22, g22]) (by rw [r24, q24, g24]) (by rw [r26, q26, g26]) ⟨y1, y2⟩ (by first | exact Or.inl rfl | exact Or.inr rfl)) ⟨rfl, rfl, rfl, rfl, rfl, rfl, trivial⟩
theorem c_L_tasks (hst : l.stackTraces = false) (hO : hOK μ) (h0 : μ 20 3 = 0) :
    Ct l B D E yL_tasks (.code yL_tasks cL_tasks 15 (some .boolean)) rm_L_tasks [.ref (pl B 0), .ref (pl B 123), .ref (pl B 127)] μ (fun v m => v = some (iI 1) ∧ hOK m) NX := by
  refine ct_of (own := RL) (lv := [(0, _), (1, _), (2, _)]) hst (by decide) rfl rfl (Nat.le_of_ble_eq_true rfl) fun a h r t => ?_
  have loop : ∀ (d k n : Nat) (m : Mm), k + d = n → 1 ≤ n → n ≤ 5 → TK k m → (∀ j, j < k → m 26 j ≤ 30) → VV a B (SP B D E m) (20 * k) (120 * k) 13 [(6, iI (k : Int)), (4, .double (sqF (m 22) (m 24) k)), (3, iI (n : Int)), (0, .ref (pl B 0)), (1, .ref (pl B 123)), (2, .ref (pl B 127))] [] := by
    intro d
    induction d with
    | zero =>
      intro k n m hkn hn1 hn5 hT h30
      have ek : k = n := by omega
      subst ek
      obtain ⟨kc, hkc⟩ : ∃ kc, kc = 20 * k := ⟨_, rfl⟩
      obtain ⟨ns, hns⟩ : ∃ ns, ns = 120 * k := ⟨_, rfl⟩
      rw [← hkc, ← hns]
      obtain ⟨b1, b2, b3, b4⟩ := load_ok hn1 hn5 (TK_ok hT)
      have go403 : VV a B (SP B D E m) (kc + 20 * k) (ns + 120 * k) 403 [(3, iI (k : Int)), (0, .ref (pl B 0)), (1, .ref (pl B 123)), (2, .ref (pl B 127))] [] := by
        have k1 : kc + 20 * k ≤ 300 := by omega
        have k2 : ns + 120 * k ≤ 1800 := by omega
        generalize kc + 20 * k = kc at *
        generalize ns + 120 * k = ns at *
        have hrc : rcRs (m 20 3) (k : Int) = 1 := by unfold rcRs; rw [hT.2.1, if_pos (by omega)]
        refine v_aload_n (pc := 403) h (dk dt_L_tasks_4 4 rfl) rfl ?_
        refine v_bipush (pc := 404) h (dk dt_L_tasks_4 5 rfl) rfl ?_
        refine v_iload_n (pc := 406) h (dk dt_L_tasks_4 6 rfl) rfl ?_
        refine v_iconst (pc := 407) h (dk dt_L_tasks_4 7 rfl) ?_
        refine v_iconst (pc := 408) h (dk dt_L_tasks_4 8 rfl) ?_
        refine v_iconst (pc := 409) h (dk dt_L_tasks_4 9 rfl) ?_
        refine v_callH (pc := 410) h (d_response h.quiet hT.1 hT.2.1 (by omega)) kh_L_done wM_L_84 rfl rfl (Nat.le_of_ble_eq_true rfl) ⟨⟨Nat.le_of_ble_eq_true rfl, Nat.le_of_ble_eq_true rfl⟩, by show kc + 20 ≤ 400; omega, by show ns + 120 ≤ 2400; omega⟩ (dk dt_L_tasks_4 10 rfl) (fun v410 μ410 p410 => ?_)
        rcases p410 with ⟨q, -, -⟩ | ⟨-, hv, rfl⟩
        · rw [hrc] at q; exact absurd q (by decide)
        rw [hrc] at hv
        have hv2 : v410 = some (iI (-11)) := hv
        subst hv2
        refine v_bipush (pc := 413) h (dk dt_L_tasks_4 11 rfl) rfl ?_
        refine v_icmp_ne (pc := 415) h 422 (dk dt_L_tasks_4 12 rfl) rfl (by omega) (fun c415 => ?_) (fun c415 => ?_)
        ·
          exact absurd c415 (by decide)
        ·
          refine v_iconst (pc := 418) h (dk dt_L_tasks_4 13 rfl) ?_
          refine v_goto (pc := 419) h 423 (dk dt_L_tasks_4 14 rfl) rfl ?_
          exact v_zret (pc := 423) h r (dk dt_L_tasks_4 16 rfl) (by show kc + 20 ≤ 400; omega) (by show ns + 120 ≤ 2400; omega) (by omega) ⟨rfl, hT.1⟩
      refine v_iload (pc := 13) h (dk dt_L_tasks_0 9 rfl) rfl ?_
      refine v_iload_n (pc := 15) h (dk dt_L_tasks_0 10 rfl) rfl ?_
      refine v_icmp_ge (pc := 16) h 165 (dk dt_L_tasks_0 11 rfl) rfl (by omega) (fun c16 => ?_) (fun c16 => ?_)
      ·
        refine v_aload_n (pc := 165) h (dk dt_L_tasks_1 53 rfl) rfl ?_
        refine v_iconst (pc := 166) h (dk dt_L_tasks_1 54 rfl) ?_
        refine v_cVi (pc := 167) h (c_X11_load h.quiet hT.1 hT.2.1 (Or.inl rfl)) kv_X11_load sh0 wM_L_157 rfl rfl (Nat.le_of_ble_eq_true rfl) ⟨⟨Nat.le_of_ble_eq_true rfl, Nat.le_of_ble_eq_true rfl⟩, by show kc + 0 ≤ 400; omega, by show ns + 0 ≤ 2400; omega⟩ rfl rfl (dk dt_L_tasks_1 55 rfl) ?_
        refine v_l2d (pc := 170) h (dk dt_L_tasks_1 56 rfl) ?_
        refine v_aload_n (pc := 171) h (dk dt_L_tasks_1 57 rfl) rfl ?_
        refine v_iconst (pc := 172) h (dk dt_L_tasks_1 58 rfl) ?_
        refine v_cVi (pc := 173) h (c_X11_load h.quiet hT.1 hT.2.1 (Or.inr rfl)) kv_X11_load sh0 wM_L_157 rfl rfl (Nat.le_of_ble_eq_true rfl) ⟨⟨Nat.le_of_ble_eq_true rfl, Nat.le_of_ble_eq_true rfl⟩, by show kc + 0 ≤ 400; omega, by show ns + 0 ≤ 2400; omega⟩ rfl rfl (dk dt_L_tasks_1 59 rfl) ?_
        refine v_l2d (pc := 176) h (dk dt_L_tasks_1 60 rfl) ?_
        refine v_ddiv (pc := 177) h (dk dt_L_tasks_1 61 rfl) b1 ?_
        refine v_dstore (lv' := [(6, _), (4, _), (3, _), (0, _), (1, _), (2, _)]) (pc := 178) h (dk dt_L_tasks_1 62 rfl) (Nat.le_of_ble_eq_true rfl) rfl ?_
        refine v_dload (pc := 180) h (dk dt_L_tasks_1 63 rfl) rfl ?_
        refine v_dload (pc := 182) h (dk dt_L_tasks_2 0 rfl) rfl ?_
        refine v_dsub (pc := 184) h (dk dt_L_tasks_2 1 rfl) b2 ?_
        refine v_absd (pc := 185) h b2 (Nat.le_of_ble_eq_true rfl) (Nat.le_of_ble_eq_true rfl) (dk dt_L_tasks_2 2 rfl) ?_
        refine v_ldc2d (pc := 188) h wK_L_165 (dk dt_L_tasks_2 3 rfl) ?_
        refine v_dcmpL (pc := 191) h b4 (dk dt_L_tasks_2 4 rfl) (fun r191 h191 => ?_)
        refine v_if_le (pc := 192) h 197 (dk dt_L_tasks_2 5 rfl) rfl (by omega) (fun c192 => ?_) (fun c192 => ?_)
        ·
          refine v_iconst (pc := 197) h (dk dt_L_tasks_2 8 rfl) ?_
          refine v_istore (lv' := [(8, _), (6, _), (4, _), (3, _), (0, _), (1, _), (2, _)]) (pc := 198) h (dk dt_L_tasks_2 9 rfl) (Nat.le_of_ble_eq_true rfl) rfl ?_
          exact VV.loc (t_resp h hT h30 go403 ⟨by omega, by omega⟩ k 0 (by omega)) ⟨rfl, rfl, rfl, rfl, rfl, trivial⟩
        ·
          exact absurd c192 (by omega)
      ·
        exact absurd c16 (by omega)
    | succ d ih =>
      intro k n m hkn hn1 hn5 hT h30
      refine t_task h (k := k) (n := n) (by omega) hn5 hT h30 ⟨by omega, by omega⟩ fun m' hT' h30' => ?_
      have := ih (k + 1) n m' (by omega) hn1 hn5 hT' h30'
      rw [show 20 * (k + 1) = 20 * k + 20 by omega, show 120 * (k + 1) = 120 * k + 120 by omega] at this
      exact VV.loc this ⟨lvI (by omega), rfl, rfl, rfl, rfl, rfl, trivial⟩
  have kc : Nat := 0
  have ns : Nat := 0
  refine v_aload_n (pc := 0) h (dk dt_L_tasks_0 0 rfl) rfl ?_
  refine v_iconst (pc := 1) h (dk dt_L_tasks_0 1 rfl) ?_
  refine v_iconst (pc := 2) h (dk dt_L_tasks_0 2 rfl) ?_
  refine v_cS (pc := 3) h (c_L_from h.quiet (by omega) (by omega)) kv_L_from wM_L_75 rfl rfl (Nat.le_of_ble_eq_true rfl) (RM.of rfl) rfl rfl (dk dt_L_tasks_0 3 rfl) (fun v3 μ3 p3 => ?_)
  obtain ⟨nn, y, rfl, y1, y2, rfl⟩ := p3
  obtain ⟨n, hn⟩ : ∃ n : Nat, nn = (n : Int) := ⟨nn.toNat, by omega⟩
  subst hn
  have hT0 : TK 0 (mup μ 123 0 y) := TK_r ⟨hO, by rw [h0]; rfl, fun j hj => absurd hj (by omega)⟩ y
  generalize mup μ 123 0 y = m at hT0 ⊢
  refine v_istore_n (lv' := [(3, _), (0, _), (1, _), (2, _)]) (pc := 6) h (dk dt_L_tasks_0 4 rfl) (Nat.le_of_ble_eq_true rfl) rfl ?_
  refine v_dconst0 (pc := 7) h (dk dt_L_tasks_0 5 rfl) ?_
  refine v_dstore (lv' := [(4, _), (3, _), (0, _), (1, _), (2, _)]) (pc := 8) h (dk dt_L_tasks_0 6 rfl) (Nat.le_of_ble_eq_true rfl) rfl ?_
  refine v_iconst (pc := 10) h (dk dt_L_tasks_0 7 rfl) ?_
  refine v_istore (lv' := [(6, _), (4, _), (3, _), (0, _), (1, _), (2, _)]) (pc := 11) h (dk dt_L_tasks_0 8 rfl) (Nat.le_of_ble_eq_true rfl) rfl ?_
  exact VV.loc (loop n 0 n m (by omega) (by omega) (by omega) hT0 (fun j hj => absurd hj (by omega))) ⟨rfl, rfl, rfl, rfl, rfl, rfl, trivial⟩
end
