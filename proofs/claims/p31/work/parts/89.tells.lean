/-! ===== the law: all jobs are told ===== -/
theorem wM_L_88 : Cond.methodLink RL 88 yJ6_bitCount_0f7a4 ∈ TS := tsm 886 (by decide +kernel) rfl
/-- k jobs are told; of the next one the law has written vs -/
def JC (k : Nat) (wp : Int) (vs : List (Nat × Int)) (m : Mm) : Prop := TI k wp m ∧ ∀ q, q ∈ vs → m 124 (60 * k + q.1) = q.2
theorem JC_r {k : Nat} {wp : Int} {vs : List (Nat × Int)} {m : Mm} (h : JC k wp vs m) (y : Int) : JC k wp vs (mup m 123 0 y) := ⟨TI_r h.1 y, fun q hq => by rw [mup_nk (by decide)]; exact h.2 q hq⟩
theorem JC_w {k : Nat} {wp : Int} {vs : List (Nat × Int)} {m : Mm} (h : JC k wp vs m) (c : Nat) (v : Int) (hc : ∀ q, q ∈ vs → q.1 ≠ c) : JC k wp ((c, v) :: vs) (mup m 124 (60 * k + c) v) := by
  refine ⟨TI_w h.1, fun q hq => ?_⟩
  rcases List.mem_cons.mp hq with e | hq
  · rw [e, mup_eq]
  · rw [mup_ne (by have := hc q hq; omega)]; exact h.2 q hq
section
variable {a : Ax} {B : Nat} {D : va_G} {E : Nat → ClassId} {k n : Nat} {wp sp : Int} {m : Mm} {P : Pv} {X : Px} {l : Launch} {μ : Mm} {kb nb : Nat}
theorem t_locks (h : Ac a B D E RL cL_tells 11 rm_L_tells) (hk : k < 12) (hb : kb ≤ 2900 ∧ nb ≤ 17400) (next : ∀ m' kc ns, TI (k + 1) wp m' → kc ≤ kb → ns ≤ nb → VV a B (SP B D E m') kc ns 333 [(7, iI (k : Int)), (6, iI sp), (5, iI 1), (0, .ref (pl B 0)), (1, .ref (pl B 123)), (2, .ref (pl B 124)), (3, iI (n : Int)), (4, iI wp)] []) :
    ∀ (q : Nat) (m : Mm) (kc ns : Nat), TI (k + 1) wp m → kc + 20 * q ≤ kb → ns + 120 * q ≤ nb → VV a B (SP B D E m) kc ns 299 [(9, iI (q : Int)), (8, iI (60 * (k : Int))), (7, iI (k : Int)), (6, iI sp), (5, iI 1), (0, .ref (pl B 0)), (1, .ref (pl B 123)), (2, .ref (pl B 124)), (3, iI (n : Int)), (4, iI wp)] [] := by
  intro q
  induction q with
  | zero =>
    intro m kc ns hT hkc hns
    refine v_iload (pc := 299) h (dk dt_L_tells_2 53 rfl) rfl ?_
    refine v_if_le (pc := 301) h 333 (dk dt_L_tells_2 54 rfl) rfl (by omega) (fun c301 => ?_) (fun c301 => ?_)
    ·
      exact VV.loc (next m kc ns hT (by omega) (by omega)) ⟨rfl, rfl, rfl, rfl, rfl, rfl, rfl, rfl, trivial⟩
    ·
      exact absurd c301 (by omega)
  | succ q ih =>
    intro m kc ns hT hkc hns
    refine v_iload (pc := 299) h (dk dt_L_tells_2 53 rfl) rfl ?_
    refine v_if_le (pc := 301) h 333 (dk dt_L_tells_2 54 rfl) rfl (by omega) (fun c301 => ?_) (fun c301 => ?_)
    ·
      exact absurd c301 (by omega)
    ·
      refine v_iload (pc := 304) h (dk dt_L_tells_2 55 rfl) rfl ?_
      refine v_if_eq (pc := 306) h 324 (dk dt_L_tells_2 56 rfl) rfl (by omega) (fun c306 => ?_) (fun c306 => ?_)
      ·
        exact absurd c306 (by decide)
      ·
        refine v_aload_n (pc := 309) h (dk dt_L_tells_2 57 rfl) rfl ?_
        refine v_aload_n (pc := 310) h (dk dt_L_tells_2 58 rfl) rfl ?_
        refine v_aload_n (pc := 311) h (dk dt_L_tells_2 59 rfl) rfl ?_
        refine v_iload (pc := 312) h (dk dt_L_tells_2 60 rfl) rfl ?_
        refine v_callS (pc := 314) h (c_L_locks (k := k) (wp := wp) h.quiet hk hT) kv_L_locks wM_L_93 rfl rfl (Nat.le_of_ble_eq_true rfl) ⟨⟨Nat.le_of_ble_eq_true rfl, Nat.le_of_ble_eq_true rfl⟩, by show kc + 20 ≤ 3000; omega, by show ns + 120 ≤ 18000; omega⟩ (dk dt_L_tells_2 61 rfl) (fun v314 μ314 p314 => ?_)
        obtain ⟨rfl, hT1⟩ := p314
        refine v_if_eq (pc := 317) h 324 (dk dt_L_tells_2 62 rfl) rfl (by omega) (fun c317 => ?_) (fun c317 => ?_)
        ·
          exact absurd c317 (by decide)
        ·
          refine v_iconst (pc := 320) h (dk dt_L_tells_2 63 rfl) ?_
          refine v_goto (pc := 321) h 325 (dk dt_L_tells_3 0 rfl) rfl ?_
          refine v_istore (lv' := [(5, _), (9, _), (8, _), (7, _), (6, _), (0, _), (1, _), (2, _), (3, _), (4, _)]) (pc := 325) h (dk dt_L_tells_3 2 rfl) (Nat.le_of_ble_eq_true rfl) rfl ?_
          refine v_iinc (lv' := [(9, _), (5, _), (8, _), (7, _), (6, _), (0, _), (1, _), (2, _), (3, _), (4, _)]) (pc := 327) h (dk dt_L_tells_3 3 rfl) rfl (Nat.le_of_ble_eq_true rfl) rfl ?_
          refine v_goto (pc := 330) h 299 (dk dt_L_tells_3 4 rfl) rfl ?_
          exact VV.loc (ih _ _ _ hT1 (by simp only [rm_L_locks]; omega) (by simp only [rm_L_locks]; omega)) ⟨lvI (by omega), rfl, rfl, rfl, rfl, rfl, rfl, rfl, rfl, rfl, trivial⟩
theorem t_waits (h : Ac a B D E RL cL_tells 11 rm_L_tells) (hk : k < 12) (hb : kb ≤ 2800 ∧ nb ≤ 16800) (hwp : wp = 0 ∨ wp = 1) (next : ∀ m' kc ns, TI (k + 1) wp m' → kc ≤ kb → ns ≤ nb → VV a B (SP B D E m') kc ns 291 [(8, iI (60 * (k : Int))), (7, iI (k : Int)), (6, iI sp), (5, iI 1), (0, .ref (pl B 0)), (1, .ref (pl B 123)), (2, .ref (pl B 124)), (3, iI (n : Int)), (4, iI wp)] []) :
    ∀ (q : Nat) (m : Mm) (kc ns : Nat), TI (k + 1) wp m → kc + 20 * q ≤ kb → ns + 120 * q ≤ nb → VV a B (SP B D E m) kc ns 213 [(9, iI (q : Int)), (8, iI (60 * (k : Int))), (7, iI (k : Int)), (6, iI sp), (5, iI 1), (0, .ref (pl B 0)), (1, .ref (pl B 123)), (2, .ref (pl B 124)), (3, iI (n : Int)), (4, iI wp)] [] := by
  intro q
  induction q with
  | zero =>
    intro m kc ns hT hkc hns
    refine v_iload (pc := 213) h (dk dt_L_tells_2 4 rfl) rfl ?_
    refine v_if_le (pc := 215) h 291 (dk dt_L_tells_2 5 rfl) rfl (by omega) (fun c215 => ?_) (fun c215 => ?_)
    ·
      exact VV.loc (next m kc ns hT (by omega) (by omega)) ⟨rfl, rfl, rfl, rfl, rfl, rfl, rfl, rfl, rfl, trivial⟩
    ·
      exact absurd c215 (by omega)
  | succ q ih =>
    intro m kc ns hT hkc hns
    have i4 : (60 * (k : Int) + 4).toNat = 60 * k + 4 := by omega
    refine v_iload (pc := 213) h (dk dt_L_tells_2 4 rfl) rfl ?_
    refine v_if_le (pc := 215) h 291 (dk dt_L_tells_2 5 rfl) rfl (by omega) (fun c215 => ?_) (fun c215 => ?_)
    ·
      exact absurd c215 (by omega)
    ·
      refine v_iload (pc := 218) h (dk dt_L_tells_2 6 rfl) rfl ?_
      refine v_if_eq (pc := 220) h 291 (dk dt_L_tells_2 7 rfl) rfl (by omega) (fun c220 => ?_) (fun c220 => ?_)
      ·
        exact VV.loc (next m kc ns hT (by omega) (by omega)) ⟨rfl, rfl, rfl, rfl, rfl, rfl, rfl, rfl, rfl, trivial⟩
      ·
        refine v_iload (pc := 223) h (dk dt_L_tells_2 8 rfl) rfl ?_
        refine v_if_le (pc := 225) h 291 (dk dt_L_tells_2 9 rfl) rfl (by omega) (fun c225 => ?_) (fun c225 => ?_)
        ·
          exact VV.loc (next m kc ns hT (by omega) (by omega)) ⟨rfl, rfl, rfl, rfl, rfl, rfl, rfl, rfl, rfl, trivial⟩
        ·
          refine v_aload_n (pc := 228) h (dk dt_L_tells_2 10 rfl) rfl ?_
          refine v_cS (pc := 229) h (c_L_next h.quiet) kv_L_next wM_L_8 rfl rfl (Nat.le_of_ble_eq_true rfl) ⟨⟨Nat.le_of_ble_eq_true rfl, Nat.le_of_ble_eq_true rfl⟩, by show kc + 0 ≤ 3000; omega, by show ns + 0 ≤ 18000; omega⟩ rfl rfl (dk dt_L_tells_2 11 rfl) (fun v229 μ229 p229 => ?_)
          obtain ⟨x, y, rfl, y1, y2, rfl⟩ := p229
          have hT := TI_r hT y
          generalize mup m 123 0 y = m1 at hT ⊢
          refine v_iload (pc := 232) h (dk dt_L_tells_2 12 rfl) rfl ?_
          refine v_irem (pc := 234) h (dk dt_L_tells_2 13 rfl) (by omega) (by omega) ?_
          have hx := Int.emod_lt_of_pos x (show (0 : Int) < (k : Int) by omega)
          have hx2 := Int.emod_nonneg x (show (k : Int) ≠ 0 by omega)
          generalize x % (k : Int) = ot at hx hx2 ⊢
          obtain ⟨o, ho⟩ : ∃ o : Nat, ot = (o : Int) := ⟨ot.toNat, by omega⟩
          subst ho
          have hJ := hT.1.J.2 k (by have := hT.2.1; omega)
          have hx11 : (m1 11 k).toNat < 4096 := by have h1 := hJ.2.2.2.2.1; have h2 := p2lt (show k ≤ 12 by omega); have h3 : (2 : Nat) ^ 12 = 4096 := rfl; omega
          have hx11e : (((m1 11 k).toNat : Nat) : Int) = m1 11 k := by have h1 := hJ.2.2.2.2.1; omega
          have e4 : m1 124 (60 * k + 4) = m1 11 k := (hT.2.2.1 k (by omega)).2.2.2.2.1
          have h2o : 2 ^ o < 4096 := by have := Nat.pow_lt_pow_right (a := 2) (by omega) (show o < 12 by omega); have h3 : (2 : Nat) ^ 12 = 4096 := rfl; omega
          have hvl : ((m1 11 k).toNat ||| 2 ^ o) < 4096 := Nat.or_lt_two_pow (n := 12) hx11 h2o
          have ebor : bor (m1 11 k) (bsl 1 (o : Int)) = (((m1 11 k).toNat ||| 2 ^ o : Nat) : Int) := by rw [bsl_1 o (by omega), ← hx11e, bor_n (by omega) (by omega), hx11e]
          have hbc := bcF_is _ hvl
          generalize hv : ((m1 11 k).toNat ||| 2 ^ o) = v at hvl ebor hbc
          have hTa := TI_aft hT (by omega) (show o < k by omega) (v := (v : Int)) (by rw [hv])
          have hO1 : hOK (mup m1 124 (60 * k + 4) (v : Int)) := hO_c (fun a q => by funext b; exact mup_nk (by omega)) hT.1
          have e11 : mup m1 124 (60 * k + 4) (v : Int) 11 = m1 11 := by funext b; exact mup_nk (by decide)
          have e19 : mup m1 124 (60 * k + 4) (v : Int) 1 9 = ((k + 1 : Nat) : Int) := by rw [mup_nk (by decide)]; exact hT.2.1
          refine v_istore (lv' := [(10, _), (9, _), (8, _), (7, _), (6, _), (5, _), (0, _), (1, _), (2, _), (3, _), (4, _)]) (pc := 235) h (dk dt_L_tells_2 14 rfl) (Nat.le_of_ble_eq_true rfl) rfl ?_
          refine v_aload_n (pc := 237) h (dk dt_L_tells_2 15 rfl) rfl ?_
          refine v_iload (pc := 238) h (dk dt_L_tells_2 16 rfl) rfl ?_
          refine v_iconst (pc := 240) h (dk dt_L_tells_2 17 rfl) ?_
          refine v_iadd (pc := 241) h (dk dt_L_tells_2 18 rfl) ?_
          refine v_dup2 (pc := 242) h (dk dt_L_tells_2 19 rfl) rfl rfl ?_
          refine v_iald (pc := 243) h sh124 (Nat.le_of_ble_eq_true rfl) (by omega) (dk dt_L_tells_2 20 rfl) ?_
          rw [i4, e4]
          refine v_iconst (pc := 244) h (dk dt_L_tells_2 21 rfl) ?_
          refine v_iload (pc := 245) h (dk dt_L_tells_2 22 rfl) rfl ?_
          refine v_ishl (pc := 247) h (dk dt_L_tells_2 23 rfl) ?_
          refine v_ior (pc := 248) h (dk dt_L_tells_2 24 rfl) ?_
          rw [ebor]
          refine v_iast (pc := 249) h sh124 (Nat.le_of_ble_eq_true rfl) (by omega) (dk dt_L_tells_2 25 rfl) ?_
          rw [i4]
          refine v_iload (pc := 250) h (dk dt_L_tells_2 26 rfl) rfl ?_
          refine v_if_eq (pc := 252) h 282 (dk dt_L_tells_2 27 rfl) rfl (by omega) (fun c252 => ?_) (fun c252 => ?_)
          ·
            exact absurd c252 (by decide)
          ·
            refine v_aload_n (pc := 255) h (dk dt_L_tells_2 28 rfl) rfl ?_
            refine v_iconst (pc := 256) h (dk dt_L_tells_2 29 rfl) ?_
            refine v_iload (pc := 257) h (dk dt_L_tells_2 30 rfl) rfl ?_
            refine v_iload (pc := 259) h (dk dt_L_tells_2 31 rfl) rfl ?_
            refine v_iconst (pc := 261) h (dk dt_L_tells_2 32 rfl) ?_
            refine v_iconst (pc := 262) h (dk dt_L_tells_2 33 rfl) ?_
            refine v_callH (pc := 263) h (d_after h.quiet hO1 (by omega)) kh_L_done wM_L_84 rfl rfl (Nat.le_of_ble_eq_true rfl) ⟨⟨Nat.le_of_ble_eq_true rfl, Nat.le_of_ble_eq_true rfl⟩, by show kc + 20 ≤ 3000; omega, by show ns + 120 ≤ 18000; omega⟩ (dk dt_L_tells_2 34 rfl) (fun v263 μ263 p263 => ?_)
            rcases p263 with ⟨-, rfl, rfl⟩ | ⟨q, -, -⟩
            case inr => exact absurd (show rcAft (mup m1 124 (60 * k + 4) (v : Int) 1 9) (k : Int) (o : Int) = 0 by unfold rcAft; rw [e19, if_neg (by omega), if_neg (by omega)]) q
            rw [e11, Int.toNat_natCast, Int.toNat_natCast, hv]
            refine v_aload_n (pc := 266) h (dk dt_L_tells_2 35 rfl) rfl ?_
            refine v_iload (pc := 267) h (dk dt_L_tells_2 36 rfl) rfl ?_
            refine v_iconst (pc := 269) h (dk dt_L_tells_2 37 rfl) ?_
            refine v_iadd (pc := 270) h (dk dt_L_tells_2 38 rfl) ?_
            refine v_iald (pc := 271) h sh124 (Nat.le_of_ble_eq_true rfl) (by omega) (dk dt_L_tells_2 39 rfl) ?_
            rw [i4, mup_nk (show (124 : Nat) ≠ 11 by decide), mup_nk (show (124 : Nat) ≠ 0 by decide), mup_eq]
            refine v_oSi (pc := 272) h (c_J6_bitCount h.quiet) kv_J6_bitCount wM_L_88 rfl rfl (Nat.le_of_ble_eq_true rfl) ⟨⟨Nat.le_of_ble_eq_true rfl, Nat.le_of_ble_eq_true rfl⟩, by show kc + 20 + (0) ≤ 3000; omega, by show ns + 120 + (0) ≤ 18000; omega⟩ rfl rfl (dk dt_L_tells_2 40 rfl) ?_
            rw [hbc]
            refine v_icmp_neS (pc := 275) h 282 (dk dt_L_tells_2 41 rfl) rfl ?_
            refine v_iconst (pc := 278) h (dk dt_L_tells_2 42 rfl) ?_
            refine v_goto (pc := 279) h 283 (dk dt_L_tells_2 43 rfl) rfl ?_
            refine v_istore (lv' := [(5, _), (10, _), (9, _), (8, _), (7, _), (6, _), (0, _), (1, _), (2, _), (3, _), (4, _)]) (pc := 283) h (dk dt_L_tells_2 45 rfl) (Nat.le_of_ble_eq_true rfl) rfl ?_
            refine v_iinc (lv' := [(9, _), (5, _), (10, _), (8, _), (7, _), (6, _), (0, _), (1, _), (2, _), (3, _), (4, _)]) (pc := 285) h (dk dt_L_tells_2 46 rfl) rfl (Nat.le_of_ble_eq_true rfl) rfl ?_
            refine v_goto (pc := 288) h 213 (dk dt_L_tells_2 47 rfl) rfl ?_
            exact VV.loc (ih _ _ _ hTa (by simp only [rm_L_done]; omega) (by simp only [rm_L_done]; omega)) ⟨lvI (by omega), rfl, rfl, rfl, rfl, rfl, rfl, rfl, rfl, rfl, trivial⟩
set_option maxHeartbeats 1000000 in
theorem t_job (h : Ac a B D E RL cL_tells 11 rm_L_tells) (hk : k < 12) (hkb : kb ≤ 2600 ∧ nb ≤ 15600) (hwp : wp = 0 ∨ wp = 1) (hsp : 1 ≤ sp ∧ sp ≤ 40) {m : Mm} (hT : TI k wp m) {kc ns : Nat} (hkc : kc + 120 ≤ kb) (hns : ns + 720 ≤ nb)
    (next : ∀ m' kc ns, TI (k + 1) wp m' → kc ≤ kb → ns ≤ nb → VV a B (SP B D E m') kc ns 333 [(7, iI (k : Int)), (6, iI sp), (5, iI 1), (0, .ref (pl B 0)), (1, .ref (pl B 123)), (2, .ref (pl B 124)), (3, iI (n : Int)), (4, iI wp)] []) :
    VV a B (SP B D E m) kc ns 46 [(7, iI (k : Int)), (6, iI sp), (5, iI 1), (0, .ref (pl B 0)), (1, .ref (pl B 123)), (2, .ref (pl B 124)), (3, iI (n : Int)), (4, iI wp)] [] := by
  have i0 : (60 * (k : Int)).toNat = 60 * k := by omega
  have i1 : (60 * (k : Int) + 1).toNat = 60 * k + 1 := by omega
  have i2 : (60 * (k : Int) + 2).toNat = 60 * k + 2 := by omega
  have i3 : (60 * (k : Int) + 3).toNat = 60 * k + 3 := by omega
  have i4 : (60 * (k : Int) + 4).toNat = 60 * k + 4 := by omega
  have i5 : (60 * (k : Int) + 5).toNat = 60 * k + 5 := by omega
  have go291 : ∀ m' kc ns, TI (k + 1) wp m' → kc + 60 ≤ kb → ns + 360 ≤ nb → VV a B (SP B D E m') kc ns 291 [(8, iI (60 * (k : Int))), (7, iI (k : Int)), (6, iI sp), (5, iI 1), (0, .ref (pl B 0)), (1, .ref (pl B 123)), (2, .ref (pl B 124)), (3, iI (n : Int)), (4, iI wp)] [] := by
    intro m kc ns hT hkc hns
    refine v_aload_n (pc := 291) h (dk dt_L_tells_2 48 rfl) rfl ?_
    refine v_cS (pc := 292) h (c_L_next h.quiet) kv_L_next wM_L_8 rfl rfl (Nat.le_of_ble_eq_true rfl) ⟨⟨Nat.le_of_ble_eq_true rfl, Nat.le_of_ble_eq_true rfl⟩, by show kc + 0 ≤ 3000; omega, by show ns + 0 ≤ 18000; omega⟩ rfl rfl (dk dt_L_tells_2 49 rfl) (fun v292 μ292 p292 => ?_)
    obtain ⟨x, y, rfl, y1, y2, rfl⟩ := p292
    have hT := TI_r hT y
    generalize mup m 123 0 y = m1 at hT ⊢
    refine v_iconst (pc := 295) h (dk dt_L_tells_2 50 rfl) ?_
    refine v_irem (pc := 296) h (dk dt_L_tells_2 51 rfl) (by omega) (by omega) ?_
    have hx := Int.emod_lt_of_pos x (show (0 : Int) < 4 by decide)
    have hx2 := Int.emod_nonneg x (show (4 : Int) ≠ 0 by decide)
    generalize x % 4 = qt at hx hx2 ⊢
    obtain ⟨q, hq⟩ : ∃ q : Nat, qt = (q : Int) := ⟨qt.toNat, by omega⟩
    subst hq
    refine v_istore (lv' := [(9, _), (8, _), (7, _), (6, _), (5, _), (0, _), (1, _), (2, _), (3, _), (4, _)]) (pc := 297) h (dk dt_L_tells_2 52 rfl) (Nat.le_of_ble_eq_true rfl) rfl ?_
    exact VV.loc (t_locks h hk ⟨by omega, by omega⟩ next q m1 kc ns hT (by omega) (by omega)) ⟨rfl, rfl, rfl, rfl, rfl, rfl, rfl, rfl, rfl, rfl, trivial⟩
  have go138 : ∀ (m : Mm) (c le d : Int), JC k wp [(1, le), (0, c)] m → (0 ≤ c ∧ c ≤ 39) → (1 ≤ le ∧ le ≤ 14) → (0 ≤ d ∧ d ≤ 100) → (d = 0 ∨ c - 1 ≤ d) → VV a B (SP B D E m) kc ns 138 [(8, iI (60 * (k : Int))), (7, iI (k : Int)), (6, iI sp), (5, iI 1), (0, .ref (pl B 0)), (1, .ref (pl B 123)), (2, .ref (pl B 124)), (3, iI (n : Int)), (4, iI wp)] [iI d, iI (60 * (k : Int) + 2), .ref (pl B 124)] := by
    intro m c le d hJ hc hl hd hdc
    refine v_iast (pc := 138) h sh124 (Nat.le_of_ble_eq_true rfl) (by omega) (dk dt_L_tells_1 14 rfl) ?_
    rw [i2]
    have hJ := JC_w hJ 2 d (by simp)
    generalize mup m 124 (60 * k + 2) d = m1 at hJ ⊢
    refine v_aload_n (pc := 139) h (dk dt_L_tells_1 15 rfl) rfl ?_
    refine v_iload (pc := 140) h (dk dt_L_tells_1 16 rfl) rfl ?_
    refine v_iconst (pc := 142) h (dk dt_L_tells_1 17 rfl) ?_
    refine v_iadd (pc := 143) h (dk dt_L_tells_1 18 rfl) ?_
    refine v_aload_n (pc := 144) h (dk dt_L_tells_1 19 rfl) rfl ?_
    refine v_iconst (pc := 145) h (dk dt_L_tells_1 20 rfl) ?_
    refine v_bipush (pc := 146) h (dk dt_L_tells_1 21 rfl) rfl ?_
    refine v_cS (pc := 148) h (c_L_from h.quiet (by omega) (by omega)) kv_L_from wM_L_75 rfl rfl (Nat.le_of_ble_eq_true rfl) ⟨⟨Nat.le_of_ble_eq_true rfl, Nat.le_of_ble_eq_true rfl⟩, by show kc + 0 ≤ 3000; omega, by show ns + 0 ≤ 18000; omega⟩ rfl rfl (dk dt_L_tells_1 22 rfl) (fun v148 μ148 p148 => ?_)
    obtain ⟨we, y, rfl, y1, y2, rfl⟩ := p148
    have hJ := JC_r hJ y
    generalize mup m1 123 0 y = m2 at hJ ⊢
    refine v_iast (pc := 151) h sh124 (Nat.le_of_ble_eq_true rfl) (by omega) (dk dt_L_tells_1 23 rfl) ?_
    rw [i3]
    have hJ := JC_w hJ 3 we (by simp)
    generalize mup m2 124 (60 * k + 3) we = m3 at hJ ⊢
    refine v_aload_n (pc := 152) h (dk dt_L_tells_1 24 rfl) rfl ?_
    refine v_iload (pc := 153) h (dk dt_L_tells_1 25 rfl) rfl ?_
    refine v_iconst (pc := 155) h (dk dt_L_tells_1 26 rfl) ?_
    refine v_iadd (pc := 156) h (dk dt_L_tells_1 27 rfl) ?_
    refine v_iconst (pc := 157) h (dk dt_L_tells_1 28 rfl) ?_
    refine v_iast (pc := 158) h sh124 (Nat.le_of_ble_eq_true rfl) (by omega) (dk dt_L_tells_1 29 rfl) ?_
    rw [i4]
    have hJ := JC_w hJ 4 0 (by simp)
    generalize mup m3 124 (60 * k + 4) 0 = m4 at hJ ⊢
    refine v_aload_n (pc := 159) h (dk dt_L_tells_1 30 rfl) rfl ?_
    refine v_iload (pc := 160) h (dk dt_L_tells_1 31 rfl) rfl ?_
    refine v_iconst (pc := 162) h (dk dt_L_tells_1 32 rfl) ?_
    refine v_iadd (pc := 163) h (dk dt_L_tells_1 33 rfl) ?_
    refine v_iconst (pc := 164) h (dk dt_L_tells_1 34 rfl) ?_
    refine v_iast (pc := 165) h sh124 (Nat.le_of_ble_eq_true rfl) (by omega) (dk dt_L_tells_1 35 rfl) ?_
    rw [i5]
    have hJ := JC_w hJ 5 0 (by simp)
    generalize mup m4 124 (60 * k + 5) 0 = m5 at hJ ⊢
    obtain ⟨hT5, hv⟩ := hJ
    have e0 : m5 124 (60 * k) = c := hv (0, c) (by simp)
    have e1 : m5 124 (60 * k + 1) = le := hv (1, le) (by simp)
    have e2 : m5 124 (60 * k + 2) = d := hv (2, d) (by simp)
    have e3 : m5 124 (60 * k + 3) = we := hv (3, we) (by simp)
    have e4 : m5 124 (60 * k + 4) = 0 := hv (4, 0) (by simp)
    have e5 : m5 124 (60 * k + 5) = 0 := hv (5, 0) (by simp)
    have hTj := TI_job hT5 hk (c := c) (le := le) (d := d) (we := we) (by omega) (by omega) (by omega) (by omega) hdc e0 e1 e2 e3 e4 e5
    clear hv
    refine v_aload_n (pc := 166) h (dk dt_L_tells_1 36 rfl) rfl ?_
    refine v_iconst (pc := 167) h (dk dt_L_tells_1 37 rfl) ?_
    refine v_aload_n (pc := 168) h (dk dt_L_tells_1 38 rfl) rfl ?_
    refine v_iload (pc := 169) h (dk dt_L_tells_1 39 rfl) rfl ?_
    refine v_iald (pc := 171) h sh124 (Nat.le_of_ble_eq_true rfl) (by omega) (dk dt_L_tells_1 40 rfl) ?_
    rw [i0, e0]
    refine v_aload_n (pc := 172) h (dk dt_L_tells_1 41 rfl) rfl ?_
    refine v_iload (pc := 173) h (dk dt_L_tells_1 42 rfl) rfl ?_
    refine v_iconst (pc := 175) h (dk dt_L_tells_1 43 rfl) ?_
    refine v_iadd (pc := 176) h (dk dt_L_tells_1 44 rfl) ?_
    refine v_iald (pc := 177) h sh124 (Nat.le_of_ble_eq_true rfl) (by omega) (dk dt_L_tells_1 45 rfl) ?_
    rw [i1, e1]
    refine v_aload_n (pc := 178) h (dk dt_L_tells_1 46 rfl) rfl ?_
    refine v_iload (pc := 179) h (dk dt_L_tells_1 47 rfl) rfl ?_
    refine v_iconst (pc := 181) h (dk dt_L_tells_1 48 rfl) ?_
    refine v_iadd (pc := 182) h (dk dt_L_tells_1 49 rfl) ?_
    refine v_iald (pc := 183) h sh124 (Nat.le_of_ble_eq_true rfl) (by omega) (dk dt_L_tells_1 50 rfl) ?_
    rw [i2, e2]
    refine v_aload_n (pc := 184) h (dk dt_L_tells_1 51 rfl) rfl ?_
    refine v_iload (pc := 185) h (dk dt_L_tells_1 52 rfl) rfl ?_
    refine v_iconst (pc := 187) h (dk dt_L_tells_1 53 rfl) ?_
    refine v_iadd (pc := 188) h (dk dt_L_tells_1 54 rfl) ?_
    refine v_iald (pc := 189) h sh124 (Nat.le_of_ble_eq_true rfl) (by omega) (dk dt_L_tells_1 55 rfl) ?_
    rw [i3, e3]
    refine v_callH (pc := 190) h (d_job h.quiet hT5.1 (by omega) (by omega)) kh_L_done wM_L_84 rfl rfl (Nat.le_of_ble_eq_true rfl) ⟨⟨Nat.le_of_ble_eq_true rfl, Nat.le_of_ble_eq_true rfl⟩, by show kc + 20 ≤ 3000; omega, by show ns + 120 ≤ 18000; omega⟩ (dk dt_L_tells_1 56 rfl) (fun v190 μ190 p190 => ?_)
    rcases p190 with ⟨-, rfl, rfl⟩ | ⟨q, -, -⟩
    case inr => exact absurd (show rcJob (m5 1 9) c le d we = 0 by unfold rcJob; rw [hT5.2.1, if_neg (by omega), if_neg (by omega)]) q
    rw [hT5.2.1]
    generalize mtell (mup m5 0 7 0) c le d we = m6 at hTj ⊢
    refine v_iload (pc := 193) h (dk dt_L_tells_1 57 rfl) rfl ?_
    refine v_icmp_neS (pc := 195) h 202 (dk dt_L_tells_1 58 rfl) rfl ?_
    refine v_iconst (pc := 198) h (dk dt_L_tells_1 59 rfl) ?_
    refine v_goto (pc := 199) h 203 (dk dt_L_tells_1 60 rfl) rfl ?_
    refine v_istore (lv' := [(5, _), (8, _), (7, _), (6, _), (0, _), (1, _), (2, _), (3, _), (4, _)]) (pc := 203) h (dk dt_L_tells_1 62 rfl) (Nat.le_of_ble_eq_true rfl) rfl ?_
    refine v_aload_n (pc := 205) h (dk dt_L_tells_1 63 rfl) rfl ?_
    refine v_cS (pc := 206) h (c_L_next h.quiet) kv_L_next wM_L_8 rfl rfl (Nat.le_of_ble_eq_true rfl) ⟨⟨Nat.le_of_ble_eq_true rfl, Nat.le_of_ble_eq_true rfl⟩, by show kc + 20 + (0) ≤ 3000; omega, by show ns + 120 + (0) ≤ 18000; omega⟩ rfl rfl (dk dt_L_tells_2 0 rfl) (fun v206 μ206 p206 => ?_)
    obtain ⟨x, y3, rfl, x1, x2, rfl⟩ := p206
    have hT7 := TI_r hTj y3
    generalize mup m6 123 0 y3 = m7 at hT7 ⊢
    refine v_iconst (pc := 209) h (dk dt_L_tells_2 1 rfl) ?_
    refine v_irem (pc := 210) h (dk dt_L_tells_2 2 rfl) (by omega) (by omega) ?_
    have hx := Int.emod_lt_of_pos x (show (0 : Int) < 3 by decide)
    have hx2 := Int.emod_nonneg x (show (3 : Int) ≠ 0 by decide)
    generalize x % 3 = qt at hx hx2 ⊢
    obtain ⟨q, hq⟩ : ∃ q : Nat, qt = (q : Int) := ⟨qt.toNat, by omega⟩
    subst hq
    refine v_istore (lv' := [(9, _), (5, _), (8, _), (7, _), (6, _), (0, _), (1, _), (2, _), (3, _), (4, _)]) (pc := 211) h (dk dt_L_tells_2 3 rfl) (Nat.le_of_ble_eq_true rfl) rfl ?_
    exact VV.loc (t_waits (kb := kb - 60) (nb := nb - 360) h hk ⟨by omega, by omega⟩ hwp (fun m' kc' ns' q1 q2 q3 => go291 m' kc' ns' q1 (by omega) (by omega)) q m7 _ _ hT7 (by simp only [rm_L_done]; omega) (by simp only [rm_L_done]; omega)) ⟨rfl, rfl, rfl, rfl, rfl, rfl, rfl, rfl, rfl, rfl, trivial⟩
  have go131 : ∀ (m : Mm) (c le hi : Int), JC k wp [(1, le), (0, c)] m → (0 ≤ c ∧ c ≤ 39) → (1 ≤ le ∧ le ≤ 14) → (0 ≤ hi ∧ hi ≤ 50) → VV a B (SP B D E m) kc ns 131 [(8, iI (60 * (k : Int))), (7, iI (k : Int)), (6, iI sp), (5, iI 1), (0, .ref (pl B 0)), (1, .ref (pl B 123)), (2, .ref (pl B 124)), (3, iI (n : Int)), (4, iI wp)] [iI hi, iI (-1), .ref (pl B 123), iI c, iI 1, iI (60 * (k : Int) + 2), .ref (pl B 124)] := by
    intro m c le hi hJ hc hl hhi
    refine v_cS (pc := 131) h (c_L_from h.quiet (by omega) (by omega)) kv_L_from wM_L_75 rfl rfl (Nat.le_of_ble_eq_true rfl) ⟨⟨Nat.le_of_ble_eq_true rfl, Nat.le_of_ble_eq_true rfl⟩, by show kc + 0 ≤ 3000; omega, by show ns + 0 ≤ 18000; omega⟩ rfl rfl (dk dt_L_tells_1 11 rfl) (fun v131 μ131 p131 => ?_)
    obtain ⟨x, y, rfl, y1, y2, rfl⟩ := p131
    have hJ := JC_r hJ y
    generalize mup m 123 0 y = m1 at hJ ⊢
    refine v_iadd (pc := 134) h (dk dt_L_tells_1 12 rfl) ?_
    refine v_max (pc := 135) h km_max wM_L_79 (by omega) (Nat.le_of_ble_eq_true rfl) ⟨Nat.le_of_ble_eq_true rfl, Nat.le_of_ble_eq_true rfl, by show kc ≤ 3000; omega, by show ns ≤ 18000; omega⟩ (dk dt_L_tells_1 13 rfl) ?_
    exact go138 m1 c le _ hJ hc hl (by split <;> omega) (by right; split <;> omega)
  have go90 : ∀ (m : Mm) (c le : Int), JC k wp [(1, le), (0, c)] m → (0 ≤ c ∧ c ≤ 39) → (1 ≤ le ∧ le ≤ 14) → VV a B (SP B D E m) kc ns 90 [(8, iI (60 * (k : Int))), (7, iI (k : Int)), (6, iI sp), (5, iI 1), (0, .ref (pl B 0)), (1, .ref (pl B 123)), (2, .ref (pl B 124)), (3, iI (n : Int)), (4, iI wp)] [] := by
    intro m c le hJ hc hl
    refine v_aload_n (pc := 90) h (dk dt_L_tells_0 50 rfl) rfl ?_
    refine v_iload (pc := 91) h (dk dt_L_tells_0 51 rfl) rfl ?_
    refine v_iconst (pc := 93) h (dk dt_L_tells_0 52 rfl) ?_
    refine v_iadd (pc := 94) h (dk dt_L_tells_0 53 rfl) ?_
    refine v_aload_n (pc := 95) h (dk dt_L_tells_0 54 rfl) rfl ?_
    refine v_cS (pc := 96) h (c_L_next h.quiet) kv_L_next wM_L_8 rfl rfl (Nat.le_of_ble_eq_true rfl) ⟨⟨Nat.le_of_ble_eq_true rfl, Nat.le_of_ble_eq_true rfl⟩, by show kc + 0 ≤ 3000; omega, by show ns + 0 ≤ 18000; omega⟩ rfl rfl (dk dt_L_tells_0 55 rfl) (fun v96 μ96 p96 => ?_)
    obtain ⟨x, y, rfl, y1, y2, rfl⟩ := p96
    have hJ := JC_r hJ y
    generalize mup m 123 0 y = m1 at hJ ⊢
    refine v_iconst (pc := 99) h (dk dt_L_tells_0 56 rfl) ?_
    refine v_irem (pc := 100) h (dk dt_L_tells_0 57 rfl) (by omega) (by omega) ?_
    refine v_if_ne (pc := 101) h 108 (dk dt_L_tells_0 58 rfl) rfl (by omega) (fun c101 => ?_) (fun c101 => ?_)
    ·
      refine v_iconst (pc := 108) h (dk dt_L_tells_0 61 rfl) ?_
      refine v_aload_n (pc := 109) h (dk dt_L_tells_0 62 rfl) rfl ?_
      refine v_iload (pc := 110) h (dk dt_L_tells_0 63 rfl) rfl ?_
      refine v_iald (pc := 112) h sh124 (Nat.le_of_ble_eq_true rfl) (by omega) (dk dt_L_tells_1 0 rfl) ?_
      rw [i0, show m1 124 (60 * k) = c from hJ.2 (0, c) (by simp)]
      refine v_aload_n (pc := 113) h (dk dt_L_tells_1 1 rfl) rfl ?_
      refine v_iconst (pc := 114) h (dk dt_L_tells_1 2 rfl) ?_
      refine v_aload_n (pc := 115) h (dk dt_L_tells_1 3 rfl) rfl ?_
      refine v_cS (pc := 116) h (c_L_next h.quiet) kv_L_next wM_L_8 rfl rfl (Nat.le_of_ble_eq_true rfl) ⟨⟨Nat.le_of_ble_eq_true rfl, Nat.le_of_ble_eq_true rfl⟩, by show kc + 0 ≤ 3000; omega, by show ns + 0 ≤ 18000; omega⟩ rfl rfl (dk dt_L_tells_1 4 rfl) (fun v116 μ116 p116 => ?_)
      obtain ⟨x2, y3, rfl, z1, z2, rfl⟩ := p116
      have hJ := JC_r hJ y3
      generalize mup m1 123 0 y3 = m2 at hJ ⊢
      refine v_iconst (pc := 119) h (dk dt_L_tells_1 5 rfl) ?_
      refine v_irem (pc := 120) h (dk dt_L_tells_1 6 rfl) (by omega) (by omega) ?_
      refine v_if_ne (pc := 121) h 129 (dk dt_L_tells_1 7 rfl) rfl (by omega) (fun c121 => ?_) (fun c121 => ?_)
      ·
        refine v_bipush (pc := 129) h (dk dt_L_tells_1 10 rfl) rfl ?_
        exact go131 m2 c le _ hJ hc hl (by omega)
      ·
        refine v_bipush (pc := 124) h (dk dt_L_tells_1 8 rfl) rfl ?_
        refine v_goto (pc := 126) h 131 (dk dt_L_tells_1 9 rfl) rfl ?_
        exact go131 m2 c le _ hJ hc hl (by omega)
    ·
      refine v_iconst (pc := 104) h (dk dt_L_tells_0 59 rfl) ?_
      refine v_goto (pc := 105) h 138 (dk dt_L_tells_0 60 rfl) rfl ?_
      exact go138 m1 c le 0 hJ hc hl (by omega) (Or.inl rfl)
  have go86 : ∀ (m : Mm) (c hi : Int), JC k wp [(0, c)] m → (0 ≤ c ∧ c ≤ 39) → (5 ≤ hi ∧ hi ≤ 14) → VV a B (SP B D E m) kc ns 86 [(8, iI (60 * (k : Int))), (7, iI (k : Int)), (6, iI sp), (5, iI 1), (0, .ref (pl B 0)), (1, .ref (pl B 123)), (2, .ref (pl B 124)), (3, iI (n : Int)), (4, iI wp)] [iI hi, iI 1, .ref (pl B 123), iI (60 * (k : Int) + 1), .ref (pl B 124)] := by
    intro m c hi hJ hc hhi
    refine v_cS (pc := 86) h (c_L_from h.quiet (by omega) (by omega)) kv_L_from wM_L_75 rfl rfl (Nat.le_of_ble_eq_true rfl) ⟨⟨Nat.le_of_ble_eq_true rfl, Nat.le_of_ble_eq_true rfl⟩, by show kc + 0 ≤ 3000; omega, by show ns + 0 ≤ 18000; omega⟩ rfl rfl (dk dt_L_tells_0 48 rfl) (fun v86 μ86 p86 => ?_)
    obtain ⟨le, y, rfl, y1, y2, rfl⟩ := p86
    have hJ := JC_r hJ y
    generalize mup m 123 0 y = m1 at hJ ⊢
    refine v_iast (pc := 89) h sh124 (Nat.le_of_ble_eq_true rfl) (by omega) (dk dt_L_tells_0 49 rfl) ?_
    rw [i1]
    have hJ := JC_w hJ 1 le (by simp)
    generalize mup m1 124 (60 * k + 1) le = m2 at hJ ⊢
    exact go90 m2 c le hJ hc (by omega)
  refine v_bipush (pc := 46) h (dk dt_L_tells_0 23 rfl) rfl ?_
  refine v_iload (pc := 48) h (dk dt_L_tells_0 24 rfl) rfl ?_
  refine v_imul (pc := 50) h (dk dt_L_tells_0 25 rfl) ?_
  refine v_istore (lv' := [(8, _), (7, _), (6, _), (5, _), (0, _), (1, _), (2, _), (3, _), (4, _)]) (pc := 51) h (dk dt_L_tells_0 26 rfl) (Nat.le_of_ble_eq_true rfl) rfl ?_
  refine v_aload_n (pc := 53) h (dk dt_L_tells_0 27 rfl) rfl ?_
  refine v_iload (pc := 54) h (dk dt_L_tells_0 28 rfl) rfl ?_
  refine v_aload_n (pc := 56) h (dk dt_L_tells_0 29 rfl) rfl ?_
  refine v_cS (pc := 57) h (c_L_next h.quiet) kv_L_next wM_L_8 rfl rfl (Nat.le_of_ble_eq_true rfl) ⟨⟨Nat.le_of_ble_eq_true rfl, Nat.le_of_ble_eq_true rfl⟩, by show kc + 0 ≤ 3000; omega, by show ns + 0 ≤ 18000; omega⟩ rfl rfl (dk dt_L_tells_0 30 rfl) (fun v57 μ57 p57 => ?_)
  obtain ⟨x, y, rfl, y1, y2, rfl⟩ := p57
  have hT1 := TI_r hT y
  generalize mup m 123 0 y = m1 at hT1 ⊢
  refine v_iload (pc := 60) h (dk dt_L_tells_0 31 rfl) rfl ?_
  refine v_irem (pc := 62) h (dk dt_L_tells_0 32 rfl) (by omega) (by omega) ?_
  have hx := Int.emod_lt_of_pos x (show 0 < sp by omega)
  have hx2 := Int.emod_nonneg x (show sp ≠ 0 by omega)
  generalize x % sp = c at hx hx2 ⊢
  refine v_iast (pc := 63) h sh124 (Nat.le_of_ble_eq_true rfl) (by omega) (dk dt_L_tells_0 33 rfl) ?_
  rw [i0]
  have hJ : JC k wp [(0, c)] (mup m1 124 (60 * k) c) := JC_w (vs := []) (c := 0) (v := c) ⟨hT1, fun q hq => absurd hq (by simp)⟩ (fun q hq => absurd hq (by simp))
  generalize mup m1 124 (60 * k) c = m2 at hJ ⊢
  refine v_aload_n (pc := 64) h (dk dt_L_tells_0 34 rfl) rfl ?_
  refine v_iload (pc := 65) h (dk dt_L_tells_0 35 rfl) rfl ?_
  refine v_iconst (pc := 67) h (dk dt_L_tells_0 36 rfl) ?_
  refine v_iadd (pc := 68) h (dk dt_L_tells_0 37 rfl) ?_
  refine v_aload_n (pc := 69) h (dk dt_L_tells_0 38 rfl) rfl ?_
  refine v_iconst (pc := 70) h (dk dt_L_tells_0 39 rfl) ?_
  refine v_aload_n (pc := 71) h (dk dt_L_tells_0 40 rfl) rfl ?_
  refine v_cS (pc := 72) h (c_L_next h.quiet) kv_L_next wM_L_8 rfl rfl (Nat.le_of_ble_eq_true rfl) ⟨⟨Nat.le_of_ble_eq_true rfl, Nat.le_of_ble_eq_true rfl⟩, by show kc + 0 ≤ 3000; omega, by show ns + 0 ≤ 18000; omega⟩ rfl rfl (dk dt_L_tells_0 41 rfl) (fun v72 μ72 p72 => ?_)
  obtain ⟨x2, y3, rfl, z1, z2, rfl⟩ := p72
  have hJ := JC_r hJ y3
  generalize mup m2 123 0 y3 = m3 at hJ ⊢
  refine v_iconst (pc := 75) h (dk dt_L_tells_0 42 rfl) ?_
  refine v_irem (pc := 76) h (dk dt_L_tells_0 43 rfl) (by omega) (by omega) ?_
  refine v_if_ne (pc := 77) h 85 (dk dt_L_tells_0 44 rfl) rfl (by omega) (fun c77 => ?_) (fun c77 => ?_)
  ·
    refine v_iconst (pc := 85) h (dk dt_L_tells_0 47 rfl) ?_
    exact go86 m3 c _ hJ (by omega) (by omega)
  ·
    refine v_bipush (pc := 80) h (dk dt_L_tells_0 45 rfl) rfl ?_
    refine v_goto (pc := 82) h 86 (dk dt_L_tells_0 46 rfl) rfl ?_
    exact go86 m3 c _ hJ (by omega) (by omega)
theorem c_L_tells (hst : l.stackTraces = false) (hO : hOK μ) (hn12 : n ≤ 12) (hwp : wp = 0 ∨ wp = 1) :
    Ct l B D E yL_tells (.code yL_tells cL_tells 11 (some .boolean)) rm_L_tells [.ref (pl B 0), .ref (pl B 123), .ref (pl B 124), iI (n : Int), iI wp] μ (fun v m => v = some (iI 1) ∧ TI n wp m) NX := by
  have hT0 : TI 0 wp (mup (mup μ 1 9 0) 0 7 0) := by
    have same : ∀ a, a ≠ 0 → a ≠ 1 → mup (mup μ 1 9 0) 0 7 0 a = μ a := fun a h0 h1 => by funext b; rw [mup_nk h0, mup_nk h1]
    have e1 : mup (mup μ 1 9 0) 0 7 0 1 9 = 0 := by rw [mup_nk (by decide), mup_eq]
    refine ⟨hOK_no ⟨by rw [e1]; omega, fun j hj => by rw [e1] at hj; omega⟩ ?_ ?_ (mup_eq _ _ _ _), e1, fun j hj => absurd hj (by omega), fun j hj => absurd hj (by omega), fun _ j hj => absurd hj (by omega)⟩
    · unfold okTk
      rw [same 20 (by decide) (by decide), same 22 (by decide) (by decide), same 24 (by decide) (by decide), same 26 (by decide) (by decide)]
      exact hO.T
    · unfold okWy
      rw [same 27 (by decide) (by decide)]
      exact hO.W
  have hb := hO.J.1
  refine ct_of (own := RL) (lv := [(0, _), (1, _), (2, _), (3, _), (4, _)]) hst (by decide) rfl rfl (Nat.le_of_ble_eq_true rfl) fun a h r t => ?_
  have loop : ∀ (d k kc ns : Nat) (m : Mm) (sp : Int), k + d = n → TI k wp m → (1 ≤ sp ∧ sp ≤ 40) → kc ≤ 130 * k → ns ≤ 780 * k → VV a B (SP B D E m) kc ns 35 [(7, iI (k : Int)), (6, iI sp), (5, iI 1), (0, .ref (pl B 0)), (1, .ref (pl B 123)), (2, .ref (pl B 124)), (3, iI (n : Int)), (4, iI wp)] [] := by
    intro d
    induction d with
    | zero =>
      intro k kc ns m sp hk hT hsp hkc hns
      have ek : k = n := by omega
      subst ek
      have n := k
      refine v_iload (pc := 35) h (dk dt_L_tells_0 18 rfl) rfl ?_
      refine v_iload_n (pc := 37) h (dk dt_L_tells_0 19 rfl) rfl ?_
      refine v_icmp_ge (pc := 38) h 339 (dk dt_L_tells_0 20 rfl) rfl (by omega) (fun c38 => ?_) (fun c38 => ?_)
      ·
        refine v_iload (pc := 339) h (dk dt_L_tells_3 7 rfl) rfl ?_
        exact v_zret (pc := 341) h r (dk dt_L_tells_3 8 rfl) (by show kc ≤ 3000; omega) (by show ns ≤ 18000; omega) (by omega) ⟨rfl, hT⟩
      ·
        exact absurd c38 (by omega)
    | succ d ih =>
      intro k kc ns m sp hk hT hsp hkc hns
      have go46 := t_job (n := n) (kb := kc + 120) (nb := ns + 720) h (show k < 12 by omega) ⟨by omega, by omega⟩ hwp hsp hT (Nat.le_refl (kc + 120)) (Nat.le_refl (ns + 720)) (fun m' kc' ns' q1 q2 q3 => by
        refine v_iinc (lv' := [(7, _), (6, _), (5, _), (0, _), (1, _), (2, _), (3, _), (4, _)]) (pc := 333) h (dk dt_L_tells_3 5 rfl) rfl (Nat.le_of_ble_eq_true rfl) rfl ?_
        refine v_goto (pc := 336) h 35 (dk dt_L_tells_3 6 rfl) rfl ?_
        exact VV.loc (ih (k + 1) kc' ns' m' sp (by omega) q1 hsp (by omega) (by omega)) ⟨rfl, rfl, rfl, rfl, rfl, rfl, rfl, rfl, trivial⟩
        )
      refine v_iload (pc := 35) h (dk dt_L_tells_0 18 rfl) rfl ?_
      refine v_iload_n (pc := 37) h (dk dt_L_tells_0 19 rfl) rfl ?_
      refine v_icmp_ge (pc := 38) h 339 (dk dt_L_tells_0 20 rfl) rfl (by omega) (fun c38 => ?_) (fun c38 => ?_)
      ·
        exact absurd c38 (by omega)
      ·
        refine v_iload (pc := 41) h (dk dt_L_tells_0 21 rfl) rfl ?_
        refine v_if_eq (pc := 43) h 339 (dk dt_L_tells_0 22 rfl) rfl (by omega) (fun c43 => ?_) (fun c43 => ?_)
        ·
          exact absurd c43 (by decide)
        ·
          exact VV.loc go46 ⟨rfl, rfl, rfl, rfl, rfl, rfl, rfl, rfl, trivial⟩
  refine v_aload_n (pc := 0) h (dk dt_L_tells_0 0 rfl) rfl ?_
  refine v_cVi (pc := 1) h (c_X11_clear h.quiet) kv_X11_clear sh0 wM_L_71 rfl rfl (Nat.le_of_ble_eq_true rfl) (RM.of rfl) rfl rfl (dk dt_L_tells_0 1 rfl) ?_
  refine v_if_lt (pc := 4) h 11 (dk dt_L_tells_0 2 rfl) rfl (by omega) (fun c4 => ?_) (fun c4 => ?_)
  ·
    exact absurd c4 (by omega)
  ·
    refine v_iconst (pc := 7) h (dk dt_L_tells_0 3 rfl) ?_
    refine v_goto (pc := 8) h 12 (dk dt_L_tells_0 4 rfl) rfl ?_
    refine v_istore (lv' := [(5, _), (0, _), (1, _), (2, _), (3, _), (4, _)]) (pc := 12) h (dk dt_L_tells_0 6 rfl) (Nat.le_of_ble_eq_true rfl) rfl ?_
    refine v_aload_n (pc := 14) h (dk dt_L_tells_0 7 rfl) rfl ?_
    refine v_cS (pc := 15) h (c_L_next h.quiet) kv_L_next wM_L_8 rfl rfl (Nat.le_of_ble_eq_true rfl) (RM.of rfl) rfl rfl (dk dt_L_tells_0 8 rfl) (fun v15 μ15 p15 => ?_)
    obtain ⟨x, y, rfl, y1, y2, rfl⟩ := p15
    have hT1 := TI_r hT0 y
    generalize mup (mup (mup μ 1 9 0) 0 7 0) 123 0 y = m1 at hT1 ⊢
    refine v_iconst (pc := 18) h (dk dt_L_tells_0 9 rfl) ?_
    refine v_irem (pc := 19) h (dk dt_L_tells_0 10 rfl) (by omega) (by omega) ?_
    refine v_if_ne (pc := 20) h 28 (dk dt_L_tells_0 11 rfl) rfl (by omega) (fun c20 => ?_) (fun c20 => ?_)
    ·
      refine v_bipush (pc := 28) h (dk dt_L_tells_0 14 rfl) rfl ?_
      refine v_istore (lv' := [(6, _), (5, _), (0, _), (1, _), (2, _), (3, _), (4, _)]) (pc := 30) h (dk dt_L_tells_0 15 rfl) (Nat.le_of_ble_eq_true rfl) rfl ?_
      refine v_iconst (pc := 32) h (dk dt_L_tells_0 16 rfl) ?_
      refine v_istore (lv' := [(7, _), (6, _), (5, _), (0, _), (1, _), (2, _), (3, _), (4, _)]) (pc := 33) h (dk dt_L_tells_0 17 rfl) (Nat.le_of_ble_eq_true rfl) rfl ?_
      exact VV.loc (loop n 0 _ _ m1 _ (by omega) hT1 (by omega) (Nat.le_of_ble_eq_true rfl) (Nat.le_of_ble_eq_true rfl)) ⟨rfl, rfl, rfl, rfl, rfl, rfl, rfl, rfl, trivial⟩
    ·
      refine v_bipush (pc := 23) h (dk dt_L_tells_0 12 rfl) rfl ?_
      refine v_goto (pc := 25) h 30 (dk dt_L_tells_0 13 rfl) rfl ?_
      refine v_istore (lv' := [(6, _), (5, _), (0, _), (1, _), (2, _), (3, _), (4, _)]) (pc := 30) h (dk dt_L_tells_0 15 rfl) (Nat.le_of_ble_eq_true rfl) rfl ?_
      refine v_iconst (pc := 32) h (dk dt_L_tells_0 16 rfl) ?_
      refine v_istore (lv' := [(7, _), (6, _), (5, _), (0, _), (1, _), (2, _), (3, _), (4, _)]) (pc := 33) h (dk dt_L_tells_0 17 rfl) (Nat.le_of_ble_eq_true rfl) rfl ?_
      exact VV.loc (loop n 0 _ _ m1 _ (by omega) hT1 (by omega) (Nat.le_of_ble_eq_true rfl) (Nat.le_of_ble_eq_true rfl)) ⟨rfl, rfl, rfl, rfl, rfl, rfl, rfl, rfl, trivial⟩
end
