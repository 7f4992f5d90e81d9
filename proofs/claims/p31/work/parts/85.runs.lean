/-! ===== the law: all rules on the same jobs ===== -/
/-- the rule of the law's k-th walk -/
def rho (k : Nat) : Int := if k = 0 then 3 else if k ≤ 3 then (k : Int) - 1 else (k : Int)
theorem rho_b {k : Nat} (h : k < 9) : 0 ≤ rho k ∧ rho k ≤ 8 := by unfold rho; split <;> (try split) <;> omega
theorem rho_6 {k : Nat} : rho k = 6 ↔ k = 6 := by unfold rho; split <;> (try split) <;> omega
theorem rho_ex {x : Int} (h : 0 ≤ x ∧ x ≤ 8) : ∃ k, k < 9 ∧ rho k = x := by
  by_cases h3 : x = 3
  · exact ⟨0, by omega, by unfold rho; rw [if_pos rfl, h3]⟩
  · by_cases h2 : x ≤ 2
    · exact ⟨x.toNat + 1, by omega, by unfold rho; rw [if_neg (by omega), if_pos (by omega)]; omega⟩
    · exact ⟨x.toNat, by omega, by unfold rho; rw [if_neg (by omega), if_neg (by omega)]; omega⟩
/-- a sum of idle moments and others -/
def patF (g : Nat → Int) : Nat → Int
  | 0 => 0
  | t + 1 => 31 * patF g t + (if g t = -1 then 1 else 2)
theorem patF_c {g g' : Nat → Int} : ∀ {T : Nat}, (∀ b, b < T → (g' b = -1 ↔ g b = -1)) → patF g' T = patF g T := by
  intro T
  induction T with
  | zero => intro _; rfl
  | succ T ih =>
    intro h
    simp only [patF]
    rw [ih (fun b hb => h b (by omega))]
    by_cases q : g T = -1
    · rw [if_pos q, if_pos ((h T (by omega)).mpr q)]
    · rw [if_neg q, if_neg (fun z => q ((h T (by omega)).mp z))]
theorem eqA_c {J : Mm} {n : Nat} {x y : Nat → Int} (hD : okD J n) (h : eqA J n x) (hc : ∀ k c, k < n → c < 20 → y (60 * k + c) = x (60 * k + c)) : eqA J n y := by
  intro k hk
  obtain ⟨q0, q1, q2, q3, q4, q5, q6⟩ := h k hk
  have hk3 := okD_k hD hk
  have e := fun c hx => hc k c hk hx
  refine ⟨(e 0 (by decide)).trans q0, (e 1 (by decide)).trans q1, (e 2 (by decide)).trans q2, (e 3 (by decide)).trans q3, (e 4 (by decide)).trans q4, (e 5 (by decide)).trans q5, fun p hp => ?_⟩
  obtain ⟨r0, r1, r2⟩ := q6 p hp
  refine ⟨?_, ?_, ?_⟩
  · rw [Nat.add_assoc]; exact (e (6 + 3 * p) (by omega)).trans (by rw [← Nat.add_assoc]; exact r0)
  · rw [Nat.add_assoc]; exact (e (7 + 3 * p) (by omega)).trans (by rw [← Nat.add_assoc]; exact r1)
  · rw [Nat.add_assoc]; exact (e (8 + 3 * p) (by omega)).trans (by rw [← Nat.add_assoc]; exact r2)
/-- the house as it stands ahead of the runs -/
def RX (n : Nat) (sl co le ri z wp : Int) (J : Mm) (m : Mm) : Prop :=
  (hOK m ∧ m 1 9 = (n : Int) ∧ eqA J n (m 124) ∧ jm m = J) ∧ (m 27 0 = sl ∧ m 27 1 = co ∧ m 27 2 = ri ∧ m 27 3 = z ∧ m 27 4 = le) ∧ ((1 ≤ sl ∧ sl ≤ 20) ∧ (0 ≤ co ∧ co ≤ 5) ∧ (le = 0 ∨ le = 1) ∧ (0 ≤ ri ∧ ri ≤ 99)) ∧
  (∀ k, k < n → J 2 k = 0 ∨ J 0 k - 1 ≤ J 2 k) ∧ (wp = 0 ∨ wp = 1) ∧ (wp = 0 → ∀ k, k < n → J 4 k = 0)
section
variable {n : Nat} {sl co le ri z wp : Int} {J m m' : Mm}
theorem RX.D (h : RX n sl co le ri z wp J m) : okD J n := by rw [← h.1.2.2.2]; exact okJD h.1.1.J h.1.2.1
theorem RX.K (h : RX n sl co le ri z wp J m) {r : Int} (hr : 0 ≤ r ∧ r ≤ 8) : okK (kof r sl co le ri) := okK_kof hr h.2.2.1.1 h.2.2.1.2.1 h.2.2.1.2.2.1 h.2.2.1.2.2.2
theorem RX.kM (h : RX n sl co le ri z wp J m) (r : Int) : kM m r = kof r sl co le ri := by
  obtain ⟨-, ⟨h0, h1, h2, -, h4⟩, -⟩ := h
  show kof r (m 27 0) (m 27 1) (m 27 4) (m 27 2) = _
  rw [h0, h1, h2, h4]
/-- behind a walk -/
theorem RX.walk (h : RX n sl co le ri z wp J m) {K : Nat → Int} (hP : PW m n J K z m') : RX n sl co le ri z wp J m' := by
  have hD := h.D
  obtain ⟨⟨h1, h2, h3, h4⟩, ⟨h5, h6, h7, h8, h9⟩, h10, h11⟩ := h
  obtain ⟨p1, -, p3, p4, -⟩ := hP
  have e : ∀ a, a ≠ 0 → a < 28 → m' a = m a := fun a q1 q2 => p3 a q1 (Or.inl q2) (by omega) (by omega) (by omega)
  refine ⟨⟨p1, by rw [e 1 (by decide) (by decide)]; exact h2, eqA_c hD h3 p4, ?_⟩, ?_, h10, h11⟩
  · rw [← h4]
    unfold jm
    rw [e 3 (by decide) (by decide), e 5 (by decide) (by decide), e 7 (by decide) (by decide), e 9 (by decide) (by decide), e 11 (by decide) (by decide), e 13 (by decide) (by decide), e 15 (by decide) (by decide), e 17 (by decide) (by decide), e 19 (by decide) (by decide)]
  · rw [e 27 (by decide) (by decide)]; exact ⟨h5, h6, h7, h8, h9⟩
abbrev pat0 (J : Mm) (n : Nat) (sl co le ri z : Int) : Int := patF ((fnF J n (kof 3 sl co le ri) z).1 7) ((fnF J n (kof 3 sl co le ri) z).1 6 6).toNat
theorem pat_0 (h : RX n sl co le ri z wp J m) (hco : co = 0) {r : Int} (hr : 0 ≤ r ∧ r ≤ 8) {T : Nat} (hT : (fnF J n (kof r sl co le ri) z).1 6 6 = (T : Int)) : patF ((fnF J n (kof r sl co le ri) z).1 7) T = pat0 J n sl co le ri z := by
  have hb := fn_busy h.D (h.K hr) (h.K (r := 3) (by omega)) hco hco (z := z) (z' := z)
  show _ = patF _ ((fnF J n (kof 3 sl co le ri) z).1 6 6).toNat
  rw [← hb.1, hT, Int.toNat_natCast]
  exact patF_c (fun b hb' => (hb.2 b (by omega)).1)
/-- a rule keeps all deadlines just if the nearest deadline does -/
theorem keep_iff (h : RX n sl co le ri z wp J m) (hco : co = 0) (hw : wp = 0) {r : Int} (hr : 0 ≤ r ∧ r ≤ 8) (hl : lateE J n (kof r sl co le ri) z = 0) : lateE J n (kof 6 sl co le ri) z = 0 :=
  edf_full h.D (h.K (r := 6) (by omega)) rfl hco (h.2.2.2.2.2 hw) (any_full h.D (h.K hr) hco hl)
end
section
variable {a : Ax} {B : Nat} {D : va_G} {E : Nat → ClassId} {n : Nat} {sl co le ri z wp : Int} {J m : Mm} {P : Pv} {X : Px}
/-- one rule, behind its walk -/
theorem r_walked (h : Ac a B D E RL cL_runs 18 rm_L_runs) (hX : RX n sl co le ri z wp J m) (hsl : sl ≤ 6) {k : Nat} (hk : k < 9) {m' : Mm} (hP : PW m n J (kof (rho k) sl co le ri) z m') {kp bz ls : Int}
    (hkp : kp = 0 ∨ kp = 1) (hkp6 : 6 < k → (kp = 1 ↔ lateE J n (kof 6 sl co le ri) z = 0)) (hbz : co = 0 → 0 < k → bz = pat0 J n sl co le ri z) (hls : co = 0 → wp = 0 → 0 < k → ls = sumE J n (kof 3 sl co le ri) z) {kc ns : Nat} (hkc : kc ≤ 450 + 480 * k) (hns : ns ≤ 2700 + 2880 * k)
    (next : ∀ kp bz ls : Int, (kp = 0 ∨ kp = 1) → (6 < k + 1 → (kp = 1 ↔ lateE J n (kof 6 sl co le ri) z = 0)) → (co = 0 → bz = pat0 J n sl co le ri z) → (co = 0 → wp = 0 → ls = sumE J n (kof 3 sl co le ri) z) → VV a B (SP B D E m') (kc + 40) (ns + 240) 379 [(14, iI (k : Int)), (13, iI kp), (12, iI (anP (fun i => decide (lateE J n (kof (rho i) sl co le ri) z = 0)) (k + 1))), (11, iI bz), (10, iI ls), (9, iI le), (8, iI sl), (7, iI co), (0, .ref (pl B 0)), (1, .ref (pl B 123)), (2, .ref (pl B 124)), (3, iI (n : Int)), (4, iI wp), (5, .ref (pl B 125)), (6, .ref (pl B 126))] []) :
    VV a B (SP B D E m') kc ns 166 [(15, iI (rho k)), (14, iI (k : Int)), (13, iI kp), (12, iI (anP (fun i => decide (lateE J n (kof (rho i) sl co le ri) z = 0)) k)), (11, iI bz), (10, iI ls), (9, iI le), (8, iI sl), (7, iI co), (0, .ref (pl B 0)), (1, .ref (pl B 123)), (2, .ref (pl B 124)), (3, iI (n : Int)), (4, iI wp), (5, .ref (pl B 125)), (6, .ref (pl B 126))] [] := by
  have hX' := hX.walk hP
  have hD := hX.D
  have hn12 : n ≤ 12 := by have := hD.1; omega
  have hrb := rho_b hk
  have hK := hX.K hrb
  have hR := hX.2.2.1
  obtain ⟨p1, p7, p3, p4, ⟨T, hT, e66, m0, m125⟩, m1, m3, m44⟩ := hP
  generalize hg : fnF J n (kof (rho k) sl co le ri) z = F at *
  have hFv : (F.1 6 6 = (T : Int)) := e66
  have hg12 : ∀ t, t < T → InR (m' 125 t) := fun t ht => by
    have hvl := (fn_is (J := J) (n := n) (K := kof (rho k) sl co le ri) hD hK (z := z)).1.2.2.1 t (by rw [hg, e66]; omega)
    rw [hg] at hvl
    rw [m125 t ht]
    omega
  have hsum := smF_e (J := J) (n := n) (K := kof (rho k) sl co le ri) hD hK (z := z)
  have hsum3 := smF_e (J := J) (n := n) (K := kof 3 sl co le ri) hD (hX.K (r := 3) (by omega)) (z := z)
  have hle0 := hR.2.2.1
  have i0 : m' 126 (0 : Int).toNat = (T : Int) := m0
  have i1 : m' 126 (1 : Int).toNat = sumE J n (kof (rho k) sl co le ri) z := m1
  have i3 : m' 126 (3 : Int).toNat = if lateE J n (kof (rho k) sl co le ri) z = 0 then 1 else 0 := m3
  have i3b : 0 ≤ (if lateE J n (kof (rho k) sl co le ri) z = 0 then (1 : Int) else 0) ∧ (if lateE J n (kof (rho k) sl co le ri) z = 0 then (1 : Int) else 0) ≤ 1 := by split <;> omega
  have i3y : (if lateE J n (kof (rho k) sl co le ri) z = 0 then (1 : Int) else 0) = 1 → lateE J n (kof (rho k) sl co le ri) z = 0 := fun q => by
    by_cases y : lateE J n (kof (rho k) sl co le ri) z = 0
    · exact y
    · rw [if_neg y] at q; omega
  have i3n : (if lateE J n (kof (rho k) sl co le ri) z = 0 then (1 : Int) else 0) ≠ 1 → ¬ lateE J n (kof (rho k) sl co le ri) z = 0 := fun q y => q (if_pos y)
  have go351 : ∀ kp bz ls : Int, (kp = 0 ∨ kp = 1) → (6 < k + 1 → (kp = 1 ↔ lateE J n (kof 6 sl co le ri) z = 0)) → (co = 0 → bz = pat0 J n sl co le ri z) → (co = 0 → wp = 0 → ls = sumE J n (kof 3 sl co le ri) z) → VV a B (SP B D E m') kc ns 351 [(15, iI (rho k)), (14, iI (k : Int)), (13, iI kp), (12, iI (anP (fun i => decide (lateE J n (kof (rho i) sl co le ri) z = 0)) (k + 1))), (11, iI bz), (10, iI ls), (9, iI le), (8, iI sl), (7, iI co), (0, .ref (pl B 0)), (1, .ref (pl B 123)), (2, .ref (pl B 124)), (3, iI (n : Int)), (4, iI wp), (5, .ref (pl B 125)), (6, .ref (pl B 126))] [] := by
    intro kp bz ls q1 q2 q3 q4
    have nx := next kp bz ls q1 q2 q3 q4
    have hsh : rho k = 8 → co = 0 → le ≠ 0 → ∀ x, x < n → (∀ i, i < n → i ≠ x → m' 9 i < m' 9 x) → m' 30 x ≤ lMost (m' 13) (m' 15) (m' 17) (m' 19) n x (m' 13 x).toNat := by
      intro y8 y0 yl x hx htop
      have hj := hX'.1.2.2.2
      have h4 := fn_top (J := J) (n := n) (K := kof (rho k) sl co le ri) hD hK y8 yl y0 hx (fun i hi hne => by rw [← hj]; exact htop i hi hne) (z := z)
      rw [(m44 x hx).2.2, ← hg]
      refine Int.le_trans h4 ?_
      rw [← hj]
      exact Int.le_refl _
    refine v_iload (pc := 351) h (dk dt_L_runs_3 0 rfl) rfl ?_
    refine v_bipush (pc := 353) h (dk dt_L_runs_3 1 rfl) rfl ?_
    refine v_icmp_ne (pc := 355) h 379 (dk dt_L_runs_3 2 rfl) rfl (by omega) (fun c355 => ?_) (fun c355 => ?_)
    ·
      first
        | exact VV.loc nx ⟨rfl, rfl, rfl, rfl, rfl, rfl, rfl, rfl, rfl, rfl, rfl, rfl, rfl, rfl, rfl, trivial⟩
        | exact VV.widen (Nat.le_add_right _ _) (Nat.le_add_right _ _) (VV.loc nx ⟨rfl, rfl, rfl, rfl, rfl, rfl, rfl, rfl, rfl, rfl, rfl, rfl, rfl, rfl, rfl, trivial⟩)
    ·
      refine v_iload (pc := 358) h (dk dt_L_runs_3 3 rfl) rfl ?_
      refine v_if_ne (pc := 360) h 379 (dk dt_L_runs_3 4 rfl) rfl (by omega) (fun c360 => ?_) (fun c360 => ?_)
      ·
        first
          | exact VV.loc nx ⟨rfl, rfl, rfl, rfl, rfl, rfl, rfl, rfl, rfl, rfl, rfl, rfl, rfl, rfl, rfl, trivial⟩
          | exact VV.widen (Nat.le_add_right _ _) (Nat.le_add_right _ _) (VV.loc nx ⟨rfl, rfl, rfl, rfl, rfl, rfl, rfl, rfl, rfl, rfl, rfl, rfl, rfl, rfl, rfl, trivial⟩)
      ·
        refine v_iload (pc := 363) h (dk dt_L_runs_3 5 rfl) rfl ?_
        refine v_if_eq (pc := 365) h 379 (dk dt_L_runs_3 6 rfl) rfl (by omega) (fun c365 => ?_) (fun c365 => ?_)
        ·
          first
            | exact VV.loc nx ⟨rfl, rfl, rfl, rfl, rfl, rfl, rfl, rfl, rfl, rfl, rfl, rfl, rfl, rfl, rfl, trivial⟩
            | exact VV.widen (Nat.le_add_right _ _) (Nat.le_add_right _ _) (VV.loc nx ⟨rfl, rfl, rfl, rfl, rfl, rfl, rfl, rfl, rfl, rfl, rfl, rfl, rfl, rfl, rfl, trivial⟩)
        ·
          refine v_aload_n (pc := 368) h (dk dt_L_runs_3 7 rfl) rfl ?_
          refine v_aload_n (pc := 369) h (dk dt_L_runs_3 8 rfl) rfl ?_
          refine v_iload_n (pc := 370) h (dk dt_L_runs_3 9 rfl) rfl ?_
          refine v_callSi (pc := 371) h (c_L_isShort (n := n) h.quiet hX'.1.1 hX'.1.2.1 p7 (by rw [hX'.1.2.2.2]; exact hX'.1.2.2.1) (hsh c355 c360 (by omega))) kv_L_isShort wM_L_140 rfl rfl (Nat.le_of_ble_eq_true rfl) ⟨⟨Nat.le_of_ble_eq_true rfl, Nat.le_of_ble_eq_true rfl⟩, by show kc + 40 ≤ 5000; omega, by show ns + 240 ≤ 30000; omega⟩ (dk dt_L_runs_3 10 rfl) ?_
          refine v_if_ne (pc := 374) h 379 (dk dt_L_runs_3 11 rfl) rfl (by omega) (fun c374 => ?_) (fun c374 => ?_)
          ·
            first
              | exact VV.loc nx ⟨rfl, rfl, rfl, rfl, rfl, rfl, rfl, rfl, rfl, rfl, rfl, rfl, rfl, rfl, rfl, trivial⟩
              | exact VV.widen (Nat.le_add_right _ _) (Nat.le_add_right _ _) (VV.loc nx ⟨rfl, rfl, rfl, rfl, rfl, rfl, rfl, rfl, rfl, rfl, rfl, rfl, rfl, rfl, rfl, trivial⟩)
          ·
            exact absurd c374 (by decide)
  have go324 : ∀ bz ls : Int, (co = 0 → bz = pat0 J n sl co le ri z) → (co = 0 → wp = 0 → ls = sumE J n (kof 3 sl co le ri) z) → VV a B (SP B D E m') kc ns 324 [(15, iI (rho k)), (14, iI (k : Int)), (13, iI kp), (12, iI (anP (fun i => decide (lateE J n (kof (rho i) sl co le ri) z = 0)) (k + 1))), (11, iI bz), (10, iI ls), (9, iI le), (8, iI sl), (7, iI co), (0, .ref (pl B 0)), (1, .ref (pl B 123)), (2, .ref (pl B 124)), (3, iI (n : Int)), (4, iI wp), (5, .ref (pl B 125)), (6, .ref (pl B 126))] [] := by
    intro bz ls q3 q4
    refine v_iload (pc := 324) h (dk dt_L_runs_2 50 rfl) rfl ?_
    refine v_bipush (pc := 326) h (dk dt_L_runs_2 51 rfl) rfl ?_
    refine v_icmp_ne (pc := 328) h 347 (dk dt_L_runs_2 52 rfl) rfl (by omega) (fun c328 => ?_) (fun c328 => ?_)
    ·
      refine v_iload (pc := 347) h (dk dt_L_runs_2 62 rfl) rfl ?_
      refine v_istore (lv' := [(13, _), (15, _), (14, _), (12, _), (11, _), (10, _), (9, _), (8, _), (7, _), (0, _), (1, _), (2, _), (3, _), (4, _), (5, _), (6, _)]) (pc := 349) h (dk dt_L_runs_2 63 rfl) (Nat.le_of_ble_eq_true rfl) rfl ?_
      first
        | exact VV.loc (go351 kp bz ls hkp (fun y => hkp6 (by have := rho_6 (k := k); omega)) q3 q4) ⟨rfl, rfl, rfl, rfl, rfl, rfl, rfl, rfl, rfl, rfl, rfl, rfl, rfl, rfl, rfl, rfl, trivial⟩
        | exact VV.loc (go351 1 bz ls (Or.inr rfl) (fun _ => by have e := i3y c336; rw [c328] at e; exact ⟨fun _ => e, fun _ => rfl⟩) q3 q4) ⟨rfl, rfl, rfl, rfl, rfl, rfl, rfl, rfl, rfl, rfl, rfl, rfl, rfl, rfl, rfl, rfl, trivial⟩
        | exact VV.loc (go351 0 bz ls (Or.inl rfl) (fun _ => by have e := i3n c336; rw [c328] at e; exact ⟨fun y => absurd y (by decide), fun y => absurd y e⟩) q3 q4) ⟨rfl, rfl, rfl, rfl, rfl, rfl, rfl, rfl, rfl, rfl, rfl, rfl, rfl, rfl, rfl, rfl, trivial⟩
    ·
      refine v_aload (pc := 331) h (dk dt_L_runs_2 53 rfl) rfl ?_
      refine v_iconst (pc := 333) h (dk dt_L_runs_2 54 rfl) ?_
      refine v_iald (pc := 334) h sh126 (Nat.le_of_ble_eq_true rfl) (by omega) (dk dt_L_runs_2 55 rfl) ?_
      rw [i3]
      refine v_iconst (pc := 335) h (dk dt_L_runs_2 56 rfl) ?_
      refine v_icmp_ne (pc := 336) h 343 (dk dt_L_runs_2 57 rfl) rfl (by omega) (fun c336 => ?_) (fun c336 => ?_)
      ·
        refine v_iconst (pc := 343) h (dk dt_L_runs_2 60 rfl) ?_
        refine v_goto (pc := 344) h 349 (dk dt_L_runs_2 61 rfl) rfl ?_
        refine v_istore (lv' := [(13, _), (15, _), (14, _), (12, _), (11, _), (10, _), (9, _), (8, _), (7, _), (0, _), (1, _), (2, _), (3, _), (4, _), (5, _), (6, _)]) (pc := 349) h (dk dt_L_runs_2 63 rfl) (Nat.le_of_ble_eq_true rfl) rfl ?_
        first
          | exact VV.loc (go351 kp bz ls hkp (fun y => hkp6 (by have := rho_6 (k := k); omega)) q3 q4) ⟨rfl, rfl, rfl, rfl, rfl, rfl, rfl, rfl, rfl, rfl, rfl, rfl, rfl, rfl, rfl, rfl, trivial⟩
          | exact VV.loc (go351 1 bz ls (Or.inr rfl) (fun _ => by have e := i3y c336; rw [c328] at e; exact ⟨fun _ => e, fun _ => rfl⟩) q3 q4) ⟨rfl, rfl, rfl, rfl, rfl, rfl, rfl, rfl, rfl, rfl, rfl, rfl, rfl, rfl, rfl, rfl, trivial⟩
          | exact VV.loc (go351 0 bz ls (Or.inl rfl) (fun _ => by have e := i3n c336; rw [c328] at e; exact ⟨fun y => absurd y (by decide), fun y => absurd y e⟩) q3 q4) ⟨rfl, rfl, rfl, rfl, rfl, rfl, rfl, rfl, rfl, rfl, rfl, rfl, rfl, rfl, rfl, rfl, trivial⟩
      ·
        refine v_iconst (pc := 339) h (dk dt_L_runs_2 58 rfl) ?_
        refine v_goto (pc := 340) h 349 (dk dt_L_runs_2 59 rfl) rfl ?_
        refine v_istore (lv' := [(13, _), (15, _), (14, _), (12, _), (11, _), (10, _), (9, _), (8, _), (7, _), (0, _), (1, _), (2, _), (3, _), (4, _), (5, _), (6, _)]) (pc := 349) h (dk dt_L_runs_2 63 rfl) (Nat.le_of_ble_eq_true rfl) rfl ?_
        first
          | exact VV.loc (go351 kp bz ls hkp (fun y => hkp6 (by have := rho_6 (k := k); omega)) q3 q4) ⟨rfl, rfl, rfl, rfl, rfl, rfl, rfl, rfl, rfl, rfl, rfl, rfl, rfl, rfl, rfl, rfl, trivial⟩
          | exact VV.loc (go351 1 bz ls (Or.inr rfl) (fun _ => by have e := i3y c336; rw [c328] at e; exact ⟨fun _ => e, fun _ => rfl⟩) q3 q4) ⟨rfl, rfl, rfl, rfl, rfl, rfl, rfl, rfl, rfl, rfl, rfl, rfl, rfl, rfl, rfl, rfl, trivial⟩
          | exact VV.loc (go351 0 bz ls (Or.inl rfl) (fun _ => by have e := i3n c336; rw [c328] at e; exact ⟨fun y => absurd y (by decide), fun y => absurd y e⟩) q3 q4) ⟨rfl, rfl, rfl, rfl, rfl, rfl, rfl, rfl, rfl, rfl, rfl, rfl, rfl, rfl, rfl, rfl, trivial⟩
  have go306 : ∀ bz ls : Int, (co = 0 → bz = pat0 J n sl co le ri z) → (co = 0 → wp = 0 → ls = sumE J n (kof 3 sl co le ri) z) → VV a B (SP B D E m') kc ns 306 [(15, iI (rho k)), (14, iI (k : Int)), (13, iI kp), (12, iI (anP (fun i => decide (lateE J n (kof (rho i) sl co le ri) z = 0)) k)), (11, iI bz), (10, iI ls), (9, iI le), (8, iI sl), (7, iI co), (0, .ref (pl B 0)), (1, .ref (pl B 123)), (2, .ref (pl B 124)), (3, iI (n : Int)), (4, iI wp), (5, .ref (pl B 125)), (6, .ref (pl B 126))] [] := by
    intro bz ls q3 q4
    refine v_iload (pc := 306) h (dk dt_L_runs_2 39 rfl) rfl ?_
    refine v_aload (pc := 308) h (dk dt_L_runs_2 40 rfl) rfl ?_
    refine v_iconst (pc := 310) h (dk dt_L_runs_2 41 rfl) ?_
    refine v_iald (pc := 311) h sh126 (Nat.le_of_ble_eq_true rfl) (by omega) (dk dt_L_runs_2 42 rfl) ?_
    rw [i3]
    refine v_iconst (pc := 312) h (dk dt_L_runs_2 43 rfl) ?_
    refine v_icmp_ne (pc := 313) h 320 (dk dt_L_runs_2 44 rfl) rfl (by omega) (fun c313 => ?_) (fun c313 => ?_)
    ·
      refine v_iconst (pc := 320) h (dk dt_L_runs_2 47 rfl) ?_
      refine v_ior (pc := 321) h (dk dt_L_runs_2 48 rfl) ?_
      refine v_istore (lv' := [(12, _), (15, _), (14, _), (13, _), (11, _), (10, _), (9, _), (8, _), (7, _), (0, _), (1, _), (2, _), (3, _), (4, _), (5, _), (6, _)]) (pc := 322) h (dk dt_L_runs_2 49 rfl) (Nat.le_of_ble_eq_true rfl) rfl ?_
      first
        | exact VV.loc (go324 bz ls q3 q4) ⟨rfl, rfl, rfl, lvI (anP_1 (p := fun i => decide (lateE J n (kof (rho i) sl co le ri) z = 0)) (decide_eq_true (i3y c313))), rfl, rfl, rfl, rfl, rfl, rfl, rfl, rfl, rfl, rfl, rfl, rfl, trivial⟩
        | exact VV.loc (go324 bz ls q3 q4) ⟨rfl, rfl, rfl, lvI (anP_0 (p := fun i => decide (lateE J n (kof (rho i) sl co le ri) z = 0)) (fun y => i3n c313 (of_decide_eq_true y))), rfl, rfl, rfl, rfl, rfl, rfl, rfl, rfl, rfl, rfl, rfl, rfl, trivial⟩
    ·
      refine v_iconst (pc := 316) h (dk dt_L_runs_2 45 rfl) ?_
      refine v_goto (pc := 317) h 321 (dk dt_L_runs_2 46 rfl) rfl ?_
      refine v_ior (pc := 321) h (dk dt_L_runs_2 48 rfl) ?_
      refine v_istore (lv' := [(12, _), (15, _), (14, _), (13, _), (11, _), (10, _), (9, _), (8, _), (7, _), (0, _), (1, _), (2, _), (3, _), (4, _), (5, _), (6, _)]) (pc := 322) h (dk dt_L_runs_2 49 rfl) (Nat.le_of_ble_eq_true rfl) rfl ?_
      first
        | exact VV.loc (go324 bz ls q3 q4) ⟨rfl, rfl, rfl, lvI (anP_1 (p := fun i => decide (lateE J n (kof (rho i) sl co le ri) z = 0)) (decide_eq_true (i3y c313))), rfl, rfl, rfl, rfl, rfl, rfl, rfl, rfl, rfl, rfl, rfl, rfl, trivial⟩
        | exact VV.loc (go324 bz ls q3 q4) ⟨rfl, rfl, rfl, lvI (anP_0 (p := fun i => decide (lateE J n (kof (rho i) sl co le ri) z = 0)) (fun y => i3n c313 (of_decide_eq_true y))), rfl, rfl, rfl, rfl, rfl, rfl, rfl, rfl, rfl, rfl, rfl, rfl, trivial⟩
  have go274 : ∀ bz : Int, (co = 0 → bz = pat0 J n sl co le ri z) → ∀ lv, lvs lv [(15, iI (rho k)), (14, iI (k : Int)), (13, iI kp), (12, iI (anP (fun i => decide (lateE J n (kof (rho i) sl co le ri) z = 0)) k)), (11, iI bz), (10, iI ls), (9, iI le), (8, iI sl), (7, iI co), (0, .ref (pl B 0)), (1, .ref (pl B 123)), (2, .ref (pl B 124)), (3, iI (n : Int)), (4, iI wp), (5, .ref (pl B 125)), (6, .ref (pl B 126))] → VV a B (SP B D E m') kc ns 274 lv [] := by
    intro bz q3 lv hlv
    refine VV.loc (lv' := [(15, iI (rho k)), (14, iI (k : Int)), (13, iI kp), (12, iI (anP (fun i => decide (lateE J n (kof (rho i) sl co le ri) z = 0)) k)), (11, iI bz), (10, iI ls), (9, iI le), (8, iI sl), (7, iI co), (0, .ref (pl B 0)), (1, .ref (pl B 123)), (2, .ref (pl B 124)), (3, iI (n : Int)), (4, iI wp), (5, .ref (pl B 125)), (6, .ref (pl B 126))]) ?_ hlv
    have hwp := hX.2.2.2.2.1
    have go295 : co = 0 → wp = 0 → ∀ ls' : Int, ls' = sumE J n (kof 3 sl co le ri) z → VV a B (SP B D E m') kc ns 295 [(15, iI (rho k)), (14, iI (k : Int)), (13, iI kp), (12, iI (anP (fun i => decide (lateE J n (kof (rho i) sl co le ri) z = 0)) k)), (11, iI bz), (10, iI ls'), (9, iI le), (8, iI sl), (7, iI co), (0, .ref (pl B 0)), (1, .ref (pl B 123)), (2, .ref (pl B 124)), (3, iI (n : Int)), (4, iI wp), (5, .ref (pl B 125)), (6, .ref (pl B 126))] [] := by
      intro y0 yw ls' hls'
      have hle := fn_least (J := J) (n := n) (K := kof 3 sl co le ri) (K' := kof (rho k) sl co le ri) hD (hX.K (r := 3) (by omega)) hK y0 y0 rfl (hX.2.2.2.2.2 yw) (z := z) (z' := z)
      refine v_aload (pc := 295) h (dk dt_L_runs_2 32 rfl) rfl ?_
      refine v_iconst (pc := 297) h (dk dt_L_runs_2 33 rfl) ?_
      refine v_iald (pc := 298) h sh126 (Nat.le_of_ble_eq_true rfl) (by omega) (dk dt_L_runs_2 34 rfl) ?_
      rw [i1]
      refine v_iload (pc := 299) h (dk dt_L_runs_2 35 rfl) rfl ?_
      refine v_icmp_ge (pc := 301) h 306 (dk dt_L_runs_2 36 rfl) rfl (by omega) (fun c301 => ?_) (fun c301 => ?_)
      ·
        exact VV.loc (go306 bz ls' q3 (fun _ _ => hls')) ⟨rfl, rfl, rfl, rfl, rfl, rfl, rfl, rfl, rfl, rfl, rfl, rfl, rfl, rfl, rfl, rfl, trivial⟩
      ·
        exact absurd c301 (by omega)
    refine v_iload (pc := 274) h (dk dt_L_runs_2 22 rfl) rfl ?_
    refine v_if_ne (pc := 276) h 306 (dk dt_L_runs_2 23 rfl) rfl (by omega) (fun c276 => ?_) (fun c276 => ?_)
    ·
      exact VV.loc (go306 bz ls q3 (fun y1 y2 => by omega)) ⟨rfl, rfl, rfl, rfl, rfl, rfl, rfl, rfl, rfl, rfl, rfl, rfl, rfl, rfl, rfl, rfl, trivial⟩
    ·
      refine v_iload (pc := 279) h (dk dt_L_runs_2 24 rfl) rfl ?_
      refine v_if_ne (pc := 281) h 306 (dk dt_L_runs_2 25 rfl) rfl (by omega) (fun c281 => ?_) (fun c281 => ?_)
      ·
        exact VV.loc (go306 bz ls q3 (fun y1 y2 => by omega)) ⟨rfl, rfl, rfl, rfl, rfl, rfl, rfl, rfl, rfl, rfl, rfl, rfl, rfl, rfl, rfl, rfl, trivial⟩
      ·
        refine v_iload (pc := 284) h (dk dt_L_runs_2 26 rfl) rfl ?_
        refine v_if_ne (pc := 286) h 295 (dk dt_L_runs_2 27 rfl) rfl (by omega) (fun c286 => ?_) (fun c286 => ?_)
        ·
          first
            | exact VV.loc (go295 (by omega) (by omega) ls (hls (by omega) (by omega) (by omega))) ⟨rfl, rfl, rfl, rfl, rfl, rfl, rfl, rfl, rfl, rfl, rfl, rfl, rfl, rfl, rfl, rfl, trivial⟩
            | exact VV.loc (go295 (by omega) (by omega) (sumE J n (kof (rho k) sl co le ri) z) (by have : k = 0 := (by omega); subst this; rfl)) ⟨rfl, rfl, rfl, rfl, rfl, rfl, rfl, rfl, rfl, rfl, rfl, rfl, rfl, rfl, rfl, rfl, trivial⟩
        ·
          refine v_aload (pc := 289) h (dk dt_L_runs_2 28 rfl) rfl ?_
          refine v_iconst (pc := 291) h (dk dt_L_runs_2 29 rfl) ?_
          refine v_iald (pc := 292) h sh126 (Nat.le_of_ble_eq_true rfl) (by omega) (dk dt_L_runs_2 30 rfl) ?_
          rw [i1]
          refine v_istore (lv' := [(10, _), (15, _), (14, _), (13, _), (12, _), (11, _), (9, _), (8, _), (7, _), (0, _), (1, _), (2, _), (3, _), (4, _), (5, _), (6, _)]) (pc := 293) h (dk dt_L_runs_2 31 rfl) (Nat.le_of_ble_eq_true rfl) rfl ?_
          first
            | exact VV.loc (go295 (by omega) (by omega) ls (hls (by omega) (by omega) (by omega))) ⟨rfl, rfl, rfl, rfl, rfl, rfl, rfl, rfl, rfl, rfl, rfl, rfl, rfl, rfl, rfl, rfl, trivial⟩
            | exact VV.loc (go295 (by omega) (by omega) (sumE J n (kof (rho k) sl co le ri) z) (by have : k = 0 := (by omega); subst this; rfl)) ⟨rfl, rfl, rfl, rfl, rfl, rfl, rfl, rfl, rfl, rfl, rfl, rfl, rfl, rfl, rfl, rfl, trivial⟩
  have go209 : VV a B (SP B D E m') kc ns 209 [(17, iI (T : Int)), (16, iI (patF (m' 125) T)), (15, iI (rho k)), (14, iI (k : Int)), (13, iI kp), (12, iI (anP (fun i => decide (lateE J n (kof (rho i) sl co le ri) z = 0)) k)), (11, iI bz), (10, iI ls), (9, iI le), (8, iI sl), (7, iI co), (0, .ref (pl B 0)), (1, .ref (pl B 123)), (2, .ref (pl B 124)), (3, iI (n : Int)), (4, iI wp), (5, .ref (pl B 125)), (6, .ref (pl B 126))] [] := by
    have epat : co = 0 → patF (m' 125) T = pat0 J n sl co le ri z := fun y => by
      have h1 := pat_0 hX y hrb (T := T) (by rw [hg]; exact e66)
      rw [hg] at h1
      rw [← h1]
      exact patF_c (fun b hb => by rw [m125 b hb])
    have go232 : co = 0 → VV a B (SP B D E m') kc ns 232 [(15, iI (rho k)), (14, iI (k : Int)), (13, iI kp), (12, iI (anP (fun i => decide (lateE J n (kof (rho i) sl co le ri) z = 0)) k)), (11, iI (pat0 J n sl co le ri z)), (10, iI ls), (9, iI le), (8, iI sl), (7, iI co), (0, .ref (pl B 0)), (1, .ref (pl B 123)), (2, .ref (pl B 124)), (3, iI (n : Int)), (4, iI wp), (5, .ref (pl B 125)), (6, .ref (pl B 126))] [] := by
      intro y0
      have lp : ∀ (d i : Nat), i + d = n → ∀ lv, lvs lv [(17, iI (i : Int)), (15, iI (rho k)), (14, iI (k : Int)), (13, iI kp), (12, iI (anP (fun i => decide (lateE J n (kof (rho i) sl co le ri) z = 0)) k)), (11, iI (pat0 J n sl co le ri z)), (10, iI ls), (9, iI le), (8, iI sl), (7, iI co), (0, .ref (pl B 0)), (1, .ref (pl B 123)), (2, .ref (pl B 124)), (3, iI (n : Int)), (4, iI wp), (5, .ref (pl B 125)), (6, .ref (pl B 126))] → VV a B (SP B D E m') kc ns 235 lv [] := by
        intro d
        induction d with
        | zero =>
          intro i hi lv hlv
          refine VV.loc (lv' := [(17, iI (i : Int)), (15, iI (rho k)), (14, iI (k : Int)), (13, iI kp), (12, iI (anP (fun i => decide (lateE J n (kof (rho i) sl co le ri) z = 0)) k)), (11, iI (pat0 J n sl co le ri z)), (10, iI ls), (9, iI le), (8, iI sl), (7, iI co), (0, .ref (pl B 0)), (1, .ref (pl B 123)), (2, .ref (pl B 124)), (3, iI (n : Int)), (4, iI wp), (5, .ref (pl B 125)), (6, .ref (pl B 126))]) ?_ hlv
          refine v_iload (pc := 235) h (dk dt_L_runs_2 1 rfl) rfl ?_
          refine v_iload_n (pc := 237) h (dk dt_L_runs_2 2 rfl) rfl ?_
          refine v_icmp_ge (pc := 238) h 274 (dk dt_L_runs_2 3 rfl) rfl (by omega) (fun c238 => ?_) (fun c238 => ?_)
          ·
            exact go274 _ (fun _ => rfl) _ ⟨rfl, rfl, rfl, rfl, rfl, rfl, rfl, rfl, rfl, rfl, rfl, rfl, rfl, rfl, rfl, rfl, trivial⟩
          ·
            exact absurd c238 (by omega)
        | succ d ih =>
          intro i hi lv hlv
          refine VV.loc (lv' := [(17, iI (i : Int)), (15, iI (rho k)), (14, iI (k : Int)), (13, iI kp), (12, iI (anP (fun i => decide (lateE J n (kof (rho i) sl co le ri) z = 0)) k)), (11, iI (pat0 J n sl co le ri z)), (10, iI ls), (9, iI le), (8, iI sl), (7, iI co), (0, .ref (pl B 0)), (1, .ref (pl B 123)), (2, .ref (pl B 124)), (3, iI (n : Int)), (4, iI wp), (5, .ref (pl B 125)), (6, .ref (pl B 126))]) ?_ hlv
          have hin : i < n := by omega
          have hgb := gaF_b (m' 125) (i : Int) T
          have hring : rho k = 0 → (gaF (m' 125) (i : Int) T).1 ≤ ((n : Int) - 1) * sl := fun y => by
            have h1 := gaF_ring (J := J) (n := n) (K := kof (rho k) sl co le ri) (z := z) (T := T) (j := i) hD hK y y0 hin (by rw [hg]; exact e66)
            rw [hg] at h1
            rw [gaF_c (fun b hb => m125 b hb)]
            exact h1
          have hmb : 0 ≤ ((n : Int) - 1) * sl ∧ ((n : Int) - 1) * sl ≤ 1000 := ⟨Int.mul_nonneg (by omega) (by omega), by have := Int.mul_le_mul (a := (n : Int) - 1) (b := sl) (c := 11) (d := 20) (by omega) (by omega) (by omega) (by omega); omega⟩
          refine v_iload (pc := 235) h (dk dt_L_runs_2 1 rfl) rfl ?_
          refine v_iload_n (pc := 237) h (dk dt_L_runs_2 2 rfl) rfl ?_
          refine v_icmp_ge (pc := 238) h 274 (dk dt_L_runs_2 3 rfl) rfl (by omega) (fun c238 => ?_) (fun c238 => ?_)
          ·
            exact absurd c238 (by omega)
          ·
            refine v_iload (pc := 241) h (dk dt_L_runs_2 4 rfl) rfl ?_
            refine v_if_ne (pc := 243) h 274 (dk dt_L_runs_2 5 rfl) rfl (by omega) (fun c243 => ?_) (fun c243 => ?_)
            ·
              exact go274 _ (fun _ => rfl) _ ⟨rfl, rfl, rfl, rfl, rfl, rfl, rfl, rfl, rfl, rfl, rfl, rfl, rfl, rfl, rfl, rfl, trivial⟩
            ·
              refine v_aload (pc := 246) h (dk dt_L_runs_2 6 rfl) rfl ?_
              refine v_aload (pc := 248) h (dk dt_L_runs_2 7 rfl) rfl ?_
              refine v_iconst (pc := 250) h (dk dt_L_runs_2 8 rfl) ?_
              refine v_iald (pc := 251) h sh126 (Nat.le_of_ble_eq_true rfl) (by omega) (dk dt_L_runs_2 9 rfl) ?_
              rw [i0]
              refine v_iload (pc := 252) h (dk dt_L_runs_2 10 rfl) rfl ?_
              refine v_cSi (pc := 254) h (c_L_gap h.quiet (T := T) (by omega) hg12 (by omega)) kv_L_gap wM_L_137 rfl rfl (Nat.le_of_ble_eq_true rfl) ⟨⟨Nat.le_of_ble_eq_true rfl, Nat.le_of_ble_eq_true rfl⟩, by show kc + 0 ≤ 5000; omega, by show ns + 0 ≤ 30000; omega⟩ rfl rfl (dk dt_L_runs_2 11 rfl) ?_
              refine v_iload_n (pc := 257) h (dk dt_L_runs_2 12 rfl) rfl ?_
              refine v_iconst (pc := 258) h (dk dt_L_runs_2 13 rfl) ?_
              refine v_isub (pc := 259) h (dk dt_L_runs_2 14 rfl) ?_
              refine v_iload (pc := 260) h (dk dt_L_runs_2 15 rfl) rfl ?_
              refine v_imul (pc := 262) h (dk dt_L_runs_2 16 rfl) ?_
              refine v_icmp_le (pc := 263) h 268 (dk dt_L_runs_2 17 rfl) rfl (by omega) (fun c263 => ?_) (fun c263 => ?_)
              ·
                refine v_iinc (lv' := [(17, _), (15, _), (14, _), (13, _), (12, _), (11, _), (10, _), (9, _), (8, _), (7, _), (0, _), (1, _), (2, _), (3, _), (4, _), (5, _), (6, _)]) (pc := 268) h (dk dt_L_runs_2 20 rfl) rfl (Nat.le_of_ble_eq_true rfl) rfl ?_
                refine v_goto (pc := 271) h 235 (dk dt_L_runs_2 21 rfl) rfl ?_
                exact ih (i + 1) (by omega) _ ⟨rfl, rfl, rfl, rfl, rfl, rfl, rfl, rfl, rfl, rfl, rfl, rfl, rfl, rfl, rfl, rfl, rfl, trivial⟩
              ·
                exact absurd c263 (by have := hring c243; omega)
      refine v_iconst (pc := 232) h (dk dt_L_runs_1 63 rfl) ?_
      refine v_istore (lv' := [(17, _), (15, _), (14, _), (13, _), (12, _), (11, _), (10, _), (9, _), (8, _), (7, _), (0, _), (1, _), (2, _), (3, _), (4, _), (5, _), (6, _)]) (pc := 233) h (dk dt_L_runs_2 0 rfl) (Nat.le_of_ble_eq_true rfl) rfl ?_
      exact lp n 0 (by omega) _ ⟨rfl, rfl, rfl, rfl, rfl, rfl, rfl, rfl, rfl, rfl, rfl, rfl, rfl, rfl, rfl, rfl, rfl, trivial⟩
    refine v_iload (pc := 209) h (dk dt_L_runs_1 52 rfl) rfl ?_
    refine v_if_ne (pc := 211) h 274 (dk dt_L_runs_1 53 rfl) rfl (by omega) (fun c211 => ?_) (fun c211 => ?_)
    ·
      exact go274 bz (fun y => by omega) _ ⟨rfl, rfl, rfl, rfl, rfl, rfl, rfl, rfl, rfl, rfl, rfl, rfl, rfl, rfl, rfl, rfl, trivial⟩
    ·
      refine v_iload (pc := 214) h (dk dt_L_runs_1 54 rfl) rfl ?_
      refine v_if_ne (pc := 216) h 223 (dk dt_L_runs_1 55 rfl) rfl (by omega) (fun c216 => ?_) (fun c216 => ?_)
      ·
        rw [hbz c211 (by omega), epat c211]
        refine v_iload (pc := 223) h (dk dt_L_runs_1 58 rfl) rfl ?_
        refine v_iload (pc := 225) h (dk dt_L_runs_1 59 rfl) rfl ?_
        refine v_icmp_eqS (pc := 227) h 232 (dk dt_L_runs_1 60 rfl) rfl ?_
        exact VV.loc (go232 c211) ⟨rfl, rfl, rfl, rfl, rfl, rfl, rfl, rfl, rfl, rfl, rfl, rfl, rfl, rfl, rfl, rfl, trivial⟩
      ·
        rw [epat c211]
        refine v_iload (pc := 219) h (dk dt_L_runs_1 56 rfl) rfl ?_
        refine v_istore (lv' := [(11, _), (17, _), (16, _), (15, _), (14, _), (13, _), (12, _), (10, _), (9, _), (8, _), (7, _), (0, _), (1, _), (2, _), (3, _), (4, _), (5, _), (6, _)]) (pc := 221) h (dk dt_L_runs_1 57 rfl) (Nat.le_of_ble_eq_true rfl) rfl ?_
        refine v_iload (pc := 223) h (dk dt_L_runs_1 58 rfl) rfl ?_
        refine v_iload (pc := 225) h (dk dt_L_runs_1 59 rfl) rfl ?_
        refine v_icmp_eqS (pc := 227) h 232 (dk dt_L_runs_1 60 rfl) rfl ?_
        exact VV.loc (go232 c211) ⟨rfl, rfl, rfl, rfl, rfl, rfl, rfl, rfl, rfl, rfl, rfl, rfl, rfl, rfl, rfl, rfl, trivial⟩
  have lp : ∀ (d t : Nat), t + d = T → VV a B (SP B D E m') kc ns 172 [(17, iI (t : Int)), (16, iI (patF (m' 125) t)), (15, iI (rho k)), (14, iI (k : Int)), (13, iI kp), (12, iI (anP (fun i => decide (lateE J n (kof (rho i) sl co le ri) z = 0)) k)), (11, iI bz), (10, iI ls), (9, iI le), (8, iI sl), (7, iI co), (0, .ref (pl B 0)), (1, .ref (pl B 123)), (2, .ref (pl B 124)), (3, iI (n : Int)), (4, iI wp), (5, .ref (pl B 125)), (6, .ref (pl B 126))] [] := by
    intro d
    induction d with
    | zero =>
      intro t ht
      have et : t = T := by omega
      rw [et]
      refine v_iload (pc := 172) h (dk dt_L_runs_1 32 rfl) rfl ?_
      refine v_aload (pc := 174) h (dk dt_L_runs_1 33 rfl) rfl ?_
      refine v_iconst (pc := 176) h (dk dt_L_runs_1 34 rfl) ?_
      refine v_iald (pc := 177) h sh126 (Nat.le_of_ble_eq_true rfl) (by omega) (dk dt_L_runs_1 35 rfl) ?_
      rw [i0]
      refine v_icmp_ge (pc := 178) h 209 (dk dt_L_runs_1 36 rfl) rfl (by omega) (fun c178 => ?_) (fun c178 => ?_)
      ·
        exact VV.loc go209 ⟨rfl, rfl, rfl, rfl, rfl, rfl, rfl, rfl, rfl, rfl, rfl, rfl, rfl, rfl, rfl, rfl, rfl, rfl, trivial⟩
      ·
        exact absurd c178 (by omega)
    | succ d ih =>
      intro t ht
      have ht2 := hg12 t (by omega)
      have e1 : m' 125 t = -1 → patF (m' 125) (t + 1) = 31 * patF (m' 125) t + 1 := fun q => by simp only [patF]; rw [if_pos q]
      have e2 : m' 125 t ≠ -1 → patF (m' 125) (t + 1) = 31 * patF (m' 125) t + 2 := fun q => by simp only [patF]; rw [if_neg q]
      refine v_iload (pc := 172) h (dk dt_L_runs_1 32 rfl) rfl ?_
      refine v_aload (pc := 174) h (dk dt_L_runs_1 33 rfl) rfl ?_
      refine v_iconst (pc := 176) h (dk dt_L_runs_1 34 rfl) ?_
      refine v_iald (pc := 177) h sh126 (Nat.le_of_ble_eq_true rfl) (by omega) (dk dt_L_runs_1 35 rfl) ?_
      rw [i0]
      refine v_icmp_ge (pc := 178) h 209 (dk dt_L_runs_1 36 rfl) rfl (by omega) (fun c178 => ?_) (fun c178 => ?_)
      ·
        exact absurd c178 (by omega)
      ·
        refine v_bipush (pc := 181) h (dk dt_L_runs_1 37 rfl) rfl ?_
        refine v_iload (pc := 183) h (dk dt_L_runs_1 38 rfl) rfl ?_
        refine v_imul (pc := 185) h (dk dt_L_runs_1 39 rfl) ?_
        refine v_aload (pc := 186) h (dk dt_L_runs_1 40 rfl) rfl ?_
        refine v_iload (pc := 188) h (dk dt_L_runs_1 41 rfl) rfl ?_
        refine v_iald (pc := 190) h sh125 (Nat.le_of_ble_eq_true rfl) (by omega) (dk dt_L_runs_1 42 rfl) ?_
        rw [Int.toNat_natCast]
        refine v_iconst (pc := 191) h (dk dt_L_runs_1 43 rfl) ?_
        refine v_icmp_ne (pc := 192) h 199 (dk dt_L_runs_1 44 rfl) rfl (by omega) (fun c192 => ?_) (fun c192 => ?_)
        ·
          refine v_iconst (pc := 199) h (dk dt_L_runs_1 47 rfl) ?_
          refine v_iadd (pc := 200) h (dk dt_L_runs_1 48 rfl) ?_
          refine v_istore (lv' := [(16, _), (17, _), (15, _), (14, _), (13, _), (12, _), (11, _), (10, _), (9, _), (8, _), (7, _), (0, _), (1, _), (2, _), (3, _), (4, _), (5, _), (6, _)]) (pc := 201) h (dk dt_L_runs_1 49 rfl) (Nat.le_of_ble_eq_true rfl) rfl ?_
          refine v_iinc (lv' := [(17, _), (16, _), (15, _), (14, _), (13, _), (12, _), (11, _), (10, _), (9, _), (8, _), (7, _), (0, _), (1, _), (2, _), (3, _), (4, _), (5, _), (6, _)]) (pc := 203) h (dk dt_L_runs_1 50 rfl) rfl (Nat.le_of_ble_eq_true rfl) rfl ?_
          refine v_goto (pc := 206) h 172 (dk dt_L_runs_1 51 rfl) rfl ?_
          first
            | exact VV.loc (ih (t + 1) (by omega)) ⟨rfl, lvI (e1 c192).symm, rfl, rfl, rfl, rfl, rfl, rfl, rfl, rfl, rfl, rfl, rfl, rfl, rfl, rfl, rfl, rfl, trivial⟩
            | exact VV.loc (ih (t + 1) (by omega)) ⟨rfl, lvI (e2 c192).symm, rfl, rfl, rfl, rfl, rfl, rfl, rfl, rfl, rfl, rfl, rfl, rfl, rfl, rfl, rfl, rfl, trivial⟩
        ·
          refine v_iconst (pc := 195) h (dk dt_L_runs_1 45 rfl) ?_
          refine v_goto (pc := 196) h 200 (dk dt_L_runs_1 46 rfl) rfl ?_
          refine v_iadd (pc := 200) h (dk dt_L_runs_1 48 rfl) ?_
          refine v_istore (lv' := [(16, _), (17, _), (15, _), (14, _), (13, _), (12, _), (11, _), (10, _), (9, _), (8, _), (7, _), (0, _), (1, _), (2, _), (3, _), (4, _), (5, _), (6, _)]) (pc := 201) h (dk dt_L_runs_1 49 rfl) (Nat.le_of_ble_eq_true rfl) rfl ?_
          refine v_iinc (lv' := [(17, _), (16, _), (15, _), (14, _), (13, _), (12, _), (11, _), (10, _), (9, _), (8, _), (7, _), (0, _), (1, _), (2, _), (3, _), (4, _), (5, _), (6, _)]) (pc := 203) h (dk dt_L_runs_1 50 rfl) rfl (Nat.le_of_ble_eq_true rfl) rfl ?_
          refine v_goto (pc := 206) h 172 (dk dt_L_runs_1 51 rfl) rfl ?_
          first
            | exact VV.loc (ih (t + 1) (by omega)) ⟨rfl, lvI (e1 c192).symm, rfl, rfl, rfl, rfl, rfl, rfl, rfl, rfl, rfl, rfl, rfl, rfl, rfl, rfl, rfl, rfl, trivial⟩
            | exact VV.loc (ih (t + 1) (by omega)) ⟨rfl, lvI (e2 c192).symm, rfl, rfl, rfl, rfl, rfl, rfl, rfl, rfl, rfl, rfl, rfl, rfl, rfl, rfl, rfl, rfl, trivial⟩
  refine v_iconst (pc := 166) h (dk dt_L_runs_1 28 rfl) ?_
  refine v_istore (lv' := [(16, _), (15, _), (14, _), (13, _), (12, _), (11, _), (10, _), (9, _), (8, _), (7, _), (0, _), (1, _), (2, _), (3, _), (4, _), (5, _), (6, _)]) (pc := 167) h (dk dt_L_runs_1 29 rfl) (Nat.le_of_ble_eq_true rfl) rfl ?_
  refine v_iconst (pc := 169) h (dk dt_L_runs_1 30 rfl) ?_
  refine v_istore (lv' := [(17, _), (16, _), (15, _), (14, _), (13, _), (12, _), (11, _), (10, _), (9, _), (8, _), (7, _), (0, _), (1, _), (2, _), (3, _), (4, _), (5, _), (6, _)]) (pc := 170) h (dk dt_L_runs_1 31 rfl) (Nat.le_of_ble_eq_true rfl) rfl ?_
  exact VV.loc (lp T 0 (by omega)) ⟨rfl, rfl, rfl, rfl, rfl, rfl, rfl, rfl, rfl, rfl, rfl, rfl, rfl, rfl, rfl, rfl, rfl, rfl, trivial⟩
end
