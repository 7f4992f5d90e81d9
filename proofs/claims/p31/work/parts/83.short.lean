/-! ===== the law: who is kept by locks ===== -/
def itQ (μ : Mm) (k i p : Nat) (y its : Int) : Prop :=
  (0 ≤ its ∧ its ≤ 30) ∧ (∀ i' p' : Nat, i' < i → i' ≠ k → (p' : Int) < μ 13 i' → μ 15 (3 * i' + p') = y → μ 19 (3 * i' + p') - μ 17 (3 * i' + p') ≤ its) ∧
  (i ≠ k → ∀ p' : Nat, p' < p → μ 15 (3 * i + p') = y → μ 19 (3 * i + p') - μ 17 (3 * i + p') ≤ its)
theorem itQ_next {μ : Mm} {k i p : Nat} {y its : Int} (h : itQ μ k i p y its) (hp : i = k ∨ μ 13 i ≤ (p : Int)) : itQ μ k (i + 1) 0 y its := by
  obtain ⟨h1, h2, h3⟩ := h
  refine ⟨h1, fun i' p' q1 q2 q3 q4 => ?_, fun _ p' q => absurd q (by omega)⟩
  by_cases e : i' = i
  · subst e
    rcases hp with hp | hp
    · exact absurd hp q2
    · exact h3 q2 p' (by omega) q4
  · exact h2 i' p' (by omega) q2 q3 q4
theorem itQ_no {μ : Mm} {k i p : Nat} {y its : Int} (h : itQ μ k i p y its) (hy : μ 15 (3 * i + p) ≠ y) : itQ μ k i (p + 1) y its := by
  obtain ⟨h1, h2, h3⟩ := h
  refine ⟨h1, h2, fun q p' q1 q2 => ?_⟩
  by_cases e : p' = p
  · rw [e] at q2; exact absurd q2 hy
  · exact h3 q p' (by omega) q2
theorem itQ_yes {μ : Mm} {k i p : Nat} {y its : Int} (h : itQ μ k i p y its) (hb : 0 ≤ μ 19 (3 * i + p) - μ 17 (3 * i + p) ∧ μ 19 (3 * i + p) - μ 17 (3 * i + p) ≤ 30) : itQ μ k i (p + 1) y (if its < μ 19 (3 * i + p) - μ 17 (3 * i + p) then μ 19 (3 * i + p) - μ 17 (3 * i + p) else its) := by
  obtain ⟨h1, h2, h3⟩ := h
  have hm : its ≤ (if its < μ 19 (3 * i + p) - μ 17 (3 * i + p) then μ 19 (3 * i + p) - μ 17 (3 * i + p) else its) ∧ μ 19 (3 * i + p) - μ 17 (3 * i + p) ≤ (if its < μ 19 (3 * i + p) - μ 17 (3 * i + p) then μ 19 (3 * i + p) - μ 17 (3 * i + p) else its) ∧ (if its < μ 19 (3 * i + p) - μ 17 (3 * i + p) then μ 19 (3 * i + p) - μ 17 (3 * i + p) else its) ≤ 30 := by split <;> omega
  generalize (if its < μ 19 (3 * i + p) - μ 17 (3 * i + p) then μ 19 (3 * i + p) - μ 17 (3 * i + p) else its) = z at hm ⊢
  refine ⟨by omega, fun i' p' q1 q2 q3 q4 => ?_, fun q p' q1 q2 => ?_⟩
  · have := h2 i' p' q1 q2 q3 q4; omega
  · by_cases e : p' = p
    · rw [e]; omega
    · have := h3 q p' (by omega) q2; omega
theorem itQ_rest {μ : Mm} {k n : Nat} {y its : Int} (h : itQ μ k n 0 y its) : lRest (μ 13) (μ 15) (μ 17) (μ 19) k y (3 * n) ≤ its := by
  refine lRest_le h.1.1 _ (fun p hp q1 q2 q3 => ?_)
  have e : 3 * (p / 3) + p % 3 = p := Nat.div_add_mod p 3
  have := h.2.1 (p / 3) (p % 3) (by omega) q2 q1 (by rw [e]; exact q3)
  rw [e] at this
  exact this
section
variable {l : Launch} {B : Nat} {D : va_G} {E : Nat → ClassId} {μ m σ : Mm} {w n : Nat} {K : Nat → Int} {s : St} {J : Mm}
set_option maxHeartbeats 1000000 in
theorem c_L_isShort (hst : l.stackTraces = false) (hO : hOK μ) (hn : μ 1 9 = (n : Int)) (h7 : μ 0 7 = 1) (hA : eqA (jm μ) n (μ 124)) (hb : ∀ k, k < n → (∀ i, i < n → i ≠ k → μ 9 i < μ 9 k) → μ 30 k ≤ lMost (μ 13) (μ 15) (μ 17) (μ 19) n k (μ 13 k).toNat) :
    Ct l B D E yL_isShort (.code yL_isShort cL_isShort 10 (some .boolean)) rm_L_isShort [.ref (pl B 0), .ref (pl B 124), iI (n : Int)] μ (ri 1 μ) NX := by
  have hn12 : n ≤ 12 := by have := hO.J.1; omega
  refine ct_of (own := RL) (lv := [(0, _), (1, _), (2, _)]) hst (by decide) rfl rfl (Nat.le_of_ble_eq_true rfl) fun a h r t => ?_
  have loop : ∀ (d k kc ns : Nat), k + d = n → kc ≤ 2 * k → ns ≤ 12 * k → VV a B (SP B D E μ) kc ns 2 [(3, iI (k : Int)), (0, .ref (pl B 0)), (1, .ref (pl B 124)), (2, iI (n : Int))] [] := by
    intro d
    induction d with
    | zero =>
      intro k kc ns hi hkc hns
      refine v_iload_n (pc := 2) h (dk dt_L_isShort_0 2 rfl) rfl ?_
      refine v_iload_n (pc := 3) h (dk dt_L_isShort_0 3 rfl) rfl ?_
      refine v_icmp_ge (pc := 4) h 238 (dk dt_L_isShort_0 4 rfl) rfl (by omega) (fun c4 => ?_) (fun c4 => ?_)
      ·
        refine v_iconst (pc := 238) h (dk dt_L_isShort_2 16 rfl) ?_
        exact v_zret (pc := 239) h r (dk dt_L_isShort_2 17 rfl) (by show kc ≤ 40; omega) (by show ns ≤ 240; omega) (by omega) ⟨rfl, rfl⟩
      ·
        exact absurd c4 (by omega)
    | succ d ih =>
      intro k kc ns hi hkc hns
      have hk : k < n := by omega
      have ak := hA k hk
      have jk := hO.J.2 k (by omega)
      have f3k : μ 124 (60 * (k : Int) + 3).toNat = μ 9 k := by rw [show (60 * (k : Int) + 3).toNat = 60 * k + 3 by omega]; exact ak.2.2.2.1
      have f5k : μ 124 (60 * (k : Int) + 5).toNat = μ 13 k := by rw [show (60 * (k : Int) + 5).toNat = 60 * k + 5 by omega]; exact ak.2.2.2.2.2.1
      have h30 := ((hO.R h7).2 k (by omega)).2.2
      have go215 : ∀ most : Int, lMost (μ 13) (μ 15) (μ 17) (μ 19) n k (μ 13 k).toNat ≤ most → 0 ≤ most ∧ most ≤ 100 → VV a B (SP B D E μ) kc ns 215 [(5, iI most), (4, iI (alP (fun i => decide (i = k) || decide (μ 9 i < μ 9 k)) n)), (3, iI (k : Int)), (0, .ref (pl B 0)), (1, .ref (pl B 124)), (2, iI (n : Int))] [] := by
        intro most hm hmb
        have hal := alP_b (fun i => decide (i = k) || decide (μ 9 i < μ 9 k)) n
        have htop : alP (fun i => decide (i = k) || decide (μ 9 i < μ 9 k)) n ≠ 0 → μ 30 k ≤ most := fun q => by
          have h1 := alP_y (p := fun i => decide (i = k) || decide (μ 9 i < μ 9 k)) (i := n) (by rcases hal with e | e; exact absurd e q; exact e)
          have := hb k hk (fun i hi hne => by
            have := h1 i hi
            rw [Bool.or_eq_true, decide_eq_true_iff, decide_eq_true_iff] at this
            rcases this with e | e
            · exact absurd e hne
            · exact e)
          omega
        refine v_iload (pc := 215) h (dk dt_L_isShort_2 5 rfl) rfl ?_
        refine v_if_eq (pc := 217) h 232 (dk dt_L_isShort_2 6 rfl) rfl (by omega) (fun c217 => ?_) (fun c217 => ?_)
        ·
          refine v_iinc (lv' := [(3, _), (5, _), (4, _), (0, _), (1, _), (2, _)]) (pc := 232) h (dk dt_L_isShort_2 14 rfl) rfl (Nat.le_of_ble_eq_true rfl) rfl ?_
          refine v_goto (pc := 235) h 2 (dk dt_L_isShort_2 15 rfl) rfl ?_
          first
            | exact VV.loc (ih (k + 1) _ _ (by omega) (by simp only [rm_X11_blocked]; omega) (by simp only [rm_X11_blocked]; omega)) ⟨rfl, rfl, rfl, rfl, trivial⟩
            | exact VV.loc (ih (k + 1) _ _ (by omega) (by omega) (by omega)) ⟨rfl, rfl, rfl, rfl, trivial⟩
        ·
          refine v_aload_n (pc := 220) h (dk dt_L_isShort_2 7 rfl) rfl ?_
          refine v_iload_n (pc := 221) h (dk dt_L_isShort_2 8 rfl) rfl ?_
          refine v_callVX (pc := 222) h (c_X11_blocked h.quiet hO (by omega)) kv_X11_blocked sh0 wM_L_151 rfl rfl (Nat.le_of_ble_eq_true rfl) ⟨⟨Nat.le_of_ble_eq_true rfl, Nat.le_of_ble_eq_true rfl⟩, by show kc + 2 ≤ 40; omega, by show ns + 12 ≤ 240; omega⟩ (dk dt_L_isShort_2 9 rfl) (fun e222 μ222 p222 => ?_) (fun v222 μ222 p222 => ?_)
          ·
            exfalso
            obtain ⟨⟨i2, q1, -⟩, -⟩ := p222
            unfold rcJ at q1
            rw [if_neg (by omega), if_neg (by omega)] at q1; omega
          ·
            obtain ⟨-, rfl, rfl⟩ := p222
            rw [Int.toNat_natCast]
            refine v_iload (pc := 225) h (dk dt_L_isShort_2 10 rfl) rfl ?_
            refine v_icmp_le (pc := 227) h 232 (dk dt_L_isShort_2 11 rfl) rfl (by omega) (fun c227 => ?_) (fun c227 => ?_)
            ·
              refine v_iinc (lv' := [(3, _), (5, _), (4, _), (0, _), (1, _), (2, _)]) (pc := 232) h (dk dt_L_isShort_2 14 rfl) rfl (Nat.le_of_ble_eq_true rfl) rfl ?_
              refine v_goto (pc := 235) h 2 (dk dt_L_isShort_2 15 rfl) rfl ?_
              first
                | exact VV.loc (ih (k + 1) _ _ (by omega) (by simp only [rm_X11_blocked]; omega) (by simp only [rm_X11_blocked]; omega)) ⟨rfl, rfl, rfl, rfl, trivial⟩
                | exact VV.loc (ih (k + 1) _ _ (by omega) (by omega) (by omega)) ⟨rfl, rfl, rfl, rfl, trivial⟩
            ·
              exact absurd (htop (by omega)) (by omega)
      have loop2 : ∀ (d q : Nat) (most : Int), q + d = (μ 13 k).toNat → lMost (μ 13) (μ 15) (μ 17) (μ 19) n k q ≤ most → 0 ≤ most ∧ most ≤ 30 * q → VV a B (SP B D E μ) kc ns 67 [(6, iI (q : Int)), (5, iI most), (4, iI (alP (fun i => decide (i = k) || decide (μ 9 i < μ 9 k)) n)), (3, iI (k : Int)), (0, .ref (pl B 0)), (1, .ref (pl B 124)), (2, iI (n : Int))] [] := by
        intro d
        induction d with
        | zero =>
          intro q most hq hm hmb
          have eq : q = (μ 13 k).toNat := by omega
          subst eq
          refine v_iload (pc := 67) h (dk dt_L_isShort_0 42 rfl) rfl ?_
          refine v_aload_n (pc := 69) h (dk dt_L_isShort_0 43 rfl) rfl ?_
          refine v_bipush (pc := 70) h (dk dt_L_isShort_0 44 rfl) rfl ?_
          refine v_iload_n (pc := 72) h (dk dt_L_isShort_0 45 rfl) rfl ?_
          refine v_imul (pc := 73) h (dk dt_L_isShort_0 46 rfl) ?_
          refine v_iconst (pc := 74) h (dk dt_L_isShort_0 47 rfl) ?_
          refine v_iadd (pc := 75) h (dk dt_L_isShort_0 48 rfl) ?_
          refine v_iald (pc := 76) h sh124 (Nat.le_of_ble_eq_true rfl) (by omega) (dk dt_L_isShort_0 49 rfl) ?_
          rw [f5k]
          refine v_icmp_ge (pc := 77) h 215 (dk dt_L_isShort_0 50 rfl) rfl (by omega) (fun c77 => ?_) (fun c77 => ?_)
          ·
            exact VV.loc (go215 most hm (by omega)) ⟨rfl, rfl, rfl, rfl, rfl, rfl, trivial⟩
          ·
            exact absurd c77 (by omega)
        | succ d ih2 =>
          intro q most hq hm hmb
          have hqk : (q : Int) < μ 13 k := by omega
          have f6k : μ 124 (60 * (k : Int) + 6 + 3 * (q : Int)).toNat = μ 15 (3 * k + q) := by rw [show (60 * (k : Int) + 6 + 3 * (q : Int)).toNat = 60 * k + 6 + 3 * q by omega]; exact (ak.2.2.2.2.2.2 q hqk).1
          have lkb := (jk.2.2.2.2.2.2.1 q hqk).1
          have go202 : ∀ its : Int, itQ μ k n 0 (μ 15 (3 * k + q)) its → ∀ lv, lvs lv [(7, iI its), (6, iI (q : Int)), (5, iI most), (4, iI (alP (fun i => decide (i = k) || decide (μ 9 i < μ 9 k)) n)), (3, iI (k : Int)), (0, .ref (pl B 0)), (1, .ref (pl B 124)), (2, iI (n : Int))] → VV a B (SP B D E μ) kc ns 202 lv [] := by
            intro its hits lv hlv
            refine VV.loc (lv' := [(7, iI its), (6, iI (q : Int)), (5, iI most), (4, iI (alP (fun i => decide (i = k) || decide (μ 9 i < μ 9 k)) n)), (3, iI (k : Int)), (0, .ref (pl B 0)), (1, .ref (pl B 124)), (2, iI (n : Int))]) ?_ hlv
            have hr := itQ_rest hits
            have hib := hits.1
            refine v_iload (pc := 202) h (dk dt_L_isShort_1 63 rfl) rfl ?_
            refine v_iload (pc := 204) h (dk dt_L_isShort_2 0 rfl) rfl ?_
            refine v_iadd (pc := 206) h (dk dt_L_isShort_2 1 rfl) ?_
            refine v_istore (lv' := [(5, _), (7, _), (6, _), (4, _), (3, _), (0, _), (1, _), (2, _)]) (pc := 207) h (dk dt_L_isShort_2 2 rfl) (Nat.le_of_ble_eq_true rfl) rfl ?_
            refine v_iinc (lv' := [(6, _), (5, _), (7, _), (4, _), (3, _), (0, _), (1, _), (2, _)]) (pc := 209) h (dk dt_L_isShort_2 3 rfl) rfl (Nat.le_of_ble_eq_true rfl) rfl ?_
            refine v_goto (pc := 212) h 67 (dk dt_L_isShort_2 4 rfl) rfl ?_
            exact VV.loc (ih2 (q + 1) (most + its) (by omega) (by rw [lMost]; omega) (by omega)) ⟨rfl, rfl, rfl, rfl, rfl, rfl, rfl, trivial⟩
          have loop3 : ∀ (d i : Nat) (its : Int), i + d = n → itQ μ k i 0 (μ 15 (3 * k + q)) its → ∀ lv, lvs lv [(8, iI (i : Int)), (7, iI its), (6, iI (q : Int)), (5, iI most), (4, iI (alP (fun i => decide (i = k) || decide (μ 9 i < μ 9 k)) n)), (3, iI (k : Int)), (0, .ref (pl B 0)), (1, .ref (pl B 124)), (2, iI (n : Int))] → VV a B (SP B D E μ) kc ns 86 lv [] := by
            intro d
            induction d with
            | zero =>
              intro i its hi3 hits lv hlv
              refine VV.loc (lv' := [(8, iI (i : Int)), (7, iI its), (6, iI (q : Int)), (5, iI most), (4, iI (alP (fun i => decide (i = k) || decide (μ 9 i < μ 9 k)) n)), (3, iI (k : Int)), (0, .ref (pl B 0)), (1, .ref (pl B 124)), (2, iI (n : Int))]) ?_ hlv
              have ei : i = n := by omega
              subst ei
              refine v_iload (pc := 86) h (dk dt_L_isShort_0 55 rfl) rfl ?_
              refine v_iload_n (pc := 88) h (dk dt_L_isShort_0 56 rfl) rfl ?_
              refine v_icmp_ge (pc := 89) h 202 (dk dt_L_isShort_0 57 rfl) rfl (by omega) (fun c89 => ?_) (fun c89 => ?_)
              ·
                exact go202 its hits _ ⟨rfl, rfl, rfl, rfl, rfl, rfl, rfl, rfl, trivial⟩
              ·
                exact absurd c89 (by omega)
            | succ d ih3 =>
              intro i its hi3 hits lv hlv
              refine VV.loc (lv' := [(8, iI (i : Int)), (7, iI its), (6, iI (q : Int)), (5, iI most), (4, iI (alP (fun i => decide (i = k) || decide (μ 9 i < μ 9 k)) n)), (3, iI (k : Int)), (0, .ref (pl B 0)), (1, .ref (pl B 124)), (2, iI (n : Int))]) ?_ hlv
              have hi : i < n := by omega
              have ai := hA i hi
              have ji := hO.J.2 i (by omega)
              have f5i : μ 124 (60 * (i : Int) + 5).toNat = μ 13 i := by rw [show (60 * (i : Int) + 5).toNat = 60 * i + 5 by omega]; exact ai.2.2.2.2.2.1
              have loop4 : ∀ (d p : Nat) (its : Int), p + d = (μ 13 i).toNat → itQ μ k i p (μ 15 (3 * k + q)) its → ∀ lv, lvs lv [(9, iI (p : Int)), (8, iI (i : Int)), (7, iI its), (6, iI (q : Int)), (5, iI most), (4, iI (alP (fun i => decide (i = k) || decide (μ 9 i < μ 9 k)) n)), (3, iI (k : Int)), (0, .ref (pl B 0)), (1, .ref (pl B 124)), (2, iI (n : Int))] → VV a B (SP B D E μ) kc ns 95 lv [] := by
                intro d
                induction d with
                | zero =>
                  intro p its hp hits lv hlv
                  refine VV.loc (lv' := [(9, iI (p : Int)), (8, iI (i : Int)), (7, iI its), (6, iI (q : Int)), (5, iI most), (4, iI (alP (fun i => decide (i = k) || decide (μ 9 i < μ 9 k)) n)), (3, iI (k : Int)), (0, .ref (pl B 0)), (1, .ref (pl B 124)), (2, iI (n : Int))]) ?_ hlv
                  refine v_iload (pc := 95) h (dk dt_L_isShort_0 60 rfl) rfl ?_
                  refine v_aload_n (pc := 97) h (dk dt_L_isShort_0 61 rfl) rfl ?_
                  refine v_bipush (pc := 98) h (dk dt_L_isShort_0 62 rfl) rfl ?_
                  refine v_iload (pc := 100) h (dk dt_L_isShort_0 63 rfl) rfl ?_
                  refine v_imul (pc := 102) h (dk dt_L_isShort_1 0 rfl) ?_
                  refine v_iconst (pc := 103) h (dk dt_L_isShort_1 1 rfl) ?_
                  refine v_iadd (pc := 104) h (dk dt_L_isShort_1 2 rfl) ?_
                  refine v_iald (pc := 105) h sh124 (Nat.le_of_ble_eq_true rfl) (by omega) (dk dt_L_isShort_1 3 rfl) ?_
                  rw [f5i]
                  refine v_icmp_ge (pc := 106) h 196 (dk dt_L_isShort_1 4 rfl) rfl (by omega) (fun c106 => ?_) (fun c106 => ?_)
                  ·
                    refine v_iinc (lv' := [(8, _), (9, _), (7, _), (6, _), (5, _), (4, _), (3, _), (0, _), (1, _), (2, _)]) (pc := 196) h (dk dt_L_isShort_1 61 rfl) rfl (Nat.le_of_ble_eq_true rfl) rfl ?_
                    refine v_goto (pc := 199) h 86 (dk dt_L_isShort_1 62 rfl) rfl ?_
                    exact ih3 (i + 1) its (by omega) (itQ_next hits (Or.inr c106)) _ ⟨rfl, rfl, rfl, rfl, rfl, rfl, rfl, rfl, rfl, trivial⟩
                  ·
                    exact absurd c106 (by omega)
                | succ d ih4 =>
                  intro p its hp hits lv hlv
                  refine VV.loc (lv' := [(9, iI (p : Int)), (8, iI (i : Int)), (7, iI its), (6, iI (q : Int)), (5, iI most), (4, iI (alP (fun i => decide (i = k) || decide (μ 9 i < μ 9 k)) n)), (3, iI (k : Int)), (0, .ref (pl B 0)), (1, .ref (pl B 124)), (2, iI (n : Int))]) ?_ hlv
                  have hpi : (p : Int) < μ 13 i := by omega
                  have sp := ai.2.2.2.2.2.2 p hpi
                  have op := ji.2.2.2.2.2.2.1 p hpi
                  have hits1 := hits.1
                  have g6 : μ 124 (60 * (i : Int) + 6 + 3 * (p : Int)).toNat = μ 15 (3 * i + p) := by rw [show (60 * (i : Int) + 6 + 3 * (p : Int)).toNat = 60 * i + 6 + 3 * p by omega]; exact sp.1
                  have g7 : μ 124 (60 * (i : Int) + 7 + 3 * (p : Int)).toNat = μ 17 (3 * i + p) := by rw [show (60 * (i : Int) + 7 + 3 * (p : Int)).toNat = 60 * i + 7 + 3 * p by omega]; exact sp.2.1
                  have g8 : μ 124 (60 * (i : Int) + 8 + 3 * (p : Int)).toNat = μ 19 (3 * i + p) := by rw [show (60 * (i : Int) + 8 + 3 * (p : Int)).toNat = 60 * i + 8 + 3 * p by omega]; exact sp.2.2
                  refine v_iload (pc := 95) h (dk dt_L_isShort_0 60 rfl) rfl ?_
                  refine v_aload_n (pc := 97) h (dk dt_L_isShort_0 61 rfl) rfl ?_
                  refine v_bipush (pc := 98) h (dk dt_L_isShort_0 62 rfl) rfl ?_
                  refine v_iload (pc := 100) h (dk dt_L_isShort_0 63 rfl) rfl ?_
                  refine v_imul (pc := 102) h (dk dt_L_isShort_1 0 rfl) ?_
                  refine v_iconst (pc := 103) h (dk dt_L_isShort_1 1 rfl) ?_
                  refine v_iadd (pc := 104) h (dk dt_L_isShort_1 2 rfl) ?_
                  refine v_iald (pc := 105) h sh124 (Nat.le_of_ble_eq_true rfl) (by omega) (dk dt_L_isShort_1 3 rfl) ?_
                  rw [f5i]
                  refine v_icmp_ge (pc := 106) h 196 (dk dt_L_isShort_1 4 rfl) rfl (by omega) (fun c106 => ?_) (fun c106 => ?_)
                  ·
                    exact absurd c106 (by omega)
                  ·
                    refine v_iload (pc := 109) h (dk dt_L_isShort_1 5 rfl) rfl ?_
                    refine v_iload_n (pc := 111) h (dk dt_L_isShort_1 6 rfl) rfl ?_
                    refine v_icmp_eq (pc := 112) h 196 (dk dt_L_isShort_1 7 rfl) rfl (by omega) (fun c112 => ?_) (fun c112 => ?_)
                    ·
                      refine v_iinc (lv' := [(8, _), (9, _), (7, _), (6, _), (5, _), (4, _), (3, _), (0, _), (1, _), (2, _)]) (pc := 196) h (dk dt_L_isShort_1 61 rfl) rfl (Nat.le_of_ble_eq_true rfl) rfl ?_
                      refine v_goto (pc := 199) h 86 (dk dt_L_isShort_1 62 rfl) rfl ?_
                      exact ih3 (i + 1) its (by omega) (itQ_next hits (Or.inl (by omega))) _ ⟨rfl, rfl, rfl, rfl, rfl, rfl, rfl, rfl, rfl, trivial⟩
                    ·
                      refine v_aload_n (pc := 115) h (dk dt_L_isShort_1 8 rfl) rfl ?_
                      refine v_bipush (pc := 116) h (dk dt_L_isShort_1 9 rfl) rfl ?_
                      refine v_iload (pc := 118) h (dk dt_L_isShort_1 10 rfl) rfl ?_
                      refine v_imul (pc := 120) h (dk dt_L_isShort_1 11 rfl) ?_
                      refine v_bipush (pc := 121) h (dk dt_L_isShort_1 12 rfl) rfl ?_
                      refine v_iadd (pc := 123) h (dk dt_L_isShort_1 13 rfl) ?_
                      refine v_iconst (pc := 124) h (dk dt_L_isShort_1 14 rfl) ?_
                      refine v_iload (pc := 125) h (dk dt_L_isShort_1 15 rfl) rfl ?_
                      refine v_imul (pc := 127) h (dk dt_L_isShort_1 16 rfl) ?_
                      refine v_iadd (pc := 128) h (dk dt_L_isShort_1 17 rfl) ?_
                      refine v_iald (pc := 129) h sh124 (Nat.le_of_ble_eq_true rfl) (by omega) (dk dt_L_isShort_1 18 rfl) ?_
                      rw [g6]
                      refine v_aload_n (pc := 130) h (dk dt_L_isShort_1 19 rfl) rfl ?_
                      refine v_bipush (pc := 131) h (dk dt_L_isShort_1 20 rfl) rfl ?_
                      refine v_iload_n (pc := 133) h (dk dt_L_isShort_1 21 rfl) rfl ?_
                      refine v_imul (pc := 134) h (dk dt_L_isShort_1 22 rfl) ?_
                      refine v_bipush (pc := 135) h (dk dt_L_isShort_1 23 rfl) rfl ?_
                      refine v_iadd (pc := 137) h (dk dt_L_isShort_1 24 rfl) ?_
                      refine v_iconst (pc := 138) h (dk dt_L_isShort_1 25 rfl) ?_
                      refine v_iload (pc := 139) h (dk dt_L_isShort_1 26 rfl) rfl ?_
                      refine v_imul (pc := 141) h (dk dt_L_isShort_1 27 rfl) ?_
                      refine v_iadd (pc := 142) h (dk dt_L_isShort_1 28 rfl) ?_
                      refine v_iald (pc := 143) h sh124 (Nat.le_of_ble_eq_true rfl) (by omega) (dk dt_L_isShort_1 29 rfl) ?_
                      rw [f6k]
                      refine v_icmp_ne (pc := 144) h 186 (dk dt_L_isShort_1 30 rfl) rfl (by omega) (fun c144 => ?_) (fun c144 => ?_)
                      ·
                        refine v_iload (pc := 186) h (dk dt_L_isShort_1 57 rfl) rfl ?_
                        refine v_istore (lv' := [(7, _), (9, _), (8, _), (6, _), (5, _), (4, _), (3, _), (0, _), (1, _), (2, _)]) (pc := 188) h (dk dt_L_isShort_1 58 rfl) (Nat.le_of_ble_eq_true rfl) rfl ?_
                        refine v_iinc (lv' := [(9, _), (7, _), (8, _), (6, _), (5, _), (4, _), (3, _), (0, _), (1, _), (2, _)]) (pc := 190) h (dk dt_L_isShort_1 59 rfl) rfl (Nat.le_of_ble_eq_true rfl) rfl ?_
                        refine v_goto (pc := 193) h 95 (dk dt_L_isShort_1 60 rfl) rfl ?_
                        first
                          | exact ih4 (p + 1) _ (by omega) (itQ_yes hits (by omega)) _ ⟨rfl, rfl, rfl, rfl, rfl, rfl, rfl, rfl, rfl, rfl, trivial⟩
                          | exact ih4 (p + 1) its (by omega) (itQ_no hits c144) _ ⟨rfl, rfl, rfl, rfl, rfl, rfl, rfl, rfl, rfl, rfl, trivial⟩
                      ·
                        refine v_iload (pc := 147) h (dk dt_L_isShort_1 31 rfl) rfl ?_
                        refine v_aload_n (pc := 149) h (dk dt_L_isShort_1 32 rfl) rfl ?_
                        refine v_bipush (pc := 150) h (dk dt_L_isShort_1 33 rfl) rfl ?_
                        refine v_iload (pc := 152) h (dk dt_L_isShort_1 34 rfl) rfl ?_
                        refine v_imul (pc := 154) h (dk dt_L_isShort_1 35 rfl) ?_
                        refine v_bipush (pc := 155) h (dk dt_L_isShort_1 36 rfl) rfl ?_
                        refine v_iadd (pc := 157) h (dk dt_L_isShort_1 37 rfl) ?_
                        refine v_iconst (pc := 158) h (dk dt_L_isShort_1 38 rfl) ?_
                        refine v_iload (pc := 159) h (dk dt_L_isShort_1 39 rfl) rfl ?_
                        refine v_imul (pc := 161) h (dk dt_L_isShort_1 40 rfl) ?_
                        refine v_iadd (pc := 162) h (dk dt_L_isShort_1 41 rfl) ?_
                        refine v_iald (pc := 163) h sh124 (Nat.le_of_ble_eq_true rfl) (by omega) (dk dt_L_isShort_1 42 rfl) ?_
                        rw [g8]
                        refine v_aload_n (pc := 164) h (dk dt_L_isShort_1 43 rfl) rfl ?_
                        refine v_bipush (pc := 165) h (dk dt_L_isShort_1 44 rfl) rfl ?_
                        refine v_iload (pc := 167) h (dk dt_L_isShort_1 45 rfl) rfl ?_
                        refine v_imul (pc := 169) h (dk dt_L_isShort_1 46 rfl) ?_
                        refine v_bipush (pc := 170) h (dk dt_L_isShort_1 47 rfl) rfl ?_
                        refine v_iadd (pc := 172) h (dk dt_L_isShort_1 48 rfl) ?_
                        refine v_iconst (pc := 173) h (dk dt_L_isShort_1 49 rfl) ?_
                        refine v_iload (pc := 174) h (dk dt_L_isShort_1 50 rfl) rfl ?_
                        refine v_imul (pc := 176) h (dk dt_L_isShort_1 51 rfl) ?_
                        refine v_iadd (pc := 177) h (dk dt_L_isShort_1 52 rfl) ?_
                        refine v_iald (pc := 178) h sh124 (Nat.le_of_ble_eq_true rfl) (by omega) (dk dt_L_isShort_1 53 rfl) ?_
                        rw [g7]
                        refine v_isub (pc := 179) h (dk dt_L_isShort_1 54 rfl) ?_
                        refine v_max (pc := 180) h km_max wM_L_79 (by omega) (Nat.le_of_ble_eq_true rfl) ⟨Nat.le_of_ble_eq_true rfl, Nat.le_of_ble_eq_true rfl, by show kc ≤ 40; omega, by show ns ≤ 240; omega⟩ (dk dt_L_isShort_1 55 rfl) ?_
                        refine v_goto (pc := 183) h 188 (dk dt_L_isShort_1 56 rfl) rfl ?_
                        refine v_istore (lv' := [(7, _), (9, _), (8, _), (6, _), (5, _), (4, _), (3, _), (0, _), (1, _), (2, _)]) (pc := 188) h (dk dt_L_isShort_1 58 rfl) (Nat.le_of_ble_eq_true rfl) rfl ?_
                        refine v_iinc (lv' := [(9, _), (7, _), (8, _), (6, _), (5, _), (4, _), (3, _), (0, _), (1, _), (2, _)]) (pc := 190) h (dk dt_L_isShort_1 59 rfl) rfl (Nat.le_of_ble_eq_true rfl) rfl ?_
                        refine v_goto (pc := 193) h 95 (dk dt_L_isShort_1 60 rfl) rfl ?_
                        first
                          | exact ih4 (p + 1) _ (by omega) (itQ_yes hits (by omega)) _ ⟨rfl, rfl, rfl, rfl, rfl, rfl, rfl, rfl, rfl, rfl, trivial⟩
                          | exact ih4 (p + 1) its (by omega) (itQ_no hits c144) _ ⟨rfl, rfl, rfl, rfl, rfl, rfl, rfl, rfl, rfl, rfl, trivial⟩
              refine v_iload (pc := 86) h (dk dt_L_isShort_0 55 rfl) rfl ?_
              refine v_iload_n (pc := 88) h (dk dt_L_isShort_0 56 rfl) rfl ?_
              refine v_icmp_ge (pc := 89) h 202 (dk dt_L_isShort_0 57 rfl) rfl (by omega) (fun c89 => ?_) (fun c89 => ?_)
              ·
                exact absurd c89 (by omega)
              ·
                refine v_iconst (pc := 92) h (dk dt_L_isShort_0 58 rfl) ?_
                refine v_istore (lv' := [(9, _), (8, _), (7, _), (6, _), (5, _), (4, _), (3, _), (0, _), (1, _), (2, _)]) (pc := 93) h (dk dt_L_isShort_0 59 rfl) (Nat.le_of_ble_eq_true rfl) rfl ?_
                exact loop4 (μ 13 i).toNat 0 its (by omega) hits _ ⟨rfl, rfl, rfl, rfl, rfl, rfl, rfl, rfl, rfl, rfl, trivial⟩
          refine v_iload (pc := 67) h (dk dt_L_isShort_0 42 rfl) rfl ?_
          refine v_aload_n (pc := 69) h (dk dt_L_isShort_0 43 rfl) rfl ?_
          refine v_bipush (pc := 70) h (dk dt_L_isShort_0 44 rfl) rfl ?_
          refine v_iload_n (pc := 72) h (dk dt_L_isShort_0 45 rfl) rfl ?_
          refine v_imul (pc := 73) h (dk dt_L_isShort_0 46 rfl) ?_
          refine v_iconst (pc := 74) h (dk dt_L_isShort_0 47 rfl) ?_
          refine v_iadd (pc := 75) h (dk dt_L_isShort_0 48 rfl) ?_
          refine v_iald (pc := 76) h sh124 (Nat.le_of_ble_eq_true rfl) (by omega) (dk dt_L_isShort_0 49 rfl) ?_
          rw [f5k]
          refine v_icmp_ge (pc := 77) h 215 (dk dt_L_isShort_0 50 rfl) rfl (by omega) (fun c77 => ?_) (fun c77 => ?_)
          ·
            exact absurd c77 (by omega)
          ·
            refine v_iconst (pc := 80) h (dk dt_L_isShort_0 51 rfl) ?_
            refine v_istore (lv' := [(7, _), (6, _), (5, _), (4, _), (3, _), (0, _), (1, _), (2, _)]) (pc := 81) h (dk dt_L_isShort_0 52 rfl) (Nat.le_of_ble_eq_true rfl) rfl ?_
            refine v_iconst (pc := 83) h (dk dt_L_isShort_0 53 rfl) ?_
            refine v_istore (lv' := [(8, _), (7, _), (6, _), (5, _), (4, _), (3, _), (0, _), (1, _), (2, _)]) (pc := 84) h (dk dt_L_isShort_0 54 rfl) (Nat.le_of_ble_eq_true rfl) rfl ?_
            exact loop3 n 0 0 (by omega) ⟨⟨Int.le_refl _, by decide⟩, fun i' p' y => absurd y (by omega), fun _ p' y => absurd y (by omega)⟩ _ ⟨rfl, rfl, rfl, rfl, rfl, rfl, rfl, rfl, rfl, trivial⟩
      have loop1 : ∀ (d i : Nat), i + d = n → ∀ lv, lvs lv [(5, iI (i : Int)), (4, iI (alP (fun i => decide (i = k) || decide (μ 9 i < μ 9 k)) i)), (3, iI (k : Int)), (0, .ref (pl B 0)), (1, .ref (pl B 124)), (2, iI (n : Int))] → VV a B (SP B D E μ) kc ns 13 lv [] := by
        intro d
        induction d with
        | zero =>
          intro i hi1 lv hlv
          refine VV.loc (lv' := [(5, iI (i : Int)), (4, iI (alP (fun i => decide (i = k) || decide (μ 9 i < μ 9 k)) i)), (3, iI (k : Int)), (0, .ref (pl B 0)), (1, .ref (pl B 124)), (2, iI (n : Int))]) ?_ hlv
          have ei : i = n := by omega
          subst ei
          refine v_iload (pc := 13) h (dk dt_L_isShort_0 9 rfl) rfl ?_
          refine v_iload_n (pc := 15) h (dk dt_L_isShort_0 10 rfl) rfl ?_
          refine v_icmp_ge (pc := 16) h 61 (dk dt_L_isShort_0 11 rfl) rfl (by omega) (fun c16 => ?_) (fun c16 => ?_)
          ·
            refine v_iconst (pc := 61) h (dk dt_L_isShort_0 38 rfl) ?_
            refine v_istore (lv' := [(5, _), (4, _), (3, _), (0, _), (1, _), (2, _)]) (pc := 62) h (dk dt_L_isShort_0 39 rfl) (Nat.le_of_ble_eq_true rfl) rfl ?_
            refine v_iconst (pc := 64) h (dk dt_L_isShort_0 40 rfl) ?_
            refine v_istore (lv' := [(6, _), (5, _), (4, _), (3, _), (0, _), (1, _), (2, _)]) (pc := 65) h (dk dt_L_isShort_0 41 rfl) (Nat.le_of_ble_eq_true rfl) rfl ?_
            exact VV.loc (loop2 (μ 13 k).toNat 0 0 (by omega) (Int.le_refl _) (by omega)) ⟨rfl, rfl, rfl, rfl, rfl, rfl, rfl, trivial⟩
          ·
            exact absurd c16 (by omega)
        | succ d ih1 =>
          intro i hi1 lv hlv
          refine VV.loc (lv' := [(5, iI (i : Int)), (4, iI (alP (fun i => decide (i = k) || decide (μ 9 i < μ 9 k)) i)), (3, iI (k : Int)), (0, .ref (pl B 0)), (1, .ref (pl B 124)), (2, iI (n : Int))]) ?_ hlv
          have hi : i < n := by omega
          have ai := hA i hi
          have wi := (hO.J.2 i (by omega)).2.2.2.1
          have wk := jk.2.2.2.1
          have f3i : μ 124 (60 * (i : Int) + 3).toNat = μ 9 i := by rw [show (60 * (i : Int) + 3).toNat = 60 * i + 3 by omega]; exact ai.2.2.2.1
          refine v_iload (pc := 13) h (dk dt_L_isShort_0 9 rfl) rfl ?_
          refine v_iload_n (pc := 15) h (dk dt_L_isShort_0 10 rfl) rfl ?_
          refine v_icmp_ge (pc := 16) h 61 (dk dt_L_isShort_0 11 rfl) rfl (by omega) (fun c16 => ?_) (fun c16 => ?_)
          ·
            exact absurd c16 (by omega)
          ·
            refine v_iload (pc := 19) h (dk dt_L_isShort_0 12 rfl) rfl ?_
            refine v_iload (pc := 21) h (dk dt_L_isShort_0 13 rfl) rfl ?_
            refine v_iload_n (pc := 23) h (dk dt_L_isShort_0 14 rfl) rfl ?_
            refine v_icmp_eq (pc := 24) h 47 (dk dt_L_isShort_0 15 rfl) rfl (by omega) (fun c24 => ?_) (fun c24 => ?_)
            ·
              refine v_iconst (pc := 47) h (dk dt_L_isShort_0 31 rfl) ?_
              refine v_goto (pc := 48) h 52 (dk dt_L_isShort_0 32 rfl) rfl ?_
              refine v_iand (pc := 52) h (dk dt_L_isShort_0 34 rfl) ?_
              refine v_istore (lv' := [(4, _), (5, _), (3, _), (0, _), (1, _), (2, _)]) (pc := 53) h (dk dt_L_isShort_0 35 rfl) (Nat.le_of_ble_eq_true rfl) rfl ?_
              refine v_iinc (lv' := [(5, _), (4, _), (3, _), (0, _), (1, _), (2, _)]) (pc := 55) h (dk dt_L_isShort_0 36 rfl) rfl (Nat.le_of_ble_eq_true rfl) rfl ?_
              refine v_goto (pc := 58) h 13 (dk dt_L_isShort_0 37 rfl) rfl ?_
              first
                | exact ih1 (i + 1) (by omega) _ ⟨rfl, lvI (alP_1 (p := fun i => decide (i = k) || decide (μ 9 i < μ 9 k)) (by rw [Bool.or_eq_true]; exact Or.inl (decide_eq_true (by omega)))), rfl, rfl, rfl, rfl, trivial⟩
                | exact ih1 (i + 1) (by omega) _ ⟨rfl, lvI (alP_1 (p := fun i => decide (i = k) || decide (μ 9 i < μ 9 k)) (by rw [Bool.or_eq_true]; exact Or.inr (decide_eq_true (by omega)))), rfl, rfl, rfl, rfl, trivial⟩
                | exact ih1 (i + 1) (by omega) _ ⟨rfl, lvI (alP_0 (p := fun i => decide (i = k) || decide (μ 9 i < μ 9 k)) (by rw [Bool.or_eq_true, decide_eq_true_iff, decide_eq_true_iff]; omega)), rfl, rfl, rfl, rfl, trivial⟩
            ·
              refine v_aload_n (pc := 27) h (dk dt_L_isShort_0 16 rfl) rfl ?_
              refine v_bipush (pc := 28) h (dk dt_L_isShort_0 17 rfl) rfl ?_
              refine v_iload (pc := 30) h (dk dt_L_isShort_0 18 rfl) rfl ?_
              refine v_imul (pc := 32) h (dk dt_L_isShort_0 19 rfl) ?_
              refine v_iconst (pc := 33) h (dk dt_L_isShort_0 20 rfl) ?_
              refine v_iadd (pc := 34) h (dk dt_L_isShort_0 21 rfl) ?_
              refine v_iald (pc := 35) h sh124 (Nat.le_of_ble_eq_true rfl) (by omega) (dk dt_L_isShort_0 22 rfl) ?_
              rw [f3i]
              refine v_aload_n (pc := 36) h (dk dt_L_isShort_0 23 rfl) rfl ?_
              refine v_bipush (pc := 37) h (dk dt_L_isShort_0 24 rfl) rfl ?_
              refine v_iload_n (pc := 39) h (dk dt_L_isShort_0 25 rfl) rfl ?_
              refine v_imul (pc := 40) h (dk dt_L_isShort_0 26 rfl) ?_
              refine v_iconst (pc := 41) h (dk dt_L_isShort_0 27 rfl) ?_
              refine v_iadd (pc := 42) h (dk dt_L_isShort_0 28 rfl) ?_
              refine v_iald (pc := 43) h sh124 (Nat.le_of_ble_eq_true rfl) (by omega) (dk dt_L_isShort_0 29 rfl) ?_
              rw [f3k]
              refine v_icmp_ge (pc := 44) h 51 (dk dt_L_isShort_0 30 rfl) rfl (by omega) (fun c44 => ?_) (fun c44 => ?_)
              ·
                refine v_iconst (pc := 51) h (dk dt_L_isShort_0 33 rfl) ?_
                refine v_iand (pc := 52) h (dk dt_L_isShort_0 34 rfl) ?_
                refine v_istore (lv' := [(4, _), (5, _), (3, _), (0, _), (1, _), (2, _)]) (pc := 53) h (dk dt_L_isShort_0 35 rfl) (Nat.le_of_ble_eq_true rfl) rfl ?_
                refine v_iinc (lv' := [(5, _), (4, _), (3, _), (0, _), (1, _), (2, _)]) (pc := 55) h (dk dt_L_isShort_0 36 rfl) rfl (Nat.le_of_ble_eq_true rfl) rfl ?_
                refine v_goto (pc := 58) h 13 (dk dt_L_isShort_0 37 rfl) rfl ?_
                first
                  | exact ih1 (i + 1) (by omega) _ ⟨rfl, lvI (alP_1 (p := fun i => decide (i = k) || decide (μ 9 i < μ 9 k)) (by rw [Bool.or_eq_true]; exact Or.inl (decide_eq_true (by omega)))), rfl, rfl, rfl, rfl, trivial⟩
                  | exact ih1 (i + 1) (by omega) _ ⟨rfl, lvI (alP_1 (p := fun i => decide (i = k) || decide (μ 9 i < μ 9 k)) (by rw [Bool.or_eq_true]; exact Or.inr (decide_eq_true (by omega)))), rfl, rfl, rfl, rfl, trivial⟩
                  | exact ih1 (i + 1) (by omega) _ ⟨rfl, lvI (alP_0 (p := fun i => decide (i = k) || decide (μ 9 i < μ 9 k)) (by rw [Bool.or_eq_true, decide_eq_true_iff, decide_eq_true_iff]; omega)), rfl, rfl, rfl, rfl, trivial⟩
              ·
                refine v_iconst (pc := 47) h (dk dt_L_isShort_0 31 rfl) ?_
                refine v_goto (pc := 48) h 52 (dk dt_L_isShort_0 32 rfl) rfl ?_
                refine v_iand (pc := 52) h (dk dt_L_isShort_0 34 rfl) ?_
                refine v_istore (lv' := [(4, _), (5, _), (3, _), (0, _), (1, _), (2, _)]) (pc := 53) h (dk dt_L_isShort_0 35 rfl) (Nat.le_of_ble_eq_true rfl) rfl ?_
                refine v_iinc (lv' := [(5, _), (4, _), (3, _), (0, _), (1, _), (2, _)]) (pc := 55) h (dk dt_L_isShort_0 36 rfl) rfl (Nat.le_of_ble_eq_true rfl) rfl ?_
                refine v_goto (pc := 58) h 13 (dk dt_L_isShort_0 37 rfl) rfl ?_
                first
                  | exact ih1 (i + 1) (by omega) _ ⟨rfl, lvI (alP_1 (p := fun i => decide (i = k) || decide (μ 9 i < μ 9 k)) (by rw [Bool.or_eq_true]; exact Or.inl (decide_eq_true (by omega)))), rfl, rfl, rfl, rfl, trivial⟩
                  | exact ih1 (i + 1) (by omega) _ ⟨rfl, lvI (alP_1 (p := fun i => decide (i = k) || decide (μ 9 i < μ 9 k)) (by rw [Bool.or_eq_true]; exact Or.inr (decide_eq_true (by omega)))), rfl, rfl, rfl, rfl, trivial⟩
                  | exact ih1 (i + 1) (by omega) _ ⟨rfl, lvI (alP_0 (p := fun i => decide (i = k) || decide (μ 9 i < μ 9 k)) (by rw [Bool.or_eq_true, decide_eq_true_iff, decide_eq_true_iff]; omega)), rfl, rfl, rfl, rfl, trivial⟩
      refine v_iload_n (pc := 2) h (dk dt_L_isShort_0 2 rfl) rfl ?_
      refine v_iload_n (pc := 3) h (dk dt_L_isShort_0 3 rfl) rfl ?_
      refine v_icmp_ge (pc := 4) h 238 (dk dt_L_isShort_0 4 rfl) rfl (by omega) (fun c4 => ?_) (fun c4 => ?_)
      ·
        exact absurd c4 (by omega)
      ·
        refine v_iconst (pc := 7) h (dk dt_L_isShort_0 5 rfl) ?_
        refine v_istore (lv' := [(4, _), (3, _), (0, _), (1, _), (2, _)]) (pc := 8) h (dk dt_L_isShort_0 6 rfl) (Nat.le_of_ble_eq_true rfl) rfl ?_
        refine v_iconst (pc := 10) h (dk dt_L_isShort_0 7 rfl) ?_
        refine v_istore (lv' := [(5, _), (4, _), (3, _), (0, _), (1, _), (2, _)]) (pc := 11) h (dk dt_L_isShort_0 8 rfl) (Nat.le_of_ble_eq_true rfl) rfl ?_
        exact loop1 n 0 (by omega) _ ⟨rfl, rfl, rfl, rfl, rfl, rfl, trivial⟩
  refine v_iconst (pc := 0) h (dk dt_L_isShort_0 0 rfl) ?_
  refine v_istore_n (lv' := [(3, _), (0, _), (1, _), (2, _)]) (pc := 1) h (dk dt_L_isShort_0 1 rfl) (Nat.le_of_ble_eq_true rfl) rfl ?_
  exact VV.loc (loop n 0 0 0 (by omega) (by omega) (by omega)) ⟨rfl, rfl, rfl, rfl, trivial⟩
end
