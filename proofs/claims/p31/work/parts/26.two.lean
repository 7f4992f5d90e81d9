/-! ===== Pair ===== -/
section
variable {l : Launch} {B : Nat} {D : va_G} {E : Nat → ClassId} {μ m σ : Mm} {n : Nat} {K : Nat → Int}
theorem aP_p1 {g c : Nat} (ha : aP g n μ σ) (hc : c < n) (hr : rdy σ c) : aP g n (mspd μ g σ n c (σ 6 6)) (p1N σ (c : Int)) :=
  aP_spd ha hc hr (fun b => by rw [p1_0, Int.toNat_natCast]; by_cases e : b = c; (subst e; rw [if_pos ⟨by omega, rfl⟩, if_pos rfl]); (rw [if_neg (fun z => e z.2), if_neg e])) (fun b => by
    rw [p1_1, Int.toNat_natCast]
    by_cases e : b = c
    · subst e
      by_cases q : σ 0 b = 1
      · rw [if_pos ⟨by omega, rfl, q⟩, if_pos ⟨q, rfl⟩]
      · rw [if_neg (fun z => q z.2.2), if_neg (fun z => q z.1)]
    · rw [if_neg (fun z => e z.2.1), if_neg (fun z => e z.2)]) (p1_o _ (by decide) (by decide)) (p1_o _ (by decide) (by decide))
theorem p1_n (σ : Mm) : p1N σ (-1) = σ := by
  funext a b
  unfold p1N
  rw [if_neg (fun z => z.1 rfl), if_neg (fun z => z.1 rfl)]
theorem K2_0 {le : Int} : K2 le 0 = if le = 0 then 6 else 3 := rfl
theorem c_X5_least (hst : l.stackTraces = false) (hs : okJ μ) (hn : μ 1 9 = (n : Int)) (hP : aP 116 n μ σ) (hB : vB (jm μ) n σ) (ht : σ 6 6 ≤ 2304) {le : Int} (hle : le = 0 ∨ le = 1) {x : Int} (hx : InR x) :
    Ct l B D E yX5_least (.code yX5_least cX5_least 7 (some .int)) rm_X5_least [.ref (pl B 115), iI le, iI x] μ (ri (lsF (jm μ) n (K2 le) σ x n) μ) NX := by
  have hb := hs.1
  have hD := okJD hs hn
  have h5 : K2 le 0 = 1 ∨ K2 le 0 = 2 ∨ K2 le 0 = 3 ∨ K2 le 0 = 5 ∨ K2 le 0 = 6 := by rw [K2_0]; split <;> omega
  have k3 : le ≠ 0 → ∀ j, keyR (jm μ) n (K2 le) σ j = σ 0 j := fun q j => by unfold keyR; rw [K2_0, if_neg q]; simp
  have k6 : le = 0 → ∀ j, keyR (jm μ) n (K2 le) σ j = if μ 7 j = 0 then 401 else μ 7 j := fun q j => by unfold keyR; rw [K2_0, if_pos q]; simp [jm]; rfl
  have hww : ∀ j, j < n → 0 ≤ μ 7 j ∧ μ 7 j ≤ 400 := fun j hj => (hs.2 j (by omega)).2.2.1
  have hky : ∀ j, j < n → μ 2 j = if μ 7 j = 0 then 401 else μ 7 j := fun j hj => (hs.2 j (by omega)).2.2.2.2.2.2.2.2
  refine ct_of (own := RX5) (lv := [(0, _), (1, _), (2, _)]) hst (by decide) rfl rfl (Nat.le_of_ble_eq_true rfl) fun a h r t => ?_
  have loop : ∀ (d i : Nat), i + d = n → VV a B (SP B D E μ) 0 0 8 [(5, iI (i : Int)), (4, iI (if lsF (jm μ) n (K2 le) σ x i = -1 then 0 else keyR (jm μ) n (K2 le) σ (lsF (jm μ) n (K2 le) σ x i).toNat)), (3, iI (lsF (jm μ) n (K2 le) σ x i)), (0, .ref (pl B 115)), (1, iI le), (2, iI x)] [] := by
    intro d
    induction d with
    | zero =>
      intro i hi
      refine v_iload (pc := 8) h (dk dt_X5_least 6 rfl) rfl ?_
      refine v_aload_n (pc := 10) h (dk dt_X5_least 7 rfl) rfl ?_
      refine v_getr (pc := 11) h ci5 sh115 (Nat.le_of_ble_eq_true rfl) (j := 1) wF_X5_9 rfl (dk dt_X5_least 8 rfl) ?_
      refine v_geti (pc := 14) h ci1 sh1 (Nat.le_of_ble_eq_true rfl) (j := 9) wF_X5_43 rfl (dk dt_X5_least 9 rfl) ?_
      refine v_icmp_ge (pc := 17) h 96 (dk dt_X5_least 10 rfl) rfl (by omega) (fun c17 => ?_) (fun c17 => ?_)
      ·
        refine v_iload_n (pc := 96) h (dk dt_X5_least 45 rfl) rfl ?_
        exact v_iret (pc := 97) h r (dk dt_X5_least 46 rfl) (Nat.le_of_ble_eq_true rfl) (Nat.le_of_ble_eq_true rfl) ⟨by rw [show n = i by omega], rfl⟩
      ·
        exact absurd c17 (by omega)
    | succ d ih =>
      intro i hi
      have hin : i < n := by omega
      have hbb : -1 ≤ lsF (jm μ) n (K2 le) σ x i ∧ lsF (jm μ) n (K2 le) σ x i < i := by rcases lsF_is (jm μ) n (K2 le) σ x i with ⟨q, -⟩ | ⟨y, q1, q2, -⟩ <;> omega
      have hkb := keyR_b (K := K2 le) hD hB ht h5 hin
      have hkx := fun q : 0 ≤ lsF (jm μ) n (K2 le) σ x i => keyR_b (K := K2 le) hD hB ht h5 (j := (lsF (jm μ) n (K2 le) σ x i).toNat) (by omega)
      have hkd : 0 ≤ (if lsF (jm μ) n (K2 le) σ x i = -1 then 0 else keyR (jm μ) n (K2 le) σ (lsF (jm μ) n (K2 le) σ x i).toNat) ∧ (if lsF (jm μ) n (K2 le) σ x i = -1 then 0 else keyR (jm μ) n (K2 le) σ (lsF (jm μ) n (K2 le) σ x i).toNat) ≤ 10000000 := by
        split
        · omega
        · exact hkx (by omega)
      have hwi := hww i hin
      have hPi := (hP.1 i hin).1
      have eN : ¬ ((rdy σ i ∧ (i : Int) ≠ x) ∧ (lsF (jm μ) n (K2 le) σ x i = -1 ∨ keyR (jm μ) n (K2 le) σ i < keyR (jm μ) n (K2 le) σ (lsF (jm μ) n (K2 le) σ x i).toNat)) → lsF (jm μ) n (K2 le) σ x (i + 1) = lsF (jm μ) n (K2 le) σ x i := fun q => by rw [lsF, if_neg q]
      have eY : (rdy σ i ∧ (i : Int) ≠ x) ∧ (lsF (jm μ) n (K2 le) σ x i = -1 ∨ keyR (jm μ) n (K2 le) σ i < keyR (jm μ) n (K2 le) σ (lsF (jm μ) n (K2 le) σ x i).toNat) → lsF (jm μ) n (K2 le) σ x (i + 1) = (i : Int) := fun q => by rw [lsF, if_pos q]
      have hio := ih (i + 1) (by omega)
      have fN := fun q => show VV a B (SP B D E μ) 0 0 8 [(5, iI ((i : Int) + 1)), (4, iI (if lsF (jm μ) n (K2 le) σ x i = -1 then 0 else keyR (jm μ) n (K2 le) σ (lsF (jm μ) n (K2 le) σ x i).toNat)), (3, iI (lsF (jm μ) n (K2 le) σ x i)), (0, .ref (pl B 115)), (1, iI le), (2, iI x)] [] by have z := hio; rw [eN q] at z; exact z
      have fY := fun q => show VV a B (SP B D E μ) 0 0 8 [(5, iI ((i : Int) + 1)), (4, iI (keyR (jm μ) n (K2 le) σ i)), (3, iI (i : Int)), (0, .ref (pl B 115)), (1, iI le), (2, iI x)] [] by have z := hio; rw [eY q, if_neg (by omega), Int.toNat_natCast] at z; exact z
      have go69 : rdy σ i → (i : Int) ≠ x → VV a B (SP B D E μ) 0 0 69 [(5, iI (i : Int)), (4, iI (if lsF (jm μ) n (K2 le) σ x i = -1 then 0 else keyR (jm μ) n (K2 le) σ (lsF (jm μ) n (K2 le) σ x i).toNat)), (3, iI (lsF (jm μ) n (K2 le) σ x i)), (0, .ref (pl B 115)), (1, iI le), (2, iI x)] [iI (keyR (jm μ) n (K2 le) σ i)] := by
        intro q1 q2
        refine v_istore (lv' := [(6, _), (5, _), (4, _), (3, _), (0, _), (1, _), (2, _)]) (pc := 69) h (dk dt_X5_least 32 rfl) (Nat.le_of_ble_eq_true rfl) rfl ?_
        refine v_iload_n (pc := 71) h (dk dt_X5_least 33 rfl) rfl ?_
        refine v_iconst (pc := 72) h (dk dt_X5_least 34 rfl) ?_
        refine v_icmp_eq (pc := 73) h 83 (dk dt_X5_least 35 rfl) rfl (by omega) (fun c73 => ?_) (fun c73 => ?_)
        ·
          refine v_iload (pc := 83) h (dk dt_X5_least 39 rfl) rfl ?_
          refine v_istore_n (lv' := [(3, _), (6, _), (5, _), (4, _), (0, _), (1, _), (2, _)]) (pc := 85) h (dk dt_X5_least 40 rfl) (Nat.le_of_ble_eq_true rfl) rfl ?_
          refine v_iload (pc := 86) h (dk dt_X5_least 41 rfl) rfl ?_
          refine v_istore (lv' := [(4, _), (3, _), (6, _), (5, _), (0, _), (1, _), (2, _)]) (pc := 88) h (dk dt_X5_least 42 rfl) (Nat.le_of_ble_eq_true rfl) rfl ?_
          refine v_iinc (lv' := [(5, _), (4, _), (3, _), (6, _), (0, _), (1, _), (2, _)]) (pc := 90) h (dk dt_X5_least 43 rfl) rfl (Nat.le_of_ble_eq_true rfl) rfl ?_
          refine v_goto (pc := 93) h 8 (dk dt_X5_least 44 rfl) rfl ?_
          first
            | exact VV.loc (fY ⟨⟨q1, q2⟩, Or.inl c73⟩) ⟨rfl, rfl, rfl, rfl, rfl, rfl, trivial⟩
            | exact VV.loc (fY ⟨⟨q1, q2⟩, Or.inr c80⟩) ⟨rfl, rfl, rfl, rfl, rfl, rfl, trivial⟩
            | exact VV.loc (fN (fun q => by rcases q.2 with z | z; exact c73 z; omega)) ⟨rfl, rfl, rfl, rfl, rfl, rfl, trivial⟩
        ·
          refine v_iload (pc := 76) h (dk dt_X5_least 36 rfl) rfl ?_
          refine v_iload (pc := 78) h (dk dt_X5_least 37 rfl) rfl ?_
          refine v_icmp_ge (pc := 80) h 90 (dk dt_X5_least 38 rfl) rfl ⟨by omega, by omega⟩ (fun c80 => ?_) (fun c80 => ?_)
          ·
            rw [if_neg c73] at c80
            refine v_iinc (lv' := [(5, _), (6, _), (4, _), (3, _), (0, _), (1, _), (2, _)]) (pc := 90) h (dk dt_X5_least 43 rfl) rfl (Nat.le_of_ble_eq_true rfl) rfl ?_
            refine v_goto (pc := 93) h 8 (dk dt_X5_least 44 rfl) rfl ?_
            first
              | exact VV.loc (fY ⟨⟨q1, q2⟩, Or.inl c73⟩) ⟨rfl, rfl, rfl, rfl, rfl, rfl, trivial⟩
              | exact VV.loc (fY ⟨⟨q1, q2⟩, Or.inr c80⟩) ⟨rfl, rfl, rfl, rfl, rfl, rfl, trivial⟩
              | exact VV.loc (fN (fun q => by rcases q.2 with z | z; exact c73 z; omega)) ⟨rfl, rfl, rfl, rfl, rfl, rfl, trivial⟩
          ·
            rw [if_neg c73] at c80
            refine v_iload (pc := 83) h (dk dt_X5_least 39 rfl) rfl ?_
            refine v_istore_n (lv' := [(3, _), (6, _), (5, _), (4, _), (0, _), (1, _), (2, _)]) (pc := 85) h (dk dt_X5_least 40 rfl) (Nat.le_of_ble_eq_true rfl) rfl ?_
            refine v_iload (pc := 86) h (dk dt_X5_least 41 rfl) rfl ?_
            refine v_istore (lv' := [(4, _), (3, _), (6, _), (5, _), (0, _), (1, _), (2, _)]) (pc := 88) h (dk dt_X5_least 42 rfl) (Nat.le_of_ble_eq_true rfl) rfl ?_
            refine v_iinc (lv' := [(5, _), (4, _), (3, _), (6, _), (0, _), (1, _), (2, _)]) (pc := 90) h (dk dt_X5_least 43 rfl) rfl (Nat.le_of_ble_eq_true rfl) rfl ?_
            refine v_goto (pc := 93) h 8 (dk dt_X5_least 44 rfl) rfl ?_
            first
              | exact VV.loc (fY ⟨⟨q1, q2⟩, Or.inl c73⟩) ⟨rfl, rfl, rfl, rfl, rfl, rfl, trivial⟩
              | exact VV.loc (fY ⟨⟨q1, q2⟩, Or.inr c80⟩) ⟨rfl, rfl, rfl, rfl, rfl, rfl, trivial⟩
              | exact VV.loc (fN (fun q => by rcases q.2 with z | z; exact c73 z; omega)) ⟨rfl, rfl, rfl, rfl, rfl, rfl, trivial⟩
      refine v_iload (pc := 8) h (dk dt_X5_least 6 rfl) rfl ?_
      refine v_aload_n (pc := 10) h (dk dt_X5_least 7 rfl) rfl ?_
      refine v_getr (pc := 11) h ci5 sh115 (Nat.le_of_ble_eq_true rfl) (j := 1) wF_X5_9 rfl (dk dt_X5_least 8 rfl) ?_
      refine v_geti (pc := 14) h ci1 sh1 (Nat.le_of_ble_eq_true rfl) (j := 9) wF_X5_43 rfl (dk dt_X5_least 9 rfl) ?_
      refine v_icmp_ge (pc := 17) h 96 (dk dt_X5_least 10 rfl) rfl (by omega) (fun c17 => ?_) (fun c17 => ?_)
      ·
        exact absurd c17 (by omega)
      ·
        refine v_aload_n (pc := 20) h (dk dt_X5_least 11 rfl) rfl ?_
        refine v_getr (pc := 21) h ci5 sh115 (Nat.le_of_ble_eq_true rfl) (j := 0) wF_X5_20 rfl (dk dt_X5_least 12 rfl) ?_
        refine v_iload (pc := 24) h (dk dt_X5_least 13 rfl) rfl ?_
        refine v_cVi (pc := 26) h (c_X6_isReady h.quiet P116 (by omega) hP (by omega)) kv_X6_isReady (P_hd P116) wM_X5_49 rfl rfl (Nat.le_of_ble_eq_true rfl) (RM.of rfl) rfl rfl (dk dt_X5_least 14 rfl) ?_
        refine v_if_eq (pc := 29) h 90 (dk dt_X5_least 15 rfl) rfl (by split <;> omega) (fun c29 => ?_) (fun c29 => ?_)
        ·
          have d29 : ¬ rdy σ i := fun q => by rw [if_pos q] at c29; omega
          refine v_iinc (lv' := [(5, _), (4, _), (3, _), (0, _), (1, _), (2, _)]) (pc := 90) h (dk dt_X5_least 43 rfl) rfl (Nat.le_of_ble_eq_true rfl) rfl ?_
          refine v_goto (pc := 93) h 8 (dk dt_X5_least 44 rfl) rfl ?_
          first
            | exact VV.loc (fN (fun q => d29 q.1.1)) ⟨rfl, rfl, rfl, rfl, rfl, rfl, trivial⟩
            | exact VV.loc (fN (fun q => q.1.2 c35)) ⟨rfl, rfl, rfl, rfl, rfl, rfl, trivial⟩
        ·
          have d29 : rdy σ i := by by_cases q : rdy σ i; exact q; rw [if_neg q] at c29; omega
          refine v_iload (pc := 32) h (dk dt_X5_least 16 rfl) rfl ?_
          refine v_iload_n (pc := 34) h (dk dt_X5_least 17 rfl) rfl ?_
          refine v_icmp_eq (pc := 35) h 90 (dk dt_X5_least 18 rfl) rfl (by omega) (fun c35 => ?_) (fun c35 => ?_)
          ·
            refine v_iinc (lv' := [(5, _), (4, _), (3, _), (0, _), (1, _), (2, _)]) (pc := 90) h (dk dt_X5_least 43 rfl) rfl (Nat.le_of_ble_eq_true rfl) rfl ?_
            refine v_goto (pc := 93) h 8 (dk dt_X5_least 44 rfl) rfl ?_
            first
              | exact VV.loc (fN (fun q => d29 q.1.1)) ⟨rfl, rfl, rfl, rfl, rfl, rfl, trivial⟩
              | exact VV.loc (fN (fun q => q.1.2 c35)) ⟨rfl, rfl, rfl, rfl, rfl, rfl, trivial⟩
          ·
            refine v_iload_n (pc := 38) h (dk dt_X5_least 19 rfl) rfl ?_
            refine v_if_eq (pc := 39) h 57 (dk dt_X5_least 20 rfl) rfl (by omega) (fun c39 => ?_) (fun c39 => ?_)
            ·
              refine v_aload_n (pc := 57) h (dk dt_X5_least 27 rfl) rfl ?_
              refine v_getr (pc := 58) h ci5 sh115 (Nat.le_of_ble_eq_true rfl) (j := 1) wF_X5_9 rfl (dk dt_X5_least 28 rfl) ?_
              refine v_getr (pc := 61) h ci1 sh1 (Nat.le_of_ble_eq_true rfl) (j := 10) wF_X5_62 rfl (dk dt_X5_least 29 rfl) ?_
              refine v_iload (pc := 64) h (dk dt_X5_least 30 rfl) rfl ?_
              refine v_cVi (pc := 66) h (c_X7_atn h.quiet jr9 (o1 := 2) rfl (Nat.le_of_ble_eq_true rfl) (by omega)) kv_X7_at jr9.1 wM_X5_57 rfl rfl (Nat.le_of_ble_eq_true rfl) (RM.of rfl) rfl rfl (dk dt_X5_least 31 rfl) ?_
              rw [hky i hin, ← k6 c39 i]
              exact go69 d29 c35
            ·
              refine v_aload_n (pc := 42) h (dk dt_X5_least 21 rfl) rfl ?_
              refine v_getr (pc := 43) h ci5 sh115 (Nat.le_of_ble_eq_true rfl) (j := 0) wF_X5_20 rfl (dk dt_X5_least 22 rfl) ?_
              refine v_getr (pc := 46) h ci6 (P_hd P116) (Nat.le_of_ble_eq_true rfl) (j := 0) wF_X5_53 rfl (dk dt_X5_least 23 rfl) ?_
              refine v_iload (pc := 49) h (dk dt_X5_least 24 rfl) rfl ?_
              refine v_cVi (pc := 51) h (c_X7_atn h.quiet (P_lefts P116) (o1 := 118) rfl (Nat.le_of_ble_eq_true rfl) (by omega)) kv_X7_at (P_lefts P116).1 wM_X5_57 rfl rfl (Nat.le_of_ble_eq_true rfl) (RM.of rfl) rfl rfl (dk dt_X5_least 25 rfl) ?_
              rw [hPi, ← k3 c39 i]
              refine v_goto (pc := 54) h 69 (dk dt_X5_least 26 rfl) rfl ?_
              exact go69 d29 c35
  refine v_iconst (pc := 0) h (dk dt_X5_least 0 rfl) ?_
  refine v_istore_n (lv' := [(3, _), (0, _), (1, _), (2, _)]) (pc := 1) h (dk dt_X5_least 1 rfl) (Nat.le_of_ble_eq_true rfl) rfl ?_
  refine v_iconst (pc := 2) h (dk dt_X5_least 2 rfl) ?_
  refine v_istore (lv' := [(4, _), (3, _), (0, _), (1, _), (2, _)]) (pc := 3) h (dk dt_X5_least 3 rfl) (Nat.le_of_ble_eq_true rfl) rfl ?_
  refine v_iconst (pc := 5) h (dk dt_X5_least 4 rfl) ?_
  refine v_istore (lv' := [(5, _), (4, _), (3, _), (0, _), (1, _), (2, _)]) (pc := 6) h (dk dt_X5_least 5 rfl) (Nat.le_of_ble_eq_true rfl) rfl ?_
  exact VV.loc (loop n 0 (by omega)) ⟨rfl, rfl, rfl, rfl, rfl, rfl, trivial⟩
def frP (μ m : Mm) : Prop := ∀ a, a < 116 ∨ 123 ≤ a → m a = μ a
theorem c_X5_workBy (hst : l.stackTraces = false) (hs : okJ μ) (hn : μ 1 9 = (n : Int)) {le : Int} (hle : le = 0 ∨ le = 1) :
    Ct l B D E yX5_workBy (.code yX5_workBy cX5_workBy 5 none) rm_X5_workBy [.ref (pl B 115), iI le] μ (fun v m => v = none ∧ frP μ m ∧ aP 116 n m (tnN (jm μ) n le)) NX := by
  have hb := hs.1
  have hD := okJD hs hn
  refine ct_of (own := RX5) (lv := [(0, _), (1, _)]) hst (by decide) rfl rfl (Nat.le_of_ble_eq_true rfl) fun a h r t => ?_
  have loop : ∀ (d i : Nat) (m : Mm) (σ : Mm), i + d = 2304 → frP μ m → aP 116 n m σ → vB (jm μ) n σ → vW (jm μ) n σ → σ 6 6 ≤ 99 + dnF (jm μ) σ n → σ 6 6 = (i : Int) → tnN (jm μ) n le = twF (jm μ) n (K2 le) d σ → VV a B (SP B D E m) 0 0 9 [(2, iI (i : Int)), (0, .ref (pl B 115)), (1, iI le)] [] := by
    intro d
    induction d with
    | zero =>
      intro i m σ hi f1 a1 hB hW hd hti hfn
      refine v_iload_n (pc := 9) h (dk dt_X5_workBy 5 rfl) rfl ?_
      refine v_sipush (pc := 10) h (dk dt_X5_workBy 6 rfl) rfl ?_
      refine v_icmp_ge (pc := 13) h 86 (dk dt_X5_workBy 7 rfl) rfl (by omega) (fun c13 => ?_) (fun c13 => ?_)
      ·
        exact v_vret (pc := 86) h r (dk dt_X5_workBy 45 rfl) (Nat.le_of_ble_eq_true rfl) (Nat.le_of_ble_eq_true rfl) ⟨rfl, f1, by rw [hfn]; exact a1⟩
      ·
        exact absurd c13 (by omega)
    | succ d ih =>
      intro i m σ hi f1 a1 hB hW hd hti hfn
      have j1 : jm m = jm μ := jm_c (fun a h => f1 a (by omega))
      have hs1 : okJ m := okJ_c (fun a h => f1 a (by omega)) hs
      have hn1 : m 1 9 = (n : Int) := by rw [f1 1 (by omega)]; exact hn
      have hB1 : vB (jm m) n σ := by rw [j1]; exact hB
      have h460 : dnF (jm μ) σ n ≤ 360 := dn_le hD hB
      have a2 := aP_adm a1 (by omega) (okJD hs1 hn1) hB1
      rw [j1] at a2
      have o2 : ∀ a, a < 116 ∨ 123 ≤ a → madm m 116 n σ a = m a := fun a h => adm_o (by omega) (by omega)
      have f2 : frP μ (madm m 116 n σ) := fun a h => by rw [o2 a h]; exact f1 a h
      have hs2 : okJ (madm m 116 n σ) := okJ_c (fun a h => f2 a (by omega)) hs
      have hn2 : madm m 116 n σ 1 9 = (n : Int) := by rw [f2 1 (by omega)]; exact hn
      have j2 : jm (madm m 116 n σ) = jm μ := jm_c (fun a h => f2 a (by omega))
      have hB2 : vB (jm (madm m 116 n σ)) n (adN (jm μ) n σ) := by rw [j2]; exact vB_ad hB
      have hBo := (vB_ad hB).2
      have e66 : adN (jm μ) n σ 6 6 = σ 6 6 := by rw [ad_o (by decide) (by decide) (by decide)]
      have w1 : lsF (jm (madm m 116 n σ)) n (K2 le) (adN (jm μ) n σ) (-1) n = w1N (jm μ) n (K2 le) (adN (jm μ) n σ) := by rw [j2]; rfl
      have w2 : lsF (jm (madm m 116 n σ)) n (K2 le) (adN (jm μ) n σ) (w1N (jm μ) n (K2 le) (adN (jm μ) n σ)) n = w2N (jm μ) n (K2 le) (adN (jm μ) n σ) := by rw [j2]; rfl
      have hw1 := w1_is (J := jm μ) (n := n) (K := K2 le) (σ := adN (jm μ) n σ)
      have hw2 := w2_is (J := jm μ) (n := n) (K := K2 le) (σ := adN (jm μ) n σ)
      have hts : tsN (jm μ) n (K2 le) σ = mup (p1N (p1N (adN (jm μ) n σ) (w1N (jm μ) n (K2 le) (adN (jm μ) n σ))) (w2N (jm μ) n (K2 le) (adN (jm μ) n σ))) 6 6 (σ 6 6 + 1) := rfl
      have hi1 : -1 ≤ w1N (jm μ) n (K2 le) (adN (jm μ) n σ) ∧ w1N (jm μ) n (K2 le) (adN (jm μ) n σ) < n := by rcases hw1 with ⟨q, -⟩ | ⟨j, q1, q2, -⟩ <;> omega
      have hi2 : -1 ≤ w2N (jm μ) n (K2 le) (adN (jm μ) n σ) ∧ w2N (jm μ) n (K2 le) (adN (jm μ) n σ) < n := by rcases hw2 with q | ⟨j, q1, q2, -⟩ <;> omega
      generalize hx1 : w1N (jm μ) n (K2 le) (adN (jm μ) n σ) = x1 at *
      generalize hx2 : w2N (jm μ) n (K2 le) (adN (jm μ) n σ) = x2 at *
      generalize hM : madm m 116 n σ = M at *
      generalize hS1 : adN (jm μ) n σ = σ1 at *
      have next : ¬ ovr n σ → ∀ m', frP μ m' → aP 116 n m' (p1N (p1N σ1 x1) x2) → VV a B (SP B D E m') 0 0 9 [(2, iI ((i : Int) + 1)), (0, .ref (pl B 115)), (1, iI le)] [] := by
        intro ho m' f' a'
        have q := ts_v (K := K2 le) hD hB hW ho hd
        refine ih (i + 1) m' (tsN (jm μ) n (K2 le) σ) (by omega) f' ?_ q.1 q.2.1 q.2.2 (by rw [ts_66]; omega) (by rw [hfn, twF, if_neg ho])
        rw [hts]
        exact aP_s (by funext b; exact mup_nk (by omega)) (by funext b; exact mup_nk (by omega)) (by funext b; exact mup_nk (by omega)) (by funext b; exact mup_nk (by omega)) a'
      have go64 : ¬ ovr n σ → ∀ m', frP μ m' → aP 116 n m' (p1N σ1 x1) → VV a B (SP B D E m') 0 0 64 [(4, iI x2), (2, iI (i : Int)), (0, .ref (pl B 115)), (1, iI le)] [] := by
        intro ho m' f' a'
        have e66' : p1N σ1 x1 6 6 = (i : Int) := by rw [p1_o _ (a := 6) (by decide) (by decide), e66]; exact hti
        rcases hw2 with q2 | ⟨c2, q1, q2, q3, q4⟩
        ·
          refine v_iload (pc := 64) h (dk dt_X5_workBy 35 rfl) rfl ?_
          refine v_iconst (pc := 66) h (dk dt_X5_workBy 36 rfl) ?_
          refine v_icmp_eq (pc := 67) h 80 (dk dt_X5_workBy 37 rfl) rfl (by omega) (fun c67 => ?_) (fun c67 => ?_)
          ·
            refine v_iinc (lv' := [(2, _), (4, _), (0, _), (1, _)]) (pc := 80) h (dk dt_X5_workBy 43 rfl) rfl (Nat.le_of_ble_eq_true rfl) rfl ?_
            refine v_goto (pc := 83) h 9 (dk dt_X5_workBy 44 rfl) rfl ?_
            exact VV.loc (next ho m' f' (by rw [q2, p1_n]; exact a')) ⟨rfl, rfl, rfl, trivial⟩
          ·
            exact absurd q2 c67
        · have hne : ¬ (x1 ≠ -1 ∧ c2 = x1.toNat) := fun z => by rcases hw1 with ⟨y, -⟩ | ⟨j, -, y, -⟩ <;> omega
          have hr2 : rdy (p1N σ1 x1) c2 := by
            unfold rdy
            rw [p1_o _ (a := 5) (by decide) (by decide), p1_0, if_neg hne]
            exact q3
          have h02 : 1 ≤ p1N σ1 x1 0 c2 ∧ p1N σ1 x1 0 c2 ≤ 30 := by
            have h1 := (hBo c2 q1).2.1
            have h2 := okD_l hD q1
            have h3 := hr2.2
            rw [p1_0, if_neg hne] at h3 ⊢
            omega
          rw [q2]
          refine v_iload (pc := 64) h (dk dt_X5_workBy 35 rfl) rfl ?_
          refine v_iconst (pc := 66) h (dk dt_X5_workBy 36 rfl) ?_
          refine v_icmp_eq (pc := 67) h 80 (dk dt_X5_workBy 37 rfl) rfl (by omega) (fun c67 => ?_) (fun c67 => ?_)
          ·
            exact absurd c67 (by omega)
          ·
            refine v_aload_n (pc := 70) h (dk dt_X5_workBy 38 rfl) rfl ?_
            refine v_getr (pc := 71) h ci5 sh115 (Nat.le_of_ble_eq_true rfl) (j := 0) wF_X5_20 rfl (dk dt_X5_workBy 39 rfl) ?_
            refine v_iload (pc := 74) h (dk dt_X5_workBy 40 rfl) rfl ?_
            refine v_iload_n (pc := 76) h (dk dt_X5_workBy 41 rfl) rfl ?_
            rw [← e66']
            refine v_cVv (pc := 77) h (c_X6_spendOn (n := n) (σ := p1N σ1 x1) h.quiet P116 (by omega) a' q1 h02) kv_X6_spendOn (P_hd P116) wM_X5_39 rfl rfl (Nat.le_of_ble_eq_true rfl) (RM.of rfl) rfl rfl (dk dt_X5_workBy 42 rfl) ?_
            refine v_iinc (lv' := [(2, _), (4, _), (0, _), (1, _)]) (pc := 80) h (dk dt_X5_workBy 43 rfl) rfl (Nat.le_of_ble_eq_true rfl) rfl ?_
            refine v_goto (pc := 83) h 9 (dk dt_X5_workBy 44 rfl) rfl ?_
            exact VV.loc (next ho _ (fun a h => by rw [spd_o (by omega)]; exact f' a h) (by rw [q2]; exact aP_p1 a' q1 hr2)) ⟨lvI (by omega), rfl, rfl, trivial⟩
      have go55 : ¬ ovr n σ → x1 ≠ -1 → VV a B (SP B D E M) 0 0 55 [(4, iI x2), (3, iI x1), (2, iI (i : Int)), (0, .ref (pl B 115)), (1, iI le)] [] := by
        intro ho c52
        obtain ⟨c1, q1, q2, q3⟩ : ∃ j, j < n ∧ x1 = (j : Int) ∧ rdy σ1 j := by rcases hw1 with ⟨q, -⟩ | q; exact absurd q c52; exact q
        have h01 : 1 ≤ σ1 0 c1 ∧ σ1 0 c1 ≤ 30 := by have h1 := (hBo c1 q1).2.1; have h2 := okD_l hD q1; have h3 := q3.2; omega
        have e66i : σ1 6 6 = (i : Int) := by omega
        rw [q2]
        refine v_aload_n (pc := 55) h (dk dt_X5_workBy 30 rfl) rfl ?_
        refine v_getr (pc := 56) h ci5 sh115 (Nat.le_of_ble_eq_true rfl) (j := 0) wF_X5_20 rfl (dk dt_X5_workBy 31 rfl) ?_
        refine v_iload_n (pc := 59) h (dk dt_X5_workBy 32 rfl) rfl ?_
        refine v_iload_n (pc := 60) h (dk dt_X5_workBy 33 rfl) rfl ?_
        rw [← e66i]
        refine v_cVv (pc := 61) h (c_X6_spendOn (n := n) (σ := σ1) h.quiet P116 (by omega) a2 q1 h01) kv_X6_spendOn (P_hd P116) wM_X5_39 rfl rfl (Nat.le_of_ble_eq_true rfl) (RM.of rfl) rfl rfl (dk dt_X5_workBy 34 rfl) ?_
        rw [e66i]
        exact VV.loc (go64 ho _ (fun a h => by rw [spd_o (by omega)]; exact f2 a h) (by rw [q2, ← e66i]; exact aP_p1 a2 q1 q3)) ⟨rfl, rfl, rfl, rfl, trivial⟩
      refine v_iload_n (pc := 9) h (dk dt_X5_workBy 5 rfl) rfl ?_
      refine v_sipush (pc := 10) h (dk dt_X5_workBy 6 rfl) rfl ?_
      refine v_icmp_ge (pc := 13) h 86 (dk dt_X5_workBy 7 rfl) rfl (by omega) (fun c13 => ?_) (fun c13 => ?_)
      ·
        exact absurd c13 (by omega)
      ·
        refine v_aload_n (pc := 16) h (dk dt_X5_workBy 8 rfl) rfl ?_
        refine v_getr (pc := 17) h ci5 sh115 (Nat.le_of_ble_eq_true rfl) (j := 0) wF_X5_20 rfl (dk dt_X5_workBy 9 rfl) ?_
        refine v_cVi (pc := 20) h (c_X6_isOver (n := n) (σ := σ) h.quiet P116 (by omega) a1) kv_X6_isOver (P_hd P116) wM_X5_27 rfl rfl (Nat.le_of_ble_eq_true rfl) (RM.of rfl) rfl rfl (dk dt_X5_workBy 10 rfl) ?_
        refine v_if_ne (pc := 23) h 86 (dk dt_X5_workBy 11 rfl) rfl (by split <;> omega) (fun c23 => ?_) (fun c23 => ?_)
        ·
          have d23 : ovr n σ := by by_cases q : ovr n σ; exact q; rw [if_neg q] at c23; omega
          exact v_vret (pc := 86) h r (dk dt_X5_workBy 45 rfl) (Nat.le_of_ble_eq_true rfl) (Nat.le_of_ble_eq_true rfl) ⟨rfl, f1, by rw [hfn, twF, if_pos d23]; exact a1⟩
        ·
          have d23 : ¬ ovr n σ := fun q => by rw [if_pos q] at c23; omega
          refine v_aload_n (pc := 26) h (dk dt_X5_workBy 12 rfl) rfl ?_
          refine v_getr (pc := 27) h ci5 sh115 (Nat.le_of_ble_eq_true rfl) (j := 0) wF_X5_20 rfl (dk dt_X5_workBy 13 rfl) ?_
          rw [← hti]
          refine v_iload_n (pc := 30) h (dk dt_X5_workBy 14 rfl) rfl ?_
          refine v_cVi (pc := 31) h (c_X6_admit (n := n) (σ := σ) h.quiet P116 (by omega) hs1 hn1 a1 hB1 (by omega)) kv_X6_admit (P_hd P116) wM_X5_31 rfl rfl (Nat.le_of_ble_eq_true rfl) (RM.of rfl) rfl rfl (dk dt_X5_workBy 15 rfl) ?_
          rw [hM, hti]
          refine v_pop (pc := 34) h (dk dt_X5_workBy 16 rfl) rfl ?_
          refine v_aload_n (pc := 35) h (dk dt_X5_workBy 17 rfl) rfl ?_
          refine v_iload_n (pc := 36) h (dk dt_X5_workBy 18 rfl) rfl ?_
          refine v_iconst (pc := 37) h (dk dt_X5_workBy 19 rfl) ?_
          refine v_cVi (pc := 38) h (c_X5_least (n := n) (σ := σ1) h.quiet hs2 hn2 a2 hB2 (by omega) hle (x := -1) (by omega)) kv_X5_least sh115 wM_X5_35 rfl rfl (Nat.le_of_ble_eq_true rfl) (RM.of rfl) rfl rfl (dk dt_X5_workBy 20 rfl) ?_
          rw [w1]
          refine v_istore_n (lv' := [(3, _), (2, _), (0, _), (1, _)]) (pc := 41) h (dk dt_X5_workBy 21 rfl) (Nat.le_of_ble_eq_true rfl) rfl ?_
          refine v_aload_n (pc := 42) h (dk dt_X5_workBy 22 rfl) rfl ?_
          refine v_iload_n (pc := 43) h (dk dt_X5_workBy 23 rfl) rfl ?_
          refine v_iload_n (pc := 44) h (dk dt_X5_workBy 24 rfl) rfl ?_
          refine v_cVi (pc := 45) h (c_X5_least (n := n) (σ := σ1) h.quiet hs2 hn2 a2 hB2 (by omega) hle (x := x1) (by omega)) kv_X5_least sh115 wM_X5_35 rfl rfl (Nat.le_of_ble_eq_true rfl) (RM.of rfl) rfl rfl (dk dt_X5_workBy 25 rfl) ?_
          rw [w2]
          refine v_istore (lv' := [(4, _), (3, _), (2, _), (0, _), (1, _)]) (pc := 48) h (dk dt_X5_workBy 26 rfl) (Nat.le_of_ble_eq_true rfl) rfl ?_
          refine v_iload_n (pc := 50) h (dk dt_X5_workBy 27 rfl) rfl ?_
          refine v_iconst (pc := 51) h (dk dt_X5_workBy 28 rfl) ?_
          refine v_icmp_eq (pc := 52) h 64 (dk dt_X5_workBy 29 rfl) rfl (by omega) (fun c52 => ?_) (fun c52 => ?_)
          ·
            exact VV.loc (go64 d23 M f2 (by rw [c52, p1_n]; exact a2)) ⟨rfl, rfl, rfl, rfl, trivial⟩
          ·
            exact VV.loc (go55 d23 c52) ⟨rfl, rfl, rfl, rfl, rfl, trivial⟩
  have e66 : inN (jm μ) 0 6 6 = 0 := by simp [inN]
  have hN : 0 ≤ dnF (jm μ) (inN (jm μ) 0) n := smF_nn (fun j hj => by have := ((vS_in (K := K2 le) (z := 0) hD).1.2 j hj).2.1; show 0 ≤ jm μ 1 j - (inS (jm μ) 0).1 0 j; omega)
  refine v_aload_n (pc := 0) h (dk dt_X5_workBy 0 rfl) rfl ?_
  refine v_getr (pc := 1) h ci5 sh115 (Nat.le_of_ble_eq_true rfl) (j := 0) wF_X5_20 rfl (dk dt_X5_workBy 1 rfl) ?_
  refine v_cVv (pc := 4) h (c_X6_begin h.quiet P116 (by omega) (by assumption) (by assumption)) kv_X6_begin (P_hd P116) wM_X5_24 rfl rfl (Nat.le_of_ble_eq_true rfl) (RM.of rfl) rfl rfl (dk dt_X5_workBy 2 rfl) ?_
  refine v_iconst (pc := 7) h (dk dt_X5_workBy 3 rfl) ?_
  refine v_istore_n (lv' := [(2, _), (0, _), (1, _)]) (pc := 8) h (dk dt_X5_workBy 4 rfl) (Nat.le_of_ble_eq_true rfl) rfl ?_
  exact VV.loc (loop 2304 0 (mbeg μ 116 n n) (inN (jm μ) 0) (by omega) (fun a h => by funext b; unfold mbeg; rw [if_neg (by omega), if_neg (by omega), if_neg (by omega), if_neg (by omega), if_neg (by omega)]) (aP_in (by omega) hD) (vS_in (K := K2 le) hD).1 (vS_in (K := K2 le) hD).2.1 (by omega) (by simp [inN]) rfl) ⟨rfl, rfl, rfl, trivial⟩
end
