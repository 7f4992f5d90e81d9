/-! ===== the model: full, load, response ===== -/
/-- both keep the same tasks -/
def eqT (μ : Mm) : Prop := μ 133 = μ 22 ∧ μ 134 = μ 24 ∧ μ 135 = μ 26 ∧ μ 123 19 = μ 20 3
/-- what the model tries out is written to, and nothing is refused -/
def fF (μ m : Mm) : Prop := ((∀ a, a ≠ 123 → m a = μ a) ∧ ∀ b, b ≠ 14 → b ≠ 39 → b ≠ 40 → m 123 b = μ 123 b) ∧ m 123 14 = 0
section
variable {l : Launch} {B : Nat} {D : va_G} {E : Nat → ClassId} {μ m σ : Mm} {w n : Nat} {K : Nat → Int} {s : St} {J : Mm}
theorem fF_0 : fF μ (mup μ 123 14 0) := ⟨⟨fun a h => by funext b; exact mup_nk h, fun b h _ _ => mup_ne (fun z => h z.2)⟩, mup_eq _ _ _ _⟩
theorem fF_1 {x y : Int} : fF μ (mup (fuM μ x y) 123 14 0) := ⟨⟨fun a h => by funext b; unfold fuM; rw [mup_nk h, mup_nk h, mup_nk h], fun b h h2 h3 => by unfold fuM; rw [mup_ne (fun z => h z.2), mup_ne (fun z => h3 z.2), mup_ne (fun z => h2 z.2)]⟩, mup_eq _ _ _ _⟩
theorem c_X12_full (hst : l.stackTraces = false) (hE : eqJ μ) (hO : hOK μ) (hn : μ 1 9 = (n : Int)) {x : Int} (hx : InR x) :
    Ct l B D E yX12_full (.code yX12_full cX12_full 2 (some .int)) rm_X12_full [.ref (pl B 123), iI x] μ (fun v m => if rcF x = 0 then v = some (iI (fullC (μ 3) (μ 5) (μ 7) n x)) ∧ fF μ m else v = some (iI 0) ∧ m = mup μ 123 14 (rcF x)) NX := by
  have hd : ∀ j : Nat, j < n → 0 ≤ μ 7 j ∧ μ 7 j ≤ 400 := fun j hj => (hO.J.2 j (by omega)).2.2.1
  have hc : ∀ j : Nat, j < n → μ 3 j ≤ 99 := fun j hj => (hO.J.2 j (by omega)).1.2
  refine ct_of (own := RX12) (lv := [(0, _), (1, _)]) hst (by decide) rfl rfl (Nat.le_of_ble_eq_true rfl) fun a h r t => ?_
  have go19 : 0 ≤ x ∧ x ≤ 2 → ∀ (v : Option Value) (m : Mm), (if fuB (μ 3) (μ 5) (μ 7) n 100 0 = -1 then v = some (iI 0) ∧ m = μ else v = some (iI 1) ∧ m = fuM μ (fuB (μ 3) (μ 5) (μ 7) n 100 0) (fenF (μ 3) (μ 5) (μ 7) n (fuB (μ 3) (μ 5) (μ 7) n 100 0) n)) → ∃ z, v = some (iI z) ∧ (z = 0 ∨ z = 1) ∧ VV a B (SP B D E m) 0 0 19 [(0, .ref (pl B 123)), (1, iI x)] [iI z] := by
    intro hx2 v m hm
    have hrc : rcF x = 0 := by unfold rcF; rw [if_neg (by omega)]
    by_cases g : fuB (μ 3) (μ 5) (μ 7) n 100 0 = -1
    · rw [if_pos g] at hm
      obtain ⟨rfl, rfl⟩ := hm
      refine ⟨0, rfl, Or.inl rfl, ?_⟩
      have e : fullC (m 3) (m 5) (m 7) n x = -1 := by unfold fullC; rw [if_pos g]
      refine v_if_ne (pc := 19) h 28 (dk dt_X12_full 11 rfl) rfl (by omega) (fun c19 => ?_) (fun c19 => ?_)
      ·
        exact absurd c19 (by decide)
      ·
        refine v_aload_n (pc := 22) h (dk dt_X12_full 12 rfl) rfl ?_
        refine v_iconst (pc := 23) h (dk dt_X12_full 13 rfl) ?_
        refine v_cVi (pc := 24) h (c_X12_told h.quiet) kv_X12_told sh123 wM_X12_115 rfl rfl (Nat.le_of_ble_eq_true rfl) (RM.of rfl) rfl rfl (dk dt_X12_full 14 rfl) ?_
        exact v_iret (pc := 27) h r (dk dt_X12_full 15 rfl) (Nat.le_of_ble_eq_true rfl) (Nat.le_of_ble_eq_true rfl) (by rw [if_pos hrc]; exact ⟨by rw [e], fF_0⟩)
    · rw [if_neg g] at hm
      obtain ⟨rfl, rfl⟩ := hm
      refine ⟨1, rfl, Or.inr rfl, ?_⟩
      have e : fullC (μ 3) (μ 5) (μ 7) n x = if x = 0 then fuB (μ 3) (μ 5) (μ 7) n 100 0 else if x = 1 then fenF (μ 3) (μ 5) (μ 7) n (fuB (μ 3) (μ 5) (μ 7) n 100 0) n else wbtF (μ 3) (μ 5) (μ 7) (fuB (μ 3) (μ 5) (μ 7) n 100 0) (fenF (μ 3) (μ 5) (μ 7) n (fuB (μ 3) (μ 5) (μ 7) n 100 0) n) n := by unfold fullC; rw [if_neg g]
      have hfu : 0 ≤ fuB (μ 3) (μ 5) (μ 7) n 100 0 ∧ fuB (μ 3) (μ 5) (μ 7) n 100 0 ≤ 99 := by
        have key : ∀ (k a : Nat), a + k = 100 → fuB (μ 3) (μ 5) (μ 7) n k a ≠ -1 → 0 ≤ fuB (μ 3) (μ 5) (μ 7) n k a ∧ fuB (μ 3) (μ 5) (μ 7) n k a ≤ 99 := by
          intro k
          induction k with
          | zero => intro a _ h; exact absurd rfl h
          | succ k ih =>
            intro a ha
            simp only [fuB]
            split
            · intro _; omega
            · exact ih (a + 1) (by omega)
        exact key 100 0 (by omega) g
      generalize hF : fuB (μ 3) (μ 5) (μ 7) n 100 0 = fu at *
      have hfb := fenF_b (c := μ 3) (l := μ 5) (d := μ 7) (n := n) (a := fu) (by omega) hd n (Nat.le_refl _)
      generalize hG : fenF (μ 3) (μ 5) (μ 7) n fu n = fe at *
      have o : ∀ a, a ≠ 123 → fuM μ fu fe a = μ a := fun a h => by funext b; unfold fuM; rw [mup_nk h, mup_nk h]
      have e39 : fuM μ fu fe 123 39 = fu := by unfold fuM; rw [mup_ne (by omega), mup_eq]
      have e40 : fuM μ fu fe 123 40 = fe := by unfold fuM; exact mup_eq _ _ _ _
      have hE2 : eqJ (fuM μ fu fe) := eqJ_c (fun a q => o a (by omega)) (by unfold fuM; rw [mup_ne (by omega), mup_ne (by omega)]) hE
      have hO2 : hOK (fuM μ fu fe) := hO_c (fun a q => o a (by omega)) hO
      have hn2 : fuM μ fu fe 1 9 = (n : Int) := by rw [o 1 (by decide)]; exact hn
      have e3 : fuM μ fu fe 3 = μ 3 := o 3 (by decide)
      have e5 : fuM μ fu fe 5 = μ 5 := o 5 (by decide)
      have e7 : fuM μ fu fe 7 = μ 7 := o 7 (by decide)
      have hfin : fF μ (mup (fuM μ fu fe) 123 14 0) := fF_1
      generalize hM : fuM μ fu fe = M at *
      refine v_if_ne (pc := 19) h 28 (dk dt_X12_full 11 rfl) rfl (by omega) (fun c19 => ?_) (fun c19 => ?_)
      ·
        refine v_aload_n (pc := 28) h (dk dt_X12_full 16 rfl) rfl ?_
        refine v_iload_n (pc := 29) h (dk dt_X12_full 17 rfl) rfl ?_
        refine v_if_ne (pc := 30) h 40 (dk dt_X12_full 18 rfl) rfl (by omega) (fun c30 => ?_) (fun c30 => ?_)
        ·
          refine v_iload_n (pc := 40) h (dk dt_X12_full 22 rfl) rfl ?_
          refine v_iconst (pc := 41) h (dk dt_X12_full 23 rfl) ?_
          refine v_icmp_ne (pc := 42) h 52 (dk dt_X12_full 24 rfl) rfl (by omega) (fun c42 => ?_) (fun c42 => ?_)
          ·
            refine v_aload_n (pc := 52) h (dk dt_X12_full 28 rfl) rfl ?_
            refine v_aload_n (pc := 53) h (dk dt_X12_full 29 rfl) rfl ?_
            refine v_geti (pc := 54) h ci12 sh123 (Nat.le_of_ble_eq_true rfl) (j := 39) wF_X12_260 rfl (dk dt_X12_full 30 rfl) ?_
            rw [e39]
            refine v_aload_n (pc := 57) h (dk dt_X12_full 31 rfl) rfl ?_
            refine v_geti (pc := 58) h ci12 sh123 (Nat.le_of_ble_eq_true rfl) (j := 40) wF_X12_263 rfl (dk dt_X12_full 32 rfl) ?_
            rw [e40]
            refine v_cVi (pc := 61) h (c_X12_workWithin (n := n) h.quiet hE2 hO2 hn2 (by omega)) kv_X12_workWithin sh123 wM_X12_257 rfl rfl (Nat.le_of_ble_eq_true rfl) (RM.of rfl) rfl rfl (dk dt_X12_full 33 rfl) ?_
            rw [e3, e5, e7]
            refine v_cVi (pc := 64) h (c_X12_told h.quiet) kv_X12_told sh123 wM_X12_115 rfl rfl (Nat.le_of_ble_eq_true rfl) (RM.of rfl) rfl rfl (dk dt_X12_full 34 rfl) ?_
            exact v_iret (pc := 67) h r (dk dt_X12_full 35 rfl) (Nat.le_of_ble_eq_true rfl) (Nat.le_of_ble_eq_true rfl) (by rw [if_pos hrc]; exact ⟨by rw [e]; first | rw [if_pos c30] | rw [if_neg c30, if_pos c42] | rw [if_neg c30, if_neg c42], hfin⟩)
          ·
            refine v_aload_n (pc := 45) h (dk dt_X12_full 25 rfl) rfl ?_
            refine v_geti (pc := 46) h ci12 sh123 (Nat.le_of_ble_eq_true rfl) (j := 40) wF_X12_263 rfl (dk dt_X12_full 26 rfl) ?_
            rw [e40]
            refine v_goto (pc := 49) h 64 (dk dt_X12_full 27 rfl) rfl ?_
            refine v_cVi (pc := 64) h (c_X12_told h.quiet) kv_X12_told sh123 wM_X12_115 rfl rfl (Nat.le_of_ble_eq_true rfl) (RM.of rfl) rfl rfl (dk dt_X12_full 34 rfl) ?_
            exact v_iret (pc := 67) h r (dk dt_X12_full 35 rfl) (Nat.le_of_ble_eq_true rfl) (Nat.le_of_ble_eq_true rfl) (by rw [if_pos hrc]; exact ⟨by rw [e]; first | rw [if_pos c30] | rw [if_neg c30, if_pos c42] | rw [if_neg c30, if_neg c42], hfin⟩)
        ·
          refine v_aload_n (pc := 33) h (dk dt_X12_full 19 rfl) rfl ?_
          refine v_geti (pc := 34) h ci12 sh123 (Nat.le_of_ble_eq_true rfl) (j := 39) wF_X12_260 rfl (dk dt_X12_full 20 rfl) ?_
          rw [e39]
          refine v_goto (pc := 37) h 64 (dk dt_X12_full 21 rfl) rfl ?_
          refine v_cVi (pc := 64) h (c_X12_told h.quiet) kv_X12_told sh123 wM_X12_115 rfl rfl (Nat.le_of_ble_eq_true rfl) (RM.of rfl) rfl rfl (dk dt_X12_full 34 rfl) ?_
          exact v_iret (pc := 67) h r (dk dt_X12_full 35 rfl) (Nat.le_of_ble_eq_true rfl) (Nat.le_of_ble_eq_true rfl) (by rw [if_pos hrc]; exact ⟨by rw [e]; first | rw [if_pos c30] | rw [if_neg c30, if_pos c42] | rw [if_neg c30, if_neg c42], hfin⟩)
      ·
        exact absurd c19 (by decide)
  refine v_iload_n (pc := 0) h (dk dt_X12_full 0 rfl) rfl ?_
  refine v_iconst (pc := 1) h (dk dt_X12_full 1 rfl) ?_
  refine v_iconst (pc := 2) h (dk dt_X12_full 2 rfl) ?_
  refine v_cSi (pc := 3) h (c_X12_in h.quiet (by omega) (by omega)) kv_X12_in wM_X12_111 rfl rfl (Nat.le_of_ble_eq_true rfl) (RM.of rfl) rfl rfl (dk dt_X12_full 3 rfl) ?_
  refine v_if_ne (pc := 6) h 15 (dk dt_X12_full 4 rfl) rfl (by split <;> omega) (fun c6 => ?_) (fun c6 => ?_)
  ·
    have d6 : 0 ≤ x ∧ x ≤ 2 := by by_cases q : 0 ≤ x ∧ x ≤ 2; exact q; rw [if_neg q] at c6; omega
    refine v_aload_n (pc := 15) h (dk dt_X12_full 9 rfl) rfl ?_
    refine v_cV (pc := 16) h (c_X12_isAnyFull (n := n) h.quiet hE hO hn) kv_X12_isAnyFull sh123 wM_X12_266 rfl rfl (Nat.le_of_ble_eq_true rfl) (RM.of rfl) rfl rfl (dk dt_X12_full 10 rfl) (fun v16 μ16 p16 => ?_)
    obtain ⟨z16, rfl, hz16, g16⟩ := go19 d6 _ _ p16
    exact VV.loc g16 ⟨rfl, rfl, trivial⟩
  ·
    have d6 : ¬ (0 ≤ x ∧ x ≤ 2) := fun q => by rw [if_pos (by omega)] at c6; omega
    have hrc : rcF x = 1 := by unfold rcF; rw [if_pos d6]
    refine v_aload_n (pc := 9) h (dk dt_X12_full 5 rfl) rfl ?_
    refine v_iconst (pc := 10) h (dk dt_X12_full 6 rfl) ?_
    refine v_cVi (pc := 11) h (c_X12_refuse h.quiet) kv_X12_refuse sh123 wM_X12_119 rfl rfl (Nat.le_of_ble_eq_true rfl) (RM.of rfl) rfl rfl (dk dt_X12_full 7 rfl) ?_
    exact v_iret (pc := 14) h r (dk dt_X12_full 8 rfl) (Nat.le_of_ble_eq_true rfl) (Nat.le_of_ble_eq_true rfl) (by rw [hrc, if_neg (by decide)]; exact ⟨rfl, rfl⟩)
theorem c_X12_load (hst : l.stackTraces = false) (hT : eqT μ) (hO : hOK μ) (hn : μ 20 3 = (n : Int)) {b : Int} (hb01 : b = 0 ∨ b = 1) :
    Ct l B D E yX12_load (.code yX12_load cX12_load 8 (some .long)) rm_X12_load [.ref (pl B 123), iI b] μ (dr (some (iL (anLd (ldF (μ 22) (μ 24) n) b))) (mup μ 123 14 0)) NX := by
  have hb := hO.T.1
  have e19 : μ 123 19 = (n : Int) := hT.2.2.2.trans hn
  refine ct_of (own := RX12) (lv := [(0, _), (1, _)]) hst (by decide) rfl rfl (Nat.le_of_ble_eq_true rfl) fun a h r t => ?_
  have M19 : mup μ 123 14 0 123 19 = (n : Int) := by rw [mup_ne (by omega)]; exact e19
  have M133 : ∀ i, mup μ 123 14 0 133 i = μ 22 i := fun i => by rw [mup_nk (by omega), hT.1]
  have M134 : ∀ i, mup μ 123 14 0 134 i = μ 24 i := fun i => by rw [mup_nk (by omega), hT.2.1]
  generalize hM : mup μ 123 14 0 = M at *
  have loop : ∀ (d i : Nat), i + d = n → VV a B (SP B D E M) 0 0 13 [(6, iI (i : Int)), (4, iL ((ldF (μ 22) (μ 24) i).2 : Int)), (2, iL ((ldF (μ 22) (μ 24) i).1 : Int)), (0, .ref (pl B 123)), (1, iI b)] [] := by
    intro d
    induction d with
    | zero =>
      intro i hi
      have e : n = i := by omega
      have hl := ldF_b hO.T i (by omega)
      have h5 : 60 ^ i ≤ 60 ^ 5 := Nat.pow_le_pow_right (by decide) (by omega)
      have h6 : i * 60 ^ i ≤ 5 * 60 ^ 5 := Nat.mul_le_mul (by omega) h5
      have h7 : 60 ^ 5 = 777600000 := by decide
      have hpos : ∀ k : Nat, (k : Int) ≤ μ 20 3 → 0 < (ldF (μ 22) (μ 24) k).2 := by
        intro k
        induction k with
        | zero => intro _; simp [ldF]
        | succ k ih =>
          intro hk
          have h1 := ih (by omega)
          have h2 := (hO.T.2 k (by omega)).1
          simp only [ldF]
          exact Nat.mul_pos h1 (by omega)
      have hp := hpos i (by omega)
      have ean : ∀ b, anLd (ldF (μ 22) (μ 24) n) b = if b = 0 then (((ldF (μ 22) (μ 24) i).1 / Nat.gcd (ldF (μ 22) (μ 24) i).1 (ldF (μ 22) (μ 24) i).2 : Nat) : Int) else (((ldF (μ 22) (μ 24) i).2 / Nat.gcd (ldF (μ 22) (μ 24) i).1 (ldF (μ 22) (μ 24) i).2 : Nat) : Int) := fun b => by rw [e]; unfold anLd; rw [Nat.gcd_comm (ldF (μ 22) (μ 24) i).2]
      have hgp : 0 < Nat.gcd (ldF (μ 22) (μ 24) i).1 (ldF (μ 22) (μ 24) i).2 := Nat.gcd_pos_of_pos_right _ hp
      have hgl : Nat.gcd (ldF (μ 22) (μ 24) i).1 (ldF (μ 22) (μ 24) i).2 ≤ (ldF (μ 22) (μ 24) i).2 := Nat.gcd_le_right _ hp
      generalize ldF (μ 22) (μ 24) i = P at *
      obtain ⟨x, y⟩ := P
      simp only at *
      generalize hg : Nat.gcd x y = g at *
      have k1 : (x : Int) / (g : Int) = ((x / g : Nat) : Int) := (Int.natCast_ediv x g).symm
      have k2 : (y : Int) / (g : Int) = ((y / g : Nat) : Int) := (Int.natCast_ediv y g).symm
      rcases hb01 with rfl | rfl
      ·
        rw [ean, if_pos rfl] at r
        refine v_iload (pc := 13) h (dk dt_X12_load 9 rfl) rfl ?_
        refine v_aload_n (pc := 15) h (dk dt_X12_load 10 rfl) rfl ?_
        refine v_geti (pc := 16) h ci12 sh123 (Nat.le_of_ble_eq_true rfl) (j := 19) wF_X12_269 rfl (dk dt_X12_load 11 rfl) ?_
        refine v_icmp_ge (pc := 19) h 64 (dk dt_X12_load 12 rfl) rfl (by omega) (fun c19 => ?_) (fun c19 => ?_)
        ·
          refine v_lload_n (pc := 64) h (dk dt_X12_load 39 rfl) rfl ?_
          refine v_lload (pc := 65) h (dk dt_X12_load 40 rfl) rfl ?_
          refine v_cSi (pc := 67) h (c_X12_common h.quiet (by omega) (by omega)) kv_X12_common wM_X12_235 rfl rfl (Nat.le_of_ble_eq_true rfl) (RM.of rfl) rfl rfl (dk dt_X12_load 41 rfl) ?_
          rw [hg]
          refine v_lstore (lv' := [(6, _), (4, _), (2, _), (0, _), (1, _)]) (pc := 70) h (dk dt_X12_load 42 rfl) (Nat.le_of_ble_eq_true rfl) rfl ?_
          refine v_iload_n (pc := 72) h (dk dt_X12_load 43 rfl) rfl ?_
          refine v_if_eq (pc := 73) h 81 (dk dt_X12_load 44 rfl) rfl (by omega) (fun c73 => ?_) (fun c73 => ?_)
          ·
            refine v_lload_n (pc := 81) h (dk dt_X12_load 47 rfl) rfl ?_
            refine v_lload (pc := 82) h (dk dt_X12_load 48 rfl) rfl ?_
            refine v_ldiv (pc := 84) h (dk dt_X12_load 49 rfl) (by omega) (by omega) ?_
            rw [k1]
            exact v_lret (pc := 85) h r (dk dt_X12_load 50 rfl) (Nat.le_of_ble_eq_true rfl) (Nat.le_of_ble_eq_true rfl) ⟨rfl, rfl⟩
          ·
            exact absurd rfl c73
        ·
          exact absurd c19 (by omega)
      ·
        rw [ean, if_neg (by decide)] at r
        refine v_iload (pc := 13) h (dk dt_X12_load 9 rfl) rfl ?_
        refine v_aload_n (pc := 15) h (dk dt_X12_load 10 rfl) rfl ?_
        refine v_geti (pc := 16) h ci12 sh123 (Nat.le_of_ble_eq_true rfl) (j := 19) wF_X12_269 rfl (dk dt_X12_load 11 rfl) ?_
        refine v_icmp_ge (pc := 19) h 64 (dk dt_X12_load 12 rfl) rfl (by omega) (fun c19 => ?_) (fun c19 => ?_)
        ·
          refine v_lload_n (pc := 64) h (dk dt_X12_load 39 rfl) rfl ?_
          refine v_lload (pc := 65) h (dk dt_X12_load 40 rfl) rfl ?_
          refine v_cSi (pc := 67) h (c_X12_common h.quiet (by omega) (by omega)) kv_X12_common wM_X12_235 rfl rfl (Nat.le_of_ble_eq_true rfl) (RM.of rfl) rfl rfl (dk dt_X12_load 41 rfl) ?_
          rw [hg]
          refine v_lstore (lv' := [(6, _), (4, _), (2, _), (0, _), (1, _)]) (pc := 70) h (dk dt_X12_load 42 rfl) (Nat.le_of_ble_eq_true rfl) rfl ?_
          refine v_iload_n (pc := 72) h (dk dt_X12_load 43 rfl) rfl ?_
          refine v_if_eq (pc := 73) h 81 (dk dt_X12_load 44 rfl) rfl (by omega) (fun c73 => ?_) (fun c73 => ?_)
          ·
            exact absurd c73 (by decide)
          ·
            refine v_lload (pc := 76) h (dk dt_X12_load 45 rfl) rfl ?_
            refine v_goto (pc := 78) h 82 (dk dt_X12_load 46 rfl) rfl ?_
            refine v_lload (pc := 82) h (dk dt_X12_load 48 rfl) rfl ?_
            refine v_ldiv (pc := 84) h (dk dt_X12_load 49 rfl) (by omega) (by omega) ?_
            rw [k2]
            exact v_lret (pc := 85) h r (dk dt_X12_load 50 rfl) (Nat.le_of_ble_eq_true rfl) (Nat.le_of_ble_eq_true rfl) ⟨rfl, rfl⟩
        ·
          exact absurd c19 (by omega)
    | succ d ih =>
      intro i hi
      have hT2 := hO.T.2 i (by omega)
      have e1 : ((ldF (μ 22) (μ 24) (i + 1)).1 : Int) = (ldF (μ 22) (μ 24) i).1 * μ 22 i + (ldF (μ 22) (μ 24) i).2 * μ 24 i := by
        simp only [ldF]
        rw [Int.natCast_add, Int.natCast_mul, Int.natCast_mul, Int.toNat_of_nonneg (by omega), Int.toNat_of_nonneg (by omega)]
      have e2 : ((ldF (μ 22) (μ 24) (i + 1)).2 : Int) = (ldF (μ 22) (μ 24) i).2 * μ 22 i := by
        simp only [ldF]
        rw [Int.natCast_mul, Int.toNat_of_nonneg (by omega)]
      have hio := ih (i + 1) (by omega)
      rw [e1, e2] at hio
      refine v_iload (pc := 13) h (dk dt_X12_load 9 rfl) rfl ?_
      refine v_aload_n (pc := 15) h (dk dt_X12_load 10 rfl) rfl ?_
      refine v_geti (pc := 16) h ci12 sh123 (Nat.le_of_ble_eq_true rfl) (j := 19) wF_X12_269 rfl (dk dt_X12_load 11 rfl) ?_
      refine v_icmp_ge (pc := 19) h 64 (dk dt_X12_load 12 rfl) rfl (by omega) (fun c19 => ?_) (fun c19 => ?_)
      ·
        exact absurd c19 (by omega)
      ·
        refine v_lload_n (pc := 22) h (dk dt_X12_load 13 rfl) rfl ?_
        refine v_aload_n (pc := 23) h (dk dt_X12_load 14 rfl) rfl ?_
        refine v_getr (pc := 24) h ci12 sh123 (Nat.le_of_ble_eq_true rfl) (j := 16) wF_X12_47 rfl (dk dt_X12_load 15 rfl) ?_
        refine v_iload (pc := 27) h (dk dt_X12_load 16 rfl) rfl ?_
        refine v_iald (pc := 29) h sh133 (Nat.le_of_ble_eq_true rfl) (by omega) (dk dt_X12_load 17 rfl) ?_
        rw [Int.toNat_natCast, M133]
        refine v_i2l (pc := 30) h (dk dt_X12_load 18 rfl) (by omega) ?_
        refine v_lmul (pc := 31) h (dk dt_X12_load 19 rfl) ?_
        refine v_lload (pc := 32) h (dk dt_X12_load 20 rfl) rfl ?_
        refine v_aload_n (pc := 34) h (dk dt_X12_load 21 rfl) rfl ?_
        refine v_getr (pc := 35) h ci12 sh123 (Nat.le_of_ble_eq_true rfl) (j := 17) wF_X12_50 rfl (dk dt_X12_load 22 rfl) ?_
        refine v_iload (pc := 38) h (dk dt_X12_load 23 rfl) rfl ?_
        refine v_iald (pc := 40) h sh134 (Nat.le_of_ble_eq_true rfl) (by omega) (dk dt_X12_load 24 rfl) ?_
        rw [Int.toNat_natCast, M134]
        refine v_i2l (pc := 41) h (dk dt_X12_load 25 rfl) (by omega) ?_
        refine v_lmul (pc := 42) h (dk dt_X12_load 26 rfl) ?_
        refine v_ladd (pc := 43) h (dk dt_X12_load 27 rfl) ?_
        refine v_lstore_n (lv' := [(2, _), (6, _), (4, _), (0, _), (1, _)]) (pc := 44) h (dk dt_X12_load 28 rfl) (Nat.le_of_ble_eq_true rfl) rfl ?_
        refine v_lload (pc := 45) h (dk dt_X12_load 29 rfl) rfl ?_
        refine v_aload_n (pc := 47) h (dk dt_X12_load 30 rfl) rfl ?_
        refine v_getr (pc := 48) h ci12 sh123 (Nat.le_of_ble_eq_true rfl) (j := 16) wF_X12_47 rfl (dk dt_X12_load 31 rfl) ?_
        refine v_iload (pc := 51) h (dk dt_X12_load 32 rfl) rfl ?_
        refine v_iald (pc := 53) h sh133 (Nat.le_of_ble_eq_true rfl) (by omega) (dk dt_X12_load 33 rfl) ?_
        rw [Int.toNat_natCast, M133]
        refine v_i2l (pc := 54) h (dk dt_X12_load 34 rfl) (by omega) ?_
        refine v_lmul (pc := 55) h (dk dt_X12_load 35 rfl) ?_
        refine v_lstore (lv' := [(4, _), (2, _), (6, _), (0, _), (1, _)]) (pc := 56) h (dk dt_X12_load 36 rfl) (Nat.le_of_ble_eq_true rfl) rfl ?_
        refine v_iinc (lv' := [(6, _), (4, _), (2, _), (0, _), (1, _)]) (pc := 58) h (dk dt_X12_load 37 rfl) rfl (Nat.le_of_ble_eq_true rfl) rfl ?_
        refine v_goto (pc := 61) h 13 (dk dt_X12_load 38 rfl) rfl ?_
        exact VV.loc hio ⟨rfl, rfl, rfl, rfl, rfl, trivial⟩
  refine v_aload_n (pc := 0) h (dk dt_X12_load 0 rfl) rfl ?_
  refine v_iconst (pc := 1) h (dk dt_X12_load 1 rfl) ?_
  refine v_put (pc := 2) h ci12 sh123 (Nat.le_of_ble_eq_true rfl) (j := 14) wF_X12_105 rfl rfl rfl rfl (dk dt_X12_load 2 rfl) ?_
  rw [hM]
  refine v_lconst (pc := 5) (y := 0) h (dk dt_X12_load 3 rfl) rfl ?_
  refine v_lstore_n (lv' := [(2, _), (0, _), (1, _)]) (pc := 6) h (dk dt_X12_load 4 rfl) (Nat.le_of_ble_eq_true rfl) rfl ?_
  refine v_lconst (pc := 7) (y := 1) h (dk dt_X12_load 5 rfl) rfl ?_
  refine v_lstore (lv' := [(4, _), (2, _), (0, _), (1, _)]) (pc := 8) h (dk dt_X12_load 6 rfl) (Nat.le_of_ble_eq_true rfl) rfl ?_
  refine v_iconst (pc := 10) h (dk dt_X12_load 7 rfl) ?_
  refine v_istore (lv' := [(6, _), (4, _), (2, _), (0, _), (1, _)]) (pc := 11) h (dk dt_X12_load 8 rfl) (Nat.le_of_ble_eq_true rfl) rfl ?_
  exact VV.loc (loop n 0 (by omega)) ⟨rfl, rfl, rfl, rfl, rfl, trivial⟩
theorem c_X12_response (hst : l.stackTraces = false) (hT : eqT μ) (hO : hOK μ) (hn : μ 20 3 = (n : Int)) {j : Int} (hj : InR j) :
    Ct l B D E yX12_response (.code yX12_response cX12_response 6 (some .int)) rm_X12_response [.ref (pl B 123), iI j] μ (PM (rcRs (μ 20 3) j) (some (iI (rsT (μ 22) (μ 24) (μ 26) n j.toNat (μ 26 j.toNat).toNat 1))) μ (mup μ 123 14 0)) NX := by
  have hb := hO.T.1
  have e19 : μ 123 19 = (n : Int) := hT.2.2.2.trans hn
  have e133 : ∀ i, μ 133 i = μ 22 i := fun i => by rw [hT.1]
  have e134 : ∀ i, μ 134 i = μ 24 i := fun i => by rw [hT.2.1]
  have e135 : ∀ i, μ 135 i = μ 26 i := fun i => by rw [hT.2.2.1]
  refine ct_of (own := RX12) (lv := [(0, _), (1, _)]) hst (by decide) rfl rfl (Nat.le_of_ble_eq_true rfl) fun a h r t => ?_
  have go20 : 0 ≤ j ∧ j < μ 20 3 → VV a B (SP B D E μ) 0 0 20 [(0, .ref (pl B 123)), (1, iI j)] [] := by
    intro h1
    obtain ⟨k, rfl⟩ : ∃ k : Nat, j = (k : Int) := ⟨j.toNat, by omega⟩
    have hTk := hO.T.2 k (by omega)
    have hrc : rcRs (μ 20 3) (k : Int) = 0 := by unfold rcRs; rw [if_neg (by omega)]
    rw [Int.toNat_natCast] at r
    have loop : ∀ (d i : Nat), i + d = (μ 26 k).toNat + 1 → 1 ≤ i → rsT (μ 22) (μ 24) (μ 26) n k (μ 26 k).toNat 1 = rsT (μ 22) (μ 24) (μ 26) n k d i → VV a B (SP B D E μ) 0 0 22 [(2, iI (i : Int)), (0, .ref (pl B 123)), (1, iI (k : Int))] [] := by
      intro d
      induction d with
      | zero =>
        intro i hi h1i e
        rw [e, rsT] at r
        refine v_iload_n (pc := 22) h (dk dt_X12_response 14 rfl) rfl ?_
        refine v_aload_n (pc := 23) h (dk dt_X12_response 15 rfl) rfl ?_
        refine v_getr (pc := 24) h ci12 sh123 (Nat.le_of_ble_eq_true rfl) (j := 18) wF_X12_53 rfl (dk dt_X12_response 16 rfl) ?_
        refine v_iload_n (pc := 27) h (dk dt_X12_response 17 rfl) rfl ?_
        refine v_iald (pc := 28) h sh135 (Nat.le_of_ble_eq_true rfl) (by omega) (dk dt_X12_response 18 rfl) ?_
        rw [Int.toNat_natCast, e135]
        refine v_icmp_gt (pc := 29) h 158 (dk dt_X12_response 19 rfl) rfl (by omega) (fun c29 => ?_) (fun c29 => ?_)
        ·
          refine v_aload_n (pc := 158) h (dk dt_X12_response 92 rfl) rfl ?_
          refine v_iconst (pc := 159) h (dk dt_X12_response 93 rfl) ?_
          refine v_cVi (pc := 160) h (c_X12_told h.quiet) kv_X12_told sh123 wM_X12_115 rfl rfl (Nat.le_of_ble_eq_true rfl) (RM.of rfl) rfl rfl (dk dt_X12_response 94 rfl) ?_
          exact v_iret (pc := 163) h r (dk dt_X12_response 95 rfl) (Nat.le_of_ble_eq_true rfl) (Nat.le_of_ble_eq_true rfl) (PM_0 hrc)
        ·
          exact absurd c29 (by omega)
      | succ d ih =>
        intro i hi h1i e
        have hwb := wahF_b hO.T (k := k) (by omega) (r := (i : Int)) (by omega)
        have hN : ¬ wahF (μ 22) (μ 24) (μ 26) k (i : Int) n = (i : Int) → rsT (μ 22) (μ 24) (μ 26) n k (μ 26 k).toNat 1 = rsT (μ 22) (μ 24) (μ 26) n k d (i + 1) := fun q => by rw [e, rsT, if_neg q]
        have hY : wahF (μ 22) (μ 24) (μ 26) k (i : Int) n = (i : Int) → rsT (μ 22) (μ 24) (μ 26) n k (μ 26 k).toNat 1 = (i : Int) := fun q => by rw [e, rsT, if_pos q]
        have inner : ∀ (d2 o : Nat), o + d2 = n → VV a B (SP B D E μ) 0 0 42 [(4, iI (o : Int)), (3, iI (wahF (μ 22) (μ 24) (μ 26) k (i : Int) o)), (2, iI (i : Int)), (0, .ref (pl B 123)), (1, iI (k : Int))] [] := by
          intro d2
          induction d2 with
          | zero =>
            intro o ho
            have eo : o = n := by omega
            rw [eo]
            have hwn := hwb n (by omega)
            refine v_iload (pc := 42) h (dk dt_X12_response 27 rfl) rfl ?_
            refine v_aload_n (pc := 44) h (dk dt_X12_response 28 rfl) rfl ?_
            refine v_geti (pc := 45) h ci12 sh123 (Nat.le_of_ble_eq_true rfl) (j := 19) wF_X12_269 rfl (dk dt_X12_response 29 rfl) ?_
            refine v_icmp_ge (pc := 48) h 141 (dk dt_X12_response 30 rfl) rfl (by omega) (fun c48 => ?_) (fun c48 => ?_)
            ·
              refine v_iload_n (pc := 141) h (dk dt_X12_response 83 rfl) rfl ?_
              refine v_iload_n (pc := 142) h (dk dt_X12_response 84 rfl) rfl ?_
              refine v_icmp_ne (pc := 143) h 152 (dk dt_X12_response 85 rfl) rfl (by omega) (fun c143 => ?_) (fun c143 => ?_)
              ·
                refine v_iinc (lv' := [(2, _), (4, _), (3, _), (0, _), (1, _)]) (pc := 152) h (dk dt_X12_response 90 rfl) rfl (Nat.le_of_ble_eq_true rfl) rfl ?_
                refine v_goto (pc := 155) h 22 (dk dt_X12_response 91 rfl) rfl ?_
                exact VV.loc (ih (i + 1) (by omega) (by omega) (hN (by omega))) ⟨rfl, rfl, rfl, trivial⟩
              ·
                have c143 := c143
                rw [hY (by omega)] at r
                refine v_aload_n (pc := 146) h (dk dt_X12_response 86 rfl) rfl ?_
                refine v_iload_n (pc := 147) h (dk dt_X12_response 87 rfl) rfl ?_
                refine v_cVi (pc := 148) h (c_X12_told h.quiet) kv_X12_told sh123 wM_X12_115 rfl rfl (Nat.le_of_ble_eq_true rfl) (RM.of rfl) rfl rfl (dk dt_X12_response 88 rfl) ?_
                exact v_iret (pc := 151) h r (dk dt_X12_response 89 rfl) (Nat.le_of_ble_eq_true rfl) (Nat.le_of_ble_eq_true rfl) (PM_0 hrc)
            ·
              exact absurd c48 (by omega)
          | succ d2 ih2 =>
            intro o ho
            have hwo := hwb o (by omega)
            have hwo2 := hwb (o + 1) (by omega)
            have hTo := hO.T.2 o (by omega)
            have eY : ahd (μ 26) o k → wahF (μ 22) (μ 24) (μ 26) k (i : Int) (o + 1) = wahF (μ 22) (μ 24) (μ 26) k (i : Int) o + μ 24 o * (((i : Int) + μ 22 o - 1) / μ 22 o) := fun q => by simp only [wahF]; rw [if_pos q]
            have eN : ¬ ahd (μ 26) o k → wahF (μ 22) (μ 24) (μ 26) k (i : Int) (o + 1) = wahF (μ 22) (μ 24) (μ 26) k (i : Int) o + 0 := fun q => by simp only [wahF]; rw [if_neg q]; omega
            have hdv : 0 ≤ ((i : Int) + μ 22 o - 1) / μ 22 o ∧ ((i : Int) + μ 22 o - 1) / μ 22 o ≤ 120 := ⟨Int.ediv_nonneg (by omega) (by omega), Int.le_trans (Int.ediv_le_self _ (by omega)) (by omega)⟩
            have hml : 0 ≤ μ 24 o * (((i : Int) + μ 22 o - 1) / μ 22 o) ∧ μ 24 o * (((i : Int) + μ 22 o - 1) / μ 22 o) ≤ 3600 := ⟨Int.mul_nonneg (by omega) hdv.1, Int.le_trans (Int.mul_le_mul (show μ 24 o ≤ 30 by omega) hdv.2 hdv.1 (by decide)) (by decide)⟩
            refine v_iload (pc := 42) h (dk dt_X12_response 27 rfl) rfl ?_
            refine v_aload_n (pc := 44) h (dk dt_X12_response 28 rfl) rfl ?_
            refine v_geti (pc := 45) h ci12 sh123 (Nat.le_of_ble_eq_true rfl) (j := 19) wF_X12_269 rfl (dk dt_X12_response 29 rfl) ?_
            refine v_icmp_ge (pc := 48) h 141 (dk dt_X12_response 30 rfl) rfl (by omega) (fun c48 => ?_) (fun c48 => ?_)
            ·
              exact absurd c48 (by omega)
            ·
              refine v_aload_n (pc := 51) h (dk dt_X12_response 31 rfl) rfl ?_
              refine v_getr (pc := 52) h ci12 sh123 (Nat.le_of_ble_eq_true rfl) (j := 18) wF_X12_53 rfl (dk dt_X12_response 32 rfl) ?_
              refine v_iload (pc := 55) h (dk dt_X12_response 33 rfl) rfl ?_
              refine v_iald (pc := 57) h sh135 (Nat.le_of_ble_eq_true rfl) (by omega) (dk dt_X12_response 34 rfl) ?_
              rw [Int.toNat_natCast, e135]
              refine v_aload_n (pc := 58) h (dk dt_X12_response 35 rfl) rfl ?_
              refine v_getr (pc := 59) h ci12 sh123 (Nat.le_of_ble_eq_true rfl) (j := 18) wF_X12_53 rfl (dk dt_X12_response 36 rfl) ?_
              refine v_iload_n (pc := 62) h (dk dt_X12_response 37 rfl) rfl ?_
              refine v_iald (pc := 63) h sh135 (Nat.le_of_ble_eq_true rfl) (by omega) (dk dt_X12_response 38 rfl) ?_
              rw [Int.toNat_natCast, e135]
              refine v_icmp_lt (pc := 64) h 89 (dk dt_X12_response 39 rfl) rfl (by omega) (fun c64 => ?_) (fun c64 => ?_)
              ·
                refine v_iconst (pc := 89) h (dk dt_X12_response 52 rfl) ?_
                refine v_goto (pc := 90) h 94 (dk dt_X12_response 53 rfl) rfl ?_
                refine v_istore (lv' := [(5, _), (4, _), (3, _), (2, _), (0, _), (1, _)]) (pc := 94) h (dk dt_X12_response 55 rfl) (Nat.le_of_ble_eq_true rfl) rfl ?_
                refine v_iload_n (pc := 96) h (dk dt_X12_response 56 rfl) rfl ?_
                refine v_iload (pc := 97) h (dk dt_X12_response 57 rfl) rfl ?_
                refine v_if_eq (pc := 99) h 132 (dk dt_X12_response 58 rfl) rfl (by omega) (fun c99 => ?_) (fun c99 => ?_)
                ·
                  refine v_iconst (pc := 132) h (dk dt_X12_response 78 rfl) ?_
                  refine v_iadd (pc := 133) h (dk dt_X12_response 79 rfl) ?_
                  refine v_istore_n (lv' := [(3, _), (5, _), (4, _), (2, _), (0, _), (1, _)]) (pc := 134) h (dk dt_X12_response 80 rfl) (Nat.le_of_ble_eq_true rfl) rfl ?_
                  refine v_iinc (lv' := [(4, _), (3, _), (5, _), (2, _), (0, _), (1, _)]) (pc := 135) h (dk dt_X12_response 81 rfl) rfl (Nat.le_of_ble_eq_true rfl) rfl ?_
                  refine v_goto (pc := 138) h 42 (dk dt_X12_response 82 rfl) rfl ?_
                  first
                    | (have q : ¬ ahd (μ 26) o k := by omega
                       exact VV.loc (lv' := [(4, _), (3, _), (2, _), (0, _), (1, _)]) (ih2 (o + 1) (by omega)) ⟨rfl, lvI (eN q).symm, rfl, rfl, rfl, trivial⟩)
                    | (have q : ahd (μ 26) o k := by omega
                       exact VV.loc (lv' := [(4, _), (3, _), (2, _), (0, _), (1, _)]) (ih2 (o + 1) (by omega)) ⟨rfl, lvI (eY q).symm, rfl, rfl, rfl, trivial⟩)
                ·
                  refine v_aload_n (pc := 102) h (dk dt_X12_response 59 rfl) rfl ?_
                  refine v_getr (pc := 103) h ci12 sh123 (Nat.le_of_ble_eq_true rfl) (j := 17) wF_X12_50 rfl (dk dt_X12_response 60 rfl) ?_
                  refine v_iload (pc := 106) h (dk dt_X12_response 61 rfl) rfl ?_
                  refine v_iald (pc := 108) h sh134 (Nat.le_of_ble_eq_true rfl) (by omega) (dk dt_X12_response 62 rfl) ?_
                  rw [Int.toNat_natCast, e134]
                  refine v_iload_n (pc := 109) h (dk dt_X12_response 63 rfl) rfl ?_
                  refine v_aload_n (pc := 110) h (dk dt_X12_response 64 rfl) rfl ?_
                  refine v_getr (pc := 111) h ci12 sh123 (Nat.le_of_ble_eq_true rfl) (j := 16) wF_X12_47 rfl (dk dt_X12_response 65 rfl) ?_
                  refine v_iload (pc := 114) h (dk dt_X12_response 66 rfl) rfl ?_
                  refine v_iald (pc := 116) h sh133 (Nat.le_of_ble_eq_true rfl) (by omega) (dk dt_X12_response 67 rfl) ?_
                  rw [Int.toNat_natCast, e133]
                  refine v_iadd (pc := 117) h (dk dt_X12_response 68 rfl) ?_
                  refine v_iconst (pc := 118) h (dk dt_X12_response 69 rfl) ?_
                  refine v_isub (pc := 119) h (dk dt_X12_response 70 rfl) ?_
                  refine v_aload_n (pc := 120) h (dk dt_X12_response 71 rfl) rfl ?_
                  refine v_getr (pc := 121) h ci12 sh123 (Nat.le_of_ble_eq_true rfl) (j := 16) wF_X12_47 rfl (dk dt_X12_response 72 rfl) ?_
                  refine v_iload (pc := 124) h (dk dt_X12_response 73 rfl) rfl ?_
                  refine v_iald (pc := 126) h sh133 (Nat.le_of_ble_eq_true rfl) (by omega) (dk dt_X12_response 74 rfl) ?_
                  rw [Int.toNat_natCast, e133]
                  refine v_idiv (pc := 127) h (dk dt_X12_response 75 rfl) (by omega) (by omega) ?_
                  refine v_imul (pc := 128) h (dk dt_X12_response 76 rfl) ?_
                  refine v_goto (pc := 129) h 133 (dk dt_X12_response 77 rfl) rfl ?_
                  refine v_iadd (pc := 133) h (dk dt_X12_response 79 rfl) ?_
                  refine v_istore_n (lv' := [(3, _), (5, _), (4, _), (2, _), (0, _), (1, _)]) (pc := 134) h (dk dt_X12_response 80 rfl) (Nat.le_of_ble_eq_true rfl) rfl ?_
                  refine v_iinc (lv' := [(4, _), (3, _), (5, _), (2, _), (0, _), (1, _)]) (pc := 135) h (dk dt_X12_response 81 rfl) rfl (Nat.le_of_ble_eq_true rfl) rfl ?_
                  refine v_goto (pc := 138) h 42 (dk dt_X12_response 82 rfl) rfl ?_
                  first
                    | (have q : ¬ ahd (μ 26) o k := by omega
                       exact VV.loc (lv' := [(4, _), (3, _), (2, _), (0, _), (1, _)]) (ih2 (o + 1) (by omega)) ⟨rfl, lvI (eN q).symm, rfl, rfl, rfl, trivial⟩)
                    | (have q : ahd (μ 26) o k := by omega
                       exact VV.loc (lv' := [(4, _), (3, _), (2, _), (0, _), (1, _)]) (ih2 (o + 1) (by omega)) ⟨rfl, lvI (eY q).symm, rfl, rfl, rfl, trivial⟩)
              ·
                refine v_aload_n (pc := 67) h (dk dt_X12_response 40 rfl) rfl ?_
                refine v_getr (pc := 68) h ci12 sh123 (Nat.le_of_ble_eq_true rfl) (j := 18) wF_X12_53 rfl (dk dt_X12_response 41 rfl) ?_
                refine v_iload (pc := 71) h (dk dt_X12_response 42 rfl) rfl ?_
                refine v_iald (pc := 73) h sh135 (Nat.le_of_ble_eq_true rfl) (by omega) (dk dt_X12_response 43 rfl) ?_
                rw [Int.toNat_natCast, e135]
                refine v_aload_n (pc := 74) h (dk dt_X12_response 44 rfl) rfl ?_
                refine v_getr (pc := 75) h ci12 sh123 (Nat.le_of_ble_eq_true rfl) (j := 18) wF_X12_53 rfl (dk dt_X12_response 45 rfl) ?_
                refine v_iload_n (pc := 78) h (dk dt_X12_response 46 rfl) rfl ?_
                refine v_iald (pc := 79) h sh135 (Nat.le_of_ble_eq_true rfl) (by omega) (dk dt_X12_response 47 rfl) ?_
                rw [Int.toNat_natCast, e135]
                refine v_icmp_ne (pc := 80) h 93 (dk dt_X12_response 48 rfl) rfl (by omega) (fun c80 => ?_) (fun c80 => ?_)
                ·
                  refine v_iconst (pc := 93) h (dk dt_X12_response 54 rfl) ?_
                  refine v_istore (lv' := [(5, _), (4, _), (3, _), (2, _), (0, _), (1, _)]) (pc := 94) h (dk dt_X12_response 55 rfl) (Nat.le_of_ble_eq_true rfl) rfl ?_
                  refine v_iload_n (pc := 96) h (dk dt_X12_response 56 rfl) rfl ?_
                  refine v_iload (pc := 97) h (dk dt_X12_response 57 rfl) rfl ?_
                  refine v_if_eq (pc := 99) h 132 (dk dt_X12_response 58 rfl) rfl (by omega) (fun c99 => ?_) (fun c99 => ?_)
                  ·
                    refine v_iconst (pc := 132) h (dk dt_X12_response 78 rfl) ?_
                    refine v_iadd (pc := 133) h (dk dt_X12_response 79 rfl) ?_
                    refine v_istore_n (lv' := [(3, _), (5, _), (4, _), (2, _), (0, _), (1, _)]) (pc := 134) h (dk dt_X12_response 80 rfl) (Nat.le_of_ble_eq_true rfl) rfl ?_
                    refine v_iinc (lv' := [(4, _), (3, _), (5, _), (2, _), (0, _), (1, _)]) (pc := 135) h (dk dt_X12_response 81 rfl) rfl (Nat.le_of_ble_eq_true rfl) rfl ?_
                    refine v_goto (pc := 138) h 42 (dk dt_X12_response 82 rfl) rfl ?_
                    first
                      | (have q : ¬ ahd (μ 26) o k := by omega
                         exact VV.loc (lv' := [(4, _), (3, _), (2, _), (0, _), (1, _)]) (ih2 (o + 1) (by omega)) ⟨rfl, lvI (eN q).symm, rfl, rfl, rfl, trivial⟩)
                      | (have q : ahd (μ 26) o k := by omega
                         exact VV.loc (lv' := [(4, _), (3, _), (2, _), (0, _), (1, _)]) (ih2 (o + 1) (by omega)) ⟨rfl, lvI (eY q).symm, rfl, rfl, rfl, trivial⟩)
                  ·
                    refine v_aload_n (pc := 102) h (dk dt_X12_response 59 rfl) rfl ?_
                    refine v_getr (pc := 103) h ci12 sh123 (Nat.le_of_ble_eq_true rfl) (j := 17) wF_X12_50 rfl (dk dt_X12_response 60 rfl) ?_
                    refine v_iload (pc := 106) h (dk dt_X12_response 61 rfl) rfl ?_
                    refine v_iald (pc := 108) h sh134 (Nat.le_of_ble_eq_true rfl) (by omega) (dk dt_X12_response 62 rfl) ?_
                    rw [Int.toNat_natCast, e134]
                    refine v_iload_n (pc := 109) h (dk dt_X12_response 63 rfl) rfl ?_
                    refine v_aload_n (pc := 110) h (dk dt_X12_response 64 rfl) rfl ?_
                    refine v_getr (pc := 111) h ci12 sh123 (Nat.le_of_ble_eq_true rfl) (j := 16) wF_X12_47 rfl (dk dt_X12_response 65 rfl) ?_
                    refine v_iload (pc := 114) h (dk dt_X12_response 66 rfl) rfl ?_
                    refine v_iald (pc := 116) h sh133 (Nat.le_of_ble_eq_true rfl) (by omega) (dk dt_X12_response 67 rfl) ?_
                    rw [Int.toNat_natCast, e133]
                    refine v_iadd (pc := 117) h (dk dt_X12_response 68 rfl) ?_
                    refine v_iconst (pc := 118) h (dk dt_X12_response 69 rfl) ?_
                    refine v_isub (pc := 119) h (dk dt_X12_response 70 rfl) ?_
                    refine v_aload_n (pc := 120) h (dk dt_X12_response 71 rfl) rfl ?_
                    refine v_getr (pc := 121) h ci12 sh123 (Nat.le_of_ble_eq_true rfl) (j := 16) wF_X12_47 rfl (dk dt_X12_response 72 rfl) ?_
                    refine v_iload (pc := 124) h (dk dt_X12_response 73 rfl) rfl ?_
                    refine v_iald (pc := 126) h sh133 (Nat.le_of_ble_eq_true rfl) (by omega) (dk dt_X12_response 74 rfl) ?_
                    rw [Int.toNat_natCast, e133]
                    refine v_idiv (pc := 127) h (dk dt_X12_response 75 rfl) (by omega) (by omega) ?_
                    refine v_imul (pc := 128) h (dk dt_X12_response 76 rfl) ?_
                    refine v_goto (pc := 129) h 133 (dk dt_X12_response 77 rfl) rfl ?_
                    refine v_iadd (pc := 133) h (dk dt_X12_response 79 rfl) ?_
                    refine v_istore_n (lv' := [(3, _), (5, _), (4, _), (2, _), (0, _), (1, _)]) (pc := 134) h (dk dt_X12_response 80 rfl) (Nat.le_of_ble_eq_true rfl) rfl ?_
                    refine v_iinc (lv' := [(4, _), (3, _), (5, _), (2, _), (0, _), (1, _)]) (pc := 135) h (dk dt_X12_response 81 rfl) rfl (Nat.le_of_ble_eq_true rfl) rfl ?_
                    refine v_goto (pc := 138) h 42 (dk dt_X12_response 82 rfl) rfl ?_
                    first
                      | (have q : ¬ ahd (μ 26) o k := by omega
                         exact VV.loc (lv' := [(4, _), (3, _), (2, _), (0, _), (1, _)]) (ih2 (o + 1) (by omega)) ⟨rfl, lvI (eN q).symm, rfl, rfl, rfl, trivial⟩)
                      | (have q : ahd (μ 26) o k := by omega
                         exact VV.loc (lv' := [(4, _), (3, _), (2, _), (0, _), (1, _)]) (ih2 (o + 1) (by omega)) ⟨rfl, lvI (eY q).symm, rfl, rfl, rfl, trivial⟩)
                ·
                  refine v_iload (pc := 83) h (dk dt_X12_response 49 rfl) rfl ?_
                  refine v_iload_n (pc := 85) h (dk dt_X12_response 50 rfl) rfl ?_
                  refine v_icmp_ge (pc := 86) h 93 (dk dt_X12_response 51 rfl) rfl (by omega) (fun c86 => ?_) (fun c86 => ?_)
                  ·
                    refine v_iconst (pc := 93) h (dk dt_X12_response 54 rfl) ?_
                    refine v_istore (lv' := [(5, _), (4, _), (3, _), (2, _), (0, _), (1, _)]) (pc := 94) h (dk dt_X12_response 55 rfl) (Nat.le_of_ble_eq_true rfl) rfl ?_
                    refine v_iload_n (pc := 96) h (dk dt_X12_response 56 rfl) rfl ?_
                    refine v_iload (pc := 97) h (dk dt_X12_response 57 rfl) rfl ?_
                    refine v_if_eq (pc := 99) h 132 (dk dt_X12_response 58 rfl) rfl (by omega) (fun c99 => ?_) (fun c99 => ?_)
                    ·
                      refine v_iconst (pc := 132) h (dk dt_X12_response 78 rfl) ?_
                      refine v_iadd (pc := 133) h (dk dt_X12_response 79 rfl) ?_
                      refine v_istore_n (lv' := [(3, _), (5, _), (4, _), (2, _), (0, _), (1, _)]) (pc := 134) h (dk dt_X12_response 80 rfl) (Nat.le_of_ble_eq_true rfl) rfl ?_
                      refine v_iinc (lv' := [(4, _), (3, _), (5, _), (2, _), (0, _), (1, _)]) (pc := 135) h (dk dt_X12_response 81 rfl) rfl (Nat.le_of_ble_eq_true rfl) rfl ?_
                      refine v_goto (pc := 138) h 42 (dk dt_X12_response 82 rfl) rfl ?_
                      first
                        | (have q : ¬ ahd (μ 26) o k := by omega
                           exact VV.loc (lv' := [(4, _), (3, _), (2, _), (0, _), (1, _)]) (ih2 (o + 1) (by omega)) ⟨rfl, lvI (eN q).symm, rfl, rfl, rfl, trivial⟩)
                        | (have q : ahd (μ 26) o k := by omega
                           exact VV.loc (lv' := [(4, _), (3, _), (2, _), (0, _), (1, _)]) (ih2 (o + 1) (by omega)) ⟨rfl, lvI (eY q).symm, rfl, rfl, rfl, trivial⟩)
                    ·
                      refine v_aload_n (pc := 102) h (dk dt_X12_response 59 rfl) rfl ?_
                      refine v_getr (pc := 103) h ci12 sh123 (Nat.le_of_ble_eq_true rfl) (j := 17) wF_X12_50 rfl (dk dt_X12_response 60 rfl) ?_
                      refine v_iload (pc := 106) h (dk dt_X12_response 61 rfl) rfl ?_
                      refine v_iald (pc := 108) h sh134 (Nat.le_of_ble_eq_true rfl) (by omega) (dk dt_X12_response 62 rfl) ?_
                      rw [Int.toNat_natCast, e134]
                      refine v_iload_n (pc := 109) h (dk dt_X12_response 63 rfl) rfl ?_
                      refine v_aload_n (pc := 110) h (dk dt_X12_response 64 rfl) rfl ?_
                      refine v_getr (pc := 111) h ci12 sh123 (Nat.le_of_ble_eq_true rfl) (j := 16) wF_X12_47 rfl (dk dt_X12_response 65 rfl) ?_
                      refine v_iload (pc := 114) h (dk dt_X12_response 66 rfl) rfl ?_
                      refine v_iald (pc := 116) h sh133 (Nat.le_of_ble_eq_true rfl) (by omega) (dk dt_X12_response 67 rfl) ?_
                      rw [Int.toNat_natCast, e133]
                      refine v_iadd (pc := 117) h (dk dt_X12_response 68 rfl) ?_
                      refine v_iconst (pc := 118) h (dk dt_X12_response 69 rfl) ?_
                      refine v_isub (pc := 119) h (dk dt_X12_response 70 rfl) ?_
                      refine v_aload_n (pc := 120) h (dk dt_X12_response 71 rfl) rfl ?_
                      refine v_getr (pc := 121) h ci12 sh123 (Nat.le_of_ble_eq_true rfl) (j := 16) wF_X12_47 rfl (dk dt_X12_response 72 rfl) ?_
                      refine v_iload (pc := 124) h (dk dt_X12_response 73 rfl) rfl ?_
                      refine v_iald (pc := 126) h sh133 (Nat.le_of_ble_eq_true rfl) (by omega) (dk dt_X12_response 74 rfl) ?_
                      rw [Int.toNat_natCast, e133]
                      refine v_idiv (pc := 127) h (dk dt_X12_response 75 rfl) (by omega) (by omega) ?_
                      refine v_imul (pc := 128) h (dk dt_X12_response 76 rfl) ?_
                      refine v_goto (pc := 129) h 133 (dk dt_X12_response 77 rfl) rfl ?_
                      refine v_iadd (pc := 133) h (dk dt_X12_response 79 rfl) ?_
                      refine v_istore_n (lv' := [(3, _), (5, _), (4, _), (2, _), (0, _), (1, _)]) (pc := 134) h (dk dt_X12_response 80 rfl) (Nat.le_of_ble_eq_true rfl) rfl ?_
                      refine v_iinc (lv' := [(4, _), (3, _), (5, _), (2, _), (0, _), (1, _)]) (pc := 135) h (dk dt_X12_response 81 rfl) rfl (Nat.le_of_ble_eq_true rfl) rfl ?_
                      refine v_goto (pc := 138) h 42 (dk dt_X12_response 82 rfl) rfl ?_
                      first
                        | (have q : ¬ ahd (μ 26) o k := by omega
                           exact VV.loc (lv' := [(4, _), (3, _), (2, _), (0, _), (1, _)]) (ih2 (o + 1) (by omega)) ⟨rfl, lvI (eN q).symm, rfl, rfl, rfl, trivial⟩)
                        | (have q : ahd (μ 26) o k := by omega
                           exact VV.loc (lv' := [(4, _), (3, _), (2, _), (0, _), (1, _)]) (ih2 (o + 1) (by omega)) ⟨rfl, lvI (eY q).symm, rfl, rfl, rfl, trivial⟩)
                  ·
                    refine v_iconst (pc := 89) h (dk dt_X12_response 52 rfl) ?_
                    refine v_goto (pc := 90) h 94 (dk dt_X12_response 53 rfl) rfl ?_
                    refine v_istore (lv' := [(5, _), (4, _), (3, _), (2, _), (0, _), (1, _)]) (pc := 94) h (dk dt_X12_response 55 rfl) (Nat.le_of_ble_eq_true rfl) rfl ?_
                    refine v_iload_n (pc := 96) h (dk dt_X12_response 56 rfl) rfl ?_
                    refine v_iload (pc := 97) h (dk dt_X12_response 57 rfl) rfl ?_
                    refine v_if_eq (pc := 99) h 132 (dk dt_X12_response 58 rfl) rfl (by omega) (fun c99 => ?_) (fun c99 => ?_)
                    ·
                      refine v_iconst (pc := 132) h (dk dt_X12_response 78 rfl) ?_
                      refine v_iadd (pc := 133) h (dk dt_X12_response 79 rfl) ?_
                      refine v_istore_n (lv' := [(3, _), (5, _), (4, _), (2, _), (0, _), (1, _)]) (pc := 134) h (dk dt_X12_response 80 rfl) (Nat.le_of_ble_eq_true rfl) rfl ?_
                      refine v_iinc (lv' := [(4, _), (3, _), (5, _), (2, _), (0, _), (1, _)]) (pc := 135) h (dk dt_X12_response 81 rfl) rfl (Nat.le_of_ble_eq_true rfl) rfl ?_
                      refine v_goto (pc := 138) h 42 (dk dt_X12_response 82 rfl) rfl ?_
                      first
                        | (have q : ¬ ahd (μ 26) o k := by omega
                           exact VV.loc (lv' := [(4, _), (3, _), (2, _), (0, _), (1, _)]) (ih2 (o + 1) (by omega)) ⟨rfl, lvI (eN q).symm, rfl, rfl, rfl, trivial⟩)
                        | (have q : ahd (μ 26) o k := by omega
                           exact VV.loc (lv' := [(4, _), (3, _), (2, _), (0, _), (1, _)]) (ih2 (o + 1) (by omega)) ⟨rfl, lvI (eY q).symm, rfl, rfl, rfl, trivial⟩)
                    ·
                      refine v_aload_n (pc := 102) h (dk dt_X12_response 59 rfl) rfl ?_
                      refine v_getr (pc := 103) h ci12 sh123 (Nat.le_of_ble_eq_true rfl) (j := 17) wF_X12_50 rfl (dk dt_X12_response 60 rfl) ?_
                      refine v_iload (pc := 106) h (dk dt_X12_response 61 rfl) rfl ?_
                      refine v_iald (pc := 108) h sh134 (Nat.le_of_ble_eq_true rfl) (by omega) (dk dt_X12_response 62 rfl) ?_
                      rw [Int.toNat_natCast, e134]
                      refine v_iload_n (pc := 109) h (dk dt_X12_response 63 rfl) rfl ?_
                      refine v_aload_n (pc := 110) h (dk dt_X12_response 64 rfl) rfl ?_
                      refine v_getr (pc := 111) h ci12 sh123 (Nat.le_of_ble_eq_true rfl) (j := 16) wF_X12_47 rfl (dk dt_X12_response 65 rfl) ?_
                      refine v_iload (pc := 114) h (dk dt_X12_response 66 rfl) rfl ?_
                      refine v_iald (pc := 116) h sh133 (Nat.le_of_ble_eq_true rfl) (by omega) (dk dt_X12_response 67 rfl) ?_
                      rw [Int.toNat_natCast, e133]
                      refine v_iadd (pc := 117) h (dk dt_X12_response 68 rfl) ?_
                      refine v_iconst (pc := 118) h (dk dt_X12_response 69 rfl) ?_
                      refine v_isub (pc := 119) h (dk dt_X12_response 70 rfl) ?_
                      refine v_aload_n (pc := 120) h (dk dt_X12_response 71 rfl) rfl ?_
                      refine v_getr (pc := 121) h ci12 sh123 (Nat.le_of_ble_eq_true rfl) (j := 16) wF_X12_47 rfl (dk dt_X12_response 72 rfl) ?_
                      refine v_iload (pc := 124) h (dk dt_X12_response 73 rfl) rfl ?_
                      refine v_iald (pc := 126) h sh133 (Nat.le_of_ble_eq_true rfl) (by omega) (dk dt_X12_response 74 rfl) ?_
                      rw [Int.toNat_natCast, e133]
                      refine v_idiv (pc := 127) h (dk dt_X12_response 75 rfl) (by omega) (by omega) ?_
                      refine v_imul (pc := 128) h (dk dt_X12_response 76 rfl) ?_
                      refine v_goto (pc := 129) h 133 (dk dt_X12_response 77 rfl) rfl ?_
                      refine v_iadd (pc := 133) h (dk dt_X12_response 79 rfl) ?_
                      refine v_istore_n (lv' := [(3, _), (5, _), (4, _), (2, _), (0, _), (1, _)]) (pc := 134) h (dk dt_X12_response 80 rfl) (Nat.le_of_ble_eq_true rfl) rfl ?_
                      refine v_iinc (lv' := [(4, _), (3, _), (5, _), (2, _), (0, _), (1, _)]) (pc := 135) h (dk dt_X12_response 81 rfl) rfl (Nat.le_of_ble_eq_true rfl) rfl ?_
                      refine v_goto (pc := 138) h 42 (dk dt_X12_response 82 rfl) rfl ?_
                      first
                        | (have q : ¬ ahd (μ 26) o k := by omega
                           exact VV.loc (lv' := [(4, _), (3, _), (2, _), (0, _), (1, _)]) (ih2 (o + 1) (by omega)) ⟨rfl, lvI (eN q).symm, rfl, rfl, rfl, trivial⟩)
                        | (have q : ahd (μ 26) o k := by omega
                           exact VV.loc (lv' := [(4, _), (3, _), (2, _), (0, _), (1, _)]) (ih2 (o + 1) (by omega)) ⟨rfl, lvI (eY q).symm, rfl, rfl, rfl, trivial⟩)
        refine v_iload_n (pc := 22) h (dk dt_X12_response 14 rfl) rfl ?_
        refine v_aload_n (pc := 23) h (dk dt_X12_response 15 rfl) rfl ?_
        refine v_getr (pc := 24) h ci12 sh123 (Nat.le_of_ble_eq_true rfl) (j := 18) wF_X12_53 rfl (dk dt_X12_response 16 rfl) ?_
        refine v_iload_n (pc := 27) h (dk dt_X12_response 17 rfl) rfl ?_
        refine v_iald (pc := 28) h sh135 (Nat.le_of_ble_eq_true rfl) (by omega) (dk dt_X12_response 18 rfl) ?_
        rw [Int.toNat_natCast, e135]
        refine v_icmp_gt (pc := 29) h 158 (dk dt_X12_response 19 rfl) rfl (by omega) (fun c29 => ?_) (fun c29 => ?_)
        ·
          exact absurd c29 (by omega)
        ·
          refine v_aload_n (pc := 32) h (dk dt_X12_response 20 rfl) rfl ?_
          refine v_getr (pc := 33) h ci12 sh123 (Nat.le_of_ble_eq_true rfl) (j := 17) wF_X12_50 rfl (dk dt_X12_response 21 rfl) ?_
          refine v_iload_n (pc := 36) h (dk dt_X12_response 22 rfl) rfl ?_
          refine v_iald (pc := 37) h sh134 (Nat.le_of_ble_eq_true rfl) (by omega) (dk dt_X12_response 23 rfl) ?_
          rw [Int.toNat_natCast, e134]
          refine v_istore_n (lv' := [(3, _), (2, _), (0, _), (1, _)]) (pc := 38) h (dk dt_X12_response 24 rfl) (Nat.le_of_ble_eq_true rfl) rfl ?_
          refine v_iconst (pc := 39) h (dk dt_X12_response 25 rfl) ?_
          refine v_istore (lv' := [(4, _), (3, _), (2, _), (0, _), (1, _)]) (pc := 40) h (dk dt_X12_response 26 rfl) (Nat.le_of_ble_eq_true rfl) rfl ?_
          exact VV.loc (inner n 0 (by omega)) ⟨rfl, rfl, rfl, rfl, rfl, trivial⟩
    refine v_iconst (pc := 20) h (dk dt_X12_response 12 rfl) ?_
    refine v_istore_n (lv' := [(2, _), (0, _), (1, _)]) (pc := 21) h (dk dt_X12_response 13 rfl) (Nat.le_of_ble_eq_true rfl) rfl ?_
    exact VV.loc (loop (μ 26 k).toNat 1 (by omega) (by omega) rfl) ⟨rfl, rfl, rfl, trivial⟩
  refine v_iload_n (pc := 0) h (dk dt_X12_response 0 rfl) rfl ?_
  refine v_iconst (pc := 1) h (dk dt_X12_response 1 rfl) ?_
  refine v_aload_n (pc := 2) h (dk dt_X12_response 2 rfl) rfl ?_
  refine v_geti (pc := 3) h ci12 sh123 (Nat.le_of_ble_eq_true rfl) (j := 19) wF_X12_269 rfl (dk dt_X12_response 3 rfl) ?_
  refine v_iconst (pc := 6) h (dk dt_X12_response 4 rfl) ?_
  refine v_isub (pc := 7) h (dk dt_X12_response 5 rfl) ?_
  refine v_cSi (pc := 8) h (c_X12_in h.quiet (by omega) (by omega)) kv_X12_in wM_X12_111 rfl rfl (Nat.le_of_ble_eq_true rfl) (RM.of rfl) rfl rfl (dk dt_X12_response 6 rfl) ?_
  refine v_if_ne (pc := 11) h 20 (dk dt_X12_response 7 rfl) rfl (by split <;> omega) (fun c11 => ?_) (fun c11 => ?_)
  ·
    have d11 : 0 ≤ j ∧ j < μ 20 3 := by by_cases q : 0 ≤ j ∧ j ≤ μ 123 19 - 1; omega; rw [if_neg q] at c11; omega
    exact VV.loc (go20 d11) ⟨rfl, rfl, trivial⟩
  ·
    have d11 : ¬ (0 ≤ j ∧ j < μ 20 3) := fun q => by rw [if_pos (by omega)] at c11; omega
    refine v_aload_n (pc := 14) h (dk dt_X12_response 8 rfl) rfl ?_
    refine v_iconst (pc := 15) h (dk dt_X12_response 9 rfl) ?_
    refine v_cVi (pc := 16) h (c_X12_refuse h.quiet) kv_X12_refuse sh123 wM_X12_119 rfl rfl (Nat.le_of_ble_eq_true rfl) (RM.of rfl) rfl rfl (dk dt_X12_response 10 rfl) ?_
    exact v_iret (pc := 19) h r (dk dt_X12_response 11 rfl) (Nat.le_of_ble_eq_true rfl) (Nat.le_of_ble_eq_true rfl) (PM_n (by unfold rcRs; rw [if_pos d11]) (by decide))
end
