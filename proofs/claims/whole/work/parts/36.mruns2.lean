/-! ===== the model's run is the pure run ===== -/
/-- the model's memory is in the state s of a run by K -/
def bW (n : Nat) (K : Nat → Int) (μ : Mm) (s : St) : Prop :=
  bP n μ s.1 ∧ (bQ μ 0 s.2.1 ∧ bQ μ 1 s.2.2.1 ∧ bQ μ 2 s.2.2.2) ∧ μ 123 35 = s.1 6 5 ∧ μ 123 34 = cN s.1 n ∧ (∀ t : Nat, (t : Int) < s.1 6 6 → μ 140 t = s.1 7 t) ∧ (K 0 = 4 → s.1 6 0 ≠ -1 → μ 149 (s.1 6 0).toNat = s.1 6 4)
/-- nothing changes but what a run works with -/
def frR (μ m : Mm) : Prop := (∀ a, a ≠ 123 → a < 140 ∨ 149 < a → m a = μ a) ∧ ∀ b, b ≠ 33 → b ≠ 34 → b ≠ 35 → m 123 b = μ 123 b
theorem frR_rf {μ : Mm} : frR μ μ := ⟨fun _ _ _ => rfl, fun _ _ _ _ => rfl⟩
theorem frR_tr {μ m m' : Mm} (h1 : frR μ m) (h2 : frR m m') : frR μ m' := ⟨fun a p q => (h2.1 a p q).trans (h1.1 a p q), fun b p q r => (h2.2 b p q r).trans (h1.2 b p q r)⟩
theorem frR_J {μ m : Mm} (h : frR μ m) : ∀ a, a < 20 → m a = μ a := fun a q => h.1 a (by omega) (by omega)
theorem frR_E {μ m : Mm} (h : frR μ m) (hE : eqJ μ) : eqJ m := eqJ_c (fun a q => h.1 a (by omega) (by omega)) (h.2 9 (by decide) (by decide) (by decide)) hE
def atF (s : St) : Int := if s.1 6 0 ≠ -1 ∧ 0 < s.1 6 2 then s.1 6 0 else -1
def ov9 (s : St) : Int := if s.1 6 0 ≠ -1 ∧ s.1 6 2 ≤ 0 then s.1 6 0 else -1
section
variable {l : Launch} {B : Nat} {D : va_G} {E : Nat → ClassId} {μ m σ : Mm} {w n : Nat} {K : Nat → Int} {s : St} {J : Mm}
theorem cN_in {J : Mm} {z : Int} (hD : okD J n) : cN (inN J z) n = 0 := by
  have key : ∀ i, i ≤ n → cN (inN J z) i = 0 := by
    intro i
    induction i with
    | zero => intro _; rfl
    | succ i ih =>
      intro hi
      have h1 := okD_l hD (j := i) (by omega)
      have e : inN J z 0 i = J 1 i := by simp [inN]
      simp only [cN]
      rw [ih (by omega), if_neg (by omega)]; rfl
  exact key n (Nat.le_refl _)
theorem bP_s {σ' : Mm} (h0 : σ' 0 = σ 0) (h1 : σ' 1 = σ 1) (h2 : σ' 2 = σ 2) (h3 : σ' 3 = σ 3) (h4 : σ' 4 = σ 4) (h5 : σ' 5 = σ 5) (h : bP n μ σ) : bP n μ σ' := by
  intro j hj
  rw [h0, h1, h2, h3, h4, h5]; exact h j hj
theorem c_X12_runs (hst : l.stackTraces = false) (hE : eqJ μ) (hs : okJ μ) (hn : μ 1 9 = (n : Int)) (hK : okK K) (h12 : μ 123 12 = K 4) :
    Ct l B D E yX12_runs (.code yX12_runs cX12_runs 11 none) rm_X12_runs [.ref (pl B 123), iI (K 0), iI (K 1), iI (K 2), iI (K 3)] μ (fun v m => v = none ∧ frR μ m ∧ bW n K m (fnF (jm μ) n K (μ 123 13)) ∧ m 123 33 = (fnF (jm μ) n K (μ 123 13)).1 6 6) NX := by
  have hn12 := hs.1
  have hD := okJD hs hn
  have hK0 := hK.1
  have hK2 := hK.2.2.1
  have hK4 := hK.2.2.2.2
  have hl : ∀ j, j < n → jm μ 1 j ≤ 30 := fun j hj => (okD_l hD hj).2
  refine ct_of (own := RX12) (lv := [(0, _), (1, _), (2, _), (3, _), (4, _)]) hst (by decide) rfl rfl (Nat.le_of_ble_eq_true rfl) fun a h r t => ?_
  -- what is done at a moment, behind the choice
  have go206 : ∀ (m : Mm) (s2 : St) (x7 x8 : Int), frR μ m → vS (jm μ) n K s2 → bP n m (if s2.1 6 0 = -1 then s2.1 else keN (jm μ) n K s2.1) → (bQ m 0 s2.2.1 ∧ bQ m 1 s2.2.2.1 ∧ bQ m 2 s2.2.2.2) → m 123 35 = s2.1 6 5 → m 123 34 = cN s2.1 n → (∀ t : Nat, (t : Int) < s2.1 6 6 → m 140 t = s2.1 7 t) → (K 0 = 4 → s2.1 6 0 ≠ -1 → m 149 (s2.1 6 0).toNat = s2.1 6 4) → (s2.1 6 0 ≠ -1 → 1 ≤ s2.1 6 2 ∧ x7 = s2.1 6 2 ∧ x8 = s2.1 6 3) →
      (∀ (m' : Mm) (x7 x8 : Int), frR μ m' → bW n K m' (psF (jm μ) n K s2) → ((psF (jm μ) n K s2).1 6 0 ≠ -1 ∧ 0 < (psF (jm μ) n K s2).1 6 2 → x7 = (psF (jm μ) n K s2).1 6 2 ∧ x8 = (psF (jm μ) n K s2).1 6 3) → VV a B (SP B D E m') 0 0 22 [(10, iI ((psF (jm μ) n K s2).1 6 6)), (9, iI (ov9 (psF (jm μ) n K s2))), (8, iI x8), (7, iI x7), (6, iI (atF (psF (jm μ) n K s2))), (5, iI ((psF (jm μ) n K s2).1 6 1)), (0, .ref (pl B 123)), (1, iI (K 0)), (2, iI (K 1)), (3, iI (K 2)), (4, iI (K 3))] []) →
      VV a B (SP B D E m) 0 0 206 [(10, iI (s2.1 6 6)), (9, iI (-1)), (8, iI x8), (7, iI x7), (6, iI (s2.1 6 0)), (5, iI (s2.1 6 1)), (0, .ref (pl B 123)), (1, iI (K 0)), (2, iI (K 1)), (3, iI (K 2)), (4, iI (K 3))] [] := by
    intro m s2 x7 x8 fm hS hP hQ h35 h34 hlog h149 hx hk
    have htt := t_le hD hS
    have ht0 := hS.1.1
    have hA := hS.2.2.2.1
    have hA1 := hA.1
    have hA2 := hA.2.1
    have h66 := ps_66 (J := jm μ) (n := n) (K := K) (s := s2)
    by_cases e60 : s2.1 6 0 = -1
    · rw [if_pos e60] at hP
      have hps : psF (jm μ) n K s2 = (mup (mup s2.1 7 (s2.1 6 6).toNat (-1)) 6 6 (s2.1 6 6 + 1), s2.2) := by unfold psF psN; rw [if_pos e60]
      have q : ∀ b, b ≠ 6 → (mup (mup s2.1 7 (s2.1 6 6).toNat (-1)) 6 6 (s2.1 6 6 + 1)) 6 b = s2.1 6 b := fun b h => by rw [mup_ne (fun z => h z.2), mup_nk (by omega)]
      have qr : ∀ a, a ≠ 6 → a ≠ 7 → (mup (mup s2.1 7 (s2.1 6 6).toNat (-1)) 6 6 (s2.1 6 6 + 1)) a = s2.1 a := fun a h1 h2 => by funext b; rw [mup_nk h1, mup_nk h2]
      have hk2 := hk (mup m 140 (s2.1 6 6).toNat (-1)) x7 x8 ⟨fun a h1 h2 => by funext b; rw [mup_nk (by omega)]; exact congrFun (fm.1 a h1 h2) b, fun b h1 h2 h3 => by rw [mup_nk (by omega)]; exact fm.2 b h1 h2 h3⟩ (by
        rw [hps]
        refine ⟨bP_s (qr 0 (by decide) (by decide)) (qr 1 (by decide) (by decide)) (qr 2 (by decide) (by decide)) (qr 3 (by decide) (by decide)) (qr 4 (by decide) (by decide)) (qr 5 (by decide) (by decide)) (bP_c (fun a h1 h2 => by funext b; exact mup_nk (by omega)) hP), ⟨bQ_c (by funext b; exact mup_nk (by omega)) (by funext b; exact mup_nk (by omega)) (by funext b; exact mup_nk (by omega)) hQ.1, bQ_c (by funext b; exact mup_nk (by omega)) (by funext b; exact mup_nk (by omega)) (by funext b; exact mup_nk (by omega)) hQ.2.1, bQ_c (by funext b; exact mup_nk (by omega)) (by funext b; exact mup_nk (by omega)) (by funext b; exact mup_nk (by omega)) hQ.2.2⟩, ?_, ?_, fun t ht => ?_, fun _ z => absurd ((q 0 (by decide)).trans e60) z⟩
        · rw [mup_nk (by omega)]; exact h35.trans (q 5 (by decide)).symm
        · rw [mup_nk (by omega), h34]; exact (cN_c (fun j _ => congrFun (qr 0 (by decide) (by decide)) j)).symm
        · have ht : (t : Int) < (mup (mup s2.1 7 (s2.1 6 6).toNat (-1)) 6 6 (s2.1 6 6 + 1)) 6 6 := ht
          rw [mup_eq] at ht
          show mup m 140 (s2.1 6 6).toNat (-1) 140 t = mup (mup s2.1 7 (s2.1 6 6).toNat (-1)) 6 6 (s2.1 6 6 + 1) 7 t
          rw [mup_row, mup_nk (by omega), mup_row]
          split
          · rfl
          · exact hlog t (by omega)) (fun z => by
        rw [hps] at z
        exact absurd ((q 0 (by decide)).trans e60) z.1)
      have e0 : (psF (jm μ) n K s2).1 6 0 = -1 := by rw [hps]; exact (q 0 (by decide)).trans e60
      have e1 : (psF (jm μ) n K s2).1 6 1 = s2.1 6 1 := by rw [hps]; exact q 1 (by decide)
      have ea : atF (psF (jm μ) n K s2) = -1 := by unfold atF; rw [if_neg (fun z => z.1 e0)]
      have eo : ov9 (psF (jm μ) n K s2) = -1 := by unfold ov9; rw [if_neg (fun z => z.1 e0)]
      rw [h66, e1, ea, eo] at hk2
      refine v_aload_n (pc := 206) h (dk dt_X12_runs 110 rfl) rfl ?_
      refine v_getr (pc := 207) h ci12 sh123 (Nat.le_of_ble_eq_true rfl) (j := 26) wF_X12_71 rfl (dk dt_X12_runs 111 rfl) ?_
      refine v_iload (pc := 210) h (dk dt_X12_runs 112 rfl) rfl ?_
      refine v_iload (pc := 212) h (dk dt_X12_runs 113 rfl) rfl ?_
      refine v_iconst (pc := 214) h (dk dt_X12_runs 114 rfl) ?_
      refine v_icmp_ne (pc := 215) h 222 (dk dt_X12_runs 115 rfl) rfl (by omega) (fun c215 => ?_) (fun c215 => ?_)
      ·
        exact absurd e60 c215
      ·
        refine v_iconst (pc := 218) h (dk dt_X12_runs 116 rfl) ?_
        refine v_goto (pc := 219) h 234 (dk dt_X12_runs 117 rfl) rfl ?_
        refine v_iast (pc := 234) h sh140 (Nat.le_of_ble_eq_true rfl) (by omega) (dk dt_X12_runs 123 rfl) ?_
        refine v_iload (pc := 235) h (dk dt_X12_runs 124 rfl) rfl ?_
        refine v_iconst (pc := 237) h (dk dt_X12_runs 125 rfl) ?_
        refine v_icmp_eq (pc := 238) h 252 (dk dt_X12_runs 126 rfl) rfl (by omega) (fun c238 => ?_) (fun c238 => ?_)
        ·
          refine v_iload (pc := 252) h (dk dt_X12_runs 131 rfl) rfl ?_
          refine v_iconst (pc := 254) h (dk dt_X12_runs 132 rfl) ?_
          refine v_icmp_eq (pc := 255) h 346 (dk dt_X12_runs 133 rfl) rfl (by omega) (fun c255 => ?_) (fun c255 => ?_)
          ·
            refine v_iinc (lv' := [(10, _), (9, _), (8, _), (7, _), (6, _), (5, _), (0, _), (1, _), (2, _), (3, _), (4, _)]) (pc := 346) h (dk dt_X12_runs 185 rfl) rfl (Nat.le_of_ble_eq_true rfl) rfl ?_
            refine v_goto (pc := 349) h 22 (dk dt_X12_runs 186 rfl) rfl ?_
            exact VV.loc hk2 ⟨rfl, rfl, rfl, rfl, lvI e60, rfl, rfl, rfl, rfl, rfl, rfl, trivial⟩
          ·
            exact absurd e60 c255
        ·
          exact absurd e60 c238
    · rw [if_neg e60] at hP
      obtain ⟨hx2, hx7, hx8⟩ := hx e60
      obtain ⟨c, hc, hcn⟩ : ∃ c : Nat, s2.1 6 0 = (c : Int) ∧ c < n := ⟨(s2.1 6 0).toNat, by omega, by omega⟩
      have hA3 := hA.2.2 e60
      have k0 : keN (jm μ) n K s2.1 0 = s2.1 0 := ke_o (by decide)
      have k1 : keN (jm μ) n K s2.1 1 = s2.1 1 := ke_o (by decide)
      have k2 : keN (jm μ) n K s2.1 2 = s2.1 2 := ke_o (by decide)
      have k3 : keN (jm μ) n K s2.1 3 = s2.1 3 := ke_o (by decide)
      have k5 : keN (jm μ) n K s2.1 5 = s2.1 5 := ke_o (by decide)
      have k6 : keN (jm μ) n K s2.1 6 = s2.1 6 := ke_o (by decide)
      have k7 : keN (jm μ) n K s2.1 7 = s2.1 7 := ke_o (by decide)
      have hps : psF (jm μ) n K s2 = (if 0 < s2.1 6 3 then mup (mup (mup (keN (jm μ) n K s2.1) 6 3 (s2.1 6 3 - 1)) 7 (s2.1 6 6).toNat (-2)) 6 6 (s2.1 6 6 + 1) else wkN (jm μ) (keN (jm μ) n K s2.1) c (s2.1 6 6).toNat, s2.2) := by
        unfold psF psN
        rw [if_neg e60, hc, Int.toNat_natCast]
      generalize hκ : keN (jm μ) n K s2.1 = κ at *
      rw [hc, Int.toNat_natCast] at h149 hA3
      by_cases d : 0 < s2.1 6 3
      · rw [if_pos d] at hps
        have q : ∀ b, b ≠ 3 → b ≠ 6 → (mup (mup (mup κ 6 3 (s2.1 6 3 - 1)) 7 (s2.1 6 6).toNat (-2)) 6 6 (s2.1 6 6 + 1)) 6 b = s2.1 6 b := fun b h1 h2 => by rw [mup_ne (fun z => h2 z.2), mup_nk (by omega), mup_ne (fun z => h1 z.2), k6]
        have q3 : (mup (mup (mup κ 6 3 (s2.1 6 3 - 1)) 7 (s2.1 6 6).toNat (-2)) 6 6 (s2.1 6 6 + 1)) 6 3 = s2.1 6 3 - 1 := by rw [mup_ne (by omega), mup_nk (by omega), mup_eq]
        have qr : ∀ a, a ≠ 6 → a ≠ 7 → (mup (mup (mup κ 6 3 (s2.1 6 3 - 1)) 7 (s2.1 6 6).toNat (-2)) 6 6 (s2.1 6 6 + 1)) a = κ a := fun a h1 h2 => by funext b; rw [mup_nk h1, mup_nk h2, mup_nk h1]
        have e0 : (psF (jm μ) n K s2).1 6 0 = (c : Int) := by rw [hps]; exact (q 0 (by decide) (by decide)).trans hc
        have e1 : (psF (jm μ) n K s2).1 6 1 = s2.1 6 1 := by rw [hps]; exact q 1 (by decide) (by decide)
        have e2 : (psF (jm μ) n K s2).1 6 2 = s2.1 6 2 := by rw [hps]; exact q 2 (by decide) (by decide)
        have e3 : (psF (jm μ) n K s2).1 6 3 = s2.1 6 3 - 1 := by rw [hps]; exact q3
        have ea : atF (psF (jm μ) n K s2) = (c : Int) := by unfold atF; rw [if_pos ⟨by omega, by omega⟩, e0]
        have eo : ov9 (psF (jm μ) n K s2) = -1 := by unfold ov9; rw [if_neg (by omega)]
        have hk2 := hk (mup m 140 (s2.1 6 6).toNat (-2)) x7 (x8 - 1) ⟨fun a h1 h2 => by funext b; rw [mup_nk (by omega)]; exact congrFun (fm.1 a h1 h2) b, fun b h1 h2 h3 => by rw [mup_nk (by omega)]; exact fm.2 b h1 h2 h3⟩ (by
          rw [hps]
          refine ⟨bP_s (qr 0 (by decide) (by decide)) (qr 1 (by decide) (by decide)) (qr 2 (by decide) (by decide)) (qr 3 (by decide) (by decide)) (qr 4 (by decide) (by decide)) (qr 5 (by decide) (by decide)) (bP_c (fun a h1 h2 => by funext b; exact mup_nk (by omega)) hP), ⟨bQ_c (by funext b; exact mup_nk (by omega)) (by funext b; exact mup_nk (by omega)) (by funext b; exact mup_nk (by omega)) hQ.1, bQ_c (by funext b; exact mup_nk (by omega)) (by funext b; exact mup_nk (by omega)) (by funext b; exact mup_nk (by omega)) hQ.2.1, bQ_c (by funext b; exact mup_nk (by omega)) (by funext b; exact mup_nk (by omega)) (by funext b; exact mup_nk (by omega)) hQ.2.2⟩, ?_, ?_, fun t ht => ?_, fun h4 z => ?_⟩
          · rw [mup_nk (by omega)]; exact h35.trans (q 5 (by decide) (by decide)).symm
          · rw [mup_nk (by omega), h34]; exact (cN_c (fun j _ => by rw [← k0]; exact congrFun (qr 0 (by decide) (by decide)) j)).symm
          · have ht : (t : Int) < (mup (mup (mup κ 6 3 (s2.1 6 3 - 1)) 7 (s2.1 6 6).toNat (-2)) 6 6 (s2.1 6 6 + 1)) 6 6 := ht
            rw [mup_eq] at ht
            show mup m 140 (s2.1 6 6).toNat (-2) 140 t = mup (mup (mup κ 6 3 (s2.1 6 3 - 1)) 7 (s2.1 6 6).toNat (-2)) 6 6 (s2.1 6 6 + 1) 7 t
            rw [mup_row, mup_nk (by omega), mup_row]
            split
            · rfl
            · rw [mup_nk (by omega), k7]; exact hlog t (by omega)
          · show mup m 140 (s2.1 6 6).toNat (-2) 149 ((mup (mup (mup κ 6 3 (s2.1 6 3 - 1)) 7 (s2.1 6 6).toNat (-2)) 6 6 (s2.1 6 6 + 1)) 6 0).toNat = (mup (mup (mup κ 6 3 (s2.1 6 3 - 1)) 7 (s2.1 6 6).toNat (-2)) 6 6 (s2.1 6 6 + 1)) 6 4
            rw [q 0 (by decide) (by decide), q 4 (by decide) (by decide), mup_nk (by omega), hc, Int.toNat_natCast]
            exact h149 h4 (by omega)) (fun _ => ⟨by omega, by omega⟩)
        rw [h66, e1, ea, eo] at hk2
        refine v_aload_n (pc := 206) h (dk dt_X12_runs 110 rfl) rfl ?_
        refine v_getr (pc := 207) h ci12 sh123 (Nat.le_of_ble_eq_true rfl) (j := 26) wF_X12_71 rfl (dk dt_X12_runs 111 rfl) ?_
        refine v_iload (pc := 210) h (dk dt_X12_runs 112 rfl) rfl ?_
        refine v_iload (pc := 212) h (dk dt_X12_runs 113 rfl) rfl ?_
        refine v_iconst (pc := 214) h (dk dt_X12_runs 114 rfl) ?_
        refine v_icmp_ne (pc := 215) h 222 (dk dt_X12_runs 115 rfl) rfl (by omega) (fun c215 => ?_) (fun c215 => ?_)
        ·
          refine v_iload (pc := 222) h (dk dt_X12_runs 118 rfl) rfl ?_
          refine v_if_le (pc := 224) h 232 (dk dt_X12_runs 119 rfl) rfl (by omega) (fun c224 => ?_) (fun c224 => ?_)
          ·
            exact absurd c224 (by omega)
          ·
            refine v_bipush (pc := 227) h (dk dt_X12_runs 120 rfl) rfl ?_
            refine v_goto (pc := 229) h 234 (dk dt_X12_runs 121 rfl) rfl ?_
            refine v_iast (pc := 234) h sh140 (Nat.le_of_ble_eq_true rfl) (by omega) (dk dt_X12_runs 123 rfl) ?_
            refine v_iload (pc := 235) h (dk dt_X12_runs 124 rfl) rfl ?_
            refine v_iconst (pc := 237) h (dk dt_X12_runs 125 rfl) ?_
            refine v_icmp_eq (pc := 238) h 252 (dk dt_X12_runs 126 rfl) rfl (by omega) (fun c238 => ?_) (fun c238 => ?_)
            ·
              exact absurd c238 e60
            ·
              refine v_iload (pc := 241) h (dk dt_X12_runs 127 rfl) rfl ?_
              refine v_if_le (pc := 243) h 252 (dk dt_X12_runs 128 rfl) rfl (by omega) (fun c243 => ?_) (fun c243 => ?_)
              ·
                exact absurd c243 (by omega)
              ·
                refine v_iinc (lv' := [(8, _), (10, _), (9, _), (7, _), (6, _), (5, _), (0, _), (1, _), (2, _), (3, _), (4, _)]) (pc := 246) h (dk dt_X12_runs 129 rfl) rfl (Nat.le_of_ble_eq_true rfl) rfl ?_
                refine v_goto (pc := 249) h 346 (dk dt_X12_runs 130 rfl) rfl ?_
                refine v_iinc (lv' := [(10, _), (8, _), (9, _), (7, _), (6, _), (5, _), (0, _), (1, _), (2, _), (3, _), (4, _)]) (pc := 346) h (dk dt_X12_runs 185 rfl) rfl (Nat.le_of_ble_eq_true rfl) rfl ?_
                refine v_goto (pc := 349) h 22 (dk dt_X12_runs 186 rfl) rfl ?_
                exact VV.loc hk2 ⟨rfl, rfl, rfl, rfl, lvI hc, rfl, rfl, rfl, rfl, rfl, rfl, trivial⟩
        ·
          exact absurd c215 e60
      · rw [if_neg d] at hps
        have hwc : 1 ≤ μ 9 c ∧ μ 9 c ≤ 9 := okD_w hD hcn
        have hrc : rdy s2.1 c := hA3.1
        have h0c : 1 ≤ s2.1 0 c ∧ s2.1 0 c ≤ 30 := by
          have h1 := (hS.1.2 c hcn).2.1
          have h2 := okD_l hD hcn
          have := hrc.2
          omega
        have hPc := hP c hcn
        rw [k0, k3] at hPc
        have m141 : m 141 c = s2.1 0 c := hPc.1
        have m145 : m 145 c = s2.1 3 c := hPc.2.2.2.1
        have m127 : ∀ j, m 127 j = μ 9 j := fun j => by rw [fm.1 127 (by omega) (by omega), hE.1.2.2.2.1]
        have h3c := (hS.1.2 c hcn).2.2.2.2.2.2.1
        -- the memory behind the work
        have fin : ∀ (m' : Mm) (x7' x8' : Int), m' = (if s2.1 0 c = 1 then mup (mup (mup (mup (mup m 140 (s2.1 6 6).toNat (c : Int)) 141 c (s2.1 0 c - 1)) 145 c (s2.1 3 c + 2520 / μ 9 c)) 142 c (s2.1 6 6 + 1)) 123 34 (cN s2.1 n + 1) else mup (mup (mup m 140 (s2.1 6 6).toNat (c : Int)) 141 c (s2.1 0 c - 1)) 145 c (s2.1 3 c + 2520 / μ 9 c)) → x7' = x7 - 1 → x8' = x8 → VV a B (SP B D E m') 0 0 22 [(10, iI (s2.1 6 6 + 1)), (9, iI (if s2.1 0 c = 1 then -1 else if s2.1 6 2 = 1 then (c : Int) else -1)), (8, iI x8'), (7, iI x7'), (6, iI (if s2.1 0 c = 1 then -1 else if s2.1 6 2 = 1 then -1 else (c : Int))), (5, iI (c : Int)), (0, .ref (pl B 123)), (1, iI (K 0)), (2, iI (K 1)), (3, iI (K 2)), (4, iI (K 3))] [] := by
          intro m' x7' x8' hm' h7' h8'
          have e0 : (psF (jm μ) n K s2).1 6 0 = if s2.1 0 c = 1 then -1 else (c : Int) := by rw [hps]; exact wk_60.trans (by rw [k0, k6, hc])
          have e1 : (psF (jm μ) n K s2).1 6 1 = (c : Int) := by rw [hps]; exact wk_61
          have e2 : (psF (jm μ) n K s2).1 6 2 = s2.1 6 2 - 1 := by rw [hps]; exact wk_62.trans (by rw [k6])
          have e3 : (psF (jm μ) n K s2).1 6 3 = s2.1 6 3 := by rw [hps]; exact wk_63.trans (by rw [k6])
          have o : ∀ a, a ≠ 140 → a ≠ 141 → a ≠ 142 → a ≠ 145 → a ≠ 123 → m' a = m a := fun a z1 z2 z3 z4 z5 => by
            rw [hm']; funext b; split
            · rw [mup_nk z5, mup_nk z3, mup_nk z4, mup_nk z2, mup_nk z1]
            · rw [mup_nk z4, mup_nk z2, mup_nk z1]
          have m123 : ∀ b, b ≠ 34 → m' 123 b = m 123 b := fun b h => by
            rw [hm']; split
            · rw [mup_ne (fun z => h z.2), mup_nk (by omega), mup_nk (by omega), mup_nk (by omega), mup_nk (by omega)]
            · rw [mup_nk (by omega), mup_nk (by omega), mup_nk (by omega)]
          have m12334 : m' 123 34 = if s2.1 0 c = 1 then cN s2.1 n + 1 else cN s2.1 n := by
            rw [hm']; split
            · exact mup_eq _ _ _ _
            · rw [mup_nk (by omega), mup_nk (by omega), mup_nk (by omega)]; exact h34
          have m140 : ∀ b, m' 140 b = if b = (s2.1 6 6).toNat then (c : Int) else m 140 b := fun b => by
            rw [hm']; split
            · rw [mup_nk (by omega), mup_nk (by omega), mup_nk (by omega), mup_nk (by omega), mup_row]
            · rw [mup_nk (by omega), mup_nk (by omega), mup_row]
          have m141' : ∀ b, m' 141 b = if b = c then s2.1 0 c - 1 else m 141 b := fun b => by
            rw [hm']; split
            · rw [mup_nk (by omega), mup_nk (by omega), mup_nk (by omega), mup_row]; split; rfl; exact mup_nk (by omega)
            · rw [mup_nk (by omega), mup_row]; split; rfl; exact mup_nk (by omega)
          have m142' : ∀ b, m' 142 b = if s2.1 0 c = 1 ∧ b = c then s2.1 6 6 + 1 else m 142 b := fun b => by
            rw [hm']
            by_cases q : s2.1 0 c = 1
            · rw [if_pos q, mup_nk (by omega), mup_row, mup_nk (by omega), mup_nk (by omega), mup_nk (by omega)]
              by_cases z : b = c
              · rw [if_pos z, if_pos ⟨q, z⟩]
              · rw [if_neg z, if_neg (fun y => z y.2)]
            · rw [if_neg q, if_neg (fun y => q y.1), mup_nk (by omega), mup_nk (by omega), mup_nk (by omega)]
          have m145' : ∀ b, m' 145 b = if b = c then s2.1 3 c + 2520 / μ 9 c else m 145 b := fun b => by
            rw [hm']; split
            · rw [mup_nk (by omega), mup_nk (by omega), mup_row]; split; rfl; rw [mup_nk (by omega), mup_nk (by omega)]
            · rw [mup_row]; split; rfl; rw [mup_nk (by omega), mup_nk (by omega)]
          have hk2 := hk m' x7' x8' ⟨fun a h1 h2 => by rw [o a (by omega) (by omega) (by omega) (by omega) h1]; exact fm.1 a h1 h2, fun b h1 h2 h3 => by rw [m123 b h2]; exact fm.2 b h1 h2 h3⟩ (by
            rw [hps]
            refine ⟨fun j hj => ?_, ⟨bQ_c (o _ (by omega) (by omega) (by omega) (by omega) (by omega)) (o _ (by omega) (by omega) (by omega) (by omega) (by omega)) (o _ (by omega) (by omega) (by omega) (by omega) (by omega)) hQ.1, bQ_c (o _ (by omega) (by omega) (by omega) (by omega) (by omega)) (o _ (by omega) (by omega) (by omega) (by omega) (by omega)) (o _ (by omega) (by omega) (by omega) (by omega) (by omega)) hQ.2.1, bQ_c (o _ (by omega) (by omega) (by omega) (by omega) (by omega)) (o _ (by omega) (by omega) (by omega) (by omega) (by omega)) (o _ (by omega) (by omega) (by omega) (by omega) (by omega)) hQ.2.2⟩, ?_, ?_, fun t ht => ?_, fun h4 z => ?_⟩
            · have hPj := hP j hj
              show m' 141 j = wkN (jm μ) κ c (s2.1 6 6).toNat 0 j ∧ m' 142 j = wkN (jm μ) κ c (s2.1 6 6).toNat 1 j ∧ m' 143 j = wkN (jm μ) κ c (s2.1 6 6).toNat 2 j ∧ m' 145 j = wkN (jm μ) κ c (s2.1 6 6).toNat 3 j ∧ m' 144 j = wkN (jm μ) κ c (s2.1 6 6).toNat 4 j ∧ m' 146 j = wkN (jm μ) κ c (s2.1 6 6).toNat 5 j
              rw [wk_0, wk_1, wk_2, wk_3, wk_4, wk_5, m141', m142', m145', o 143 (by omega) (by omega) (by omega) (by omega) (by omega), o 144 (by omega) (by omega) (by omega) (by omega) (by omega), o 146 (by omega) (by omega) (by omega) (by omega) (by omega), k0, k3, k6]
              refine ⟨?_, ?_, hPj.2.2.1, ?_, hPj.2.2.2.2.1, hPj.2.2.2.2.2⟩
              · split
                · rfl
                · rw [hPj.1, k0]
              · split
                · rfl
                · exact hPj.2.1
              · split
                · rfl
                · rw [hPj.2.2.2.1, k3]
            · show m' 123 35 = wkN (jm μ) κ c (s2.1 6 6).toNat 6 5
              rw [m123 35 (by decide), wk_65, k6]; exact h35
            · show m' 123 34 = cN (wkN (jm μ) κ c (s2.1 6 6).toNat) n
              rw [m12334, cN_w (σ := s2.1) (σ' := wkN (jm μ) κ c (s2.1 6 6).toNat) hcn h0c.1 (fun b => by rw [wk_0, k0])]
              split <;> omega
            · have ht : (t : Int) < wkN (jm μ) κ c (s2.1 6 6).toNat 6 6 := ht
              rw [wk_66, k6] at ht
              show m' 140 t = wkN (jm μ) κ c (s2.1 6 6).toNat 7 t
              rw [m140, wk_7, k7]
              split
              · rfl
              · exact hlog t (by omega)
            · have z : wkN (jm μ) κ c (s2.1 6 6).toNat 6 0 ≠ -1 := z
              show m' 149 (wkN (jm μ) κ c (s2.1 6 6).toNat 6 0).toNat = wkN (jm μ) κ c (s2.1 6 6).toNat 6 4
              rw [wk_60, k0, k6, hc] at z ⊢
              rw [wk_64, k6]
              by_cases q1 : s2.1 0 c = 1
              · rw [if_pos q1] at z; exact absurd rfl z
              · rw [if_neg q1, Int.toNat_natCast, o 149 (by omega) (by omega) (by omega) (by omega) (by omega)]
                exact h149 h4 (by omega)) (fun _ => ⟨by omega, by omega⟩)
          have ea : atF (psF (jm μ) n K s2) = if s2.1 0 c = 1 then -1 else if s2.1 6 2 = 1 then -1 else (c : Int) := by
            unfold atF
            rw [e0, e2]
            by_cases q1 : s2.1 0 c = 1
            · rw [if_pos q1, if_pos q1]; simp
            · rw [if_neg q1, if_neg q1]
              by_cases q2 : s2.1 6 2 = 1
              · rw [if_pos q2, if_neg (by omega)]
              · rw [if_neg q2, if_pos (by omega)]
          have eo : ov9 (psF (jm μ) n K s2) = if s2.1 0 c = 1 then -1 else if s2.1 6 2 = 1 then (c : Int) else -1 := by
            unfold ov9
            rw [e0, e2]
            by_cases q1 : s2.1 0 c = 1
            · rw [if_pos q1, if_pos q1]; simp
            · rw [if_neg q1, if_neg q1]
              by_cases q2 : s2.1 6 2 = 1
              · rw [if_pos q2, if_pos (by omega)]
              · rw [if_neg q2, if_neg (by omega)]
          rw [h66, e1, ea, eo] at hk2
          exact hk2
        have m140a : ∀ j, (mup m 140 (s2.1 6 6).toNat (c : Int)) 141 j = m 141 j := fun j => mup_nk (by omega)
        have m145a : (mup (mup m 140 (s2.1 6 6).toNat (c : Int)) 141 c (s2.1 0 c - 1)) 145 c = s2.1 3 c := by rw [mup_nk (by omega), mup_nk (by omega)]; exact m145
        have m127a : (mup (mup m 140 (s2.1 6 6).toNat (c : Int)) 141 c (s2.1 0 c - 1)) 127 c = μ 9 c := by rw [mup_nk (by omega), mup_nk (by omega)]; exact m127 c
        have m141b : (mup (mup (mup m 140 (s2.1 6 6).toNat (c : Int)) 141 c (s2.1 0 c - 1)) 145 c (s2.1 3 c + 2520 / μ 9 c)) 141 c = s2.1 0 c - 1 := by rw [mup_nk (by omega), mup_eq]
        have m34b : (mup (mup (mup (mup m 140 (s2.1 6 6).toNat (c : Int)) 141 c (s2.1 0 c - 1)) 145 c (s2.1 3 c + 2520 / μ 9 c)) 142 c (s2.1 6 6 + 1)) 123 34 = cN s2.1 n := by rw [mup_nk (by omega), mup_nk (by omega), mup_nk (by omega), mup_nk (by omega)]; exact h34
        rw [hc]
        refine v_aload_n (pc := 206) h (dk dt_X12_runs 110 rfl) rfl ?_
        refine v_getr (pc := 207) h ci12 sh123 (Nat.le_of_ble_eq_true rfl) (j := 26) wF_X12_71 rfl (dk dt_X12_runs 111 rfl) ?_
        refine v_iload (pc := 210) h (dk dt_X12_runs 112 rfl) rfl ?_
        refine v_iload (pc := 212) h (dk dt_X12_runs 113 rfl) rfl ?_
        refine v_iconst (pc := 214) h (dk dt_X12_runs 114 rfl) ?_
        refine v_icmp_ne (pc := 215) h 222 (dk dt_X12_runs 115 rfl) rfl (by omega) (fun c215 => ?_) (fun c215 => ?_)
        ·
          refine v_iload (pc := 222) h (dk dt_X12_runs 118 rfl) rfl ?_
          refine v_if_le (pc := 224) h 232 (dk dt_X12_runs 119 rfl) rfl (by omega) (fun c224 => ?_) (fun c224 => ?_)
          ·
            refine v_iload (pc := 232) h (dk dt_X12_runs 122 rfl) rfl ?_
            refine v_iast (pc := 234) h sh140 (Nat.le_of_ble_eq_true rfl) (by omega) (dk dt_X12_runs 123 rfl) ?_
            refine v_iload (pc := 235) h (dk dt_X12_runs 124 rfl) rfl ?_
            refine v_iconst (pc := 237) h (dk dt_X12_runs 125 rfl) ?_
            refine v_icmp_eq (pc := 238) h 252 (dk dt_X12_runs 126 rfl) rfl (by omega) (fun c238 => ?_) (fun c238 => ?_)
            ·
              exact absurd c238 (by omega)
            ·
              refine v_iload (pc := 241) h (dk dt_X12_runs 127 rfl) rfl ?_
              refine v_if_le (pc := 243) h 252 (dk dt_X12_runs 128 rfl) rfl (by omega) (fun c243 => ?_) (fun c243 => ?_)
              ·
                refine v_iload (pc := 252) h (dk dt_X12_runs 131 rfl) rfl ?_
                refine v_iconst (pc := 254) h (dk dt_X12_runs 132 rfl) ?_
                refine v_icmp_eq (pc := 255) h 346 (dk dt_X12_runs 133 rfl) rfl (by omega) (fun c255 => ?_) (fun c255 => ?_)
                ·
                  exact absurd c255 (by omega)
                ·
                  refine v_aload_n (pc := 258) h (dk dt_X12_runs 134 rfl) rfl ?_
                  refine v_getr (pc := 259) h ci12 sh123 (Nat.le_of_ble_eq_true rfl) (j := 27) wF_X12_74 rfl (dk dt_X12_runs 135 rfl) ?_
                  refine v_iload (pc := 262) h (dk dt_X12_runs 136 rfl) rfl ?_
                  refine v_dup2 (pc := 264) h (dk dt_X12_runs 137 rfl) rfl rfl ?_
                  refine v_iald (pc := 265) h sh141 (Nat.le_of_ble_eq_true rfl) (by omega) (dk dt_X12_runs 138 rfl) ?_
                  rw [Int.toNat_natCast, m140a, m141]
                  refine v_iconst (pc := 266) h (dk dt_X12_runs 139 rfl) ?_
                  refine v_isub (pc := 267) h (dk dt_X12_runs 140 rfl) ?_
                  refine v_iast (pc := 268) h sh141 (Nat.le_of_ble_eq_true rfl) (by omega) (dk dt_X12_runs 141 rfl) ?_
                  rw [Int.toNat_natCast]
                  refine v_aload_n (pc := 269) h (dk dt_X12_runs 142 rfl) rfl ?_
                  refine v_getr (pc := 270) h ci12 sh123 (Nat.le_of_ble_eq_true rfl) (j := 31) wF_X12_86 rfl (dk dt_X12_runs 143 rfl) ?_
                  refine v_iload (pc := 273) h (dk dt_X12_runs 144 rfl) rfl ?_
                  refine v_dup2 (pc := 275) h (dk dt_X12_runs 145 rfl) rfl rfl ?_
                  refine v_iald (pc := 276) h sh145 (Nat.le_of_ble_eq_true rfl) (by omega) (dk dt_X12_runs 146 rfl) ?_
                  rw [Int.toNat_natCast, m145a]
                  refine v_sipush (pc := 277) h (dk dt_X12_runs 147 rfl) rfl ?_
                  refine v_aload_n (pc := 280) h (dk dt_X12_runs 148 rfl) rfl ?_
                  refine v_getr (pc := 281) h ci12 sh123 (Nat.le_of_ble_eq_true rfl) (j := 3) wF_X12_19 rfl (dk dt_X12_runs 149 rfl) ?_
                  refine v_iload (pc := 284) h (dk dt_X12_runs 150 rfl) rfl ?_
                  refine v_iald (pc := 286) h sh127 (Nat.le_of_ble_eq_true rfl) (by omega) (dk dt_X12_runs 151 rfl) ?_
                  rw [Int.toNat_natCast, m127a]
                  refine v_idiv (pc := 287) h (dk dt_X12_runs 152 rfl) ⟨by omega, by omega⟩ ⟨by omega, by omega⟩ ?_
                  refine v_iadd (pc := 288) h (dk dt_X12_runs 153 rfl) ?_
                  refine v_iast (pc := 289) h sh145 (Nat.le_of_ble_eq_true rfl) (by omega) (dk dt_X12_runs 154 rfl) ?_
                  rw [Int.toNat_natCast]
                  refine v_iload (pc := 290) h (dk dt_X12_runs 155 rfl) rfl ?_
                  refine v_istore (lv' := [(5, _), (10, _), (9, _), (8, _), (7, _), (6, _), (0, _), (1, _), (2, _), (3, _), (4, _)]) (pc := 292) h (dk dt_X12_runs 156 rfl) (Nat.le_of_ble_eq_true rfl) rfl ?_
                  refine v_iinc (lv' := [(7, _), (5, _), (10, _), (9, _), (8, _), (6, _), (0, _), (1, _), (2, _), (3, _), (4, _)]) (pc := 294) h (dk dt_X12_runs 157 rfl) rfl (Nat.le_of_ble_eq_true rfl) rfl ?_
                  refine v_aload_n (pc := 297) h (dk dt_X12_runs 158 rfl) rfl ?_
                  refine v_getr (pc := 298) h ci12 sh123 (Nat.le_of_ble_eq_true rfl) (j := 27) wF_X12_74 rfl (dk dt_X12_runs 159 rfl) ?_
                  refine v_iload (pc := 301) h (dk dt_X12_runs 160 rfl) rfl ?_
                  refine v_iald (pc := 303) h sh141 (Nat.le_of_ble_eq_true rfl) (by omega) (dk dt_X12_runs 161 rfl) ?_
                  rw [Int.toNat_natCast, m141b]
                  refine v_if_ne (pc := 304) h 334 (dk dt_X12_runs 162 rfl) rfl (by omega) (fun c304 => ?_) (fun c304 => ?_)
                  ·
                    refine v_iload (pc := 334) h (dk dt_X12_runs 179 rfl) rfl ?_
                    refine v_if_ne (pc := 336) h 346 (dk dt_X12_runs 180 rfl) rfl (by omega) (fun c336 => ?_) (fun c336 => ?_)
                    ·
                      refine v_iinc (lv' := [(10, _), (7, _), (5, _), (9, _), (8, _), (6, _), (0, _), (1, _), (2, _), (3, _), (4, _)]) (pc := 346) h (dk dt_X12_runs 185 rfl) rfl (Nat.le_of_ble_eq_true rfl) rfl ?_
                      refine v_goto (pc := 349) h 22 (dk dt_X12_runs 186 rfl) rfl ?_
                      first
                        | exact VV.loc (fin _ _ _ (by rw [if_pos (by omega)]) rfl rfl) ⟨rfl, lvI (by rw [if_pos (by omega)]), rfl, rfl, lvI (by rw [if_pos (by omega)]), rfl, rfl, rfl, rfl, rfl, rfl, trivial⟩
                        | exact VV.loc (fin _ _ _ (by rw [if_neg (by omega)]) rfl rfl) ⟨rfl, lvI (by rw [if_neg (by omega), if_neg (by omega)]), rfl, rfl, lvI (by rw [if_neg (by omega), if_neg (by omega)]), rfl, rfl, rfl, rfl, rfl, rfl, trivial⟩
                        | exact VV.loc (fin _ _ _ (by rw [if_neg (by omega)]) rfl rfl) ⟨rfl, lvI (by rw [if_neg (by omega), if_pos (by omega)]), rfl, rfl, lvI (by rw [if_neg (by omega), if_pos (by omega)]), rfl, rfl, rfl, rfl, rfl, rfl, trivial⟩
                    ·
                      refine v_iload (pc := 339) h (dk dt_X12_runs 181 rfl) rfl ?_
                      refine v_istore (lv' := [(9, _), (7, _), (5, _), (10, _), (8, _), (6, _), (0, _), (1, _), (2, _), (3, _), (4, _)]) (pc := 341) h (dk dt_X12_runs 182 rfl) (Nat.le_of_ble_eq_true rfl) rfl ?_
                      refine v_iconst (pc := 343) h (dk dt_X12_runs 183 rfl) ?_
                      refine v_istore (lv' := [(6, _), (9, _), (7, _), (5, _), (10, _), (8, _), (0, _), (1, _), (2, _), (3, _), (4, _)]) (pc := 344) h (dk dt_X12_runs 184 rfl) (Nat.le_of_ble_eq_true rfl) rfl ?_
                      refine v_iinc (lv' := [(10, _), (6, _), (9, _), (7, _), (5, _), (8, _), (0, _), (1, _), (2, _), (3, _), (4, _)]) (pc := 346) h (dk dt_X12_runs 185 rfl) rfl (Nat.le_of_ble_eq_true rfl) rfl ?_
                      refine v_goto (pc := 349) h 22 (dk dt_X12_runs 186 rfl) rfl ?_
                      first
                        | exact VV.loc (fin _ _ _ (by rw [if_pos (by omega)]) rfl rfl) ⟨rfl, lvI (by rw [if_pos (by omega)]), rfl, rfl, lvI (by rw [if_pos (by omega)]), rfl, rfl, rfl, rfl, rfl, rfl, trivial⟩
                        | exact VV.loc (fin _ _ _ (by rw [if_neg (by omega)]) rfl rfl) ⟨rfl, lvI (by rw [if_neg (by omega), if_neg (by omega)]), rfl, rfl, lvI (by rw [if_neg (by omega), if_neg (by omega)]), rfl, rfl, rfl, rfl, rfl, rfl, trivial⟩
                        | exact VV.loc (fin _ _ _ (by rw [if_neg (by omega)]) rfl rfl) ⟨rfl, lvI (by rw [if_neg (by omega), if_pos (by omega)]), rfl, rfl, lvI (by rw [if_neg (by omega), if_pos (by omega)]), rfl, rfl, rfl, rfl, rfl, rfl, trivial⟩
                  ·
                    refine v_aload_n (pc := 307) h (dk dt_X12_runs 163 rfl) rfl ?_
                    refine v_getr (pc := 308) h ci12 sh123 (Nat.le_of_ble_eq_true rfl) (j := 28) wF_X12_77 rfl (dk dt_X12_runs 164 rfl) ?_
                    refine v_iload (pc := 311) h (dk dt_X12_runs 165 rfl) rfl ?_
                    refine v_iload (pc := 313) h (dk dt_X12_runs 166 rfl) rfl ?_
                    refine v_iconst (pc := 315) h (dk dt_X12_runs 167 rfl) ?_
                    refine v_iadd (pc := 316) h (dk dt_X12_runs 168 rfl) ?_
                    refine v_iast (pc := 317) h sh142 (Nat.le_of_ble_eq_true rfl) (by omega) (dk dt_X12_runs 169 rfl) ?_
                    rw [Int.toNat_natCast]
                    refine v_aload_n (pc := 318) h (dk dt_X12_runs 170 rfl) rfl ?_
                    refine v_dup (pc := 319) h (dk dt_X12_runs 171 rfl) rfl ?_
                    refine v_geti (pc := 320) h ci12 sh123 (Nat.le_of_ble_eq_true rfl) (j := 34) wF_X12_184 rfl (dk dt_X12_runs 172 rfl) ?_
                    rw [m34b]
                    refine v_iconst (pc := 323) h (dk dt_X12_runs 173 rfl) ?_
                    refine v_iadd (pc := 324) h (dk dt_X12_runs 174 rfl) ?_
                    refine v_put (pc := 325) h ci12 sh123 (Nat.le_of_ble_eq_true rfl) (j := 34) wF_X12_184 rfl rfl rfl rfl (dk dt_X12_runs 175 rfl) ?_
                    refine v_iconst (pc := 328) h (dk dt_X12_runs 176 rfl) ?_
                    refine v_istore (lv' := [(6, _), (7, _), (5, _), (10, _), (9, _), (8, _), (0, _), (1, _), (2, _), (3, _), (4, _)]) (pc := 329) h (dk dt_X12_runs 177 rfl) (Nat.le_of_ble_eq_true rfl) rfl ?_
                    refine v_goto (pc := 331) h 346 (dk dt_X12_runs 178 rfl) rfl ?_
                    refine v_iinc (lv' := [(10, _), (6, _), (7, _), (5, _), (9, _), (8, _), (0, _), (1, _), (2, _), (3, _), (4, _)]) (pc := 346) h (dk dt_X12_runs 185 rfl) rfl (Nat.le_of_ble_eq_true rfl) rfl ?_
                    refine v_goto (pc := 349) h 22 (dk dt_X12_runs 186 rfl) rfl ?_
                    first
                      | exact VV.loc (fin _ _ _ (by rw [if_pos (by omega)]) rfl rfl) ⟨rfl, lvI (by rw [if_pos (by omega)]), rfl, rfl, lvI (by rw [if_pos (by omega)]), rfl, rfl, rfl, rfl, rfl, rfl, trivial⟩
                      | exact VV.loc (fin _ _ _ (by rw [if_neg (by omega)]) rfl rfl) ⟨rfl, lvI (by rw [if_neg (by omega), if_neg (by omega)]), rfl, rfl, lvI (by rw [if_neg (by omega), if_neg (by omega)]), rfl, rfl, rfl, rfl, rfl, rfl, trivial⟩
                      | exact VV.loc (fin _ _ _ (by rw [if_neg (by omega)]) rfl rfl) ⟨rfl, lvI (by rw [if_neg (by omega), if_pos (by omega)]), rfl, rfl, lvI (by rw [if_neg (by omega), if_pos (by omega)]), rfl, rfl, rfl, rfl, rfl, rfl, trivial⟩
              ·
                exact absurd c243 (by omega)
          ·
            exact absurd c224 (by omega)
        ·
          exact absurd c215 (by omega)
  -- ahead of the choice: at work is who goes on
  have go127 : ∀ (m : Mm) (s1 : St) (x7 x8 : Int), frR μ m → vS (jm μ) n K s1 → (s1.1 6 0 ≠ -1 → 1 ≤ s1.1 6 2) → bP n m s1.1 → (bQ m 0 s1.2.1 ∧ bQ m 1 s1.2.2.1 ∧ bQ m 2 s1.2.2.2) → m 123 35 = s1.1 6 5 → m 123 34 = cN s1.1 n → (∀ t : Nat, (t : Int) < s1.1 6 6 → m 140 t = s1.1 7 t) → (K 0 = 4 → s1.1 6 0 ≠ -1 → m 149 (s1.1 6 0).toNat = s1.1 6 4) → (s1.1 6 0 ≠ -1 → x7 = s1.1 6 2 ∧ x8 = s1.1 6 3) →
      (∀ (m' : Mm) (x7 x8 : Int), frR μ m' → bW n K m' (psF (jm μ) n K (chF (jm μ) n K s1)) → ((psF (jm μ) n K (chF (jm μ) n K s1)).1 6 0 ≠ -1 ∧ 0 < (psF (jm μ) n K (chF (jm μ) n K s1)).1 6 2 → x7 = (psF (jm μ) n K (chF (jm μ) n K s1)).1 6 2 ∧ x8 = (psF (jm μ) n K (chF (jm μ) n K s1)).1 6 3) → VV a B (SP B D E m') 0 0 22 [(10, iI ((psF (jm μ) n K (chF (jm μ) n K s1)).1 6 6)), (9, iI (ov9 (psF (jm μ) n K (chF (jm μ) n K s1)))), (8, iI x8), (7, iI x7), (6, iI (atF (psF (jm μ) n K (chF (jm μ) n K s1)))), (5, iI ((psF (jm μ) n K (chF (jm μ) n K s1)).1 6 1)), (0, .ref (pl B 123)), (1, iI (K 0)), (2, iI (K 1)), (3, iI (K 2)), (4, iI (K 3))] []) →
      VV a B (SP B D E m) 0 0 127 [(10, iI (s1.1 6 6)), (9, iI (-1)), (8, iI x8), (7, iI x7), (6, iI (s1.1 6 0)), (5, iI (s1.1 6 1)), (0, .ref (pl B 123)), (1, iI (K 0)), (2, iI (K 1)), (3, iI (K 2)), (4, iI (K 3))] [] := by
    intro m s1 x7 x8 fm hS h1 hP hQ h35 h34 hlog h149 hx hk
    have hA := hS.2.2.2.1
    have hA1 := hA.1
    have hA2 := hA.2.1
    have hEm := frR_E fm hE
    have hsm : okJ m := okJ_c (frR_J fm) hs
    have hnm : m 1 9 = (n : Int) := by rw [fm.1 1 (by omega) (by omega)]; exact hn
    have jm1 : jm m = jm μ := jm_c (frR_J fm)
    have hch := vS_ch hD hK hS h1
    -- behind the choice
    have go188 : ∀ (m : Mm) (x7 x8 : Int), frR μ m → bP n m (chF (jm μ) n K s1).1 → (bQ m 0 (chF (jm μ) n K s1).2.1 ∧ bQ m 1 (chF (jm μ) n K s1).2.2.1 ∧ bQ m 2 (chF (jm μ) n K s1).2.2.2) → m 123 35 = (chF (jm μ) n K s1).1 6 5 → m 123 34 = cN s1.1 n → (∀ t : Nat, (t : Int) < s1.1 6 6 → m 140 t = s1.1 7 t) → (K 0 = 4 → (chF (jm μ) n K s1).1 6 0 ≠ -1 → m 149 ((chF (jm μ) n K s1).1 6 0).toNat = (chF (jm μ) n K s1).1 6 4) → ((chF (jm μ) n K s1).1 6 0 ≠ -1 → x7 = (chF (jm μ) n K s1).1 6 2 ∧ x8 = (chF (jm μ) n K s1).1 6 3) → (chF (jm μ) n K s1).1 6 1 = s1.1 6 1 →
        VV a B (SP B D E m) 0 0 188 [(10, iI (s1.1 6 6)), (9, iI (-1)), (8, iI x8), (7, iI x7), (6, iI ((chF (jm μ) n K s1).1 6 0)), (5, iI (s1.1 6 1)), (0, .ref (pl B 123)), (1, iI (K 0)), (2, iI (K 1)), (3, iI (K 2)), (4, iI (K 3))] [] := by
      intro m x7 x8 fm hP hQ h35 h34 hlog h149 hx e61
      have e66 : (chF (jm μ) n K s1).1 6 6 = s1.1 6 6 := ch_66
      have e7 : (chF (jm μ) n K s1).1 7 = s1.1 7 := ch_o (by decide)
      have e0 : (chF (jm μ) n K s1).1 0 = s1.1 0 := ch_o (by decide)
      have h34' : m 123 34 = cN (chF (jm μ) n K s1).1 n := by rw [h34]; exact (cN_c (fun j _ => congrFun e0 j)).symm
      have hlog' : ∀ t : Nat, (t : Int) < (chF (jm μ) n K s1).1 6 6 → m 140 t = (chF (jm μ) n K s1).1 7 t := fun t ht => by rw [e7]; exact hlog t (by omega)
      have hch1 := hch.1
      have hch2 := hch.2.1
      rw [← e66, ← e61]
      clear hch hlog h34 e0 e7
      generalize chF (jm μ) n K s1 = s2 at *
      have hA := hch1.2.2.2.1
      have hA1 := hA.1
      have hEm := frR_E fm hE
      have hsm : okJ m := okJ_c (frR_J fm) hs
      have hnm : m 1 9 = (n : Int) := by rw [fm.1 1 (by omega) (by omega)]; exact hn
      have jm1 : jm m = jm μ := jm_c (frR_J fm)
      have hBm : vB (jm m) n s2.1 := by rw [jm1]; exact hch1.1
      have ke8 : K 0 ≠ 8 → keN (jm μ) n K s2.1 = s2.1 := fun q => by unfold keN; rw [if_neg q]
      by_cases e60 : s2.1 6 0 = -1
      ·
        refine v_iload (pc := 188) h (dk dt_X12_runs 101 rfl) rfl ?_
        refine v_iconst (pc := 190) h (dk dt_X12_runs 102 rfl) ?_
        refine v_icmp_eq (pc := 191) h 206 (dk dt_X12_runs 103 rfl) rfl (by omega) (fun c191 => ?_) (fun c191 => ?_)
        ·
          exact VV.loc (go206 m s2 x7 x8 fm hch1 (by rw [if_pos e60]; exact hP) hQ h35 h34' hlog' h149 (fun z => ⟨hch2 z, hx z⟩) hk) ⟨rfl, rfl, rfl, rfl, rfl, rfl, rfl, rfl, rfl, rfl, rfl, trivial⟩
        ·
          exact absurd e60 c191
      · obtain ⟨c, hc, hcn⟩ : ∃ c : Nat, s2.1 6 0 = (c : Int) ∧ c < n := ⟨(s2.1 6 0).toNat, by omega, by omega⟩
        have oq : ∀ a, a ≠ 144 → mkq m n (jm m) s2.1 c n a = m a := fun a h => mkq_o h
        have hPk : K 0 = 8 → bP n (mkq m n (jm m) s2.1 c n) (keN (jm μ) n K s2.1) := by
          intro q8 j hj
          have hPj := hP j hj
          have e4 : keN (jm μ) n K s2.1 4 j = kpN (jm μ) n s2.1 4 j := by unfold keN; rw [if_pos q8]
          rw [oq 141 (by decide), oq 142 (by decide), oq 143 (by decide), oq 145 (by decide), oq 146 (by decide), ke_o (a := 0) (by decide), ke_o (a := 1) (by decide), ke_o (a := 2) (by decide), ke_o (a := 3) (by decide), ke_o (a := 5) (by decide), e4]
          refine ⟨hPj.1, hPj.2.1, hPj.2.2.1, hPj.2.2.2.1, ?_, hPj.2.2.2.2.2⟩
          unfold kpN mkq
          rw [hc, Int.toNat_natCast, jm1, hPj.2.2.2.2.1]
          by_cases z : rdy s2.1 j ∧ kpr (jm μ) n s2.1 j ≠ -1 ∧ jm μ 3 c < jm μ 3 j
          · rw [if_pos ⟨rfl, hj, z⟩, if_pos ⟨rfl, hj, z⟩]
          · rw [if_neg (fun y => z y.2.2), if_neg (fun y => z y.2.2)]
        refine v_iload (pc := 188) h (dk dt_X12_runs 101 rfl) rfl ?_
        refine v_iconst (pc := 190) h (dk dt_X12_runs 102 rfl) ?_
        refine v_icmp_eq (pc := 191) h 206 (dk dt_X12_runs 103 rfl) rfl (by omega) (fun c191 => ?_) (fun c191 => ?_)
        ·
          exact absurd c191 e60
        ·
          refine v_iload_n (pc := 194) h (dk dt_X12_runs 104 rfl) rfl ?_
          refine v_bipush (pc := 195) h (dk dt_X12_runs 105 rfl) rfl ?_
          refine v_icmp_ne (pc := 197) h 206 (dk dt_X12_runs 106 rfl) rfl (by omega) (fun c197 => ?_) (fun c197 => ?_)
          ·
            first
              | (have q8 : K 0 ≠ 8 := by omega
                 exact VV.loc (go206 m s2 x7 x8 fm hch1 (by rw [if_neg e60, ke8 q8]; exact hP) hQ h35 h34' hlog' h149 (fun z => ⟨hch2 z, hx z⟩) hk) ⟨rfl, rfl, rfl, rfl, rfl, rfl, rfl, rfl, rfl, rfl, rfl, trivial⟩)
              | exact VV.loc (go206 _ s2 x7 x8 ⟨fun a h1 h2 => by rw [oq a (by omega)]; exact fm.1 a h1 h2, fun b h1 h2 h3 => by rw [oq 123 (by decide)]; exact fm.2 b h1 h2 h3⟩ hch1 (by rw [if_neg e60]; exact hPk (by omega)) ⟨bQ_c (oq _ (by decide)) (oq _ (by decide)) (oq _ (by decide)) hQ.1, bQ_c (oq _ (by decide)) (oq _ (by decide)) (oq _ (by decide)) hQ.2.1, bQ_c (oq _ (by decide)) (oq _ (by decide)) (oq _ (by decide)) hQ.2.2⟩ (by rw [oq 123 (by decide)]; exact h35) (by rw [oq 123 (by decide)]; exact h34') (by rw [oq 140 (by decide)]; exact hlog') (by rw [oq 149 (by decide)]; exact h149) (fun z => ⟨hch2 z, hx z⟩) hk) ⟨rfl, rfl, rfl, rfl, lvI hc.symm, rfl, rfl, rfl, rfl, rfl, rfl, trivial⟩
          ·
            rw [hc]
            refine v_aload_n (pc := 200) h (dk dt_X12_runs 107 rfl) rfl ?_
            refine v_iload (pc := 201) h (dk dt_X12_runs 108 rfl) rfl ?_
            refine v_cVv (pc := 203) h (c_X12_keepsWaiting (n := n) (σ := s2.1) (c := c) h.quiet hEm hsm hnm hP hBm hcn) kv_X12_keepsWaiting sh123 wM_X12_203 rfl rfl (Nat.le_of_ble_eq_true rfl) (RM.of rfl) rfl rfl (dk dt_X12_runs 109 rfl) ?_
            first
              | (have q8 : K 0 ≠ 8 := by omega
                 exact VV.loc (go206 m s2 x7 x8 fm hch1 (by rw [if_neg e60, ke8 q8]; exact hP) hQ h35 h34' hlog' h149 (fun z => ⟨hch2 z, hx z⟩) hk) ⟨rfl, rfl, rfl, rfl, rfl, rfl, rfl, rfl, rfl, rfl, rfl, trivial⟩)
              | exact VV.loc (go206 _ s2 x7 x8 ⟨fun a h1 h2 => by rw [oq a (by omega)]; exact fm.1 a h1 h2, fun b h1 h2 h3 => by rw [oq 123 (by decide)]; exact fm.2 b h1 h2 h3⟩ hch1 (by rw [if_neg e60]; exact hPk (by omega)) ⟨bQ_c (oq _ (by decide)) (oq _ (by decide)) (oq _ (by decide)) hQ.1, bQ_c (oq _ (by decide)) (oq _ (by decide)) (oq _ (by decide)) hQ.2.1, bQ_c (oq _ (by decide)) (oq _ (by decide)) (oq _ (by decide)) hQ.2.2⟩ (by rw [oq 123 (by decide)]; exact h35) (by rw [oq 123 (by decide)]; exact h34') (by rw [oq 140 (by decide)]; exact hlog') (by rw [oq 149 (by decide)]; exact h149) (fun z => ⟨hch2 z, hx z⟩) hk) ⟨rfl, rfl, rfl, rfl, lvI hc.symm, rfl, rfl, rfl, rfl, rfl, rfl, trivial⟩
    by_cases c0 : s1.1 6 0 = -1
    · have hSm : vS (jm m) n K s1 := by rw [jm1]; exact hS
      -- who is chosen
      have go142 : ∀ (m' : Mm) (x : Int), chM n K (jm μ) m s1 m' x → VV a B (SP B D E m') 0 0 142 [(6, iI x), (10, iI (s1.1 6 6)), (9, iI (-1)), (8, iI x8), (7, iI x7), (5, iI (s1.1 6 1)), (0, .ref (pl B 123)), (1, iI (K 0)), (2, iI (K 1)), (3, iI (K 2)), (4, iI (K 3))] [] := by
        intro m' x hx
        rcases hx with ⟨ex, em, ec⟩ | ⟨j, lv, σ0, Q0, ex, hj, h149', hlv, h35', hσ0, hσ6, hQ', ec, f', f123⟩
        · subst ex em
          have z := go188 m' 0 0 fm (by rw [ec]; exact hP) (by rw [ec]; exact hQ) (by rw [ec]; exact h35) h34 hlog (by rw [ec]; exact h149) (fun q => absurd (by rw [ec]; exact c0) q) (by rw [ec])
          rw [show (chF (jm μ) n K s1).1 6 0 = -1 by rw [ec]; exact c0] at z
          refine v_iload (pc := 142) h (dk dt_X12_runs 77 rfl) rfl ?_
          refine v_iconst (pc := 144) h (dk dt_X12_runs 78 rfl) ?_
          refine v_icmp_ne (pc := 145) h 152 (dk dt_X12_runs 79 rfl) rfl (by omega) (fun c145 => ?_) (fun c145 => ?_)
          ·
            exact absurd rfl c145
          ·
            refine v_iconst (pc := 148) h (dk dt_X12_runs 80 rfl) ?_
            refine v_goto (pc := 149) h 160 (dk dt_X12_runs 81 rfl) rfl ?_
            refine v_istore (lv' := [(7, _), (6, _), (10, _), (9, _), (8, _), (5, _), (0, _), (1, _), (2, _), (3, _), (4, _)]) (pc := 160) h (dk dt_X12_runs 87 rfl) (Nat.le_of_ble_eq_true rfl) rfl ?_
            refine v_iload (pc := 162) h (dk dt_X12_runs 88 rfl) rfl ?_
            refine v_iconst (pc := 164) h (dk dt_X12_runs 89 rfl) ?_
            refine v_icmp_eq (pc := 165) h 185 (dk dt_X12_runs 90 rfl) rfl (by omega) (fun c165 => ?_) (fun c165 => ?_)
            ·
              refine v_iconst (pc := 185) h (dk dt_X12_runs 99 rfl) ?_
              refine v_istore (lv' := [(8, _), (7, _), (6, _), (10, _), (9, _), (5, _), (0, _), (1, _), (2, _), (3, _), (4, _)]) (pc := 186) h (dk dt_X12_runs 100 rfl) (Nat.le_of_ble_eq_true rfl) rfl ?_
              exact VV.loc z ⟨rfl, rfl, rfl, rfl, rfl, rfl, rfl, rfl, rfl, rfl, rfl, trivial⟩
            ·
              exact absurd rfl c165
        · subst ex
          have fm' : frR μ m' := frR_tr fm ⟨fun a h1 h2 => f' a h1 (by omega), fun b h1 h2 h3 => f123 b h3⟩
          have hP' : bP n m' s1.1 := bP_c (fun a h1 h2 => f' a (by omega) (by omega)) hP
          have hP0 : bP n m' σ0 := bP_s (hσ0 0 (by decide)) (hσ0 1 (by decide)) (hσ0 2 (by decide)) (hσ0 3 (by decide)) (hσ0 4 (by decide)) (hσ0 5 (by decide)) hP'
          have hB0 : vB (jm μ) n s1.1 := hS.1
          have e60 : (chF (jm μ) n K s1).1 6 0 = (j : Int) := by rw [ec]; exact tk_60 (J := jm μ) (K := K) (σ := σ0) (lv := lv)
          have e61 : (chF (jm μ) n K s1).1 6 1 = s1.1 6 1 := by rw [ec]; exact (tk_61 (J := jm μ) (K := K) (σ := σ0) (lv := lv) (j := j)).trans (hσ6 1 (by decide))
          have e62 : (chF (jm μ) n K s1).1 6 2 = tnF (jm μ) K s1.1 lv j := by rw [ec]; exact (tk_62 (J := jm μ) (K := K) (σ := σ0) (lv := lv) (j := j)).trans (by unfold tnF; rw [hσ0 0 (by decide)])
          have e63 : (chF (jm μ) n K s1).1 6 3 = if s1.1 6 1 = -1 ∨ s1.1 6 1 = (j : Int) then 0 else K 2 := by rw [ec]; exact (tk_63 (J := jm μ) (K := K) (σ := σ0) (lv := lv) (j := j)).trans (by rw [hσ6 1 (by decide)])
          have e64 : (chF (jm μ) n K s1).1 6 4 = lv := by rw [ec]; exact tk_64 (J := jm μ) (K := K) (σ := σ0) (lv := lv) (j := j)
          have e65 : (chF (jm μ) n K s1).1 6 5 = σ0 6 5 := by rw [ec]; exact tk_65 (J := jm μ) (K := K) (σ := σ0) (lv := lv) (j := j)
          have z := fun (x8 : Int) (h8 : x8 = if s1.1 6 1 = -1 ∨ s1.1 6 1 = (j : Int) then 0 else K 2) => go188 m' (tnF (jm μ) K s1.1 lv j) x8 fm' (bP_s (ch_o (by decide)) (ch_o (by decide)) (ch_o (by decide)) (ch_o (by decide)) (ch_o (by decide)) (ch_o (by decide)) hP') (by rw [ec]; exact hQ') (by rw [e65]; exact h35') (by rw [f123 34 (by decide)]; exact h34) (fun t ht => by rw [f' 140 (by omega) (by omega)]; exact hlog t ht) (fun h4 _ => by rw [e60, Int.toNat_natCast, e64]; exact h149' h4) (fun _ => ⟨e62.symm, h8.trans e63.symm⟩) e61
          rw [e60] at z
          refine v_iload (pc := 142) h (dk dt_X12_runs 77 rfl) rfl ?_
          refine v_iconst (pc := 144) h (dk dt_X12_runs 78 rfl) ?_
          refine v_icmp_ne (pc := 145) h 152 (dk dt_X12_runs 79 rfl) rfl (by omega) (fun c145 => ?_) (fun c145 => ?_)
          ·
            refine v_aload_n (pc := 152) h (dk dt_X12_runs 82 rfl) rfl ?_
            refine v_iload_n (pc := 153) h (dk dt_X12_runs 83 rfl) rfl ?_
            refine v_iload (pc := 154) h (dk dt_X12_runs 84 rfl) rfl ?_
            refine v_iload_n (pc := 156) h (dk dt_X12_runs 85 rfl) rfl ?_
            refine v_cVi (pc := 157) h (c_X12_turnOf (n := n) (σ := s1.1) (J := jm μ) (J' := jm μ) h.quiet hP' hB0 hl hK hj (by omega) (lv := lv) (fun q => ⟨h149' q, hlv⟩)) kv_X12_turnOf sh123 wM_X12_199 rfl rfl (Nat.le_of_ble_eq_true rfl) (RM.of rfl) rfl rfl (dk dt_X12_runs 86 rfl) ?_
            refine v_istore (lv' := [(7, _), (6, _), (10, _), (9, _), (8, _), (5, _), (0, _), (1, _), (2, _), (3, _), (4, _)]) (pc := 160) h (dk dt_X12_runs 87 rfl) (Nat.le_of_ble_eq_true rfl) rfl ?_
            refine v_iload (pc := 162) h (dk dt_X12_runs 88 rfl) rfl ?_
            refine v_iconst (pc := 164) h (dk dt_X12_runs 89 rfl) ?_
            refine v_icmp_eq (pc := 165) h 185 (dk dt_X12_runs 90 rfl) rfl (by omega) (fun c165 => ?_) (fun c165 => ?_)
            ·
              exact absurd c165 (by omega)
            ·
              refine v_iload (pc := 168) h (dk dt_X12_runs 91 rfl) rfl ?_
              refine v_iconst (pc := 170) h (dk dt_X12_runs 92 rfl) ?_
              refine v_icmp_eq (pc := 171) h 185 (dk dt_X12_runs 93 rfl) rfl (by omega) (fun c171 => ?_) (fun c171 => ?_)
              ·
                refine v_iconst (pc := 185) h (dk dt_X12_runs 99 rfl) ?_
                refine v_istore (lv' := [(8, _), (7, _), (6, _), (10, _), (9, _), (5, _), (0, _), (1, _), (2, _), (3, _), (4, _)]) (pc := 186) h (dk dt_X12_runs 100 rfl) (Nat.le_of_ble_eq_true rfl) rfl ?_
                first
                  | exact VV.loc (z 0 (by rw [if_pos (by omega)])) ⟨rfl, rfl, rfl, rfl, rfl, rfl, rfl, rfl, rfl, rfl, rfl, trivial⟩
                  | exact VV.loc (z (K 2) (by rw [if_neg (by omega)])) ⟨rfl, rfl, rfl, rfl, rfl, rfl, rfl, rfl, rfl, rfl, rfl, trivial⟩
              ·
                refine v_iload (pc := 174) h (dk dt_X12_runs 94 rfl) rfl ?_
                refine v_iload (pc := 176) h (dk dt_X12_runs 95 rfl) rfl ?_
                refine v_icmp_eq (pc := 178) h 185 (dk dt_X12_runs 96 rfl) rfl (by omega) (fun c178 => ?_) (fun c178 => ?_)
                ·
                  refine v_iconst (pc := 185) h (dk dt_X12_runs 99 rfl) ?_
                  refine v_istore (lv' := [(8, _), (7, _), (6, _), (10, _), (9, _), (5, _), (0, _), (1, _), (2, _), (3, _), (4, _)]) (pc := 186) h (dk dt_X12_runs 100 rfl) (Nat.le_of_ble_eq_true rfl) rfl ?_
                  first
                    | exact VV.loc (z 0 (by rw [if_pos (by omega)])) ⟨rfl, rfl, rfl, rfl, rfl, rfl, rfl, rfl, rfl, rfl, rfl, trivial⟩
                    | exact VV.loc (z (K 2) (by rw [if_neg (by omega)])) ⟨rfl, rfl, rfl, rfl, rfl, rfl, rfl, rfl, rfl, rfl, rfl, trivial⟩
                ·
                  refine v_iload_n (pc := 181) h (dk dt_X12_runs 97 rfl) rfl ?_
                  refine v_goto (pc := 182) h 186 (dk dt_X12_runs 98 rfl) rfl ?_
                  refine v_istore (lv' := [(8, _), (7, _), (6, _), (10, _), (9, _), (5, _), (0, _), (1, _), (2, _), (3, _), (4, _)]) (pc := 186) h (dk dt_X12_runs 100 rfl) (Nat.le_of_ble_eq_true rfl) rfl ?_
                  first
                    | exact VV.loc (z 0 (by rw [if_pos (by omega)])) ⟨rfl, rfl, rfl, rfl, rfl, rfl, rfl, rfl, rfl, rfl, rfl, trivial⟩
                    | exact VV.loc (z (K 2) (by rw [if_neg (by omega)])) ⟨rfl, rfl, rfl, rfl, rfl, rfl, rfl, rfl, rfl, rfl, rfl, trivial⟩
          ·
            exact absurd c145 (by omega)
      refine v_iload (pc := 127) h (dk dt_X12_runs 69 rfl) rfl ?_
      refine v_iconst (pc := 129) h (dk dt_X12_runs 70 rfl) ?_
      refine v_icmp_ne (pc := 130) h 188 (dk dt_X12_runs 71 rfl) rfl (by omega) (fun c130 => ?_) (fun c130 => ?_)
      ·
        exact absurd c0 c130
      ·
        refine v_aload_n (pc := 133) h (dk dt_X12_runs 72 rfl) rfl ?_
        refine v_iload_n (pc := 134) h (dk dt_X12_runs 73 rfl) rfl ?_
        refine v_iload (pc := 135) h (dk dt_X12_runs 74 rfl) rfl ?_
        refine v_cV (pc := 137) h (c_X12_chooses (n := n) (s := s1) (K := K) h.quiet hEm hsm hnm hP hSm hK c0 h35 hQ.1 hQ.2.1 hQ.2.2) kv_X12_chooses sh123 wM_X12_196 rfl rfl (Nat.le_of_ble_eq_true rfl) (RM.of rfl) rfl rfl (dk dt_X12_runs 75 rfl) (fun v137 μ137 p137 => ?_)
        obtain ⟨x, rfl, hx⟩ := p137
        rw [jm1] at hx
        refine v_istore (lv' := [(6, _), (10, _), (9, _), (8, _), (7, _), (5, _), (0, _), (1, _), (2, _), (3, _), (4, _)]) (pc := 140) h (dk dt_X12_runs 76 rfl) (Nat.le_of_ble_eq_true rfl) rfl ?_
        exact VV.loc (go142 _ x hx) ⟨rfl, rfl, rfl, rfl, rfl, rfl, rfl, rfl, rfl, rfl, rfl, trivial⟩
    · have ec : chF (jm μ) n K s1 = s1 := by unfold chF; rw [if_pos c0]
      have z := go188 m x7 x8 fm (by rw [ec]; exact hP) (by rw [ec]; exact hQ) (by rw [ec]; exact h35) h34 hlog (by rw [ec]; exact h149) (by rw [ec]; exact hx) (by rw [ec])
      rw [ec] at z
      refine v_iload (pc := 127) h (dk dt_X12_runs 69 rfl) rfl ?_
      refine v_iconst (pc := 129) h (dk dt_X12_runs 70 rfl) ?_
      refine v_icmp_ne (pc := 130) h 188 (dk dt_X12_runs 71 rfl) rfl (by omega) (fun c130 => ?_) (fun c130 => ?_)
      ·
        exact VV.loc z ⟨rfl, rfl, rfl, rfl, rfl, rfl, rfl, rfl, rfl, rfl, rfl, trivial⟩
      ·
        exact absurd c130 c0
  have loop : ∀ (d : Nat) (m : Mm) (s : St) (x7 x8 : Int), frR μ m → bW n K m s → vS (jm μ) n K s → vY K s.1 → vR n s.1 → (s.1 6 0 ≠ -1 ∧ 0 < s.1 6 2 → x7 = s.1 6 2 ∧ x8 = s.1 6 3) → fnF (jm μ) n K (μ 123 13) = ruF (jm μ) n K d s → VV a B (SP B D E m) 0 0 22 [(10, iI (s.1 6 6)), (9, iI (ov9 s)), (8, iI x8), (7, iI x7), (6, iI (atF s)), (5, iI (s.1 6 1)), (0, .ref (pl B 123)), (1, iI (K 0)), (2, iI (K 1)), (3, iI (K 2)), (4, iI (K 3))] [] := by
    intro d
    have over : ∀ (m : Mm) (s : St) (x7 x8 : Int), frR μ m → bW n K m s → ovr n s.1 → fnF (jm μ) n K (μ 123 13) = s → VV a B (SP B D E m) 0 0 22 [(10, iI (s.1 6 6)), (9, iI (ov9 s)), (8, iI x8), (7, iI x7), (6, iI (atF s)), (5, iI (s.1 6 1)), (0, .ref (pl B 123)), (1, iI (K 0)), (2, iI (K 1)), (3, iI (K 2)), (4, iI (K 3))] [] := by
      intro m s x7 x8 fm hW ho hfn
      have h34 := hW.2.2.2.1
      have hcn := (cN_all s.1 n).mpr ho
      have h9 : m 123 9 = (n : Int) := eqJ_n (frR_E fm hE) (by rw [fm.1 1 (by omega) (by omega)]; exact hn)
      have fm' : frR μ (mup m 123 33 (s.1 6 6)) := ⟨fun a h1 h2 => by funext b; rw [mup_nk h1]; exact congrFun (fm.1 a h1 h2) b, fun b h1 h2 h3 => by rw [mup_ne (fun z => h1 z.2)]; exact fm.2 b h1 h2 h3⟩
      have o : ∀ a, a ≠ 123 → (mup m 123 33 (s.1 6 6)) a = m a := fun a h => by funext b; exact mup_nk h
      refine v_aload_n (pc := 22) h (dk dt_X12_runs 14 rfl) rfl ?_
      refine v_geti (pc := 23) h ci12 sh123 (Nat.le_of_ble_eq_true rfl) (j := 34) wF_X12_184 rfl (dk dt_X12_runs 15 rfl) ?_
      refine v_aload_n (pc := 26) h (dk dt_X12_runs 16 rfl) rfl ?_
      refine v_geti (pc := 27) h ci12 sh123 (Nat.le_of_ble_eq_true rfl) (j := 9) wF_X12_108 rfl (dk dt_X12_runs 17 rfl) ?_
      refine v_icmp_ge (pc := 30) h 352 (dk dt_X12_runs 18 rfl) rfl (by omega) (fun c30 => ?_) (fun c30 => ?_)
      ·
        refine v_aload_n (pc := 352) h (dk dt_X12_runs 187 rfl) rfl ?_
        refine v_iload (pc := 353) h (dk dt_X12_runs 188 rfl) rfl ?_
        refine v_put (pc := 355) h ci12 sh123 (Nat.le_of_ble_eq_true rfl) (j := 33) wF_X12_207 rfl rfl rfl rfl (dk dt_X12_runs 189 rfl) ?_
        exact v_vret (pc := 358) h r (dk dt_X12_runs 190 rfl) (Nat.le_of_ble_eq_true rfl) (Nat.le_of_ble_eq_true rfl) ⟨rfl, fm', by rw [hfn]; exact ⟨bP_c (fun a h1 h2 => o a (by omega)) hW.1, ⟨bQ_c (o _ (by decide)) (o _ (by decide)) (o _ (by decide)) hW.2.1.1, bQ_c (o _ (by decide)) (o _ (by decide)) (o _ (by decide)) hW.2.1.2.1, bQ_c (o _ (by decide)) (o _ (by decide)) (o _ (by decide)) hW.2.1.2.2⟩, by rw [mup_ne (by omega)]; exact hW.2.2.1, by rw [mup_ne (by omega)]; exact h34, fun t ht => by rw [o 140 (by decide)]; exact hW.2.2.2.2.1 t ht, fun h1 h2 => by rw [o 149 (by decide)]; exact hW.2.2.2.2.2 h1 h2⟩, by rw [mup_eq, hfn]⟩
      ·
        exact absurd c30 (by omega)
    induction d with
    | zero =>
      intro m s x7 x8 fm hW hS hy hR hx hfn
      have hend := (fn_is (K := K) hD hK (z := μ 123 13)).2
      rw [hfn] at hend
      exact over m s x7 x8 fm hW hend hfn
    | succ d ih =>
      intro m s x7 x8 fm hW hS hy hR hx hfn
      by_cases ho : ovr n s.1
      · exact over m s x7 x8 fm hW ho (by rw [hfn, ruF, if_pos ho])
      · have hfn2 : fnF (jm μ) n K (μ 123 13) = ruF (jm μ) n K d (stF (jm μ) n K s) := by rw [hfn, ruF, if_neg ho]
        have hst2 := vS_st hD hK hS hy ho
        have hR2 := vR_st (J := jm μ) hD hK hS
        have htt := t_le hD hS
        have ht0 := hS.1.1
        have hA := hS.2.2.2.1
        have hA1 := hA.1
        have hbg := vS_bg (K := K) hD hS
        have hcb := cN_b s.1 n
        have h34 := hW.2.2.2.1
        have hcn : ¬ cN s.1 n = n := fun z => ho ((cN_all s.1 n).mp z)
        have h9 : m 123 9 = (n : Int) := eqJ_n (frR_E fm hE) (by rw [fm.1 1 (by omega) (by omega)]; exact hn)
        have h12m : m 123 12 = K 4 := by rw [fm.2 12 (by decide) (by decide) (by decide)]; exact h12
        have hrow3 : rRow K → (s.2.1 ++ (s.2.2.1 ++ s.2.2.2)).Nodup ∧ (∀ j, j ∈ s.2.1 ++ (s.2.2.1 ++ s.2.2.2) → j < n ∧ rdy s.1 j ∧ (j : Int) ≠ s.1 6 0) ∧ s.2.1.length + (s.2.2.1.length + s.2.2.2.length) ≤ n := by
          intro hrow
          have hq := hS.2.2.2.2.1.1 hrow
          have hsub : (s.2.1 ++ (s.2.2.1 ++ s.2.2.2)) ⊆ List.range n := fun x hx => List.mem_range.mpr ((hq.2 x).mp hx).1
          have hle := hq.1.length_le_of_subset hsub
          simp only [List.length_append, List.length_range] at hle
          exact ⟨hq.1, fun j hj => (hq.2 j).mp hj, by omega⟩
        -- behind who becomes ready and whose slice is over
        have go124 : ∀ m, frR μ m → bP n m (bgF (jm μ) n K s).1 → (bQ m 0 (bgF (jm μ) n K s).2.1 ∧ bQ m 1 (bgF (jm μ) n K s).2.2.1 ∧ bQ m 2 (bgF (jm μ) n K s).2.2.2) → m 123 35 = s.1 6 5 → m 123 34 = cN s.1 n → (∀ t : Nat, (t : Int) < s.1 6 6 → m 140 t = s.1 7 t) → (K 0 = 4 → atF s ≠ -1 → m 149 (atF s).toNat = s.1 6 4) → ∀ x9 : Int, VV a B (SP B D E m) 0 0 124 [(10, iI (s.1 6 6)), (9, iI x9), (8, iI x8), (7, iI x7), (6, iI (atF s)), (5, iI (s.1 6 1)), (0, .ref (pl B 123)), (1, iI (K 0)), (2, iI (K 1)), (3, iI (K 2)), (4, iI (K 3))] [] := by
          intro m fm hP hQ h35 h34 hlog h149 x9
          have b66 : (bgF (jm μ) n K s).1 6 6 = s.1 6 6 := bg_6 (by decide)
          have b61 : (bgF (jm μ) n K s).1 6 1 = s.1 6 1 := bg_6 (by decide)
          have b62 : (bgF (jm μ) n K s).1 6 2 = s.1 6 2 := bg_6 (by decide)
          have b63 : (bgF (jm μ) n K s).1 6 3 = s.1 6 3 := bg_6 (by decide)
          have b64 : (bgF (jm μ) n K s).1 6 4 = s.1 6 4 := bg_6 (by decide)
          have b65 : (bgF (jm μ) n K s).1 6 5 = s.1 6 5 := bg_6 (by decide)
          have b0 : (bgF (jm μ) n K s).1 0 = s.1 0 := bg_o (by decide) (by decide) (by decide) (by decide)
          have b7 : (bgF (jm μ) n K s).1 7 = s.1 7 := bg_o (by decide) (by decide) (by decide) (by decide)
          have b60 : (bgF (jm μ) n K s).1 6 0 = atF s := by
            have e : (adF (jm μ) n K (rsF K s)).1 6 = s.1 6 := by
              show adN (jm μ) n (rsF K s).1 6 = s.1 6
              rw [ad_o (by decide) (by decide) (by decide), rs_1]
            unfold bgF ovF atF
            rw [e]
            by_cases q : s.1 6 0 ≠ -1 ∧ s.1 6 2 ≤ 0
            · rw [if_pos q, if_neg (by omega)]; show (mup (adF (jm μ) n K (rsF K s)).1 6 0 (-1)) 6 0 = -1; exact mup_eq _ _ _ _
            · rw [if_neg q, e]
              by_cases q1 : s.1 6 0 = -1
              · rw [if_neg (by omega)]; exact q1
              · rw [if_pos (by omega)]
          have z := go127 m (bgF (jm μ) n K s) x7 x8 fm hbg.1 hbg.2 hP hQ (by rw [b65]; exact h35) (by rw [h34]; exact (cN_c (fun j _ => congrFun b0 j)).symm) (fun t ht => by rw [b7]; exact hlog t (by omega)) (fun h4 q => by rw [b60, b64]; exact h149 h4 (by rw [← b60]; exact q)) (fun q => by
            rw [b60] at q
            rw [b62, b63]
            refine hx ?_
            unfold atF at q
            by_cases q1 : s.1 6 0 ≠ -1 ∧ 0 < s.1 6 2
            · exact q1
            · rw [if_neg q1] at q; exact absurd rfl q) (fun m' y7 y8 f' w' x' => ih m' (stF (jm μ) n K s) y7 y8 f' w' hst2.1 hst2.2 hR2 x' hfn2)
          rw [b66, b61, b60] at z
          refine v_iconst (pc := 124) h (dk dt_X12_runs 67 rfl) ?_
          refine v_istore (lv' := [(9, _), (10, _), (8, _), (7, _), (6, _), (5, _), (0, _), (1, _), (2, _), (3, _), (4, _)]) (pc := 125) h (dk dt_X12_runs 68 rfl) (Nat.le_of_ble_eq_true rfl) rfl ?_
          exact VV.loc z ⟨rfl, rfl, rfl, rfl, rfl, rfl, rfl, rfl, rfl, rfl, rfl, trivial⟩
        -- behind the rise
        have go64 : ∀ m, frR μ m → bP n m s.1 → (bQ m 0 (rsF K s).2.1 ∧ bQ m 1 (rsF K s).2.2.1 ∧ bQ m 2 (rsF K s).2.2.2) → m 123 35 = s.1 6 5 → m 123 34 = cN s.1 n → (∀ t : Nat, (t : Int) < s.1 6 6 → m 140 t = s.1 7 t) → (K 0 = 4 → s.1 6 0 ≠ -1 → m 149 (s.1 6 0).toNat = s.1 6 4) → VV a B (SP B D E m) 0 0 64 [(10, iI (s.1 6 6)), (9, iI (ov9 s)), (8, iI x8), (7, iI x7), (6, iI (atF s)), (5, iI (s.1 6 1)), (0, .ref (pl B 123)), (1, iI (K 0)), (2, iI (K 1)), (3, iI (K 2)), (4, iI (K 3))] [] := by
          intro m fm hP hQ h35 h34 hlog h149
          have hEm := frR_E fm hE
          have hsm : okJ m := okJ_c (frR_J fm) hs
          have hnm : m 1 9 = (n : Int) := by rw [fm.1 1 (by omega) (by omega)]; exact hn
          have jm1 : jm m = jm μ := jm_c (frR_J fm)
          have hBm : vB (jm m) n s.1 := by rw [jm1]; exact hS.1
          have hS1 := vS_ad (K := K) hD (vS_rs hS)
          have e1 : (rsF K s).1 = s.1 := rs_1 K s
          -- rows of jobs that aren't used are empty
          have hnorow : ¬ rRow K → (rsF K s).2.1 = [] ∧ (rsF K s).2.2.1 = [] ∧ (rsF K s).2.2.2 = [] := fun q => (vS_rs hS).2.2.2.2.1.2.2 q
          have hrow4 : rRow K → ((adF (jm μ) n K (rsF K s)).2.1.length + ((rsF K s).2.2.1.length + (rsF K s).2.2.2.length) ≤ n) ∧ ∀ j, j ∈ (rsF K s).2.2.1 ++ (rsF K s).2.2.2 → rdy s.1 j := by
            intro hrow
            have hq := hS1.2.2.2.2.1.1 hrow
            have hsub : ((adF (jm μ) n K (rsF K s)).2.1 ++ ((adF (jm μ) n K (rsF K s)).2.2.1 ++ (adF (jm μ) n K (rsF K s)).2.2.2)) ⊆ List.range n := fun x hx => List.mem_range.mpr ((hq.2 x).mp hx).1
            have hle := hq.1.length_le_of_subset hsub
            simp only [List.length_append, List.length_range] at hle
            refine ⟨hle, fun j hj => ?_⟩
            have hr := (vS_rs hS).2.2.2.2.1.1 hrow
            have := ((hr.2 j).mp (List.mem_append_right _ hj)).2.1
            rwa [e1] at this
          have ead1 : (adF (jm μ) n K (rsF K s)).2.1 = (rsF K s).2.1 ++ if rRow K then cmL (jm μ) s.1 n else [] := by
            show (rsF K s).2.1 ++ (if K 0 = 0 ∨ K 0 = 4 then cmL (jm μ) (rsF K s).1 n else []) = _
            rw [e1]
          have eadN : (adF (jm μ) n K (rsF K s)).1 = adN (jm μ) n s.1 := by show adN (jm μ) n (rsF K s).1 = _; rw [e1]
          have hl1 : (rsF K s).2.2.1.length ≤ 12 ∧ (rsF K s).2.2.2.length ≤ 12 := by
            by_cases hrow : rRow K
            · have := (hrow4 hrow).1; omega
            · have := hnorow hrow; rw [this.2.1, this.2.2]; simp
          have hov : ovF K (adF (jm μ) n K (rsF K s)) = bgF (jm μ) n K s := rfl
          have eA6 : (adF (jm μ) n K (rsF K s)).1 6 = s.1 6 := by rw [eadN]; exact ad_o (by decide) (by decide) (by decide)
          -- one whose slice is over
          have go71 : ∀ m, frR μ m → bP n m (adN (jm μ) n s.1) → (bQ m 0 (adF (jm μ) n K (rsF K s)).2.1 ∧ bQ m 1 (rsF K s).2.2.1 ∧ bQ m 2 (rsF K s).2.2.2) → m 123 35 = s.1 6 5 → m 123 34 = cN s.1 n → (∀ t : Nat, (t : Int) < s.1 6 6 → m 140 t = s.1 7 t) → (K 0 = 4 → s.1 6 0 ≠ -1 → m 149 (s.1 6 0).toNat = s.1 6 4) → VV a B (SP B D E m) 0 0 71 [(10, iI (s.1 6 6)), (9, iI (ov9 s)), (8, iI x8), (7, iI x7), (6, iI (atF s)), (5, iI (s.1 6 1)), (0, .ref (pl B 123)), (1, iI (K 0)), (2, iI (K 1)), (3, iI (K 2)), (4, iI (K 3))] [] := by
            intro m fm hP hQ h35 h34 hlog h149
            by_cases q : s.1 6 0 ≠ -1 ∧ s.1 6 2 ≤ 0
            · have hA3 := hA.2.2 q.1
              obtain ⟨c, hc, hcn⟩ : ∃ c : Nat, s.1 6 0 = (c : Int) ∧ c < n := ⟨(s.1 6 0).toNat, by omega, by omega⟩
              have eo : ov9 s = (c : Int) := by unfold ov9; rw [if_pos q, hc]
              have ea : atF s = -1 := by unfold atF; rw [if_neg (by omega)]
              have ebg : bgF (jm μ) n K s = (mup (adN (jm μ) n s.1) 6 0 (-1), ovQ K (adF (jm μ) n K (rsF K s)) c) := by
                rw [← hov]
                unfold ovF
                rw [eA6, if_pos q, hc, Int.toNat_natCast, eadN]
              have obg : ∀ a, a ≠ 6 → (bgF (jm μ) n K s).1 a = adN (jm μ) n s.1 a := fun a h => by rw [ebg]; funext b; exact mup_nk h
              have hPb : ∀ m', (∀ a, 141 ≤ a → a < 147 → m' a = m a) → bP n m' (bgF (jm μ) n K s).1 := fun m' h' => bP_s (obg 0 (by decide)) (obg 1 (by decide)) (obg 2 (by decide)) (obg 3 (by decide)) (obg 4 (by decide)) (obg 5 (by decide)) (bP_c h' hP)
              have hcn4 : rRow K → c ∉ (adF (jm μ) n K (rsF K s)).2.1 ∧ c ∉ (rsF K s).2.2.1 ∧ c ∉ (rsF K s).2.2.2 ∧ (adF (jm μ) n K (rsF K s)).2.1.length + ((rsF K s).2.2.1.length + (rsF K s).2.2.2.length) + 1 ≤ 12 := by
                intro hrow
                have hq := hS1.2.2.2.2.1.1 hrow
                have hnot : c ∉ (adF (jm μ) n K (rsF K s)).2.1 ++ ((adF (jm μ) n K (rsF K s)).2.2.1 ++ (adF (jm μ) n K (rsF K s)).2.2.2) := fun z => ((hq.2 c).mp z).2.2 (by rw [eA6]; exact hc.symm)
                have hsub : (c :: ((adF (jm μ) n K (rsF K s)).2.1 ++ ((adF (jm μ) n K (rsF K s)).2.2.1 ++ (adF (jm μ) n K (rsF K s)).2.2.2))) ⊆ List.range n := by
                  intro x hx
                  rw [List.mem_range]
                  rcases List.mem_cons.mp hx with e | e
                  · rw [e]; exact hcn
                  · exact ((hq.2 x).mp e).1
                have hle := (List.nodup_cons.mpr ⟨hnot, hq.1⟩).length_le_of_subset hsub
                simp only [List.length_cons, List.length_append, List.length_range] at hle
                exact ⟨fun z => hnot (List.mem_append_left _ z), fun z => hnot (List.mem_append_right _ (List.mem_append_left _ z)), fun z => hnot (List.mem_append_right _ (List.mem_append_right _ z)), by
                  have e1 : (adF (jm μ) n K (rsF K s)).2.2.1 = (rsF K s).2.2.1 := rfl
                  have e2 : (adF (jm μ) n K (rsF K s)).2.2.2 = (rsF K s).2.2.2 := rfl
                  rw [e1, e2] at hle
                  omega⟩
              have q148a := hQ.1.1
              have q148b := hQ.2.1.1
              have q148c := hQ.2.2.1
              have go119 : ∀ i : Nat, i < 3 → rRow K → ((i = 0 ∧ K 0 = 0) ∨ (i = 1 ∧ K 0 = 4 ∧ s.1 6 4 = 0) ∨ (i = 2 ∧ K 0 = 4 ∧ s.1 6 4 ≠ 0)) → VV a B (SP B D E m) 0 0 119 [(10, iI (s.1 6 6)), (9, iI (c : Int)), (8, iI x8), (7, iI x7), (6, iI (-1)), (5, iI (s.1 6 1)), (0, .ref (pl B 123)), (1, iI (K 0)), (2, iI (K 1)), (3, iI (K 2)), (4, iI (K 3))] [iI (i : Int), .ref (pl B 123)] := by
                intro i hi hrow hi3
                have h4 := hcn4 hrow
                have fj : frR μ (Mjn m i c) := ⟨fun a h1 h2 => by rw [Mjn_o (by omega)]; exact fm.1 a h1 h2, fun b h1 h2 h3 => by rw [Mjn_o (by omega)]; exact fm.2 b h1 h2 h3⟩
                have hQb : bQ (Mjn m i c) 0 (bgF (jm μ) n K s).2.1 ∧ bQ (Mjn m i c) 1 (bgF (jm μ) n K s).2.2.1 ∧ bQ (Mjn m i c) 2 (bgF (jm μ) n K s).2.2.2 := by
                  rw [ebg]
                  have eA4 : (adF (jm μ) n K (rsF K s)).1 6 4 = s.1 6 4 := congrFun eA6 4
                  rcases hi3 with ⟨rfl, k0⟩ | ⟨rfl, k0, l0⟩ | ⟨rfl, k0, l0⟩
                  · unfold ovQ
                    rw [if_pos k0]
                    exact ⟨show bQ (Mjn m 0 c) 0 ((adF (jm μ) n K (rsF K s)).2.1 ++ [c]) from bQ_j hQ.1, show bQ (Mjn m 0 c) 1 ((rsF K s).2.2.1) from bQ_jo (by omega) (by omega) hl1.1 h4.2.1 hQ.2.1, show bQ (Mjn m 0 c) 2 ((rsF K s).2.2.2) from bQ_jo (by omega) (by omega) hl1.2 h4.2.2.1 hQ.2.2⟩
                  · unfold ovQ
                    rw [if_neg (by omega), if_pos k0, if_pos (by rw [eA4]; exact l0)]
                    exact ⟨show bQ (Mjn m 1 c) 0 ((adF (jm μ) n K (rsF K s)).2.1) from bQ_jo (by omega) (by omega) (by omega) h4.1 hQ.1, show bQ (Mjn m 1 c) 1 ((rsF K s).2.2.1 ++ [c]) from bQ_j hQ.2.1, show bQ (Mjn m 1 c) 2 ((rsF K s).2.2.2) from bQ_jo (by omega) (by omega) hl1.2 h4.2.2.1 hQ.2.2⟩
                  · unfold ovQ
                    rw [if_neg (by omega), if_pos k0, if_neg (by rw [eA4]; exact l0)]
                    exact ⟨show bQ (Mjn m 2 c) 0 ((adF (jm μ) n K (rsF K s)).2.1) from bQ_jo (by omega) (by omega) (by omega) h4.1 hQ.1, show bQ (Mjn m 2 c) 1 ((rsF K s).2.2.1) from bQ_jo (by omega) (by omega) hl1.1 h4.2.1 hQ.2.1, show bQ (Mjn m 2 c) 2 ((rsF K s).2.2.2 ++ [c]) from bQ_j hQ.2.2⟩
                have h148 : 0 ≤ m 148 i ∧ m 148 i < 12 := by rcases hi3 with ⟨rfl, -⟩ | ⟨rfl, -⟩ | ⟨rfl, -⟩ <;> omega
                have z := go124 (Mjn m i c) fj (hPb _ (fun a h1 h2 => Mjn_o (by omega))) hQb (by rw [Mjn_o (by omega)]; exact h35) (by rw [Mjn_o (by omega)]; exact h34) (fun t ht => by rw [Mjn_o (by omega)]; exact hlog t ht) (fun _ y => absurd ea y) (c : Int)
                rw [ea] at z
                refine v_iload (pc := 119) h (dk dt_X12_runs 65 rfl) rfl ?_
                refine v_cVv (pc := 121) h (c_X12_joins (i := i) (c := c) h.quiet hi (by omega) h148) kv_X12_joins sh123 wM_X12_142 rfl rfl (Nat.le_of_ble_eq_true rfl) (RM.of rfl) rfl rfl (dk dt_X12_runs 66 rfl) ?_
                exact VV.loc z ⟨rfl, rfl, rfl, rfl, rfl, rfl, rfl, rfl, rfl, rfl, rfl, trivial⟩
              have h149c : K 0 = 4 → m 149 c = s.1 6 4 := fun q4 => by have := h149 q4 q.1; rwa [hc, Int.toNat_natCast] at this
              have hl4 : 0 ≤ s.1 6 4 ∧ s.1 6 4 ≤ 2 := hA3.2.2.2.2
              rw [eo, ea]
              refine v_iload (pc := 71) h (dk dt_X12_runs 38 rfl) rfl ?_
              refine v_iconst (pc := 73) h (dk dt_X12_runs 39 rfl) ?_
              refine v_icmp_eq (pc := 74) h 124 (dk dt_X12_runs 40 rfl) rfl (by omega) (fun c74 => ?_) (fun c74 => ?_)
              ·
                exact absurd c74 (by omega)
              ·
                refine v_iload_n (pc := 77) h (dk dt_X12_runs 41 rfl) rfl ?_
                refine v_if_eq (pc := 78) h 86 (dk dt_X12_runs 42 rfl) rfl (by omega) (fun c78 => ?_) (fun c78 => ?_)
                ·
                  refine v_aload_n (pc := 86) h (dk dt_X12_runs 46 rfl) rfl ?_
                  refine v_iload_n (pc := 87) h (dk dt_X12_runs 47 rfl) rfl ?_
                  refine v_if_ne (pc := 88) h 95 (dk dt_X12_runs 48 rfl) rfl (by omega) (fun c88 => ?_) (fun c88 => ?_)
                  ·
                    refine v_aload_n (pc := 95) h (dk dt_X12_runs 51 rfl) rfl ?_
                    refine v_getr (pc := 96) h ci12 sh123 (Nat.le_of_ble_eq_true rfl) (j := 38) wF_X12_99 rfl (dk dt_X12_runs 52 rfl) ?_
                    refine v_iload (pc := 99) h (dk dt_X12_runs 53 rfl) rfl ?_
                    refine v_iald (pc := 101) h sh149 (Nat.le_of_ble_eq_true rfl) (by omega) (dk dt_X12_runs 54 rfl) ?_
                    rw [Int.toNat_natCast, h149c (by omega)]
                    refine v_iconst (pc := 102) h (dk dt_X12_runs 55 rfl) ?_
                    refine v_icmp_ge (pc := 103) h 118 (dk dt_X12_runs 56 rfl) rfl (by omega) (fun c103 => ?_) (fun c103 => ?_)
                    ·
                      refine v_iconst (pc := 118) h (dk dt_X12_runs 64 rfl) ?_
                      first
                        | exact VV.loc (go119 0 (by omega) (by omega) (by omega)) ⟨rfl, rfl, rfl, rfl, rfl, rfl, rfl, rfl, rfl, rfl, rfl, trivial⟩
                        | exact VV.loc (go119 2 (by omega) (by omega) (by omega)) ⟨rfl, rfl, rfl, rfl, rfl, rfl, rfl, rfl, rfl, rfl, rfl, trivial⟩
                        | (rcases (show s.1 6 4 = 0 ∨ s.1 6 4 = 1 by omega) with l0 | l0
                           · rw [l0]; exact VV.loc (go119 1 (by omega) (by omega) (by omega)) ⟨rfl, rfl, rfl, rfl, rfl, rfl, rfl, rfl, rfl, rfl, rfl, trivial⟩
                           · rw [l0]; exact VV.loc (go119 2 (by omega) (by omega) (by omega)) ⟨rfl, rfl, rfl, rfl, rfl, rfl, rfl, rfl, rfl, rfl, rfl, trivial⟩)
                    ·
                      refine v_aload_n (pc := 106) h (dk dt_X12_runs 57 rfl) rfl ?_
                      refine v_getr (pc := 107) h ci12 sh123 (Nat.le_of_ble_eq_true rfl) (j := 38) wF_X12_99 rfl (dk dt_X12_runs 58 rfl) ?_
                      refine v_iload (pc := 110) h (dk dt_X12_runs 59 rfl) rfl ?_
                      refine v_iald (pc := 112) h sh149 (Nat.le_of_ble_eq_true rfl) (by omega) (dk dt_X12_runs 60 rfl) ?_
                      rw [Int.toNat_natCast, h149c (by omega)]
                      refine v_iconst (pc := 113) h (dk dt_X12_runs 61 rfl) ?_
                      refine v_iadd (pc := 114) h (dk dt_X12_runs 62 rfl) ?_
                      refine v_goto (pc := 115) h 119 (dk dt_X12_runs 63 rfl) rfl ?_
                      first
                        | exact VV.loc (go119 0 (by omega) (by omega) (by omega)) ⟨rfl, rfl, rfl, rfl, rfl, rfl, rfl, rfl, rfl, rfl, rfl, trivial⟩
                        | exact VV.loc (go119 2 (by omega) (by omega) (by omega)) ⟨rfl, rfl, rfl, rfl, rfl, rfl, rfl, rfl, rfl, rfl, rfl, trivial⟩
                        | (rcases (show s.1 6 4 = 0 ∨ s.1 6 4 = 1 by omega) with l0 | l0
                           · rw [l0]; exact VV.loc (go119 1 (by omega) (by omega) (by omega)) ⟨rfl, rfl, rfl, rfl, rfl, rfl, rfl, rfl, rfl, rfl, rfl, trivial⟩
                           · rw [l0]; exact VV.loc (go119 2 (by omega) (by omega) (by omega)) ⟨rfl, rfl, rfl, rfl, rfl, rfl, rfl, rfl, rfl, rfl, rfl, trivial⟩)
                  ·
                    refine v_iconst (pc := 91) h (dk dt_X12_runs 49 rfl) ?_
                    refine v_goto (pc := 92) h 119 (dk dt_X12_runs 50 rfl) rfl ?_
                    first
                      | exact VV.loc (go119 0 (by omega) (by omega) (by omega)) ⟨rfl, rfl, rfl, rfl, rfl, rfl, rfl, rfl, rfl, rfl, rfl, trivial⟩
                      | exact VV.loc (go119 2 (by omega) (by omega) (by omega)) ⟨rfl, rfl, rfl, rfl, rfl, rfl, rfl, rfl, rfl, rfl, rfl, trivial⟩
                      | (rcases (show s.1 6 4 = 0 ∨ s.1 6 4 = 1 by omega) with l0 | l0
                         · rw [l0]; exact VV.loc (go119 1 (by omega) (by omega) (by omega)) ⟨rfl, rfl, rfl, rfl, rfl, rfl, rfl, rfl, rfl, rfl, rfl, trivial⟩
                         · rw [l0]; exact VV.loc (go119 2 (by omega) (by omega) (by omega)) ⟨rfl, rfl, rfl, rfl, rfl, rfl, rfl, rfl, rfl, rfl, rfl, trivial⟩)
                ·
                  refine v_iload_n (pc := 81) h (dk dt_X12_runs 43 rfl) rfl ?_
                  refine v_iconst (pc := 82) h (dk dt_X12_runs 44 rfl) ?_
                  refine v_icmp_ne (pc := 83) h 124 (dk dt_X12_runs 45 rfl) rfl (by omega) (fun c83 => ?_) (fun c83 => ?_)
                  ·
                    have hnr : ¬ rRow K := by omega
                    have z := go124 m fm (hPb m (fun _ _ _ => rfl)) (by rw [ebg]; unfold ovQ; rw [if_neg (by omega), if_neg (by omega)]; exact hQ) h35 h34 hlog (fun _ y => absurd ea y) (c : Int)
                    rw [ea] at z
                    exact VV.loc z ⟨rfl, rfl, rfl, rfl, rfl, rfl, rfl, rfl, rfl, rfl, rfl, trivial⟩
                  ·
                    refine v_aload_n (pc := 86) h (dk dt_X12_runs 46 rfl) rfl ?_
                    refine v_iload_n (pc := 87) h (dk dt_X12_runs 47 rfl) rfl ?_
                    refine v_if_ne (pc := 88) h 95 (dk dt_X12_runs 48 rfl) rfl (by omega) (fun c88 => ?_) (fun c88 => ?_)
                    ·
                      refine v_aload_n (pc := 95) h (dk dt_X12_runs 51 rfl) rfl ?_
                      refine v_getr (pc := 96) h ci12 sh123 (Nat.le_of_ble_eq_true rfl) (j := 38) wF_X12_99 rfl (dk dt_X12_runs 52 rfl) ?_
                      refine v_iload (pc := 99) h (dk dt_X12_runs 53 rfl) rfl ?_
                      refine v_iald (pc := 101) h sh149 (Nat.le_of_ble_eq_true rfl) (by omega) (dk dt_X12_runs 54 rfl) ?_
                      rw [Int.toNat_natCast, h149c (by omega)]
                      refine v_iconst (pc := 102) h (dk dt_X12_runs 55 rfl) ?_
                      refine v_icmp_ge (pc := 103) h 118 (dk dt_X12_runs 56 rfl) rfl (by omega) (fun c103 => ?_) (fun c103 => ?_)
                      ·
                        refine v_iconst (pc := 118) h (dk dt_X12_runs 64 rfl) ?_
                        first
                          | exact VV.loc (go119 0 (by omega) (by omega) (by omega)) ⟨rfl, rfl, rfl, rfl, rfl, rfl, rfl, rfl, rfl, rfl, rfl, trivial⟩
                          | exact VV.loc (go119 2 (by omega) (by omega) (by omega)) ⟨rfl, rfl, rfl, rfl, rfl, rfl, rfl, rfl, rfl, rfl, rfl, trivial⟩
                          | (rcases (show s.1 6 4 = 0 ∨ s.1 6 4 = 1 by omega) with l0 | l0
                             · rw [l0]; exact VV.loc (go119 1 (by omega) (by omega) (by omega)) ⟨rfl, rfl, rfl, rfl, rfl, rfl, rfl, rfl, rfl, rfl, rfl, trivial⟩
                             · rw [l0]; exact VV.loc (go119 2 (by omega) (by omega) (by omega)) ⟨rfl, rfl, rfl, rfl, rfl, rfl, rfl, rfl, rfl, rfl, rfl, trivial⟩)
                      ·
                        refine v_aload_n (pc := 106) h (dk dt_X12_runs 57 rfl) rfl ?_
                        refine v_getr (pc := 107) h ci12 sh123 (Nat.le_of_ble_eq_true rfl) (j := 38) wF_X12_99 rfl (dk dt_X12_runs 58 rfl) ?_
                        refine v_iload (pc := 110) h (dk dt_X12_runs 59 rfl) rfl ?_
                        refine v_iald (pc := 112) h sh149 (Nat.le_of_ble_eq_true rfl) (by omega) (dk dt_X12_runs 60 rfl) ?_
                        rw [Int.toNat_natCast, h149c (by omega)]
                        refine v_iconst (pc := 113) h (dk dt_X12_runs 61 rfl) ?_
                        refine v_iadd (pc := 114) h (dk dt_X12_runs 62 rfl) ?_
                        refine v_goto (pc := 115) h 119 (dk dt_X12_runs 63 rfl) rfl ?_
                        first
                          | exact VV.loc (go119 0 (by omega) (by omega) (by omega)) ⟨rfl, rfl, rfl, rfl, rfl, rfl, rfl, rfl, rfl, rfl, rfl, trivial⟩
                          | exact VV.loc (go119 2 (by omega) (by omega) (by omega)) ⟨rfl, rfl, rfl, rfl, rfl, rfl, rfl, rfl, rfl, rfl, rfl, trivial⟩
                          | (rcases (show s.1 6 4 = 0 ∨ s.1 6 4 = 1 by omega) with l0 | l0
                             · rw [l0]; exact VV.loc (go119 1 (by omega) (by omega) (by omega)) ⟨rfl, rfl, rfl, rfl, rfl, rfl, rfl, rfl, rfl, rfl, rfl, trivial⟩
                             · rw [l0]; exact VV.loc (go119 2 (by omega) (by omega) (by omega)) ⟨rfl, rfl, rfl, rfl, rfl, rfl, rfl, rfl, rfl, rfl, rfl, trivial⟩)
                    ·
                      refine v_iconst (pc := 91) h (dk dt_X12_runs 49 rfl) ?_
                      refine v_goto (pc := 92) h 119 (dk dt_X12_runs 50 rfl) rfl ?_
                      first
                        | exact VV.loc (go119 0 (by omega) (by omega) (by omega)) ⟨rfl, rfl, rfl, rfl, rfl, rfl, rfl, rfl, rfl, rfl, rfl, trivial⟩
                        | exact VV.loc (go119 2 (by omega) (by omega) (by omega)) ⟨rfl, rfl, rfl, rfl, rfl, rfl, rfl, rfl, rfl, rfl, rfl, trivial⟩
                        | (rcases (show s.1 6 4 = 0 ∨ s.1 6 4 = 1 by omega) with l0 | l0
                           · rw [l0]; exact VV.loc (go119 1 (by omega) (by omega) (by omega)) ⟨rfl, rfl, rfl, rfl, rfl, rfl, rfl, rfl, rfl, rfl, rfl, trivial⟩
                           · rw [l0]; exact VV.loc (go119 2 (by omega) (by omega) (by omega)) ⟨rfl, rfl, rfl, rfl, rfl, rfl, rfl, rfl, rfl, rfl, rfl, trivial⟩)
            · have eo : ov9 s = -1 := by unfold ov9; rw [if_neg q]
              have ebg : bgF (jm μ) n K s = adF (jm μ) n K (rsF K s) := by
                rw [← hov]
                unfold ovF
                rw [eA6, if_neg q]
              have ea : s.1 6 0 ≠ -1 → atF s = s.1 6 0 := fun z => by unfold atF; rw [if_pos (by omega)]
              have ea2 : atF s ≠ -1 → s.1 6 0 ≠ -1 := fun z y => by unfold atF at z; rw [if_neg (fun w => w.1 y)] at z; exact z rfl
              have z := go124 m fm (by rw [ebg, eadN]; exact hP) (by rw [ebg]; exact hQ) h35 h34 hlog (fun h4 y => by rw [ea (ea2 y)]; exact h149 h4 (ea2 y)) (-1)
              rw [eo]
              refine v_iload (pc := 71) h (dk dt_X12_runs 38 rfl) rfl ?_
              refine v_iconst (pc := 73) h (dk dt_X12_runs 39 rfl) ?_
              refine v_icmp_eq (pc := 74) h 124 (dk dt_X12_runs 40 rfl) rfl (by omega) (fun c74 => ?_) (fun c74 => ?_)
              ·
                exact VV.loc z ⟨rfl, rfl, rfl, rfl, rfl, rfl, rfl, rfl, rfl, rfl, rfl, trivial⟩
              ·
                exact absurd rfl c74
          refine v_aload_n (pc := 64) h (dk dt_X12_runs 34 rfl) rfl ?_
          refine v_iload_n (pc := 65) h (dk dt_X12_runs 35 rfl) rfl ?_
          refine v_iload (pc := 66) h (dk dt_X12_runs 36 rfl) rfl ?_
          refine v_cV (pc := 68) h (c_X12_becomesReady (n := n) (σ := s.1) (K := K) h.quiet hEm hsm hnm hP hBm hR (by omega) hK hQ.1 hQ.2.1 hQ.2.2 (fun hrow => by have h4 := (hrow4 hrow).1; rw [ead1, if_pos hrow, List.length_append] at h4; rw [jm1]; omega) hl1 (fun hrow i hi hcm => ⟨fun z => hcm.1 ((hrow4 hrow).2 i (List.mem_append_left _ z)).1, fun z => hcm.1 ((hrow4 hrow).2 i (List.mem_append_right _ z)).1⟩)) kv_X12_becomesReady sh123 wM_X12_193 rfl rfl (Nat.le_of_ble_eq_true rfl) (RM.of rfl) rfl rfl (dk dt_X12_runs 37 rfl) (fun v68 μ68 p68 => ?_)
          obtain ⟨rfl, f2, p2, q20, q21, q22, l2⟩ := p68
          rw [jm1] at p2 q20 l2
          exact VV.loc (go71 _ (frR_tr fm ⟨fun a h1 h2 => f2 a (by omega), fun b h1 h2 h3 => by rw [f2 123 (by omega)]⟩) p2 ⟨by rw [ead1]; exact q20, q21, q22⟩ (by rw [f2 123 (by omega)]; exact h35) (by rw [f2 123 (by omega)]; exact h34) (fun t ht => by rw [f2 140 (by omega)]; exact hlog t ht) (fun h4 hne => by rw [l2 _ (fun hcm => hcm.1 (hA.2.2 hne).1.1)]; exact h149 h4 hne)) ⟨rfl, rfl, rfl, rfl, rfl, rfl, rfl, rfl, rfl, rfl, rfl, trivial⟩
        have rsn : ¬ (K 0 = 4 ∧ 0 < K 4 ∧ 0 < s.1 6 6 ∧ s.1 6 6 % K 4 = 0) → rsF K s = s := fun q => by unfold rsF; rw [if_neg q]
        have rsy : K 0 = 4 ∧ 0 < K 4 ∧ 0 < s.1 6 6 ∧ s.1 6 6 % K 4 = 0 → rsF K s = (s.1, s.2.1 ++ (s.2.2.1 ++ s.2.2.2), [], []) := fun q => by unfold rsF; rw [if_pos q]
        have hN := fun q => go64 m fm hW.1 (by rw [rsn q]; exact hW.2.1) hW.2.2.1 h34 hW.2.2.2.2.1 hW.2.2.2.2.2
        refine v_aload_n (pc := 22) h (dk dt_X12_runs 14 rfl) rfl ?_
        refine v_geti (pc := 23) h ci12 sh123 (Nat.le_of_ble_eq_true rfl) (j := 34) wF_X12_184 rfl (dk dt_X12_runs 15 rfl) ?_
        refine v_aload_n (pc := 26) h (dk dt_X12_runs 16 rfl) rfl ?_
        refine v_geti (pc := 27) h ci12 sh123 (Nat.le_of_ble_eq_true rfl) (j := 9) wF_X12_108 rfl (dk dt_X12_runs 17 rfl) ?_
        refine v_icmp_ge (pc := 30) h 352 (dk dt_X12_runs 18 rfl) rfl ⟨by omega, by omega⟩ (fun c30 => ?_) (fun c30 => ?_)
        ·
          exact absurd c30 (by omega)
        ·
          refine v_iload_n (pc := 33) h (dk dt_X12_runs 19 rfl) rfl ?_
          refine v_iconst (pc := 34) h (dk dt_X12_runs 20 rfl) ?_
          refine v_icmp_ne (pc := 35) h 64 (dk dt_X12_runs 21 rfl) rfl (by omega) (fun c35 => ?_) (fun c35 => ?_)
          ·
            first
              | exact VV.loc (hN (fun q => by omega)) ⟨rfl, rfl, rfl, rfl, rfl, rfl, rfl, rfl, rfl, rfl, rfl, trivial⟩
              | exact VV.loc (hN (fun q => c57 q.2.2.2)) ⟨rfl, rfl, rfl, rfl, rfl, rfl, rfl, rfl, rfl, rfl, rfl, trivial⟩
              | exact VV.loc (go64 _ (frR_tr fm ⟨fun a h1 h2 => f2 a (by omega), fun b h1 h2 h3 => by rw [f2 123 (by omega)]⟩) (bP_c (fun a h1 h2 => f2 a (by omega)) hW.1) (by rw [rsy ⟨by omega, by omega, by omega, c57⟩]; exact ⟨q20, q21, q22⟩) (by rw [f2 123 (by omega)]; exact hW.2.2.1) (by rw [f2 123 (by omega)]; exact h34) (fun t ht => by rw [f2 140 (by omega)]; exact hW.2.2.2.2.1 t ht) (fun h4 hne => by rw [l2 _ (fun z => ((hrow3 (by omega)).2.1 _ (List.mem_append_right _ z)).2.2 (by omega))]; exact hW.2.2.2.2.2 h4 hne)) ⟨rfl, rfl, rfl, rfl, rfl, rfl, rfl, rfl, rfl, rfl, rfl, trivial⟩
          ·
            refine v_aload_n (pc := 38) h (dk dt_X12_runs 22 rfl) rfl ?_
            refine v_geti (pc := 39) h ci12 sh123 (Nat.le_of_ble_eq_true rfl) (j := 12) wF_X12_41 rfl (dk dt_X12_runs 23 rfl) ?_
            refine v_if_le (pc := 42) h 64 (dk dt_X12_runs 24 rfl) rfl (by omega) (fun c42 => ?_) (fun c42 => ?_)
            ·
              first
                | exact VV.loc (hN (fun q => by omega)) ⟨rfl, rfl, rfl, rfl, rfl, rfl, rfl, rfl, rfl, rfl, rfl, trivial⟩
                | exact VV.loc (hN (fun q => c57 q.2.2.2)) ⟨rfl, rfl, rfl, rfl, rfl, rfl, rfl, rfl, rfl, rfl, rfl, trivial⟩
                | exact VV.loc (go64 _ (frR_tr fm ⟨fun a h1 h2 => f2 a (by omega), fun b h1 h2 h3 => by rw [f2 123 (by omega)]⟩) (bP_c (fun a h1 h2 => f2 a (by omega)) hW.1) (by rw [rsy ⟨by omega, by omega, by omega, c57⟩]; exact ⟨q20, q21, q22⟩) (by rw [f2 123 (by omega)]; exact hW.2.2.1) (by rw [f2 123 (by omega)]; exact h34) (fun t ht => by rw [f2 140 (by omega)]; exact hW.2.2.2.2.1 t ht) (fun h4 hne => by rw [l2 _ (fun z => ((hrow3 (by omega)).2.1 _ (List.mem_append_right _ z)).2.2 (by omega))]; exact hW.2.2.2.2.2 h4 hne)) ⟨rfl, rfl, rfl, rfl, rfl, rfl, rfl, rfl, rfl, rfl, rfl, trivial⟩
            ·
              refine v_iload (pc := 45) h (dk dt_X12_runs 25 rfl) rfl ?_
              refine v_if_le (pc := 47) h 64 (dk dt_X12_runs 26 rfl) rfl (by omega) (fun c47 => ?_) (fun c47 => ?_)
              ·
                first
                  | exact VV.loc (hN (fun q => by omega)) ⟨rfl, rfl, rfl, rfl, rfl, rfl, rfl, rfl, rfl, rfl, rfl, trivial⟩
                  | exact VV.loc (hN (fun q => c57 q.2.2.2)) ⟨rfl, rfl, rfl, rfl, rfl, rfl, rfl, rfl, rfl, rfl, rfl, trivial⟩
                  | exact VV.loc (go64 _ (frR_tr fm ⟨fun a h1 h2 => f2 a (by omega), fun b h1 h2 h3 => by rw [f2 123 (by omega)]⟩) (bP_c (fun a h1 h2 => f2 a (by omega)) hW.1) (by rw [rsy ⟨by omega, by omega, by omega, c57⟩]; exact ⟨q20, q21, q22⟩) (by rw [f2 123 (by omega)]; exact hW.2.2.1) (by rw [f2 123 (by omega)]; exact h34) (fun t ht => by rw [f2 140 (by omega)]; exact hW.2.2.2.2.1 t ht) (fun h4 hne => by rw [l2 _ (fun z => ((hrow3 (by omega)).2.1 _ (List.mem_append_right _ z)).2.2 (by omega))]; exact hW.2.2.2.2.2 h4 hne)) ⟨rfl, rfl, rfl, rfl, rfl, rfl, rfl, rfl, rfl, rfl, rfl, trivial⟩
              ·
                refine v_iload (pc := 50) h (dk dt_X12_runs 27 rfl) rfl ?_
                refine v_aload_n (pc := 52) h (dk dt_X12_runs 28 rfl) rfl ?_
                refine v_geti (pc := 53) h ci12 sh123 (Nat.le_of_ble_eq_true rfl) (j := 12) wF_X12_41 rfl (dk dt_X12_runs 29 rfl) ?_
                rw [h12m]
                refine v_irem (pc := 56) h (dk dt_X12_runs 30 rfl) ⟨by omega, by omega⟩ ⟨by omega, by omega⟩ ?_
                refine v_if_ne (pc := 57) h 64 (dk dt_X12_runs 31 rfl) rfl (by have := Int.emod_nonneg (s.1 6 6) (show K 4 ≠ 0 by omega); have := Int.emod_lt_of_pos (s.1 6 6) (show 0 < K 4 by omega); omega) (fun c57 => ?_) (fun c57 => ?_)
                ·
                  first
                    | exact VV.loc (hN (fun q => by omega)) ⟨rfl, rfl, rfl, rfl, rfl, rfl, rfl, rfl, rfl, rfl, rfl, trivial⟩
                    | exact VV.loc (hN (fun q => c57 q.2.2.2)) ⟨rfl, rfl, rfl, rfl, rfl, rfl, rfl, rfl, rfl, rfl, rfl, trivial⟩
                    | exact VV.loc (go64 _ (frR_tr fm ⟨fun a h1 h2 => f2 a (by omega), fun b h1 h2 h3 => by rw [f2 123 (by omega)]⟩) (bP_c (fun a h1 h2 => f2 a (by omega)) hW.1) (by rw [rsy ⟨by omega, by omega, by omega, c57⟩]; exact ⟨q20, q21, q22⟩) (by rw [f2 123 (by omega)]; exact hW.2.2.1) (by rw [f2 123 (by omega)]; exact h34) (fun t ht => by rw [f2 140 (by omega)]; exact hW.2.2.2.2.1 t ht) (fun h4 hne => by rw [l2 _ (fun z => ((hrow3 (by omega)).2.1 _ (List.mem_append_right _ z)).2.2 (by omega))]; exact hW.2.2.2.2.2 h4 hne)) ⟨rfl, rfl, rfl, rfl, rfl, rfl, rfl, rfl, rfl, rfl, rfl, trivial⟩
                ·
                  refine v_aload_n (pc := 60) h (dk dt_X12_runs 32 rfl) rfl ?_
                  refine v_cV (pc := 61) h (c_X12_rises h.quiet hW.2.1.1 hW.2.1.2.1 hW.2.1.2.2 (by have := (hrow3 (by omega)).2.2; omega) (hrow3 (by omega)).1 (fun j hj => by have := ((hrow3 (by omega)).2.1 j hj).1; omega)) kv_X12_rises sh123 wM_X12_190 rfl rfl (Nat.le_of_ble_eq_true rfl) (RM.of rfl) rfl rfl (dk dt_X12_runs 33 rfl) (fun v61 μ61 p61 => ?_)
                  obtain ⟨rfl, f2, q20, q21, q22, l2⟩ := p61
                  first
                    | exact VV.loc (hN (fun q => by omega)) ⟨rfl, rfl, rfl, rfl, rfl, rfl, rfl, rfl, rfl, rfl, rfl, trivial⟩
                    | exact VV.loc (hN (fun q => c57 q.2.2.2)) ⟨rfl, rfl, rfl, rfl, rfl, rfl, rfl, rfl, rfl, rfl, rfl, trivial⟩
                    | exact VV.loc (go64 _ (frR_tr fm ⟨fun a h1 h2 => f2 a (by omega), fun b h1 h2 h3 => by rw [f2 123 (by omega)]⟩) (bP_c (fun a h1 h2 => f2 a (by omega)) hW.1) (by rw [rsy ⟨by omega, by omega, by omega, c57⟩]; exact ⟨q20, q21, q22⟩) (by rw [f2 123 (by omega)]; exact hW.2.2.1) (by rw [f2 123 (by omega)]; exact h34) (fun t ht => by rw [f2 140 (by omega)]; exact hW.2.2.2.2.1 t ht) (fun h4 hne => by rw [l2 _ (fun z => ((hrow3 (by omega)).2.1 _ (List.mem_append_right _ z)).2.2 (by omega))]; exact hW.2.2.2.2.2 h4 hne)) ⟨rfl, rfl, rfl, rfl, rfl, rfl, rfl, rfl, rfl, rfl, rfl, trivial⟩
  refine v_aload_n (pc := 0) h (dk dt_X12_runs 0 rfl) rfl ?_
  refine v_cV (pc := 1) h (c_X12_begins (n := n) h.quiet hE hs hn) kv_X12_begins sh123 wM_X12_187 rfl rfl (Nat.le_of_ble_eq_true rfl) (RM.of rfl) rfl rfl (dk dt_X12_runs 1 rfl) (fun v1 μ1 p1 => ?_)
  obtain ⟨rfl, f1, g1, h34, h35, p1', q10, q11, q12⟩ := p1
  have z := loop 2304 _ (inS (jm μ) (μ 123 13)) 0 0 ⟨fun a h1 h2 => f1 a h1 (by omega), fun b h1 h2 h3 => g1 b h2 h3⟩ ⟨p1', ⟨q10, q11, q12⟩, by rw [h35]; simp [inS, inN], by rw [h34]; exact (show (0 : Int) = cN (inN (jm μ) (μ 123 13)) n from (cN_in hD).symm), fun t ht => absurd ht (by simp [inS, inN]), fun _ q => absurd (by simp [inS, inN]) q⟩ (vS_in hD) vY_in vR_in (fun q => absurd (by simp [inS, inN]) q.1) rfl
  rw [show (inS (jm μ) (μ 123 13)).1 6 6 = 0 by simp [inS, inN], show ov9 (inS (jm μ) (μ 123 13)) = -1 by simp [ov9, inS, inN], show atF (inS (jm μ) (μ 123 13)) = -1 by simp [atF, inS, inN], show (inS (jm μ) (μ 123 13)).1 6 1 = -1 by simp [inS, inN]] at z
  refine v_iconst (pc := 4) h (dk dt_X12_runs 2 rfl) ?_
  refine v_istore (lv' := [(5, _), (0, _), (1, _), (2, _), (3, _), (4, _)]) (pc := 5) h (dk dt_X12_runs 3 rfl) (Nat.le_of_ble_eq_true rfl) rfl ?_
  refine v_iconst (pc := 7) h (dk dt_X12_runs 4 rfl) ?_
  refine v_istore (lv' := [(6, _), (5, _), (0, _), (1, _), (2, _), (3, _), (4, _)]) (pc := 8) h (dk dt_X12_runs 5 rfl) (Nat.le_of_ble_eq_true rfl) rfl ?_
  refine v_iconst (pc := 10) h (dk dt_X12_runs 6 rfl) ?_
  refine v_istore (lv' := [(7, _), (6, _), (5, _), (0, _), (1, _), (2, _), (3, _), (4, _)]) (pc := 11) h (dk dt_X12_runs 7 rfl) (Nat.le_of_ble_eq_true rfl) rfl ?_
  refine v_iconst (pc := 13) h (dk dt_X12_runs 8 rfl) ?_
  refine v_istore (lv' := [(8, _), (7, _), (6, _), (5, _), (0, _), (1, _), (2, _), (3, _), (4, _)]) (pc := 14) h (dk dt_X12_runs 9 rfl) (Nat.le_of_ble_eq_true rfl) rfl ?_
  refine v_iconst (pc := 16) h (dk dt_X12_runs 10 rfl) ?_
  refine v_istore (lv' := [(9, _), (8, _), (7, _), (6, _), (5, _), (0, _), (1, _), (2, _), (3, _), (4, _)]) (pc := 17) h (dk dt_X12_runs 11 rfl) (Nat.le_of_ble_eq_true rfl) rfl ?_
  refine v_iconst (pc := 19) h (dk dt_X12_runs 12 rfl) ?_
  refine v_istore (lv' := [(10, _), (9, _), (8, _), (7, _), (6, _), (5, _), (0, _), (1, _), (2, _), (3, _), (4, _)]) (pc := 20) h (dk dt_X12_runs 13 rfl) (Nat.le_of_ble_eq_true rfl) rfl ?_
  exact VV.loc z ⟨rfl, rfl, rfl, rfl, rfl, rfl, rfl, rfl, rfl, rfl, rfl, trivial⟩
end
