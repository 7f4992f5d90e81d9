/-! ===== the model: a run kept, runs tried out ===== -/
/-- both keep the same ways of taking turns -/
def eqW (μ : Mm) : Prop := μ 123 10 = μ 27 0 ∧ μ 123 11 = μ 27 1 ∧ μ 123 12 = μ 27 2 ∧ μ 123 13 = μ 27 3 ∧ μ 123 15 = μ 27 4
/-- nothing changes but the latest run and what a run works with -/
def fL (μ m : Mm) : Prop := (∀ a, a ≠ 123 → a < 136 ∨ 149 < a → m a = μ a) ∧ ∀ b, b ≠ 14 → b ≠ 24 → b ≠ 25 → b ≠ 33 → b ≠ 34 → b ≠ 35 → m 123 b = μ 123 b
/-- the model's latest run is σ, by the rule r -/
def lR (n : Nat) (m σ : Mm) (r : Int) : Prop := m 123 25 = r ∧ m 123 24 = σ 6 6 ∧ (∀ t : Nat, (t : Int) < σ 6 6 → m 136 t = σ 7 t) ∧ ∀ j, j < n → m 137 j = σ 1 j ∧ m 138 j = σ 2 j ∧ m 139 j = σ 4 j
/-- nothing is refused, and nothing else changes but what a run works with -/
def fT (μ m : Mm) : Prop := frR μ (mup m 123 14 (μ 123 14)) ∧ m 123 14 = 0
theorem frR_14 {μ m : Mm} {x : Int} (h : frR μ m) : fT μ (mup m 123 14 0) := ⟨⟨fun a h1 h2 => by funext b; rw [mup_nk h1, mup_nk h1]; exact congrFun (h.1 a h1 h2) b, fun b h1 h2 h3 => by
  by_cases e : b = 14
  · rw [e, mup_eq]
  · rw [mup_ne (fun z => e z.2), mup_ne (fun z => e z.2)]; exact h.2 b h1 h2 h3⟩, mup_eq _ _ _ _⟩
theorem frR_W {μ m : Mm} (h : frR μ m) (hW : eqW μ) : eqW m := by
  unfold eqW
  rw [h.2 10 (by decide) (by decide) (by decide), h.2 11 (by decide) (by decide) (by decide), h.2 12 (by decide) (by decide) (by decide), h.2 13 (by decide) (by decide) (by decide), h.2 15 (by decide) (by decide) (by decide), h.1 27 (by decide) (by decide)]
  exact hW
theorem frR_O {μ m : Mm} (h : frR μ m) (hO : hOK μ) : hOK m := hO_c (fun a q => h.1 a (by omega) (by omega)) hO
theorem frR_H {μ m : Mm} (h : frR μ m) (hH : eqH μ) : eqH m := by
  unfold eqH
  rw [h.2 25 (by decide) (by decide) (by decide), h.2 24 (by decide) (by decide) (by decide), h.1 0 (by decide) (by decide), h.1 47 (by decide) (by decide), h.1 49 (by decide) (by decide), h.1 136 (by decide) (by decide), h.1 137 (by decide) (by decide), h.1 138 (by decide) (by decide), h.1 139 (by decide) (by decide), h.1 44 (by decide) (by decide), h.1 46 (by decide) (by decide), h.1 30 (by decide) (by decide), h.1 1 (by decide) (by decide)]
  exact hH
section
variable {l : Launch} {B : Nat} {D : va_G} {E : Nat → ClassId} {μ m σ : Mm} {w n : Nat} {K : Nat → Int} {s : St} {J : Mm}
theorem c_mrun (hst : l.stackTraces = false) (hE : eqJ μ) (hW : eqW μ) (hO : hOK μ) (hn : μ 1 9 = (n : Int)) {r s c le : Int} (hr8 : 0 ≤ r ∧ r ≤ 8) (hs : 1 ≤ s ∧ s ≤ 20) (hc : 0 ≤ c ∧ c ≤ 5) (hl : le = 0 ∨ le = 1) :
    Ct l B D E yX12_runs (.code yX12_runs cX12_runs 11 none) rm_X12_runs [.ref (pl B 123), iI r, iI s, iI c, iI le] μ (fun v m => v = none ∧ frR μ m ∧ bW n (kof r s c le (μ 27 2)) m (fnF (jm μ) n (kof r s c le (μ 27 2)) (μ 27 3)) ∧ m 123 33 = (fnF (jm μ) n (kof r s c le (μ 27 2)) (μ 27 3)).1 6 6) NX := by
  have h := c_X12_runs (l := l) (B := B) (D := D) (E := E) (K := kof r s c le (μ 27 2)) hst hE hO.J hn (okK_kof hr8 hs hc hl hO.W.2.2.1) hW.2.2.1
  rw [hW.2.2.2.1] at h
  exact h
theorem c_X12_run (hst : l.stackTraces = false) (hE : eqJ μ) (hW : eqW μ) (hO : hOK μ) (hn : μ 1 9 = (n : Int)) {ru : Int} (hr : InR ru) :
    Ct l B D E yX12_run (.code yX12_run cX12_run 3 (some .int)) rm_X12_run [.ref (pl B 123), iI ru] μ (fun v m => if rcR1 ru = 0 then v = some (iI (m 123 24)) ∧ m 123 14 = 0 ∧ fL μ m ∧ lR n m (fnF (jm μ) n (kM μ ru) (μ 27 3)).1 ru else v = some (iI 0) ∧ m = mup μ 123 14 (rcR1 ru)) NX := by
  have hOW := hO.W
  have hD := okJD hO.J hn
  have e9 := eqJ_n hE hn
  refine ct_of (own := RX12) (lv := [(0, _), (1, _)]) hst (by decide) rfl rfl (Nat.le_of_ble_eq_true rfl) fun a h r t => ?_
  have go33 : 0 ≤ ru ∧ ru ≤ 8 → ∀ m0, frR μ m0 → bW n (kM μ ru) m0 (fnF (jm μ) n (kM μ ru) (μ 27 3)) → m0 123 33 = (fnF (jm μ) n (kM μ ru) (μ 27 3)).1 6 6 → VV a B (SP B D E m0) 0 0 33 [(0, .ref (pl B 123)), (1, iI ru)] [] := by
    intro hru m0 f0 hB h33
    have hok := okK_kof (r := ru) (s := μ 27 0) (c := μ 27 1) (le := μ 27 4) (ri := μ 27 2) (by omega) hOW.1 hOW.2.1 hOW.2.2.2 hOW.2.2.1
    have hf := fn_is (K := kM μ ru) hD hok (z := μ 27 3)
    have htt := t_le hD hf.1
    have hn12 := hD.1
    have ht0 := hf.1.1.1
    generalize hs : fnF (jm μ) n (kM μ ru) (μ 27 3) = s at *
    have hrc : rcR1 ru = 0 := by unfold rcR1; rw [if_neg (by omega)]
    have hm9 : m0 123 9 = (n : Int) := by rw [f0.2 9 (by decide) (by decide) (by decide)]; exact e9
    have hlg : ∀ t : Nat, (t : Int) < s.1 6 6 → m0 140 t = s.1 7 t := hB.2.2.2.2.1
    -- the numbers of the jobs are copied
    have loop2 : ∀ (d i : Nat) (m : Mm), i + d = n → (∀ a, a ≠ 123 → a < 136 ∨ 139 < a → m a = m0 a) → (∀ b, b ≠ 24 → m 123 b = m0 123 b) → m 123 24 = s.1 6 6 → (∀ t : Nat, (t : Int) < s.1 6 6 → m 136 t = s.1 7 t) → (∀ j, j < i → m 137 j = s.1 1 j ∧ m 138 j = s.1 2 j ∧ m 139 j = s.1 4 j) → VV a B (SP B D E m) 0 0 71 [(2, iI (i : Int)), (0, .ref (pl B 123)), (1, iI ru)] [] := by
      intro d
      induction d with
      | zero =>
        intro i m hi g1 g2 g3 g4 g5
        have hm : m 123 9 = (n : Int) := by rw [g2 9 (by decide)]; exact hm9
        have ei : i = n := by omega
        refine v_iload_n (pc := 71) h (dk dt_X12_run 40 rfl) rfl ?_
        refine v_aload_n (pc := 72) h (dk dt_X12_run 41 rfl) rfl ?_
        refine v_geti (pc := 73) h ci12 sh123 (Nat.le_of_ble_eq_true rfl) (j := 9) wF_X12_108 rfl (dk dt_X12_run 42 rfl) ?_
        refine v_icmp_ge (pc := 76) h 121 (dk dt_X12_run 43 rfl) rfl (by omega) (fun c76 => ?_) (fun c76 => ?_)
        ·
          refine v_aload_n (pc := 121) h (dk dt_X12_run 70 rfl) rfl ?_
          refine v_iload_n (pc := 122) h (dk dt_X12_run 71 rfl) rfl ?_
          refine v_put (pc := 123) h ci12 sh123 (Nat.le_of_ble_eq_true rfl) (j := 25) wF_X12_68 rfl rfl rfl rfl (dk dt_X12_run 72 rfl) ?_
          refine v_aload_n (pc := 126) h (dk dt_X12_run 73 rfl) rfl ?_
          refine v_aload_n (pc := 127) h (dk dt_X12_run 74 rfl) rfl ?_
          refine v_geti (pc := 128) h ci12 sh123 (Nat.le_of_ble_eq_true rfl) (j := 24) wF_X12_214 rfl (dk dt_X12_run 75 rfl) ?_
          rw [show mup m 123 25 ru 123 24 = m 123 24 from mup_ne (by omega)]
          refine v_cVi (pc := 131) h (c_X12_told h.quiet) kv_X12_told sh123 wM_X12_115 rfl rfl (Nat.le_of_ble_eq_true rfl) (RM.of rfl) rfl rfl (dk dt_X12_run 76 rfl) ?_
          exact v_iret (pc := 134) h r (dk dt_X12_run 77 rfl) (Nat.le_of_ble_eq_true rfl) (Nat.le_of_ble_eq_true rfl) (by rw [if_pos hrc]; exact ⟨by rw [mup_ne (by omega), mup_ne (by omega)], mup_eq _ _ _ _, ⟨fun a h1 h2 => by funext b; rw [mup_nk h1, mup_nk h1, g1 a h1 (by omega)]; exact congrFun (f0.1 a h1 (by omega)) b, fun b h1 h2 h3 h4 h5 h6 => by rw [mup_ne (fun z => h1 z.2), mup_ne (fun z => h3 z.2), g2 b h2]; exact f0.2 b h4 h5 h6⟩, by rw [mup_ne (by omega), mup_eq], by rw [mup_ne (by omega), mup_ne (by omega)]; exact g3, fun t ht => by rw [mup_nk (by omega), mup_nk (by omega)]; exact g4 t ht, fun j hj => by rw [mup_nk (by omega), mup_nk (by omega), mup_nk (by omega), mup_nk (by omega), mup_nk (by omega), mup_nk (by omega)]; exact g5 j (by omega)⟩)
        ·
          exact absurd c76 (by omega)
      | succ d ih =>
        intro i m hi g1 g2 g3 g4 g5
        have hm : m 123 9 = (n : Int) := by rw [g2 9 (by decide)]; exact hm9
        have hPj := hB.1 i (by omega)
        have e142 : m 142 i = s.1 1 i := by rw [g1 142 (by decide) (by decide)]; exact hPj.2.1
        have e143 : m 143 i = s.1 2 i := by rw [g1 143 (by decide) (by decide)]; exact hPj.2.2.1
        have e144 : m 144 i = s.1 4 i := by rw [g1 144 (by decide) (by decide)]; exact hPj.2.2.2.2.1
        refine v_iload_n (pc := 71) h (dk dt_X12_run 40 rfl) rfl ?_
        refine v_aload_n (pc := 72) h (dk dt_X12_run 41 rfl) rfl ?_
        refine v_geti (pc := 73) h ci12 sh123 (Nat.le_of_ble_eq_true rfl) (j := 9) wF_X12_108 rfl (dk dt_X12_run 42 rfl) ?_
        refine v_icmp_ge (pc := 76) h 121 (dk dt_X12_run 43 rfl) rfl (by omega) (fun c76 => ?_) (fun c76 => ?_)
        ·
          exact absurd c76 (by omega)
        ·
          refine v_aload_n (pc := 79) h (dk dt_X12_run 44 rfl) rfl ?_
          refine v_getr (pc := 80) h ci12 sh123 (Nat.le_of_ble_eq_true rfl) (j := 21) wF_X12_59 rfl (dk dt_X12_run 45 rfl) ?_
          refine v_iload_n (pc := 83) h (dk dt_X12_run 46 rfl) rfl ?_
          refine v_aload_n (pc := 84) h (dk dt_X12_run 47 rfl) rfl ?_
          refine v_getr (pc := 85) h ci12 sh123 (Nat.le_of_ble_eq_true rfl) (j := 28) wF_X12_77 rfl (dk dt_X12_run 48 rfl) ?_
          refine v_iload_n (pc := 88) h (dk dt_X12_run 49 rfl) rfl ?_
          refine v_iald (pc := 89) h sh142 (Nat.le_of_ble_eq_true rfl) (by omega) (dk dt_X12_run 50 rfl) ?_
          rw [Int.toNat_natCast, e142]
          refine v_iast (pc := 90) h sh137 (Nat.le_of_ble_eq_true rfl) (by omega) (dk dt_X12_run 51 rfl) ?_
          rw [Int.toNat_natCast]
          refine v_aload_n (pc := 91) h (dk dt_X12_run 52 rfl) rfl ?_
          refine v_getr (pc := 92) h ci12 sh123 (Nat.le_of_ble_eq_true rfl) (j := 22) wF_X12_62 rfl (dk dt_X12_run 53 rfl) ?_
          refine v_iload_n (pc := 95) h (dk dt_X12_run 54 rfl) rfl ?_
          refine v_aload_n (pc := 96) h (dk dt_X12_run 55 rfl) rfl ?_
          refine v_getr (pc := 97) h ci12 sh123 (Nat.le_of_ble_eq_true rfl) (j := 29) wF_X12_80 rfl (dk dt_X12_run 56 rfl) ?_
          refine v_iload_n (pc := 100) h (dk dt_X12_run 57 rfl) rfl ?_
          refine v_iald (pc := 101) h sh143 (Nat.le_of_ble_eq_true rfl) (by omega) (dk dt_X12_run 58 rfl) ?_
          rw [Int.toNat_natCast, mup_nk (by omega), e143]
          refine v_iast (pc := 102) h sh138 (Nat.le_of_ble_eq_true rfl) (by omega) (dk dt_X12_run 59 rfl) ?_
          rw [Int.toNat_natCast]
          refine v_aload_n (pc := 103) h (dk dt_X12_run 60 rfl) rfl ?_
          refine v_getr (pc := 104) h ci12 sh123 (Nat.le_of_ble_eq_true rfl) (j := 23) wF_X12_65 rfl (dk dt_X12_run 61 rfl) ?_
          refine v_iload_n (pc := 107) h (dk dt_X12_run 62 rfl) rfl ?_
          refine v_aload_n (pc := 108) h (dk dt_X12_run 63 rfl) rfl ?_
          refine v_getr (pc := 109) h ci12 sh123 (Nat.le_of_ble_eq_true rfl) (j := 30) wF_X12_83 rfl (dk dt_X12_run 64 rfl) ?_
          refine v_iload_n (pc := 112) h (dk dt_X12_run 65 rfl) rfl ?_
          refine v_iald (pc := 113) h sh144 (Nat.le_of_ble_eq_true rfl) (by omega) (dk dt_X12_run 66 rfl) ?_
          rw [Int.toNat_natCast, mup_nk (by omega), mup_nk (by omega), e144]
          refine v_iast (pc := 114) h sh139 (Nat.le_of_ble_eq_true rfl) (by omega) (dk dt_X12_run 67 rfl) ?_
          rw [Int.toNat_natCast]
          refine v_iinc (lv' := [(2, _), (0, _), (1, _)]) (pc := 115) h (dk dt_X12_run 68 rfl) rfl (Nat.le_of_ble_eq_true rfl) rfl ?_
          refine v_goto (pc := 118) h 71 (dk dt_X12_run 69 rfl) rfl ?_
          exact VV.loc (ih (i + 1) _ (by omega) (fun a h1 h2 => by funext b; rw [mup_nk (by omega), mup_nk (by omega), mup_nk (by omega)]; exact congrFun (g1 a h1 h2) b) (fun b h => by rw [mup_nk (by omega), mup_nk (by omega), mup_nk (by omega)]; exact g2 b h) (by rw [mup_nk (by omega), mup_nk (by omega), mup_nk (by omega)]; exact g3) (fun t ht => by rw [mup_nk (by omega), mup_nk (by omega), mup_nk (by omega)]; exact g4 t ht) (fun j hj => by
            by_cases e : j = i
            · subst e
              exact ⟨by rw [mup_nk (by omega), mup_nk (by omega), mup_eq], by rw [mup_nk (by omega), mup_eq], mup_eq _ _ _ _⟩
            · have := g5 j (by omega)
              exact ⟨by rw [mup_nk (by omega), mup_nk (by omega), mup_ne (fun z => e z.2)]; exact this.1, by rw [mup_nk (by omega), mup_ne (fun z => e z.2), mup_nk (by omega)]; exact this.2.1, by rw [mup_ne (fun z => e z.2), mup_nk (by omega), mup_nk (by omega)]; exact this.2.2⟩)) ⟨rfl, rfl, rfl, trivial⟩
    have loop1 : ∀ (d i : Nat) (m : Mm), i + d = (s.1 6 6).toNat → (∀ a, a ≠ 123 → a < 136 ∨ 139 < a → m a = m0 a) → (∀ b, b ≠ 24 → m 123 b = m0 123 b) → m 123 24 = s.1 6 6 → (∀ t : Nat, t < i → m 136 t = s.1 7 t) → VV a B (SP B D E m) 0 0 43 [(2, iI (i : Int)), (0, .ref (pl B 123)), (1, iI ru)] [] := by
      intro d
      induction d with
      | zero =>
        intro i m hi g1 g2 g3 g4
        refine v_iload_n (pc := 43) h (dk dt_X12_run 24 rfl) rfl ?_
        refine v_aload_n (pc := 44) h (dk dt_X12_run 25 rfl) rfl ?_
        refine v_geti (pc := 45) h ci12 sh123 (Nat.le_of_ble_eq_true rfl) (j := 24) wF_X12_214 rfl (dk dt_X12_run 26 rfl) ?_
        refine v_icmp_ge (pc := 48) h 69 (dk dt_X12_run 27 rfl) rfl (by omega) (fun c48 => ?_) (fun c48 => ?_)
        ·
          refine v_iconst (pc := 69) h (dk dt_X12_run 38 rfl) ?_
          refine v_istore_n (lv' := [(2, _), (0, _), (1, _)]) (pc := 70) h (dk dt_X12_run 39 rfl) (Nat.le_of_ble_eq_true rfl) rfl ?_
          exact VV.loc (loop2 n 0 m (by omega) g1 g2 g3 (fun t ht => g4 t (by omega)) (fun j hj => absurd hj (by omega))) ⟨rfl, rfl, rfl, trivial⟩
        ·
          exact absurd c48 (by omega)
      | succ d ih =>
        intro i m hi g1 g2 g3 g4
        have e140 : m 140 i = s.1 7 i := by rw [g1 140 (by decide) (by decide)]; exact hlg i (by omega)
        refine v_iload_n (pc := 43) h (dk dt_X12_run 24 rfl) rfl ?_
        refine v_aload_n (pc := 44) h (dk dt_X12_run 25 rfl) rfl ?_
        refine v_geti (pc := 45) h ci12 sh123 (Nat.le_of_ble_eq_true rfl) (j := 24) wF_X12_214 rfl (dk dt_X12_run 26 rfl) ?_
        refine v_icmp_ge (pc := 48) h 69 (dk dt_X12_run 27 rfl) rfl (by omega) (fun c48 => ?_) (fun c48 => ?_)
        ·
          exact absurd c48 (by omega)
        ·
          refine v_aload_n (pc := 51) h (dk dt_X12_run 28 rfl) rfl ?_
          refine v_getr (pc := 52) h ci12 sh123 (Nat.le_of_ble_eq_true rfl) (j := 20) wF_X12_56 rfl (dk dt_X12_run 29 rfl) ?_
          refine v_iload_n (pc := 55) h (dk dt_X12_run 30 rfl) rfl ?_
          refine v_aload_n (pc := 56) h (dk dt_X12_run 31 rfl) rfl ?_
          refine v_getr (pc := 57) h ci12 sh123 (Nat.le_of_ble_eq_true rfl) (j := 26) wF_X12_71 rfl (dk dt_X12_run 32 rfl) ?_
          refine v_iload_n (pc := 60) h (dk dt_X12_run 33 rfl) rfl ?_
          refine v_iald (pc := 61) h sh140 (Nat.le_of_ble_eq_true rfl) (by omega) (dk dt_X12_run 34 rfl) ?_
          rw [Int.toNat_natCast, e140]
          refine v_iast (pc := 62) h sh136 (Nat.le_of_ble_eq_true rfl) (by omega) (dk dt_X12_run 35 rfl) ?_
          rw [Int.toNat_natCast]
          refine v_iinc (lv' := [(2, _), (0, _), (1, _)]) (pc := 63) h (dk dt_X12_run 36 rfl) rfl (Nat.le_of_ble_eq_true rfl) rfl ?_
          refine v_goto (pc := 66) h 43 (dk dt_X12_run 37 rfl) rfl ?_
          exact VV.loc (ih (i + 1) _ (by omega) (fun a h1 h2 => by funext b; rw [mup_nk (by omega)]; exact congrFun (g1 a h1 h2) b) (fun b h => by rw [mup_nk (by omega)]; exact g2 b h) (by rw [mup_nk (by omega)]; exact g3) (fun t ht => by rw [mup_row]; split; (rename_i e; rw [e]); exact g4 t (by omega))) ⟨rfl, rfl, rfl, trivial⟩
    refine v_aload_n (pc := 33) h (dk dt_X12_run 18 rfl) rfl ?_
    refine v_aload_n (pc := 34) h (dk dt_X12_run 19 rfl) rfl ?_
    refine v_geti (pc := 35) h ci12 sh123 (Nat.le_of_ble_eq_true rfl) (j := 33) wF_X12_207 rfl (dk dt_X12_run 20 rfl) ?_
    rw [h33]
    refine v_put (pc := 38) h ci12 sh123 (Nat.le_of_ble_eq_true rfl) (j := 24) wF_X12_214 rfl rfl rfl rfl (dk dt_X12_run 21 rfl) ?_
    refine v_iconst (pc := 41) h (dk dt_X12_run 22 rfl) ?_
    refine v_istore_n (lv' := [(2, _), (0, _), (1, _)]) (pc := 42) h (dk dt_X12_run 23 rfl) (Nat.le_of_ble_eq_true rfl) rfl ?_
    exact VV.loc (loop1 (s.1 6 6).toNat 0 _ (by omega) (fun a h1 h2 => by funext b; exact mup_nk h1) (fun b h => mup_ne (fun z => h z.2)) (mup_eq _ _ _ _) (fun t ht => absurd ht (by omega))) ⟨rfl, rfl, rfl, trivial⟩
  refine v_iload_n (pc := 0) h (dk dt_X12_run 0 rfl) rfl ?_
  refine v_iconst (pc := 1) h (dk dt_X12_run 1 rfl) ?_
  refine v_bipush (pc := 2) h (dk dt_X12_run 2 rfl) rfl ?_
  refine v_cSi (pc := 4) h (c_X12_in h.quiet (by omega) (by omega)) kv_X12_in wM_X12_111 rfl rfl (Nat.le_of_ble_eq_true rfl) (RM.of rfl) rfl rfl (dk dt_X12_run 3 rfl) ?_
  refine v_if_ne (pc := 7) h 16 (dk dt_X12_run 4 rfl) rfl (by split <;> omega) (fun c7 => ?_) (fun c7 => ?_)
  ·
    have d7 : 0 ≤ ru ∧ ru ≤ 8 := by by_cases q : 0 ≤ ru ∧ ru ≤ 8; exact q; rw [if_neg q] at c7; omega
    refine v_aload_n (pc := 16) h (dk dt_X12_run 9 rfl) rfl ?_
    refine v_iload_n (pc := 17) h (dk dt_X12_run 10 rfl) rfl ?_
    refine v_aload_n (pc := 18) h (dk dt_X12_run 11 rfl) rfl ?_
    refine v_geti (pc := 19) h ci12 sh123 (Nat.le_of_ble_eq_true rfl) (j := 10) wF_X12_37 rfl (dk dt_X12_run 12 rfl) ?_
    rw [hW.1]
    refine v_aload_n (pc := 22) h (dk dt_X12_run 13 rfl) rfl ?_
    refine v_geti (pc := 23) h ci12 sh123 (Nat.le_of_ble_eq_true rfl) (j := 11) wF_X12_132 rfl (dk dt_X12_run 14 rfl) ?_
    rw [hW.2.1]
    refine v_aload_n (pc := 26) h (dk dt_X12_run 15 rfl) rfl ?_
    refine v_geti (pc := 27) h ci12 sh123 (Nat.le_of_ble_eq_true rfl) (j := 15) wF_X12_135 rfl (dk dt_X12_run 16 rfl) ?_
    rw [hW.2.2.2.2]
    refine v_cV (pc := 30) h (c_mrun (n := n) h.quiet hE hW hO hn (by omega) (by omega) (by omega) (by omega)) kv_X12_runs sh123 wM_X12_210 rfl rfl (Nat.le_of_ble_eq_true rfl) (RM.of rfl) rfl rfl (dk dt_X12_run 17 rfl) (fun v30 μ30 p30 => ?_)
    obtain ⟨rfl, f30, b30, e30⟩ := p30
    exact VV.loc (go33 d7 _ f30 b30 e30) ⟨rfl, rfl, trivial⟩
  ·
    have d7 : ¬ (0 ≤ ru ∧ ru ≤ 8) := fun q => by rw [if_pos (by omega)] at c7; omega
    have hrc : rcR1 ru = 1 := by unfold rcR1; rw [if_pos d7]
    refine v_aload_n (pc := 10) h (dk dt_X12_run 5 rfl) rfl ?_
    refine v_iconst (pc := 11) h (dk dt_X12_run 6 rfl) ?_
    refine v_cVi (pc := 12) h (c_X12_refuse h.quiet) kv_X12_refuse sh123 wM_X12_119 rfl rfl (Nat.le_of_ble_eq_true rfl) (RM.of rfl) rfl rfl (dk dt_X12_run 7 rfl) ?_
    exact v_iret (pc := 15) h r (dk dt_X12_run 8 rfl) (Nat.le_of_ble_eq_true rfl) (Nat.le_of_ble_eq_true rfl) (by rw [hrc, if_neg (by decide)]; exact ⟨rfl, rfl⟩)
/-- the model's run at hand is the run by K -/
abbrev mR (n : Nat) (K : Nat → Int) (J : Mm) (z : Int) (m : Mm) : Prop := bW n K m (fnF J n K z) ∧ m 123 33 = (fnF J n K z).1 6 6
theorem c_X12_isLikeLatest (hst : l.stackTraces = false) (hH : eqH μ) (hO : hOK μ) (h1 : μ 0 7 = 1) (hD : okD J n) (hK : okK K) {z : Int} (hR : mR n K J z μ) :
    Ct l B D E yX12_isLikeLatest (.code yX12_isLikeLatest cX12_isLikeLatest 3 (some .boolean)) rm_X12_isLikeLatest [.ref (pl B 123)] μ (ri (if sameR J n K z (μ 49) (μ 47 0) = true then 1 else 0) μ) NX := by
  have hf := fn_is (K := K) hD hK (z := z)
  have htt := t_le hD hf.1
  have hL := hH.2 h1
  have e24 := hL.1
  have hC := (hO.R h1).1
  have hC1 := hC.1
  have h33 := hR.2
  have hlg : ∀ t : Nat, (t : Int) < (fnF J n K z).1 6 6 → μ 140 t = (fnF J n K z).1 7 t := hR.1.2.2.2.2.1
  have hlb := hf.1.2.2.1
  have hn12 := hD.1
  have ht0 := hf.1.1.1
  unfold sameR
  generalize fnF J n K z = s at *
  refine ct_of (own := RX12) (lv := [(0, _)]) hst (by decide) rfl rfl (Nat.le_of_ble_eq_true rfl) fun a h r t => ?_
  have eF : ∀ x : Int, (x = 0 → ¬ (s.1 6 6 = μ 47 0 ∧ ∀ t : Nat, t < (μ 47 0).toNat → s.1 7 t = μ 49 t)) → (x ≠ 0 → x = 1 ∧ (s.1 6 6 = μ 47 0 ∧ ∀ t : Nat, t < (μ 47 0).toNat → s.1 7 t = μ 49 t)) → (if (decide (s.1 6 6 = μ 47 0) && decide (∀ t : Nat, t < (μ 47 0).toNat → s.1 7 t = μ 49 t)) = true then (1 : Int) else 0) = x := by
    intro x q0 q1
    by_cases e : x = 0
    · rw [if_neg (fun z => by rw [Bool.and_eq_true, decide_eq_true_iff, decide_eq_true_iff] at z; exact q0 e z), e]
    · rw [if_pos (by rw [Bool.and_eq_true, decide_eq_true_iff, decide_eq_true_iff]; exact (q1 e).2), (q1 e).1]
  have loop : ∀ (d i : Nat) (x : Int), i + d = (μ 47 0).toNat → (x = 0 ∨ x = 1) → (x = 0 → ¬ (s.1 6 6 = μ 47 0 ∧ ∀ t : Nat, t < (μ 47 0).toNat → s.1 7 t = μ 49 t)) → (x = 1 → s.1 6 6 = μ 47 0 ∧ ∀ t : Nat, t < i → s.1 7 t = μ 49 t) → VV a B (SP B D E μ) 0 0 19 [(2, iI (i : Int)), (1, iI x), (0, .ref (pl B 123))] [] := by
    intro d
    induction d with
    | zero =>
      intro i x hi hx q0 q1
      have ex := eF x q0 (fun z => ⟨by omega, (q1 (by omega)).1, by rw [show (μ 47 0).toNat = i by omega]; exact (q1 (by omega)).2⟩)
      rw [ex] at r
      refine v_iload_n (pc := 19) h (dk dt_X12_isLikeLatest 11 rfl) rfl ?_
      refine v_aload_n (pc := 20) h (dk dt_X12_isLikeLatest 12 rfl) rfl ?_
      refine v_geti (pc := 21) h ci12 sh123 (Nat.le_of_ble_eq_true rfl) (j := 24) wF_X12_214 rfl (dk dt_X12_isLikeLatest 13 rfl) ?_
      refine v_icmp_ge (pc := 24) h 58 (dk dt_X12_isLikeLatest 14 rfl) rfl (by omega) (fun c24 => ?_) (fun c24 => ?_)
      ·
        refine v_iload_n (pc := 58) h (dk dt_X12_isLikeLatest 32 rfl) rfl ?_
        exact v_zret (pc := 59) h r (dk dt_X12_isLikeLatest 33 rfl) (Nat.le_of_ble_eq_true rfl) (Nat.le_of_ble_eq_true rfl) (by omega) ⟨rfl, rfl⟩
      ·
        exact absurd c24 (by omega)
    | succ d ih =>
      intro i x hi hx q0 q1
      have hli := hC.2 i (by omega)
      have hli2 : -2 ≤ μ 49 i ∧ μ 49 i < 12 := hli
      have e140 : x = 1 → μ 140 i = s.1 7 i ∧ -2 ≤ s.1 7 i ∧ s.1 7 i < 12 := fun q => ⟨hlg i (by have := (q1 q).1; omega), by have := hlb i (by have := (q1 q).1; omega); omega⟩
      have e136 := hL.2.1 i (by omega)
      have ex := fun q : x = 0 => eF x q0 (fun z => absurd q z)
      refine v_iload_n (pc := 19) h (dk dt_X12_isLikeLatest 11 rfl) rfl ?_
      refine v_aload_n (pc := 20) h (dk dt_X12_isLikeLatest 12 rfl) rfl ?_
      refine v_geti (pc := 21) h ci12 sh123 (Nat.le_of_ble_eq_true rfl) (j := 24) wF_X12_214 rfl (dk dt_X12_isLikeLatest 13 rfl) ?_
      refine v_icmp_ge (pc := 24) h 58 (dk dt_X12_isLikeLatest 14 rfl) rfl (by omega) (fun c24 => ?_) (fun c24 => ?_)
      ·
        exact absurd c24 (by omega)
      ·
        refine v_iload_n (pc := 27) h (dk dt_X12_isLikeLatest 15 rfl) rfl ?_
        refine v_if_eq (pc := 28) h 58 (dk dt_X12_isLikeLatest 16 rfl) rfl (by omega) (fun c28 => ?_) (fun c28 => ?_)
        ·
          rw [ex c28] at r
          refine v_iload_n (pc := 58) h (dk dt_X12_isLikeLatest 32 rfl) rfl ?_
          exact v_zret (pc := 59) h r (dk dt_X12_isLikeLatest 33 rfl) (Nat.le_of_ble_eq_true rfl) (Nat.le_of_ble_eq_true rfl) (by omega) ⟨rfl, rfl⟩
        ·
          have c28 : ¬ x = 0 := c28
          have q14 := e140 (by omega)
          refine v_aload_n (pc := 31) h (dk dt_X12_isLikeLatest 17 rfl) rfl ?_
          refine v_getr (pc := 32) h ci12 sh123 (Nat.le_of_ble_eq_true rfl) (j := 26) wF_X12_71 rfl (dk dt_X12_isLikeLatest 18 rfl) ?_
          refine v_iload_n (pc := 35) h (dk dt_X12_isLikeLatest 19 rfl) rfl ?_
          refine v_iald (pc := 36) h sh140 (Nat.le_of_ble_eq_true rfl) (by omega) (dk dt_X12_isLikeLatest 20 rfl) ?_
          rw [Int.toNat_natCast, q14.1]
          refine v_aload_n (pc := 37) h (dk dt_X12_isLikeLatest 21 rfl) rfl ?_
          refine v_getr (pc := 38) h ci12 sh123 (Nat.le_of_ble_eq_true rfl) (j := 20) wF_X12_56 rfl (dk dt_X12_isLikeLatest 22 rfl) ?_
          refine v_iload_n (pc := 41) h (dk dt_X12_isLikeLatest 23 rfl) rfl ?_
          refine v_iald (pc := 42) h sh136 (Nat.le_of_ble_eq_true rfl) (by omega) (dk dt_X12_isLikeLatest 24 rfl) ?_
          rw [Int.toNat_natCast, e136]
          refine v_icmp_ne (pc := 43) h 50 (dk dt_X12_isLikeLatest 25 rfl) rfl (by omega) (fun c43 => ?_) (fun c43 => ?_)
          ·
            refine v_iconst (pc := 50) h (dk dt_X12_isLikeLatest 28 rfl) ?_
            refine v_istore_n (lv' := [(1, _), (2, _), (0, _)]) (pc := 51) h (dk dt_X12_isLikeLatest 29 rfl) (Nat.le_of_ble_eq_true rfl) rfl ?_
            refine v_iinc (lv' := [(2, _), (1, _), (0, _)]) (pc := 52) h (dk dt_X12_isLikeLatest 30 rfl) rfl (Nat.le_of_ble_eq_true rfl) rfl ?_
            refine v_goto (pc := 55) h 19 (dk dt_X12_isLikeLatest 31 rfl) rfl ?_
            first
              | (have q := c43; exact VV.loc (ih (i + 1) 0 (by omega) (Or.inl rfl) (fun _ z => q (z.2 i (by omega))) (fun z => absurd z (by decide))) ⟨rfl, rfl, rfl, trivial⟩)
              | exact VV.loc (ih (i + 1) 1 (by omega) (Or.inr rfl) (fun z => absurd z (by decide)) (fun _ => ⟨(q1 (by omega)).1, fun t ht => by by_cases e : t = i; (rw [e]; exact c43); exact (q1 (by omega)).2 t (by omega)⟩)) ⟨rfl, rfl, rfl, trivial⟩
          ·
            refine v_iconst (pc := 46) h (dk dt_X12_isLikeLatest 26 rfl) ?_
            refine v_goto (pc := 47) h 51 (dk dt_X12_isLikeLatest 27 rfl) rfl ?_
            refine v_istore_n (lv' := [(1, _), (2, _), (0, _)]) (pc := 51) h (dk dt_X12_isLikeLatest 29 rfl) (Nat.le_of_ble_eq_true rfl) rfl ?_
            refine v_iinc (lv' := [(2, _), (1, _), (0, _)]) (pc := 52) h (dk dt_X12_isLikeLatest 30 rfl) rfl (Nat.le_of_ble_eq_true rfl) rfl ?_
            refine v_goto (pc := 55) h 19 (dk dt_X12_isLikeLatest 31 rfl) rfl ?_
            first
              | (have q := c43; exact VV.loc (ih (i + 1) 0 (by omega) (Or.inl rfl) (fun _ z => q (z.2 i (by omega))) (fun z => absurd z (by decide))) ⟨rfl, rfl, rfl, trivial⟩)
              | exact VV.loc (ih (i + 1) 1 (by omega) (Or.inr rfl) (fun z => absurd z (by decide)) (fun _ => ⟨(q1 (by omega)).1, fun t ht => by by_cases e : t = i; (rw [e]; exact c43); exact (q1 (by omega)).2 t (by omega)⟩)) ⟨rfl, rfl, rfl, trivial⟩
  refine v_aload_n (pc := 0) h (dk dt_X12_isLikeLatest 0 rfl) rfl ?_
  refine v_geti (pc := 1) h ci12 sh123 (Nat.le_of_ble_eq_true rfl) (j := 33) wF_X12_207 rfl (dk dt_X12_isLikeLatest 1 rfl) ?_
  rw [h33]
  refine v_aload_n (pc := 4) h (dk dt_X12_isLikeLatest 2 rfl) rfl ?_
  refine v_geti (pc := 5) h ci12 sh123 (Nat.le_of_ble_eq_true rfl) (j := 24) wF_X12_214 rfl (dk dt_X12_isLikeLatest 3 rfl) ?_
  rw [e24]
  refine v_icmp_ne (pc := 8) h 15 (dk dt_X12_isLikeLatest 4 rfl) rfl (by omega) (fun c8 => ?_) (fun c8 => ?_)
  ·
    refine v_iconst (pc := 15) h (dk dt_X12_isLikeLatest 7 rfl) ?_
    refine v_istore_n (lv' := [(1, _), (0, _)]) (pc := 16) h (dk dt_X12_isLikeLatest 8 rfl) (Nat.le_of_ble_eq_true rfl) rfl ?_
    refine v_iconst (pc := 17) h (dk dt_X12_isLikeLatest 9 rfl) ?_
    refine v_istore_n (lv' := [(2, _), (1, _), (0, _)]) (pc := 18) h (dk dt_X12_isLikeLatest 10 rfl) (Nat.le_of_ble_eq_true rfl) rfl ?_
    first
      | (have q := c8; exact VV.loc (loop (μ 47 0).toNat 0 0 (by omega) (Or.inl rfl) (fun _ z => q z.1) (fun z => absurd z (by decide))) ⟨rfl, rfl, rfl, trivial⟩)
      | exact VV.loc (loop (μ 47 0).toNat 0 1 (by omega) (Or.inr rfl) (fun z => absurd z (by decide)) (fun _ => ⟨c8, fun t ht => absurd ht (by omega)⟩)) ⟨rfl, rfl, rfl, trivial⟩
  ·
    refine v_iconst (pc := 11) h (dk dt_X12_isLikeLatest 5 rfl) ?_
    refine v_goto (pc := 12) h 16 (dk dt_X12_isLikeLatest 6 rfl) rfl ?_
    refine v_istore_n (lv' := [(1, _), (0, _)]) (pc := 16) h (dk dt_X12_isLikeLatest 8 rfl) (Nat.le_of_ble_eq_true rfl) rfl ?_
    refine v_iconst (pc := 17) h (dk dt_X12_isLikeLatest 9 rfl) ?_
    refine v_istore_n (lv' := [(2, _), (1, _), (0, _)]) (pc := 18) h (dk dt_X12_isLikeLatest 10 rfl) (Nat.le_of_ble_eq_true rfl) rfl ?_
    first
      | (have q := c8; exact VV.loc (loop (μ 47 0).toNat 0 0 (by omega) (Or.inl rfl) (fun _ z => q z.1) (fun z => absurd z (by decide))) ⟨rfl, rfl, rfl, trivial⟩)
      | exact VV.loc (loop (μ 47 0).toNat 0 1 (by omega) (Or.inr rfl) (fun z => absurd z (by decide)) (fun _ => ⟨c8, fun t ht => absurd ht (by omega)⟩)) ⟨rfl, rfl, rfl, trivial⟩
theorem c_X12_sumOfWork (hst : l.stackTraces = false) (e9 : μ 123 9 = (n : Int)) (hD : okD J n) (hK : okK K) {z : Int} (hR : mR n K J z μ) :
    Ct l B D E yX12_sumOfWork (.code yX12_sumOfWork cX12_sumOfWork 3 (some .int)) rm_X12_sumOfWork [.ref (pl B 123)] μ (ri (sumE J n K z) μ) NX := by
  have hn12 := hD.1
  have hf := fn_is (K := K) hD hK (z := z)
  have htt := t_le hD hf.1
  have hP := hR.1.1
  have hsm : ∀ i, i ≤ n → 0 ≤ smF ((fnF J n K z).1 1) i ∧ smF ((fnF J n K z).1 1) i ≤ 2304 * i := by
    intro i
    induction i with
    | zero => intro _; simp [smF]
    | succ i ih =>
      intro hi
      have := ih (by omega)
      have h1 := hf.1.1.2 i (by omega)
      have h2 := h1.2.2.2.2.1 (hf.2 i (by omega))
      have h3 := okD_c hD (j := i) (by omega)
      simp only [smF]
      omega
  unfold sumE
  refine ct_of (own := RX12) (lv := [(0, _)]) hst (by decide) rfl rfl (Nat.le_of_ble_eq_true rfl) fun a h r t => ?_
  have loop : ∀ (d i : Nat), i + d = n → VV a B (SP B D E μ) 0 0 4 [(2, iI (i : Int)), (1, iI (smF ((fnF J n K z).1 1) i)), (0, .ref (pl B 123))] [] := by
    intro d
    induction d with
    | zero =>
      intro i hi
      refine v_iload_n (pc := 4) h (dk dt_X12_sumOfWork 4 rfl) rfl ?_
      refine v_aload_n (pc := 5) h (dk dt_X12_sumOfWork 5 rfl) rfl ?_
      refine v_geti (pc := 6) h ci12 sh123 (Nat.le_of_ble_eq_true rfl) (j := 9) wF_X12_108 rfl (dk dt_X12_sumOfWork 6 rfl) ?_
      refine v_icmp_ge (pc := 9) h 27 (dk dt_X12_sumOfWork 7 rfl) rfl (by omega) (fun c9 => ?_) (fun c9 => ?_)
      ·
        refine v_iload_n (pc := 27) h (dk dt_X12_sumOfWork 17 rfl) rfl ?_
        exact v_iret (pc := 28) h r (dk dt_X12_sumOfWork 18 rfl) (Nat.le_of_ble_eq_true rfl) (Nat.le_of_ble_eq_true rfl) ⟨by rw [show i = n by omega], rfl⟩
      ·
        exact absurd c9 (by omega)
    | succ d ih =>
      intro i hi
      have hq := hsm i (by omega)
      have hq2 := hsm (i + 1) (by omega)
      simp only [smF] at hq2
      have hPj := (hP i (by omega)).2.1
      refine v_iload_n (pc := 4) h (dk dt_X12_sumOfWork 4 rfl) rfl ?_
      refine v_aload_n (pc := 5) h (dk dt_X12_sumOfWork 5 rfl) rfl ?_
      refine v_geti (pc := 6) h ci12 sh123 (Nat.le_of_ble_eq_true rfl) (j := 9) wF_X12_108 rfl (dk dt_X12_sumOfWork 6 rfl) ?_
      refine v_icmp_ge (pc := 9) h 27 (dk dt_X12_sumOfWork 7 rfl) rfl (by omega) (fun c9 => ?_) (fun c9 => ?_)
      ·
        exact absurd c9 (by omega)
      ·
        refine v_iload_n (pc := 12) h (dk dt_X12_sumOfWork 8 rfl) rfl ?_
        refine v_aload_n (pc := 13) h (dk dt_X12_sumOfWork 9 rfl) rfl ?_
        refine v_getr (pc := 14) h ci12 sh123 (Nat.le_of_ble_eq_true rfl) (j := 28) wF_X12_77 rfl (dk dt_X12_sumOfWork 10 rfl) ?_
        refine v_iload_n (pc := 17) h (dk dt_X12_sumOfWork 11 rfl) rfl ?_
        refine v_iald (pc := 18) h sh142 (Nat.le_of_ble_eq_true rfl) (by omega) (dk dt_X12_sumOfWork 12 rfl) ?_
        rw [Int.toNat_natCast, hPj]
        refine v_iadd (pc := 19) h (dk dt_X12_sumOfWork 13 rfl) ?_
        refine v_istore_n (lv' := [(1, _), (2, _), (0, _)]) (pc := 20) h (dk dt_X12_sumOfWork 14 rfl) (Nat.le_of_ble_eq_true rfl) rfl ?_
        refine v_iinc (lv' := [(2, _), (1, _), (0, _)]) (pc := 21) h (dk dt_X12_sumOfWork 15 rfl) rfl (Nat.le_of_ble_eq_true rfl) rfl ?_
        refine v_goto (pc := 24) h 4 (dk dt_X12_sumOfWork 16 rfl) rfl ?_
        exact VV.loc (ih (i + 1) (by omega)) ⟨rfl, rfl, rfl, trivial⟩
  refine v_iconst (pc := 0) h (dk dt_X12_sumOfWork 0 rfl) ?_
  refine v_istore_n (lv' := [(1, _), (0, _)]) (pc := 1) h (dk dt_X12_sumOfWork 1 rfl) (Nat.le_of_ble_eq_true rfl) rfl ?_
  refine v_iconst (pc := 2) h (dk dt_X12_sumOfWork 2 rfl) ?_
  refine v_istore_n (lv' := [(2, _), (1, _), (0, _)]) (pc := 3) h (dk dt_X12_sumOfWork 3 rfl) (Nat.le_of_ble_eq_true rfl) rfl ?_
  exact VV.loc (loop n 0 (by omega)) ⟨rfl, rfl, rfl, trivial⟩
end
