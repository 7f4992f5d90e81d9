/-! ===== the model's run: who becomes ready, choosing, beginning ===== -/
section
variable {l : Launch} {B : Nat} {D : va_G} {E : Nat → ClassId} {μ m σ : Mm} {w n : Nat} {K : Nat → Int} {s : St} {J : Mm}
theorem adI_bP {n i : Nat} (h : bP n μ (adI J n i σ)) (hi : i < n) (hc : comP J σ (σ 6 6) i) : bP n (mup (mup (mup μ 146 i 1) 143 i (σ 6 6)) 145 i (lcZ σ n)) (adI J n (i + 1) σ) := by
  intro j hj
  have h1 := h j hj
  simp only [adI_s]
  by_cases e : j = i
  · subst e
    rw [if_pos ⟨rfl, hc⟩, if_pos ⟨rfl, hc⟩, if_pos ⟨rfl, hc⟩, if_pos ⟨rfl, hc⟩, if_pos ⟨rfl, hc⟩, if_pos ⟨rfl, hc⟩]
    rw [adI_o (a := 0) (by decide) (by decide) (by decide), adI_o (a := 1) (by decide) (by decide) (by decide), adI_o (a := 4) (by decide) (by decide) (by decide)] at h1
    simp [mup, adV, h1.1, h1.2.1, h1.2.2.2.2.1]
  · rw [if_neg (fun z => e z.1), if_neg (fun z => e z.1), if_neg (fun z => e z.1), if_neg (fun z => e z.1), if_neg (fun z => e z.1), if_neg (fun z => e z.1)]
    simp [mup, e, h1]
theorem adI_skip {n i : Nat} (hc : ¬ comP J σ (σ 6 6) i) : adI J n (i + 1) σ = adI J n i σ := by
  funext a b
  rw [adI_s, if_neg (fun z => hc z.2)]
theorem c_X12_becomesReady (hst : l.stackTraces = false) (hE : eqJ μ) (hs : okJ μ) (hn : μ 1 9 = (n : Int)) (hb : bP n μ σ) (hB : vB (jm μ) n σ) (hR : vR n σ) (ht : σ 6 6 ≤ 2304) (hK : okK K) {L0 L1 L2 : List Nat} (q0 : bQ μ 0 L0) (q1 : bQ μ 1 L1) (q2 : bQ μ 2 L2)
    (hlen : rRow K → L0.length + (cmL (jm μ) σ n).length ≤ 12) (hl12 : L1.length ≤ 12 ∧ L2.length ≤ 12) (hnot : rRow K → ∀ i, i < n → comP (jm μ) σ (σ 6 6) i → i ∉ L1 ∧ i ∉ L2) :
    Ct l B D E yX12_becomesReady (.code yX12_becomesReady cX12_becomesReady 4 none) rm_X12_becomesReady [.ref (pl B 123), iI (K 0), iI (σ 6 6)] μ (fun v m => v = none ∧ (∀ a, a < 143 ∨ a = 144 ∨ 149 < a → m a = μ a) ∧ bP n m (adN (jm μ) n σ) ∧ bQ m 0 (L0 ++ if rRow K then cmL (jm μ) σ n else []) ∧ bQ m 1 L1 ∧ bQ m 2 L2 ∧ (∀ j, ¬ comP (jm μ) σ (σ 6 6) j → m 149 j = μ 149 j)) NX := by
  have hn12 := hs.1
  have hD := okJD hs hn
  have hl : ∀ j, j < n → jm μ 1 j ≤ 30 := fun j hj => (okD_l hD hj).2
  have hK0 := hK.1
  have ht0 := hB.1
  refine ct_of (own := RX12) (lv := [(0, _), (1, _), (2, _)]) hst (by decide) rfl rfl (Nat.le_of_ble_eq_true rfl) fun a h r t => ?_
  have loop : ∀ (d i : Nat) (m : Mm), i + d = n → (∀ a, a < 143 ∨ a = 144 ∨ 149 < a → m a = μ a) → bP n m (adI (jm μ) n i σ) → bQ m 0 (L0 ++ if rRow K then (List.range i).filter (fun j => decide (comP (jm μ) σ (σ 6 6) j)) else []) → bQ m 1 L1 → bQ m 2 L2 → (∀ j, ¬ comP (jm μ) σ (σ 6 6) j → m 149 j = μ 149 j) → VV a B (SP B D E m) 0 0 2 [(3, iI (i : Int)), (0, .ref (pl B 123)), (1, iI (K 0)), (2, iI (σ 6 6))] [] := by
    intro d
    induction d with
    | zero =>
      intro i m hi fm bm b0 b1 b2 flv
      have e9 : m 123 9 = (n : Int) := by rw [fm 123 (by omega)]; exact eqJ_n hE hn
      have e : i = n := by omega
      subst e
      refine v_iload_n (pc := 2) h (dk dt_X12_becomesReady 2 rfl) rfl ?_
      refine v_aload_n (pc := 3) h (dk dt_X12_becomesReady 3 rfl) rfl ?_
      refine v_geti (pc := 4) h ci12 sh123 (Nat.le_of_ble_eq_true rfl) (j := 9) wF_X12_108 rfl (dk dt_X12_becomesReady 4 rfl) ?_
      refine v_icmp_ge (pc := 7) h 74 (dk dt_X12_becomesReady 5 rfl) rfl (by omega) (fun c7 => ?_) (fun c7 => ?_)
      ·
        exact v_vret (pc := 74) h r (dk dt_X12_becomesReady 44 rfl) (Nat.le_of_ble_eq_true rfl) (Nat.le_of_ble_eq_true rfl) ⟨rfl, fm, bm, b0, b1, b2, flv⟩
      ·
        exact absurd c7 (by omega)
    | succ d ih =>
      intro i m hi fm bm b0 b1 b2 flv
      have hin : i < n := by omega
      have e9 : m 123 9 = (n : Int) := by rw [fm 123 (by omega)]; exact eqJ_n hE hn
      have hEm : eqJ m := eqJ_c (fun a h => fm a (by omega)) (by rw [fm 123 (by omega)]) hE
      have hsm : okJ m := okJ_c (fun a h => fm a (by omega)) hs
      have hnm : m 1 9 = (n : Int) := by rw [fm 1 (by omega)]; exact hn
      have jm1 : jm m = jm μ := jm_c (fun a h => fm a (by omega))
      have hBm : vB (jm m) n σ := by rw [jm1]; exact hB
      have hBi := hB.2 i hin
      have hli := okD_l hD hin
      have h41 : ∀ j, j < n → m 141 j = σ 0 j := fun j hj => by have := (bm j hj).1; rwa [adI_o (by decide) (by decide) (by decide)] at this
      have e146 : m 146 i = σ 5 i := by have := (bm i hin).2.2.2.2.2; unfold adI at this; rwa [if_neg (by omega)] at this
      have e3 : m 3 i = jm μ 0 i := by rw [fm 3 (by omega)]; rfl
      have e11 : m 11 i = jm μ 4 i := by rw [fm 11 (by omega)]; rfl
      have hfl := filt_le (fun j => decide (comP (jm μ) σ (σ 6 6) j)) (i := i + 1) (n := n) (by omega)
      rw [filt_s, List.length_append] at hfl
      have b01 := b0.1
      have next : ¬ comP (jm μ) σ (σ 6 6) i → VV a B (SP B D E m) 0 0 2 [(3, iI ((i : Int) + 1)), (0, .ref (pl B 123)), (1, iI (K 0)), (2, iI (σ 6 6))] [] := by
        intro hc
        refine ih (i + 1) m (by omega) fm (by rw [adI_skip hc]; exact bm) ?_ b1 b2 flv
        have e : (if decide (comP (jm μ) σ (σ 6 6) i) = true then [i] else []) = [] := if_neg (by rw [decide_eq_true_iff]; exact hc)
        rw [filt_s, e, List.append_nil]
        exact b0
      have hmem : ∀ k, k < n → ((mup (mup m 146 i 1) 143 i (σ 6 6)) 141 k = σ 0 k) ∧ (((mup (mup m 146 i 1) 143 i (σ 6 6)) 146 k = σ 5 k ∧ (mup (mup m 146 i 1) 143 i (σ 6 6)) 143 k = σ 2 k ∧ (mup (mup m 146 i 1) 143 i (σ 6 6)) 145 k = σ 3 k) ∨ ((mup (mup m 146 i 1) 143 i (σ 6 6)) 146 k = 1 ∧ (mup (mup m 146 i 1) 143 i (σ 6 6)) 143 k = σ 6 6 ∧ σ 5 k ≠ 1 ∧ InR ((mup (mup m 146 i 1) 143 i (σ 6 6)) 145 k))) ∨ ¬ comP (jm μ) σ (σ 6 6) i := by
        intro k hk
        by_cases hc : comP (jm μ) σ (σ 6 6) i
        · left
          have hbk := bm k hk
          have hz := lcZ_b hB
          have h3k := (hB.2 k hk).2.2.2.2.2.2.1
          have h145 : InR (m 145 k) := by
            rw [hbk.2.2.2.1]; unfold adI adV; split
            · simp; omega
            · omega
          refine ⟨by rw [mup_nk (by omega), mup_nk (by omega)]; exact h41 k hk, ?_⟩
          rw [mup_nk (a := 146) (by omega), mup_row, mup_row, mup_nk (a := 143) (by omega), mup_nk (a := 145) (by omega), mup_nk (a := 145) (by omega)]
          by_cases e : k = i
          · subst e
            rw [if_pos rfl, if_pos rfl]
            exact Or.inr ⟨rfl, rfl, hc.1, h145⟩
          · rw [if_neg e, if_neg e, hbk.2.2.1, hbk.2.2.2.2.2, hbk.2.2.2.1]
            unfold adI
            by_cases c : k < i ∧ comP (jm μ) σ (σ 6 6) k
            · rw [if_pos c, if_pos c, if_pos c]
              exact Or.inr ⟨rfl, rfl, c.2.1, by simp [adV]; omega⟩
            · rw [if_neg c, if_neg c, if_neg c]
              exact Or.inl ⟨rfl, rfl, rfl⟩
        · exact Or.inr hc
      have hcan : σ 5 i ≠ 1 → (((m 3 i ≤ σ 6 6 ∧ 0 < σ 0 i) ∧ ∀ k, k < i → (m 11 i).toNat.testBit k = true → σ 0 k = 0) ↔ comP (jm μ) σ (σ 6 6) i) := by
        intro h5
        rw [e3, e11]
        have h0 := hBi.2.2.1 (by rcases hBi.1 with q | q; exact q; exact absurd q h5)
        exact ⟨fun q => ⟨h5, q.1.1, q.2⟩, fun q => ⟨⟨q.2.1, by omega⟩, q.2.2⟩⟩
      have f3 : ∀ a, a < 143 ∨ a = 144 ∨ 149 < a → (mup (mup (mup m 146 i 1) 143 i (σ 6 6)) 145 i (lcZ σ n)) a = μ a := fun a h => by funext b; rw [mup_nk (by omega), mup_nk (by omega), mup_nk (by omega)]; exact congrFun (fm a h) b
      have e148 : (mup (mup (mup m 146 i 1) 143 i (σ 6 6)) 145 i (lcZ σ n)) 148 = m 148 := by funext b; rw [mup_nk (by omega), mup_nk (by omega), mup_nk (by omega)]
      have e147 : (mup (mup (mup m 146 i 1) 143 i (σ 6 6)) 145 i (lcZ σ n)) 147 = m 147 := by funext b; rw [mup_nk (by omega), mup_nk (by omega), mup_nk (by omega)]
      have e149 : (mup (mup (mup m 146 i 1) 143 i (σ 6 6)) 145 i (lcZ σ n)) 149 = m 149 := by funext b; rw [mup_nk (by omega), mup_nk (by omega), mup_nk (by omega)]
      have bm3 := fun hc => adI_bP (i := i) bm hin hc
      have e9b : (mup (mup m 146 i 1) 143 i (σ 6 6)) 123 9 = (n : Int) := by rw [mup_nk (by omega), mup_nk (by omega)]; exact e9
      generalize hM : mup (mup (mup m 146 i 1) 143 i (σ 6 6)) 145 i (lcZ σ n) = M at *
      have e1480 : rRow K → comP (jm μ) σ (σ 6 6) i → 0 ≤ M 148 0 ∧ M 148 0 < 12 := by
        intro hr hc
        have h1 := hlen hr
        rw [if_pos hr, List.length_append] at b01
        rw [if_pos (by rw [decide_eq_true_iff]; exact hc), List.length_singleton] at hfl
        have : (cmL (jm μ) σ n).length = ((List.range n).filter (fun j => decide (comP (jm μ) σ (σ 6 6) j))).length := rfl
        rw [e148, b01]
        omega
      refine v_iload_n (pc := 2) h (dk dt_X12_becomesReady 2 rfl) rfl ?_
      refine v_aload_n (pc := 3) h (dk dt_X12_becomesReady 3 rfl) rfl ?_
      refine v_geti (pc := 4) h ci12 sh123 (Nat.le_of_ble_eq_true rfl) (j := 9) wF_X12_108 rfl (dk dt_X12_becomesReady 4 rfl) ?_
      refine v_icmp_ge (pc := 7) h 74 (dk dt_X12_becomesReady 5 rfl) rfl (by omega) (fun c7 => ?_) (fun c7 => ?_)
      ·
        exact absurd c7 (by omega)
      ·
        refine v_aload_n (pc := 10) h (dk dt_X12_becomesReady 6 rfl) rfl ?_
        refine v_getr (pc := 11) h ci12 sh123 (Nat.le_of_ble_eq_true rfl) (j := 32) wF_X12_89 rfl (dk dt_X12_becomesReady 7 rfl) ?_
        refine v_iload_n (pc := 14) h (dk dt_X12_becomesReady 8 rfl) rfl ?_
        refine v_zald (pc := 15) h sh146 (Nat.le_of_ble_eq_true rfl) (by omega) (dk dt_X12_becomesReady 9 rfl) ?_
        rw [Int.toNat_natCast, e146]
        refine v_if_ne (pc := 16) h 68 (dk dt_X12_becomesReady 10 rfl) rfl (by omega) (fun c16 => ?_) (fun c16 => ?_)
        ·
          refine v_iinc (lv' := [(3, _), (0, _), (1, _), (2, _)]) (pc := 68) h (dk dt_X12_becomesReady 42 rfl) rfl (Nat.le_of_ble_eq_true rfl) rfl ?_
          refine v_goto (pc := 71) h 2 (dk dt_X12_becomesReady 43 rfl) rfl ?_
          first
            | exact VV.loc (next (fun q => c16 (by have := q.1; omega))) ⟨rfl, rfl, rfl, rfl, trivial⟩
            | exact VV.loc (next (fun q => q.1 (by omega))) ⟨rfl, rfl, rfl, rfl, trivial⟩
            | exact VV.loc (next d25) ⟨rfl, rfl, rfl, rfl, trivial⟩
            | exact VV.loc (ih (i + 1) _ (by omega) f3 bm4 (by rw [if_neg (show ¬ rRow K by omega)] at b0 ⊢; exact bQ_c e147 e148 e149 b0) (bQ_c e147 e148 e149 b1) (bQ_c e147 e148 e149 b2) (fun j hj => by rw [e149]; exact flv j hj)) ⟨rfl, rfl, rfl, rfl, trivial⟩
            | (have hr : rRow K := by omega
               have hno := hnot hr i hin d25
               have h12 := e1480 hr
               exact VV.loc (ih (i + 1) _ (by omega) (fun a h => by rw [Mjn_o (by omega)]; exact f3 a h) (bP_c (fun a h1 h2 => Mjn_o (by omega)) bm4) (by rw [if_pos hr] at b0 ⊢; rw [filt_s, if_pos (by rw [decide_eq_true_iff]; exact d25), ← List.append_assoc]; exact bQ_j (bQ_c e147 e148 e149 b0)) (bQ_jo (by omega) (by omega) hl12.1 hno.1 (bQ_c e147 e148 e149 b1)) (bQ_jo (by omega) (by omega) hl12.2 hno.2 (bQ_c e147 e148 e149 b2)) (fun j hj => by rw [Mjn, mup_row, if_neg (fun z : j = i => hj (z ▸ d25)), mup_nk (by omega), mup_nk (by omega), e149]; exact flv j hj)) ⟨rfl, rfl, rfl, rfl, trivial⟩)
        ·
          have hcan := hcan (by omega)
          refine v_aload_n (pc := 19) h (dk dt_X12_becomesReady 11 rfl) rfl ?_
          refine v_iload_n (pc := 20) h (dk dt_X12_becomesReady 12 rfl) rfl ?_
          refine v_iload_n (pc := 21) h (dk dt_X12_becomesReady 13 rfl) rfl ?_
          refine v_cVi (pc := 22) h (c_X12_canBegin h.quiet hEm hsm hnm h41 hBm (by omega) (by omega)) kv_X12_canBegin sh123 wM_X12_146 rfl rfl (Nat.le_of_ble_eq_true rfl) (RM.of rfl) rfl rfl (dk dt_X12_becomesReady 14 rfl) ?_
          refine v_if_eq (pc := 25) h 68 (dk dt_X12_becomesReady 15 rfl) rfl (by split <;> omega) (fun c25 => ?_) (fun c25 => ?_)
          ·
            have d25 : ¬ comP (jm μ) σ (σ 6 6) i := fun q => by rw [if_pos (hcan.mpr q)] at c25; omega
            refine v_iinc (lv' := [(3, _), (0, _), (1, _), (2, _)]) (pc := 68) h (dk dt_X12_becomesReady 42 rfl) rfl (Nat.le_of_ble_eq_true rfl) rfl ?_
            refine v_goto (pc := 71) h 2 (dk dt_X12_becomesReady 43 rfl) rfl ?_
            first
              | exact VV.loc (next (fun q => c16 (by have := q.1; omega))) ⟨rfl, rfl, rfl, rfl, trivial⟩
              | exact VV.loc (next (fun q => q.1 (by omega))) ⟨rfl, rfl, rfl, rfl, trivial⟩
              | exact VV.loc (next d25) ⟨rfl, rfl, rfl, rfl, trivial⟩
              | exact VV.loc (ih (i + 1) _ (by omega) f3 bm4 (by rw [if_neg (show ¬ rRow K by omega)] at b0 ⊢; exact bQ_c e147 e148 e149 b0) (bQ_c e147 e148 e149 b1) (bQ_c e147 e148 e149 b2) (fun j hj => by rw [e149]; exact flv j hj)) ⟨rfl, rfl, rfl, rfl, trivial⟩
              | (have hr : rRow K := by omega
                 have hno := hnot hr i hin d25
                 have h12 := e1480 hr
                 exact VV.loc (ih (i + 1) _ (by omega) (fun a h => by rw [Mjn_o (by omega)]; exact f3 a h) (bP_c (fun a h1 h2 => Mjn_o (by omega)) bm4) (by rw [if_pos hr] at b0 ⊢; rw [filt_s, if_pos (by rw [decide_eq_true_iff]; exact d25), ← List.append_assoc]; exact bQ_j (bQ_c e147 e148 e149 b0)) (bQ_jo (by omega) (by omega) hl12.1 hno.1 (bQ_c e147 e148 e149 b1)) (bQ_jo (by omega) (by omega) hl12.2 hno.2 (bQ_c e147 e148 e149 b2)) (fun j hj => by rw [Mjn, mup_row, if_neg (fun z : j = i => hj (z ▸ d25)), mup_nk (by omega), mup_nk (by omega), e149]; exact flv j hj)) ⟨rfl, rfl, rfl, rfl, trivial⟩)
          ·
            have d25 : comP (jm μ) σ (σ 6 6) i := by by_cases q : comP (jm μ) σ (σ 6 6) i; exact q; rw [if_neg (fun z => q (hcan.mp z))] at c25; exact absurd rfl c25
            have e1480 := fun q => e1480 q d25
            have bm4 := bm3 d25
            refine v_aload_n (pc := 28) h (dk dt_X12_becomesReady 16 rfl) rfl ?_
            refine v_getr (pc := 29) h ci12 sh123 (Nat.le_of_ble_eq_true rfl) (j := 32) wF_X12_89 rfl (dk dt_X12_becomesReady 17 rfl) ?_
            refine v_iload_n (pc := 32) h (dk dt_X12_becomesReady 18 rfl) rfl ?_
            refine v_iconst (pc := 33) h (dk dt_X12_becomesReady 19 rfl) ?_
            refine v_zast (pc := 34) h sh146 (Nat.le_of_ble_eq_true rfl) (by omega) (by omega) (dk dt_X12_becomesReady 20 rfl) ?_
            rw [Int.toNat_natCast]
            refine v_aload_n (pc := 35) h (dk dt_X12_becomesReady 21 rfl) rfl ?_
            refine v_getr (pc := 36) h ci12 sh123 (Nat.le_of_ble_eq_true rfl) (j := 29) wF_X12_80 rfl (dk dt_X12_becomesReady 22 rfl) ?_
            refine v_iload_n (pc := 39) h (dk dt_X12_becomesReady 23 rfl) rfl ?_
            refine v_iload_n (pc := 40) h (dk dt_X12_becomesReady 24 rfl) rfl ?_
            refine v_iast (pc := 41) h sh143 (Nat.le_of_ble_eq_true rfl) (by omega) (dk dt_X12_becomesReady 25 rfl) ?_
            rw [Int.toNat_natCast]
            refine v_aload_n (pc := 42) h (dk dt_X12_becomesReady 26 rfl) rfl ?_
            refine v_getr (pc := 43) h ci12 sh123 (Nat.le_of_ble_eq_true rfl) (j := 31) wF_X12_86 rfl (dk dt_X12_becomesReady 27 rfl) ?_
            refine v_iload_n (pc := 46) h (dk dt_X12_becomesReady 28 rfl) rfl ?_
            refine v_aload_n (pc := 47) h (dk dt_X12_becomesReady 29 rfl) rfl ?_
            refine v_iload_n (pc := 48) h (dk dt_X12_becomesReady 30 rfl) rfl ?_
            refine v_cVi (pc := 49) h (c_X12_leastCount (n := n) (σ := σ) (J := jm μ) h.quiet e9b (by omega) (fun k hk => (hmem k hk).elim id (fun q => absurd d25 q)) hB hR hl ht) kv_X12_leastCount sh123 wM_X12_150 rfl rfl (Nat.le_of_ble_eq_true rfl) (RM.of rfl) rfl rfl (dk dt_X12_becomesReady 31 rfl) ?_
            refine v_iast (pc := 52) h sh145 (Nat.le_of_ble_eq_true rfl) (by omega) (dk dt_X12_becomesReady 32 rfl) ?_
            rw [Int.toNat_natCast, hM]
            refine v_iload_n (pc := 53) h (dk dt_X12_becomesReady 33 rfl) rfl ?_
            refine v_if_eq (pc := 54) h 62 (dk dt_X12_becomesReady 34 rfl) rfl (by omega) (fun c54 => ?_) (fun c54 => ?_)
            ·
              refine v_aload_n (pc := 62) h (dk dt_X12_becomesReady 38 rfl) rfl ?_
              refine v_iconst (pc := 63) h (dk dt_X12_becomesReady 39 rfl) ?_
              refine v_iload_n (pc := 64) h (dk dt_X12_becomesReady 40 rfl) rfl ?_
              refine v_cVv (pc := 65) h (c_X12_joins (i := 0) h.quiet (by omega) (by omega) (e1480 (by omega))) kv_X12_joins sh123 wM_X12_142 rfl rfl (Nat.le_of_ble_eq_true rfl) (RM.of rfl) rfl rfl (dk dt_X12_becomesReady 41 rfl) ?_
              refine v_iinc (lv' := [(3, _), (0, _), (1, _), (2, _)]) (pc := 68) h (dk dt_X12_becomesReady 42 rfl) rfl (Nat.le_of_ble_eq_true rfl) rfl ?_
              refine v_goto (pc := 71) h 2 (dk dt_X12_becomesReady 43 rfl) rfl ?_
              first
                | exact VV.loc (next (fun q => c16 (by have := q.1; omega))) ⟨rfl, rfl, rfl, rfl, trivial⟩
                | exact VV.loc (next (fun q => q.1 (by omega))) ⟨rfl, rfl, rfl, rfl, trivial⟩
                | exact VV.loc (next d25) ⟨rfl, rfl, rfl, rfl, trivial⟩
                | exact VV.loc (ih (i + 1) _ (by omega) f3 bm4 (by rw [if_neg (show ¬ rRow K by omega)] at b0 ⊢; exact bQ_c e147 e148 e149 b0) (bQ_c e147 e148 e149 b1) (bQ_c e147 e148 e149 b2) (fun j hj => by rw [e149]; exact flv j hj)) ⟨rfl, rfl, rfl, rfl, trivial⟩
                | (have hr : rRow K := by omega
                   have hno := hnot hr i hin d25
                   have h12 := e1480 hr
                   exact VV.loc (ih (i + 1) _ (by omega) (fun a h => by rw [Mjn_o (by omega)]; exact f3 a h) (bP_c (fun a h1 h2 => Mjn_o (by omega)) bm4) (by rw [if_pos hr] at b0 ⊢; rw [filt_s, if_pos (by rw [decide_eq_true_iff]; exact d25), ← List.append_assoc]; exact bQ_j (bQ_c e147 e148 e149 b0)) (bQ_jo (by omega) (by omega) hl12.1 hno.1 (bQ_c e147 e148 e149 b1)) (bQ_jo (by omega) (by omega) hl12.2 hno.2 (bQ_c e147 e148 e149 b2)) (fun j hj => by rw [Mjn, mup_row, if_neg (fun z : j = i => hj (z ▸ d25)), mup_nk (by omega), mup_nk (by omega), e149]; exact flv j hj)) ⟨rfl, rfl, rfl, rfl, trivial⟩)
            ·
              refine v_iload_n (pc := 57) h (dk dt_X12_becomesReady 35 rfl) rfl ?_
              refine v_iconst (pc := 58) h (dk dt_X12_becomesReady 36 rfl) ?_
              refine v_icmp_ne (pc := 59) h 68 (dk dt_X12_becomesReady 37 rfl) rfl (by omega) (fun c59 => ?_) (fun c59 => ?_)
              ·
                refine v_iinc (lv' := [(3, _), (0, _), (1, _), (2, _)]) (pc := 68) h (dk dt_X12_becomesReady 42 rfl) rfl (Nat.le_of_ble_eq_true rfl) rfl ?_
                refine v_goto (pc := 71) h 2 (dk dt_X12_becomesReady 43 rfl) rfl ?_
                first
                  | exact VV.loc (next (fun q => c16 (by have := q.1; omega))) ⟨rfl, rfl, rfl, rfl, trivial⟩
                  | exact VV.loc (next (fun q => q.1 (by omega))) ⟨rfl, rfl, rfl, rfl, trivial⟩
                  | exact VV.loc (next d25) ⟨rfl, rfl, rfl, rfl, trivial⟩
                  | exact VV.loc (ih (i + 1) _ (by omega) f3 bm4 (by rw [if_neg (show ¬ rRow K by omega)] at b0 ⊢; exact bQ_c e147 e148 e149 b0) (bQ_c e147 e148 e149 b1) (bQ_c e147 e148 e149 b2) (fun j hj => by rw [e149]; exact flv j hj)) ⟨rfl, rfl, rfl, rfl, trivial⟩
                  | (have hr : rRow K := by omega
                     have hno := hnot hr i hin d25
                     have h12 := e1480 hr
                     exact VV.loc (ih (i + 1) _ (by omega) (fun a h => by rw [Mjn_o (by omega)]; exact f3 a h) (bP_c (fun a h1 h2 => Mjn_o (by omega)) bm4) (by rw [if_pos hr] at b0 ⊢; rw [filt_s, if_pos (by rw [decide_eq_true_iff]; exact d25), ← List.append_assoc]; exact bQ_j (bQ_c e147 e148 e149 b0)) (bQ_jo (by omega) (by omega) hl12.1 hno.1 (bQ_c e147 e148 e149 b1)) (bQ_jo (by omega) (by omega) hl12.2 hno.2 (bQ_c e147 e148 e149 b2)) (fun j hj => by rw [Mjn, mup_row, if_neg (fun z : j = i => hj (z ▸ d25)), mup_nk (by omega), mup_nk (by omega), e149]; exact flv j hj)) ⟨rfl, rfl, rfl, rfl, trivial⟩)
              ·
                refine v_aload_n (pc := 62) h (dk dt_X12_becomesReady 38 rfl) rfl ?_
                refine v_iconst (pc := 63) h (dk dt_X12_becomesReady 39 rfl) ?_
                refine v_iload_n (pc := 64) h (dk dt_X12_becomesReady 40 rfl) rfl ?_
                refine v_cVv (pc := 65) h (c_X12_joins (i := 0) h.quiet (by omega) (by omega) (e1480 (by omega))) kv_X12_joins sh123 wM_X12_142 rfl rfl (Nat.le_of_ble_eq_true rfl) (RM.of rfl) rfl rfl (dk dt_X12_becomesReady 41 rfl) ?_
                refine v_iinc (lv' := [(3, _), (0, _), (1, _), (2, _)]) (pc := 68) h (dk dt_X12_becomesReady 42 rfl) rfl (Nat.le_of_ble_eq_true rfl) rfl ?_
                refine v_goto (pc := 71) h 2 (dk dt_X12_becomesReady 43 rfl) rfl ?_
                first
                  | exact VV.loc (next (fun q => c16 (by have := q.1; omega))) ⟨rfl, rfl, rfl, rfl, trivial⟩
                  | exact VV.loc (next (fun q => q.1 (by omega))) ⟨rfl, rfl, rfl, rfl, trivial⟩
                  | exact VV.loc (next d25) ⟨rfl, rfl, rfl, rfl, trivial⟩
                  | exact VV.loc (ih (i + 1) _ (by omega) f3 bm4 (by rw [if_neg (show ¬ rRow K by omega)] at b0 ⊢; exact bQ_c e147 e148 e149 b0) (bQ_c e147 e148 e149 b1) (bQ_c e147 e148 e149 b2) (fun j hj => by rw [e149]; exact flv j hj)) ⟨rfl, rfl, rfl, rfl, trivial⟩
                  | (have hr : rRow K := by omega
                     have hno := hnot hr i hin d25
                     have h12 := e1480 hr
                     exact VV.loc (ih (i + 1) _ (by omega) (fun a h => by rw [Mjn_o (by omega)]; exact f3 a h) (bP_c (fun a h1 h2 => Mjn_o (by omega)) bm4) (by rw [if_pos hr] at b0 ⊢; rw [filt_s, if_pos (by rw [decide_eq_true_iff]; exact d25), ← List.append_assoc]; exact bQ_j (bQ_c e147 e148 e149 b0)) (bQ_jo (by omega) (by omega) hl12.1 hno.1 (bQ_c e147 e148 e149 b1)) (bQ_jo (by omega) (by omega) hl12.2 hno.2 (bQ_c e147 e148 e149 b2)) (fun j hj => by rw [Mjn, mup_row, if_neg (fun z : j = i => hj (z ▸ d25)), mup_nk (by omega), mup_nk (by omega), e149]; exact flv j hj)) ⟨rfl, rfl, rfl, rfl, trivial⟩)
  refine v_iconst (pc := 0) h (dk dt_X12_becomesReady 0 rfl) ?_
  refine v_istore_n (lv' := [(3, _), (0, _), (1, _), (2, _)]) (pc := 1) h (dk dt_X12_becomesReady 1 rfl) (Nat.le_of_ble_eq_true rfl) rfl ?_
  exact VV.loc (loop n 0 μ (by omega) (fun _ _ => rfl) (by rw [adI_0]; exact hb) (by simpa using q0) q1 q2 (fun _ _ => rfl)) ⟨rfl, rfl, rfl, rfl, trivial⟩
theorem c_X12_turnOf (hst : l.stackTraces = false) (hb : bP n μ σ) (hB : vB J n σ) (hl : ∀ j, j < n → J 1 j ≤ 30) (hK : okK K) {j : Nat} (hj : j < n) (hn : n ≤ 12) {lv : Int} (hlv : K 0 = 4 → μ 149 j = lv ∧ 0 ≤ lv ∧ lv ≤ 2) {J' : Mm} :
    Ct l B D E yX12_turnOf (.code yX12_turnOf cX12_turnOf 4 (some .int)) rm_X12_turnOf [.ref (pl B 123), iI (K 0), iI (j : Int), iI (K 1)] μ (ri (tnF J' K σ lv j) μ) NX := by
  have hK0 := hK.1
  have hK1 := hK.2.1
  have h1 := hb j hj
  have hsl := bsl_s (K 1).toNat (by omega)
  rw [Int.toNat_of_nonneg (by omega)] at hsl
  unfold tnF
  refine ct_of (own := RX12) (lv := [(0, _), (1, _), (2, _), (3, _)]) hst (by decide) rfl rfl (Nat.le_of_ble_eq_true rfl) fun a h r t => ?_
  refine v_iload_n (pc := 0) h (dk dt_X12_turnOf 0 rfl) rfl ?_
  rcases (show K 0 = 0 ∨ K 0 = 1 ∨ K 0 = 2 ∨ K 0 = 3 ∨ K 0 = 4 ∨ K 0 = 5 ∨ K 0 = 6 ∨ K 0 = 7 ∨ K 0 = 8 by omega) with e | e | e | e | e | e | e | e | e
  ·
    rw [e]
    refine v_switchOut (pc := 1) h 77 (dk dt_X12_turnOf 1 rfl) (by omega) (by omega) rfl ?_
    refine v_iload_n (pc := 77) h (dk dt_X12_turnOf 25 rfl) rfl ?_
    exact v_iret (pc := 78) h r (dk dt_X12_turnOf 26 rfl) (Nat.le_of_ble_eq_true rfl) (Nat.le_of_ble_eq_true rfl) ⟨by rw [if_neg (by omega), if_neg (by omega), if_neg (by omega)], rfl⟩
  ·
    rw [e]
    refine v_switchIn (pc := 1) h 48 (dk dt_X12_turnOf 1 rfl) (by omega) (by omega) (by omega) rfl rfl ?_
    refine v_aload_n (pc := 48) h (dk dt_X12_turnOf 2 rfl) rfl ?_
    refine v_getr (pc := 49) h ci12 sh123 (Nat.le_of_ble_eq_true rfl) (j := 27) wF_X12_74 rfl (dk dt_X12_turnOf 3 rfl) ?_
    refine v_iload_n (pc := 52) h (dk dt_X12_turnOf 4 rfl) rfl ?_
    refine v_iald (pc := 53) h sh141 (Nat.le_of_ble_eq_true rfl) (by omega) (dk dt_X12_turnOf 5 rfl) ?_
    rw [Int.toNat_natCast, h1.1]
    exact v_iret (pc := 54) h r (dk dt_X12_turnOf 6 rfl) (Nat.le_of_ble_eq_true rfl) (Nat.le_of_ble_eq_true rfl) ⟨by rw [if_pos (by omega)], rfl⟩
  ·
    rw [e]
    refine v_switchIn (pc := 1) h 55 (dk dt_X12_turnOf 1 rfl) (by omega) (by omega) (by omega) rfl rfl ?_
    refine v_aload_n (pc := 55) h (dk dt_X12_turnOf 7 rfl) rfl ?_
    refine v_getr (pc := 56) h ci12 sh123 (Nat.le_of_ble_eq_true rfl) (j := 27) wF_X12_74 rfl (dk dt_X12_turnOf 8 rfl) ?_
    refine v_iload_n (pc := 59) h (dk dt_X12_turnOf 9 rfl) rfl ?_
    refine v_iald (pc := 60) h sh141 (Nat.le_of_ble_eq_true rfl) (by omega) (dk dt_X12_turnOf 10 rfl) ?_
    rw [Int.toNat_natCast, h1.1]
    exact v_iret (pc := 61) h r (dk dt_X12_turnOf 11 rfl) (Nat.le_of_ble_eq_true rfl) (Nat.le_of_ble_eq_true rfl) ⟨by rw [if_pos (by omega)], rfl⟩
  ·
    rw [e]
    refine v_switchIn (pc := 1) h 71 (dk dt_X12_turnOf 1 rfl) (by omega) (by omega) (by omega) rfl rfl ?_
    refine v_iconst (pc := 71) h (dk dt_X12_turnOf 19 rfl) ?_
    exact v_iret (pc := 72) h r (dk dt_X12_turnOf 20 rfl) (Nat.le_of_ble_eq_true rfl) (Nat.le_of_ble_eq_true rfl) ⟨by rw [if_neg (by omega), if_neg (by omega), if_pos (by omega)], rfl⟩
  ·
    rw [e]
    refine v_switchIn (pc := 1) h 62 (dk dt_X12_turnOf 1 rfl) (by omega) (by omega) (by omega) rfl rfl ?_
    refine v_iload_n (pc := 62) h (dk dt_X12_turnOf 12 rfl) rfl ?_
    refine v_aload_n (pc := 63) h (dk dt_X12_turnOf 13 rfl) rfl ?_
    refine v_getr (pc := 64) h ci12 sh123 (Nat.le_of_ble_eq_true rfl) (j := 38) wF_X12_99 rfl (dk dt_X12_turnOf 14 rfl) ?_
    refine v_iload_n (pc := 67) h (dk dt_X12_turnOf 15 rfl) rfl ?_
    refine v_iald (pc := 68) h sh149 (Nat.le_of_ble_eq_true rfl) (by omega) (dk dt_X12_turnOf 16 rfl) ?_
    rw [Int.toNat_natCast]
    refine v_ishl (pc := 69) h (dk dt_X12_turnOf 17 rfl) ?_
    exact v_iret (pc := 70) h r (dk dt_X12_turnOf 18 rfl) (Nat.le_of_ble_eq_true rfl) (Nat.le_of_ble_eq_true rfl) ⟨by have q := hlv (by omega); rw [if_neg (by omega), if_pos (by omega), q.1]; rcases (show lv = 0 ∨ lv = 1 ∨ lv = 2 by omega) with z | z | z <;> rw [z] <;> simp [hsl], rfl⟩
  ·
    rw [e]
    refine v_switchIn (pc := 1) h 77 (dk dt_X12_turnOf 1 rfl) (by omega) (by omega) (by omega) rfl rfl ?_
    refine v_iload_n (pc := 77) h (dk dt_X12_turnOf 25 rfl) rfl ?_
    exact v_iret (pc := 78) h r (dk dt_X12_turnOf 26 rfl) (Nat.le_of_ble_eq_true rfl) (Nat.le_of_ble_eq_true rfl) ⟨by rw [if_neg (by omega), if_neg (by omega), if_neg (by omega)], rfl⟩
  ·
    rw [e]
    refine v_switchIn (pc := 1) h 73 (dk dt_X12_turnOf 1 rfl) (by omega) (by omega) (by omega) rfl rfl ?_
    refine v_iconst (pc := 73) h (dk dt_X12_turnOf 21 rfl) ?_
    exact v_iret (pc := 74) h r (dk dt_X12_turnOf 22 rfl) (Nat.le_of_ble_eq_true rfl) (Nat.le_of_ble_eq_true rfl) ⟨by rw [if_neg (by omega), if_neg (by omega), if_pos (by omega)], rfl⟩
  ·
    rw [e]
    refine v_switchIn (pc := 1) h 77 (dk dt_X12_turnOf 1 rfl) (by omega) (by omega) (by omega) rfl rfl ?_
    refine v_iload_n (pc := 77) h (dk dt_X12_turnOf 25 rfl) rfl ?_
    exact v_iret (pc := 78) h r (dk dt_X12_turnOf 26 rfl) (Nat.le_of_ble_eq_true rfl) (Nat.le_of_ble_eq_true rfl) ⟨by rw [if_neg (by omega), if_neg (by omega), if_neg (by omega)], rfl⟩
  ·
    rw [e]
    refine v_switchIn (pc := 1) h 75 (dk dt_X12_turnOf 1 rfl) (by omega) (by omega) (by omega) rfl rfl ?_
    refine v_iconst (pc := 75) h (dk dt_X12_turnOf 23 rfl) ?_
    exact v_iret (pc := 76) h r (dk dt_X12_turnOf 24 rfl) (Nat.le_of_ble_eq_true rfl) (Nat.le_of_ble_eq_true rfl) ⟨by rw [if_neg (by omega), if_neg (by omega), if_pos (by omega)], rfl⟩
/-- behind the model's choice of x -/
def chM (n : Nat) (K : Nat → Int) (J : Mm) (μ : Mm) (s : St) (m : Mm) (x : Int) : Prop :=
  (x = -1 ∧ m = μ ∧ chF J n K s = s) ∨ ∃ (j : Nat) (lv : Int) (σ0 : Mm) (Q0 : List Nat × (List Nat × List Nat)), x = (j : Int) ∧ j < n ∧ (K 0 = 4 → m 149 j = lv) ∧ (0 ≤ lv ∧ lv ≤ 2) ∧ m 123 35 = σ0 6 5 ∧ (∀ a, a ≠ 6 → σ0 a = s.1 a) ∧ (∀ b, b ≠ 5 → σ0 6 b = s.1 6 b) ∧ (bQ m 0 Q0.1 ∧ bQ m 1 Q0.2.1 ∧ bQ m 2 Q0.2.2) ∧ chF J n K s = (tkN J K σ0 lv j, Q0) ∧ (∀ a, a ≠ 123 → a < 147 ∨ 148 < a → m a = μ a) ∧ (∀ b, b ≠ 35 → m 123 b = μ 123 b)
theorem c_X12_chooses (hst : l.stackTraces = false) (hE : eqJ μ) (hs : okJ μ) (hn : μ 1 9 = (n : Int)) (hb : bP n μ s.1) (hS : vS (jm μ) n K s) (hK : okK K) (h0 : s.1 6 0 = -1) (h35 : μ 123 35 = s.1 6 5) (q0 : bQ μ 0 s.2.1) (q1 : bQ μ 1 s.2.2.1) (q2 : bQ μ 2 s.2.2.2) :
    Ct l B D E yX12_chooses (.code yX12_chooses cX12_chooses 6 (some .int)) rm_X12_chooses [.ref (pl B 123), iI (K 0), iI (K 3)] μ (fun v m => ∃ x, v = some (iI x) ∧ chM n K (jm μ) μ s m x) NX := by
  have hn12 := hs.1
  have e9 := eqJ_n hE hn
  have hD := okJD hs hn
  have hB := hS.1
  have hl : ∀ j, j < n → jm μ 1 j ≤ 30 := fun j hj => (okD_l hD hj).2
  have hK0 := hK.1
  have chr : rRow K → chF (jm μ) n K s = chQ (jm μ) K s.1 s.2 := fun q => by unfold chF; rw [if_neg (by omega), if_pos q]
  have chn : ¬ rRow K → chF (jm μ) n K s = if pkF (jm μ) n K s.1 = -1 then s else (tkN (jm μ) K (seN K s.1) 0 (pkF (jm μ) n K s.1).toNat, s.2) := fun q => by unfold chF; rw [if_neg (by omega), if_neg q]
  refine ct_of (own := RX12) (lv := [(0, _), (1, _), (2, _)]) hst (by decide) rfl rfl (Nat.le_of_ble_eq_true rfl) fun a h r t => ?_
  have go11 : rRow K → VV a B (SP B D E μ) 0 0 11 [(3, iI 0), (0, .ref (pl B 123))] [] := by
    intro hrow
    have hq := hS.2.2.2.2.1.1 hrow
    have hsub : (s.2.1 ++ (s.2.2.1 ++ s.2.2.2)) ⊆ List.range n := fun x hx => List.mem_range.mpr ((hq.2 x).mp hx).1
    have hle := hq.1.length_le_of_subset hsub
    simp only [List.length_append, List.length_range] at hle
    have hlt : ∀ j, j ∈ s.2.1 ++ (s.2.2.1 ++ s.2.2.2) → j < n := fun j hj => ((hq.2 j).mp hj).1
    have hc := chr hrow
    obtain ⟨σ, L0, L1, L2⟩ := s
    have b0 : bQ μ 0 L0 := q0
    have b1 : bQ μ 1 L1 := q1
    have b2 : bQ μ 2 L2 := q2
    have l0 := b0.1
    have l1 := b1.1
    have l2 := b2.1
    have fin : ∀ (i j : Nat) (L : List Nat) (Q0 : List Nat × (List Nat × List Nat)), i < 3 → bQ μ i (j :: L) → L.length < 12 → j < n → chF (jm μ) n K (σ, L0, L1, L2) = (tkN (jm μ) K σ (i : Int) j, Q0) → bQ (Mtks μ i L.length) 0 Q0.1 ∧ bQ (Mtks μ i L.length) 1 Q0.2.1 ∧ bQ (Mtks μ i L.length) 2 Q0.2.2 → VV a B (SP B D E μ) 0 0 25 [(3, iI (i : Int)), (0, .ref (pl B 123))] [] := by
      intro i j L Q0 hi hbq hL hj hch hQ
      have h1 : μ 148 i = (L.length : Int) + 1 := hbq.1
      have h2 := hbq.2 0 j rfl
      have h147 : μ 147 (12 * i) = (j : Int) := h2.1
      refine v_aload_n (pc := 25) h (dk dt_X12_chooses 15 rfl) rfl ?_
      refine v_iload_n (pc := 26) h (dk dt_X12_chooses 16 rfl) rfl ?_
      refine v_cVi (pc := 27) h (c_X12_takes (te := L.length) h.quiet (by omega) h1 (by omega)) kv_X12_takes sh123 wM_X12_139 rfl rfl (Nat.le_of_ble_eq_true rfl) (RM.of rfl) rfl rfl (dk dt_X12_chooses 17 rfl) ?_
      rw [h147]
      exact v_iret (pc := 30) h r (dk dt_X12_chooses 18 rfl) (Nat.le_of_ble_eq_true rfl) (Nat.le_of_ble_eq_true rfl) ⟨(j : Int), rfl, Or.inr ⟨j, (i : Int), σ, Q0, rfl, hj, fun _ => by rw [Mtks_o (by omega)]; exact h2.2, by omega, by rw [Mtks_o (by omega)]; exact h35, fun _ _ => rfl, fun _ _ => rfl, hQ, hch, fun a ha hb => Mtks_o hb, fun b hb => by rw [Mtks_o (by omega)]⟩⟩
    rcases L0 with _ | ⟨j, L0⟩
    · have l0 : μ 148 0 = 0 := l0
      rcases L1 with _ | ⟨j, L1⟩
      · have l1 : μ 148 1 = 0 := l1
        rcases L2 with _ | ⟨j, L2⟩
        · have l2 : μ 148 2 = 0 := l2
          have go3 : VV a B (SP B D E μ) 0 0 11 [(3, iI 3), (0, .ref (pl B 123))] [] := by
            refine v_iload_n (pc := 11) h (dk dt_X12_chooses 7 rfl) rfl ?_
            refine v_iconst (pc := 12) h (dk dt_X12_chooses 8 rfl) ?_
            refine v_icmp_ge (pc := 13) h 37 (dk dt_X12_chooses 9 rfl) rfl (by omega) (fun c13 => ?_) (fun c13 => ?_)
            ·
              refine v_iconst (pc := 37) h (dk dt_X12_chooses 21 rfl) ?_
              exact v_iret (pc := 38) h r (dk dt_X12_chooses 22 rfl) (Nat.le_of_ble_eq_true rfl) (Nat.le_of_ble_eq_true rfl) ⟨-1, rfl, Or.inl ⟨rfl, rfl, hc⟩⟩
            ·
              exact absurd c13 (by decide)
          have go2 : VV a B (SP B D E μ) 0 0 11 [(3, iI 2), (0, .ref (pl B 123))] [] := by
            refine v_iload_n (pc := 11) h (dk dt_X12_chooses 7 rfl) rfl ?_
            refine v_iconst (pc := 12) h (dk dt_X12_chooses 8 rfl) ?_
            refine v_icmp_ge (pc := 13) h 37 (dk dt_X12_chooses 9 rfl) rfl (by omega) (fun c13 => ?_) (fun c13 => ?_)
            ·
              exact absurd c13 (by decide)
            ·
              refine v_aload_n (pc := 16) h (dk dt_X12_chooses 10 rfl) rfl ?_
              refine v_getr (pc := 17) h ci12 sh123 (Nat.le_of_ble_eq_true rfl) (j := 37) wF_X12_96 rfl (dk dt_X12_chooses 11 rfl) ?_
              refine v_iload_n (pc := 20) h (dk dt_X12_chooses 12 rfl) rfl ?_
              refine v_iald (pc := 21) h sh148 (Nat.le_of_ble_eq_true rfl) (by omega) (dk dt_X12_chooses 13 rfl) ?_
              rw [show (2 : Int).toNat = 2 from rfl, l2]
              refine v_if_le (pc := 22) h 31 (dk dt_X12_chooses 14 rfl) rfl (by omega) (fun c22 => ?_) (fun c22 => ?_)
              ·
                refine v_iinc (lv' := [(3, _), (0, _)]) (pc := 31) h (dk dt_X12_chooses 19 rfl) rfl (Nat.le_of_ble_eq_true rfl) rfl ?_
                refine v_goto (pc := 34) h 11 (dk dt_X12_chooses 20 rfl) rfl ?_
                exact VV.loc go3 ⟨rfl, rfl, trivial⟩
              ·
                exact absurd c22 (by decide)
          have go1 : VV a B (SP B D E μ) 0 0 11 [(3, iI 1), (0, .ref (pl B 123))] [] := by
            refine v_iload_n (pc := 11) h (dk dt_X12_chooses 7 rfl) rfl ?_
            refine v_iconst (pc := 12) h (dk dt_X12_chooses 8 rfl) ?_
            refine v_icmp_ge (pc := 13) h 37 (dk dt_X12_chooses 9 rfl) rfl (by omega) (fun c13 => ?_) (fun c13 => ?_)
            ·
              exact absurd c13 (by decide)
            ·
              refine v_aload_n (pc := 16) h (dk dt_X12_chooses 10 rfl) rfl ?_
              refine v_getr (pc := 17) h ci12 sh123 (Nat.le_of_ble_eq_true rfl) (j := 37) wF_X12_96 rfl (dk dt_X12_chooses 11 rfl) ?_
              refine v_iload_n (pc := 20) h (dk dt_X12_chooses 12 rfl) rfl ?_
              refine v_iald (pc := 21) h sh148 (Nat.le_of_ble_eq_true rfl) (by omega) (dk dt_X12_chooses 13 rfl) ?_
              rw [show (1 : Int).toNat = 1 from rfl, l1]
              refine v_if_le (pc := 22) h 31 (dk dt_X12_chooses 14 rfl) rfl (by omega) (fun c22 => ?_) (fun c22 => ?_)
              ·
                refine v_iinc (lv' := [(3, _), (0, _)]) (pc := 31) h (dk dt_X12_chooses 19 rfl) rfl (Nat.le_of_ble_eq_true rfl) rfl ?_
                refine v_goto (pc := 34) h 11 (dk dt_X12_chooses 20 rfl) rfl ?_
                exact VV.loc go2 ⟨rfl, rfl, trivial⟩
              ·
                exact absurd c22 (by decide)
          refine v_iload_n (pc := 11) h (dk dt_X12_chooses 7 rfl) rfl ?_
          refine v_iconst (pc := 12) h (dk dt_X12_chooses 8 rfl) ?_
          refine v_icmp_ge (pc := 13) h 37 (dk dt_X12_chooses 9 rfl) rfl (by omega) (fun c13 => ?_) (fun c13 => ?_)
          ·
            exact absurd c13 (by decide)
          ·
            refine v_aload_n (pc := 16) h (dk dt_X12_chooses 10 rfl) rfl ?_
            refine v_getr (pc := 17) h ci12 sh123 (Nat.le_of_ble_eq_true rfl) (j := 37) wF_X12_96 rfl (dk dt_X12_chooses 11 rfl) ?_
            refine v_iload_n (pc := 20) h (dk dt_X12_chooses 12 rfl) rfl ?_
            refine v_iald (pc := 21) h sh148 (Nat.le_of_ble_eq_true rfl) (by omega) (dk dt_X12_chooses 13 rfl) ?_
            rw [show (0 : Int).toNat = 0 from rfl, l0]
            refine v_if_le (pc := 22) h 31 (dk dt_X12_chooses 14 rfl) rfl (by omega) (fun c22 => ?_) (fun c22 => ?_)
            ·
              refine v_iinc (lv' := [(3, _), (0, _)]) (pc := 31) h (dk dt_X12_chooses 19 rfl) rfl (Nat.le_of_ble_eq_true rfl) rfl ?_
              refine v_goto (pc := 34) h 11 (dk dt_X12_chooses 20 rfl) rfl ?_
              exact VV.loc go1 ⟨rfl, rfl, trivial⟩
            ·
              exact absurd c22 (by decide)
        · have l2 : μ 148 2 = (L2.length : Int) + 1 := l2
          have hL2 : L2.length < 12 := by simp at hle; omega
          have go2 : VV a B (SP B D E μ) 0 0 11 [(3, iI 2), (0, .ref (pl B 123))] [] := by
            refine v_iload_n (pc := 11) h (dk dt_X12_chooses 7 rfl) rfl ?_
            refine v_iconst (pc := 12) h (dk dt_X12_chooses 8 rfl) ?_
            refine v_icmp_ge (pc := 13) h 37 (dk dt_X12_chooses 9 rfl) rfl (by omega) (fun c13 => ?_) (fun c13 => ?_)
            ·
              exact absurd c13 (by decide)
            ·
              refine v_aload_n (pc := 16) h (dk dt_X12_chooses 10 rfl) rfl ?_
              refine v_getr (pc := 17) h ci12 sh123 (Nat.le_of_ble_eq_true rfl) (j := 37) wF_X12_96 rfl (dk dt_X12_chooses 11 rfl) ?_
              refine v_iload_n (pc := 20) h (dk dt_X12_chooses 12 rfl) rfl ?_
              refine v_iald (pc := 21) h sh148 (Nat.le_of_ble_eq_true rfl) (by omega) (dk dt_X12_chooses 13 rfl) ?_
              rw [show (2 : Int).toNat = 2 from rfl, l2]
              refine v_if_le (pc := 22) h 31 (dk dt_X12_chooses 14 rfl) rfl (by omega) (fun c22 => ?_) (fun c22 => ?_)
              ·
                exact absurd c22 (by omega)
              ·
                exact VV.loc (fin 2 j L2 ([], [], L2) (by omega) b2 hL2 (hlt j (by simp)) hc ⟨bQ_to (by omega) hL2 (by simp) b0, bQ_to (by omega) hL2 (by simp) b1, bQ_t b2⟩) ⟨rfl, rfl, trivial⟩
          have go1 : VV a B (SP B D E μ) 0 0 11 [(3, iI 1), (0, .ref (pl B 123))] [] := by
            refine v_iload_n (pc := 11) h (dk dt_X12_chooses 7 rfl) rfl ?_
            refine v_iconst (pc := 12) h (dk dt_X12_chooses 8 rfl) ?_
            refine v_icmp_ge (pc := 13) h 37 (dk dt_X12_chooses 9 rfl) rfl (by omega) (fun c13 => ?_) (fun c13 => ?_)
            ·
              exact absurd c13 (by decide)
            ·
              refine v_aload_n (pc := 16) h (dk dt_X12_chooses 10 rfl) rfl ?_
              refine v_getr (pc := 17) h ci12 sh123 (Nat.le_of_ble_eq_true rfl) (j := 37) wF_X12_96 rfl (dk dt_X12_chooses 11 rfl) ?_
              refine v_iload_n (pc := 20) h (dk dt_X12_chooses 12 rfl) rfl ?_
              refine v_iald (pc := 21) h sh148 (Nat.le_of_ble_eq_true rfl) (by omega) (dk dt_X12_chooses 13 rfl) ?_
              rw [show (1 : Int).toNat = 1 from rfl, l1]
              refine v_if_le (pc := 22) h 31 (dk dt_X12_chooses 14 rfl) rfl (by omega) (fun c22 => ?_) (fun c22 => ?_)
              ·
                refine v_iinc (lv' := [(3, _), (0, _)]) (pc := 31) h (dk dt_X12_chooses 19 rfl) rfl (Nat.le_of_ble_eq_true rfl) rfl ?_
                refine v_goto (pc := 34) h 11 (dk dt_X12_chooses 20 rfl) rfl ?_
                exact VV.loc go2 ⟨rfl, rfl, trivial⟩
              ·
                exact absurd c22 (by decide)
          refine v_iload_n (pc := 11) h (dk dt_X12_chooses 7 rfl) rfl ?_
          refine v_iconst (pc := 12) h (dk dt_X12_chooses 8 rfl) ?_
          refine v_icmp_ge (pc := 13) h 37 (dk dt_X12_chooses 9 rfl) rfl (by omega) (fun c13 => ?_) (fun c13 => ?_)
          ·
            exact absurd c13 (by decide)
          ·
            refine v_aload_n (pc := 16) h (dk dt_X12_chooses 10 rfl) rfl ?_
            refine v_getr (pc := 17) h ci12 sh123 (Nat.le_of_ble_eq_true rfl) (j := 37) wF_X12_96 rfl (dk dt_X12_chooses 11 rfl) ?_
            refine v_iload_n (pc := 20) h (dk dt_X12_chooses 12 rfl) rfl ?_
            refine v_iald (pc := 21) h sh148 (Nat.le_of_ble_eq_true rfl) (by omega) (dk dt_X12_chooses 13 rfl) ?_
            rw [show (0 : Int).toNat = 0 from rfl, l0]
            refine v_if_le (pc := 22) h 31 (dk dt_X12_chooses 14 rfl) rfl (by omega) (fun c22 => ?_) (fun c22 => ?_)
            ·
              refine v_iinc (lv' := [(3, _), (0, _)]) (pc := 31) h (dk dt_X12_chooses 19 rfl) rfl (Nat.le_of_ble_eq_true rfl) rfl ?_
              refine v_goto (pc := 34) h 11 (dk dt_X12_chooses 20 rfl) rfl ?_
              exact VV.loc go1 ⟨rfl, rfl, trivial⟩
            ·
              exact absurd c22 (by decide)
      · have l1 : μ 148 1 = (L1.length : Int) + 1 := l1
        have hL1 : L1.length < 12 ∧ L2.length ≤ 12 := by simp at hle; omega
        have go1 : VV a B (SP B D E μ) 0 0 11 [(3, iI 1), (0, .ref (pl B 123))] [] := by
          refine v_iload_n (pc := 11) h (dk dt_X12_chooses 7 rfl) rfl ?_
          refine v_iconst (pc := 12) h (dk dt_X12_chooses 8 rfl) ?_
          refine v_icmp_ge (pc := 13) h 37 (dk dt_X12_chooses 9 rfl) rfl (by omega) (fun c13 => ?_) (fun c13 => ?_)
          ·
            exact absurd c13 (by decide)
          ·
            refine v_aload_n (pc := 16) h (dk dt_X12_chooses 10 rfl) rfl ?_
            refine v_getr (pc := 17) h ci12 sh123 (Nat.le_of_ble_eq_true rfl) (j := 37) wF_X12_96 rfl (dk dt_X12_chooses 11 rfl) ?_
            refine v_iload_n (pc := 20) h (dk dt_X12_chooses 12 rfl) rfl ?_
            refine v_iald (pc := 21) h sh148 (Nat.le_of_ble_eq_true rfl) (by omega) (dk dt_X12_chooses 13 rfl) ?_
            rw [show (1 : Int).toNat = 1 from rfl, l1]
            refine v_if_le (pc := 22) h 31 (dk dt_X12_chooses 14 rfl) rfl (by omega) (fun c22 => ?_) (fun c22 => ?_)
            ·
              exact absurd c22 (by omega)
            ·
              exact VV.loc (fin 1 j L1 ([], L1, L2) (by omega) b1 hL1.1 (hlt j (by simp)) hc ⟨bQ_to (by omega) hL1.1 (by simp) b0, bQ_t b1, bQ_to (by omega) hL1.1 hL1.2 b2⟩) ⟨rfl, rfl, trivial⟩
        refine v_iload_n (pc := 11) h (dk dt_X12_chooses 7 rfl) rfl ?_
        refine v_iconst (pc := 12) h (dk dt_X12_chooses 8 rfl) ?_
        refine v_icmp_ge (pc := 13) h 37 (dk dt_X12_chooses 9 rfl) rfl (by omega) (fun c13 => ?_) (fun c13 => ?_)
        ·
          exact absurd c13 (by decide)
        ·
          refine v_aload_n (pc := 16) h (dk dt_X12_chooses 10 rfl) rfl ?_
          refine v_getr (pc := 17) h ci12 sh123 (Nat.le_of_ble_eq_true rfl) (j := 37) wF_X12_96 rfl (dk dt_X12_chooses 11 rfl) ?_
          refine v_iload_n (pc := 20) h (dk dt_X12_chooses 12 rfl) rfl ?_
          refine v_iald (pc := 21) h sh148 (Nat.le_of_ble_eq_true rfl) (by omega) (dk dt_X12_chooses 13 rfl) ?_
          rw [show (0 : Int).toNat = 0 from rfl, l0]
          refine v_if_le (pc := 22) h 31 (dk dt_X12_chooses 14 rfl) rfl (by omega) (fun c22 => ?_) (fun c22 => ?_)
          ·
            refine v_iinc (lv' := [(3, _), (0, _)]) (pc := 31) h (dk dt_X12_chooses 19 rfl) rfl (Nat.le_of_ble_eq_true rfl) rfl ?_
            refine v_goto (pc := 34) h 11 (dk dt_X12_chooses 20 rfl) rfl ?_
            exact VV.loc go1 ⟨rfl, rfl, trivial⟩
          ·
            exact absurd c22 (by decide)
    · have l0 : μ 148 0 = (L0.length : Int) + 1 := l0
      have hL0 : L0.length < 12 ∧ L1.length ≤ 12 ∧ L2.length ≤ 12 := by simp at hle; omega
      refine v_iload_n (pc := 11) h (dk dt_X12_chooses 7 rfl) rfl ?_
      refine v_iconst (pc := 12) h (dk dt_X12_chooses 8 rfl) ?_
      refine v_icmp_ge (pc := 13) h 37 (dk dt_X12_chooses 9 rfl) rfl (by omega) (fun c13 => ?_) (fun c13 => ?_)
      ·
        exact absurd c13 (by decide)
      ·
        refine v_aload_n (pc := 16) h (dk dt_X12_chooses 10 rfl) rfl ?_
        refine v_getr (pc := 17) h ci12 sh123 (Nat.le_of_ble_eq_true rfl) (j := 37) wF_X12_96 rfl (dk dt_X12_chooses 11 rfl) ?_
        refine v_iload_n (pc := 20) h (dk dt_X12_chooses 12 rfl) rfl ?_
        refine v_iald (pc := 21) h sh148 (Nat.le_of_ble_eq_true rfl) (by omega) (dk dt_X12_chooses 13 rfl) ?_
        rw [show (0 : Int).toNat = 0 from rfl, l0]
        refine v_if_le (pc := 22) h 31 (dk dt_X12_chooses 14 rfl) rfl (by omega) (fun c22 => ?_) (fun c22 => ?_)
        ·
          exact absurd c22 (by omega)
        ·
          exact VV.loc (fin 0 j L0 (L0, L1, L2) (by omega) b0 hL0.1 (hlt j (by simp)) hc ⟨bQ_t b0, bQ_to (by omega) hL0.1 hL0.2.1 b1, bQ_to (by omega) hL0.1 hL0.2.2 b2⟩) ⟨rfl, rfl, trivial⟩
  have loop : ¬ rRow K → ∀ (d i : Nat), i + d = n → VV a B (SP B D E μ) 0 0 44 [(4, iI (i : Int)), (3, iI (bsF (jm μ) n K s.1 i)), (0, .ref (pl B 123)), (1, iI (K 0)), (2, iI (K 3))] [] := by
    intro hrow d
    induction d with
    | zero =>
      intro i hi
      have e : i = n := by omega
      subst e
      have hpk := pkF_is (K := K) (σ := s.1) hD
      have hbs := bsF_is (jm μ) i K s.1 i
      have hsw := swF_b (σ := s.1) (fun j hj => okD_w hD hj) i (Nat.le_refl _)
      have hww : ∀ j, j < i → 1 ≤ jm μ 3 j := fun j hj => (okD_w hD hj).1
      have h7p : K 0 = 7 → bsF (jm μ) i K s.1 i ≠ -1 → 0 < swF (jm μ) s.1 i := by
        intro k7 hb7
        rcases hbs with ⟨q, -⟩ | ⟨y, y1, -, y2, -⟩
        · exact absurd q hb7
        · have h1 := swF_mono (σ := s.1) hww (Nat.zero_le y) (by omega)
          have h2 := swF_mono (σ := s.1) hww (i := y + 1) (j := i) (by omega) (Nat.le_refl _)
          have h3 := hww y y1
          have h4 : swF (jm μ) s.1 0 = 0 := rfl
          simp only [swF, if_pos y2.1] at h2
          omega
      have h7n : K 0 = 7 → bsF (jm μ) i K s.1 i = -1 → pkF (jm μ) i K s.1 = -1 := by
        intro k7 hb7
        rcases hbs with ⟨-, q⟩ | ⟨y, -, y1, -⟩
        · rcases hpk with ⟨p1, -⟩ | ⟨z, z1, -, z2⟩
          · exact p1
          · exact absurd z2 (q z z1)
        · omega
      have p7 : K 0 ≠ 7 → pkF (jm μ) i K s.1 = bsF (jm μ) i K s.1 i := fun q => by unfold pkF; rw [if_neg q]
      have pb : K 0 = 7 → 0 < swF (jm μ) s.1 i → pkF (jm μ) i K s.1 = ltF (jm μ) s.1 (bus (sdN (s.1 6 5)) 16 % swF (jm μ) s.1 i) i 0 := fun q1 q2 => by unfold pkF; rw [if_pos q1, if_neg (by omega)]
      have hbb : -1 ≤ bsF (jm μ) i K s.1 i ∧ bsF (jm μ) i K s.1 i < i := by rcases hbs with ⟨q, -⟩ | ⟨y, q1, q2, -⟩ <;> omega
      clear hbs
      have fin : ∀ m, m = (if K 0 = 7 ∧ pkF (jm μ) i K s.1 ≠ -1 then mup μ 123 35 (sdN (s.1 6 5)) else μ) → chM i K (jm μ) μ s m (pkF (jm μ) i K s.1) := by
        intro m hm
        rcases hpk with ⟨e, -⟩ | ⟨j, hj, e, -⟩
        · rw [if_neg (fun z => z.2 e)] at hm
          exact Or.inl ⟨e, hm, by rw [chn hrow, if_pos e]⟩
        · have o : ∀ a, a ≠ 123 → m a = μ a := fun a h => by rw [hm]; split; (funext b; exact mup_nk h); rfl
          have m35 : m 123 35 = seN K s.1 6 5 := by
            rw [hm]; unfold seN
            by_cases k7 : K 0 = 7
            · rw [if_pos ⟨k7, by omega⟩, if_pos k7, mup_eq, mup_eq]
            · rw [if_neg (fun z => k7 z.1), if_neg k7]; exact h35
          refine Or.inr ⟨j, 0, seN K s.1, s.2, e, hj, fun q => absurd (Or.inr q) hrow, by omega, m35, fun a h => se_o h, fun b h => se_6 h, ⟨bQ_c (o _ (by decide)) (o _ (by decide)) (o _ (by decide)) q0, bQ_c (o _ (by decide)) (o _ (by decide)) (o _ (by decide)) q1, bQ_c (o _ (by decide)) (o _ (by decide)) (o _ (by decide)) q2⟩, by rw [chn hrow, if_neg (by omega), e]; rfl, fun a h _ => o a h, fun b h => by rw [hm]; split; exact mup_ne (fun z => h z.2); rfl⟩
      refine v_iload (pc := 44) h (dk dt_X12_chooses 27 rfl) rfl ?_
      refine v_aload_n (pc := 46) h (dk dt_X12_chooses 28 rfl) rfl ?_
      refine v_geti (pc := 47) h ci12 sh123 (Nat.le_of_ble_eq_true rfl) (j := 9) wF_X12_108 rfl (dk dt_X12_chooses 29 rfl) ?_
      refine v_icmp_ge (pc := 50) h 122 (dk dt_X12_chooses 30 rfl) rfl (by omega) (fun c50 => ?_) (fun c50 => ?_)
      ·
        refine v_iload_n (pc := 122) h (dk dt_X12_chooses 67 rfl) rfl ?_
        refine v_iconst (pc := 123) h (dk dt_X12_chooses 68 rfl) ?_
        refine v_icmp_eq (pc := 124) h 140 (dk dt_X12_chooses 69 rfl) rfl (by omega) (fun c124 => ?_) (fun c124 => ?_)
        ·
          refine v_iload_n (pc := 140) h (dk dt_X12_chooses 76 rfl) rfl ?_
          exact v_iret (pc := 141) h r (dk dt_X12_chooses 77 rfl) (Nat.le_of_ble_eq_true rfl) (Nat.le_of_ble_eq_true rfl) (by first | exact ⟨_, rfl, by have z := fin μ (by rw [if_neg (fun z => by omega)]); rw [p7 (by omega)] at z; exact z⟩ | exact ⟨-1, by rw [c124], by by_cases k7 : K 0 = 7; (have z := fin μ (by rw [if_neg (fun z => z.2 (h7n k7 c124))]); rw [h7n k7 c124] at z; exact z); (have z := fin μ (by rw [if_neg (fun z => k7 z.1)]); rw [p7 k7, c124] at z; exact z)⟩ | exact ⟨_, rfl, by have z := fin _ rfl; rw [if_pos ⟨by omega, by rcases hpk with ⟨y, -⟩ | ⟨y, -, y1, -⟩; (exact absurd (y.symm.trans (pb (by omega) (h7p (by omega)))) (by rcases ltF_is (J := jm μ) (σ := s.1) (z := bus (sdN (s.1 6 5)) 16 % swF (jm μ) s.1 i) i 0 (Int.emod_nonneg _ (by have := h7p (by omega); omega)) (by rw [Nat.zero_add]; exact Int.emod_lt_of_pos _ (h7p (by omega))) with ⟨w, w1, -⟩; omega)); omega⟩, pb (by omega) (h7p (by omega))] at z; exact z⟩)
        ·
          have h7p := fun q => h7p q c124
          refine v_iload_n (pc := 127) h (dk dt_X12_chooses 70 rfl) rfl ?_
          refine v_bipush (pc := 128) h (dk dt_X12_chooses 71 rfl) rfl ?_
          refine v_icmp_ne (pc := 130) h 140 (dk dt_X12_chooses 72 rfl) rfl (by omega) (fun c130 => ?_) (fun c130 => ?_)
          ·
            refine v_iload_n (pc := 140) h (dk dt_X12_chooses 76 rfl) rfl ?_
            exact v_iret (pc := 141) h r (dk dt_X12_chooses 77 rfl) (Nat.le_of_ble_eq_true rfl) (Nat.le_of_ble_eq_true rfl) (by first | exact ⟨_, rfl, by have z := fin μ (by rw [if_neg (fun z => by omega)]); rw [p7 (by omega)] at z; exact z⟩ | exact ⟨-1, by rw [c124], by by_cases k7 : K 0 = 7; (have z := fin μ (by rw [if_neg (fun z => z.2 (h7n k7 c124))]); rw [h7n k7 c124] at z; exact z); (have z := fin μ (by rw [if_neg (fun z => k7 z.1)]); rw [p7 k7, c124] at z; exact z)⟩ | exact ⟨_, rfl, by have z := fin _ rfl; rw [if_pos ⟨by omega, by rcases hpk with ⟨y, -⟩ | ⟨y, -, y1, -⟩; (exact absurd (y.symm.trans (pb (by omega) (h7p (by omega)))) (by rcases ltF_is (J := jm μ) (σ := s.1) (z := bus (sdN (s.1 6 5)) 16 % swF (jm μ) s.1 i) i 0 (Int.emod_nonneg _ (by have := h7p (by omega); omega)) (by rw [Nat.zero_add]; exact Int.emod_lt_of_pos _ (h7p (by omega))) with ⟨w, w1, -⟩; omega)); omega⟩, pb (by omega) (h7p (by omega))] at z; exact z⟩)
          ·
            refine v_aload_n (pc := 133) h (dk dt_X12_chooses 73 rfl) rfl ?_
            refine v_cVi (pc := 134) h (c_X12_drawnJob h.quiet hE hs hn hb hB h35 (h7p (by omega))) kv_X12_drawnJob sh123 wM_X12_180 rfl rfl (Nat.le_of_ble_eq_true rfl) (RM.of rfl) rfl rfl (dk dt_X12_chooses 74 rfl) ?_
            refine v_goto (pc := 137) h 141 (dk dt_X12_chooses 75 rfl) rfl ?_
            exact v_iret (pc := 141) h r (dk dt_X12_chooses 77 rfl) (Nat.le_of_ble_eq_true rfl) (Nat.le_of_ble_eq_true rfl) (by first | exact ⟨_, rfl, by have z := fin μ (by rw [if_neg (fun z => by omega)]); rw [p7 (by omega)] at z; exact z⟩ | exact ⟨-1, by rw [c124], by by_cases k7 : K 0 = 7; (have z := fin μ (by rw [if_neg (fun z => z.2 (h7n k7 c124))]); rw [h7n k7 c124] at z; exact z); (have z := fin μ (by rw [if_neg (fun z => k7 z.1)]); rw [p7 k7, c124] at z; exact z)⟩ | exact ⟨_, rfl, by have z := fin _ rfl; rw [if_pos ⟨by omega, by rcases hpk with ⟨y, -⟩ | ⟨y, -, y1, -⟩; (exact absurd (y.symm.trans (pb (by omega) (h7p (by omega)))) (by rcases ltF_is (J := jm μ) (σ := s.1) (z := bus (sdN (s.1 6 5)) 16 % swF (jm μ) s.1 i) i 0 (Int.emod_nonneg _ (by have := h7p (by omega); omega)) (by rw [Nat.zero_add]; exact Int.emod_lt_of_pos _ (h7p (by omega))) with ⟨w, w1, -⟩; omega)); omega⟩, pb (by omega) (h7p (by omega))] at z; exact z⟩)
      ·
        exact absurd c50 (by omega)
    | succ d ih =>
      intro i hi
      have hin : i < n := by omega
      have hkb := kpr_b (J := jm μ) (n := n) (σ := s.1) i
      have hbb : -1 ≤ bsF (jm μ) n K s.1 i ∧ bsF (jm μ) n K s.1 i < i := by rcases bsF_is (jm μ) n K s.1 i with ⟨q, -⟩ | ⟨y, q1, q2, -⟩ <;> omega
      have eN : ¬ (okR (jm μ) n K s.1 i ∧ (bsF (jm μ) n K s.1 i = -1 ∨ keyR (jm μ) n K s.1 i < keyR (jm μ) n K s.1 (bsF (jm μ) n K s.1 i).toNat)) → bsF (jm μ) n K s.1 (i + 1) = bsF (jm μ) n K s.1 i := fun q => by rw [bsF, if_neg q]
      have eY : okR (jm μ) n K s.1 i ∧ (bsF (jm μ) n K s.1 i = -1 ∨ keyR (jm μ) n K s.1 i < keyR (jm μ) n K s.1 (bsF (jm μ) n K s.1 i).toNat) → bsF (jm μ) n K s.1 (i + 1) = (i : Int) := fun q => by rw [bsF, if_pos q]
      have hio := ih (i + 1) (by omega)
      have fN := fun q => show VV a B (SP B D E μ) 0 0 44 [(4, iI ((i : Int) + 1)), (3, iI (bsF (jm μ) n K s.1 i)), (0, .ref (pl B 123)), (1, iI (K 0)), (2, iI (K 3))] [] by have z := hio; rw [eN q] at z; exact z
      have fY := fun q => show VV a B (SP B D E μ) 0 0 44 [(4, iI ((i : Int) + 1)), (3, iI (i : Int)), (0, .ref (pl B 123)), (1, iI (K 0)), (2, iI (K 3))] [] by have z := hio; rw [eY q] at z; exact z
      have hkI : ∀ j, j < n → InR (keyR (jm μ) n K s.1 j) := by
        intro j hj
        have htt := t_le hD hS
        by_cases h5 : K 0 = 1 ∨ K 0 = 2 ∨ K 0 = 3 ∨ K 0 = 5 ∨ K 0 = 6
        · have := keyR_b (K := K) hD hB (by omega) h5 hj; omega
        · have hrb := rkF_b (J := jm μ) (σ := s.1) (n := n) (le := K 3) (j := j) (fun j hj => okD_w hD hj) hj n (Nat.le_refl _)
          unfold keyR
          rw [if_neg (by omega), if_neg (by omega), if_neg (by omega), if_neg (by omega), if_neg (by omega)]
          omega
      have hkI1 := hkI i hin
      refine v_iload (pc := 44) h (dk dt_X12_chooses 27 rfl) rfl ?_
      refine v_aload_n (pc := 46) h (dk dt_X12_chooses 28 rfl) rfl ?_
      refine v_geti (pc := 47) h ci12 sh123 (Nat.le_of_ble_eq_true rfl) (j := 9) wF_X12_108 rfl (dk dt_X12_chooses 29 rfl) ?_
      refine v_icmp_ge (pc := 50) h 122 (dk dt_X12_chooses 30 rfl) rfl (by omega) (fun c50 => ?_) (fun c50 => ?_)
      ·
        exact absurd c50 (by omega)
      ·
        refine v_aload_n (pc := 53) h (dk dt_X12_chooses 31 rfl) rfl ?_
        refine v_iload (pc := 54) h (dk dt_X12_chooses 32 rfl) rfl ?_
        refine v_cVi (pc := 56) h (c_X12_isThere h.quiet (bR_of hb) hB hl hin (by omega)) kv_X12_isThere sh123 wM_X12_159 rfl rfl (Nat.le_of_ble_eq_true rfl) (RM.of rfl) rfl rfl (dk dt_X12_chooses 33 rfl) ?_
        refine v_if_eq (pc := 59) h 82 (dk dt_X12_chooses 34 rfl) rfl (by split <;> omega) (fun c59 => ?_) (fun c59 => ?_)
        ·
          have d59 : ¬ okR (jm μ) n K s.1 i := fun q => by rw [if_pos q.1] at c59; omega
          refine v_iconst (pc := 82) h (dk dt_X12_chooses 45 rfl) ?_
          refine v_istore (lv' := [(5, _), (4, _), (3, _), (0, _), (1, _), (2, _)]) (pc := 83) h (dk dt_X12_chooses 46 rfl) (Nat.le_of_ble_eq_true rfl) rfl ?_
          refine v_iload (pc := 85) h (dk dt_X12_chooses 47 rfl) rfl ?_
          refine v_if_eq (pc := 87) h 116 (dk dt_X12_chooses 48 rfl) rfl (by omega) (fun c87 => ?_) (fun c87 => ?_)
          ·
            refine v_iinc (lv' := [(4, _), (5, _), (3, _), (0, _), (1, _), (2, _)]) (pc := 116) h (dk dt_X12_chooses 65 rfl) rfl (Nat.le_of_ble_eq_true rfl) rfl ?_
            refine v_goto (pc := 119) h 44 (dk dt_X12_chooses 66 rfl) rfl ?_
            first
              | exact absurd rfl c87
              | exact absurd c87 (by decide)
              | exact VV.loc (fN (fun q => d59 q.1)) ⟨rfl, rfl, rfl, rfl, rfl, trivial⟩
              | exact VV.loc (fY ⟨d59, Or.inl c92⟩) ⟨rfl, rfl, rfl, rfl, rfl, trivial⟩
              | exact VV.loc (fY ⟨d59, Or.inr (by rw [ey]; exact c110)⟩) ⟨rfl, rfl, rfl, rfl, rfl, trivial⟩
              | (rw [← hy]; exact VV.loc (fN (fun q => by rcases q.2 with z | z; exact c92 z; rw [ey] at z; exact absurd c110 (Int.not_le.mpr z))) ⟨rfl, rfl, rfl, rfl, rfl, trivial⟩)
          ·
            refine v_iload_n (pc := 90) h (dk dt_X12_chooses 49 rfl) rfl ?_
            refine v_iconst (pc := 91) h (dk dt_X12_chooses 50 rfl) ?_
            refine v_icmp_eq (pc := 92) h 113 (dk dt_X12_chooses 51 rfl) rfl (by omega) (fun c92 => ?_) (fun c92 => ?_)
            ·
              refine v_iload (pc := 113) h (dk dt_X12_chooses 63 rfl) rfl ?_
              refine v_istore_n (lv' := [(3, _), (5, _), (4, _), (0, _), (1, _), (2, _)]) (pc := 115) h (dk dt_X12_chooses 64 rfl) (Nat.le_of_ble_eq_true rfl) rfl ?_
              refine v_iinc (lv' := [(4, _), (3, _), (5, _), (0, _), (1, _), (2, _)]) (pc := 116) h (dk dt_X12_chooses 65 rfl) rfl (Nat.le_of_ble_eq_true rfl) rfl ?_
              refine v_goto (pc := 119) h 44 (dk dt_X12_chooses 66 rfl) rfl ?_
              first
                | exact absurd rfl c87
                | exact absurd c87 (by decide)
                | exact VV.loc (fN (fun q => d59 q.1)) ⟨rfl, rfl, rfl, rfl, rfl, trivial⟩
                | exact VV.loc (fY ⟨d59, Or.inl c92⟩) ⟨rfl, rfl, rfl, rfl, rfl, trivial⟩
                | exact VV.loc (fY ⟨d59, Or.inr (by rw [ey]; exact c110)⟩) ⟨rfl, rfl, rfl, rfl, rfl, trivial⟩
                | (rw [← hy]; exact VV.loc (fN (fun q => by rcases q.2 with z | z; exact c92 z; rw [ey] at z; exact absurd c110 (Int.not_le.mpr z))) ⟨rfl, rfl, rfl, rfl, rfl, trivial⟩)
            ·
              obtain ⟨y, hy⟩ : ∃ y : Nat, bsF (jm μ) n K s.1 i = (y : Int) := ⟨(bsF (jm μ) n K s.1 i).toNat, by omega⟩
              have hyn : y < n := by omega
              have hkI2 := hkI y hyn
              have ey : (bsF (jm μ) n K s.1 i).toNat = y := by omega
              rw [hy]
              refine v_aload_n (pc := 95) h (dk dt_X12_chooses 52 rfl) rfl ?_
              refine v_iload_n (pc := 96) h (dk dt_X12_chooses 53 rfl) rfl ?_
              refine v_iload (pc := 97) h (dk dt_X12_chooses 54 rfl) rfl ?_
              refine v_iload_n (pc := 99) h (dk dt_X12_chooses 55 rfl) rfl ?_
              refine v_cVi (pc := 100) h (c_X12_keyOf h.quiet hE hs hn hb hB hK hrow (by omega)) kv_X12_keyOf sh123 wM_X12_176 rfl rfl (Nat.le_of_ble_eq_true rfl) (RM.of rfl) rfl rfl (dk dt_X12_chooses 56 rfl) ?_
              refine v_aload_n (pc := 103) h (dk dt_X12_chooses 57 rfl) rfl ?_
              refine v_iload_n (pc := 104) h (dk dt_X12_chooses 58 rfl) rfl ?_
              refine v_iload_n (pc := 105) h (dk dt_X12_chooses 59 rfl) rfl ?_
              refine v_iload_n (pc := 106) h (dk dt_X12_chooses 60 rfl) rfl ?_
              refine v_cVi (pc := 107) h (c_X12_keyOf h.quiet hE hs hn hb hB hK hrow (by omega)) kv_X12_keyOf sh123 wM_X12_176 rfl rfl (Nat.le_of_ble_eq_true rfl) (RM.of rfl) rfl rfl (dk dt_X12_chooses 61 rfl) ?_
              refine v_icmp_ge (pc := 110) h 116 (dk dt_X12_chooses 62 rfl) rfl ⟨hkI1, hkI2⟩ (fun c110 => ?_) (fun c110 => ?_)
              ·
                refine v_iinc (lv' := [(4, _), (5, _), (3, _), (0, _), (1, _), (2, _)]) (pc := 116) h (dk dt_X12_chooses 65 rfl) rfl (Nat.le_of_ble_eq_true rfl) rfl ?_
                refine v_goto (pc := 119) h 44 (dk dt_X12_chooses 66 rfl) rfl ?_
                first
                  | exact absurd rfl c87
                  | exact absurd c87 (by decide)
                  | exact VV.loc (fN (fun q => d59 q.1)) ⟨rfl, rfl, rfl, rfl, rfl, trivial⟩
                  | exact VV.loc (fY ⟨d59, Or.inl c92⟩) ⟨rfl, rfl, rfl, rfl, rfl, trivial⟩
                  | exact VV.loc (fY ⟨d59, Or.inr (by rw [ey]; exact c110)⟩) ⟨rfl, rfl, rfl, rfl, rfl, trivial⟩
                  | (rw [← hy]; exact VV.loc (fN (fun q => by rcases q.2 with z | z; exact c92 z; rw [ey] at z; exact absurd c110 (Int.not_le.mpr z))) ⟨rfl, rfl, rfl, rfl, rfl, trivial⟩)
              ·
                refine v_iload (pc := 113) h (dk dt_X12_chooses 63 rfl) rfl ?_
                refine v_istore_n (lv' := [(3, _), (5, _), (4, _), (0, _), (1, _), (2, _)]) (pc := 115) h (dk dt_X12_chooses 64 rfl) (Nat.le_of_ble_eq_true rfl) rfl ?_
                refine v_iinc (lv' := [(4, _), (3, _), (5, _), (0, _), (1, _), (2, _)]) (pc := 116) h (dk dt_X12_chooses 65 rfl) rfl (Nat.le_of_ble_eq_true rfl) rfl ?_
                refine v_goto (pc := 119) h 44 (dk dt_X12_chooses 66 rfl) rfl ?_
                first
                  | exact absurd rfl c87
                  | exact absurd c87 (by decide)
                  | exact VV.loc (fN (fun q => d59 q.1)) ⟨rfl, rfl, rfl, rfl, rfl, trivial⟩
                  | exact VV.loc (fY ⟨d59, Or.inl c92⟩) ⟨rfl, rfl, rfl, rfl, rfl, trivial⟩
                  | exact VV.loc (fY ⟨d59, Or.inr (by rw [ey]; exact c110)⟩) ⟨rfl, rfl, rfl, rfl, rfl, trivial⟩
                  | (rw [← hy]; exact VV.loc (fN (fun q => by rcases q.2 with z | z; exact c92 z; rw [ey] at z; exact absurd c110 (Int.not_le.mpr z))) ⟨rfl, rfl, rfl, rfl, rfl, trivial⟩)
        ·
          have d59 : rdy s.1 i := by by_cases q : rdy s.1 i; exact q; rw [if_neg q] at c59; omega
          refine v_iload_n (pc := 62) h (dk dt_X12_chooses 35 rfl) rfl ?_
          refine v_bipush (pc := 63) h (dk dt_X12_chooses 36 rfl) rfl ?_
          refine v_icmp_ne (pc := 65) h 78 (dk dt_X12_chooses 37 rfl) rfl (by omega) (fun c65 => ?_) (fun c65 => ?_)
          ·
            have d59 : okR (jm μ) n K s.1 i := ⟨d59, fun q => by omega⟩
            refine v_iconst (pc := 78) h (dk dt_X12_chooses 43 rfl) ?_
            refine v_goto (pc := 79) h 83 (dk dt_X12_chooses 44 rfl) rfl ?_
            refine v_istore (lv' := [(5, _), (4, _), (3, _), (0, _), (1, _), (2, _)]) (pc := 83) h (dk dt_X12_chooses 46 rfl) (Nat.le_of_ble_eq_true rfl) rfl ?_
            refine v_iload (pc := 85) h (dk dt_X12_chooses 47 rfl) rfl ?_
            refine v_if_eq (pc := 87) h 116 (dk dt_X12_chooses 48 rfl) rfl (by omega) (fun c87 => ?_) (fun c87 => ?_)
            ·
              refine v_iinc (lv' := [(4, _), (5, _), (3, _), (0, _), (1, _), (2, _)]) (pc := 116) h (dk dt_X12_chooses 65 rfl) rfl (Nat.le_of_ble_eq_true rfl) rfl ?_
              refine v_goto (pc := 119) h 44 (dk dt_X12_chooses 66 rfl) rfl ?_
              first
                | exact absurd rfl c87
                | exact absurd c87 (by decide)
                | exact VV.loc (fN (fun q => d59 q.1)) ⟨rfl, rfl, rfl, rfl, rfl, trivial⟩
                | exact VV.loc (fY ⟨d59, Or.inl c92⟩) ⟨rfl, rfl, rfl, rfl, rfl, trivial⟩
                | exact VV.loc (fY ⟨d59, Or.inr (by rw [ey]; exact c110)⟩) ⟨rfl, rfl, rfl, rfl, rfl, trivial⟩
                | (rw [← hy]; exact VV.loc (fN (fun q => by rcases q.2 with z | z; exact c92 z; rw [ey] at z; exact absurd c110 (Int.not_le.mpr z))) ⟨rfl, rfl, rfl, rfl, rfl, trivial⟩)
            ·
              refine v_iload_n (pc := 90) h (dk dt_X12_chooses 49 rfl) rfl ?_
              refine v_iconst (pc := 91) h (dk dt_X12_chooses 50 rfl) ?_
              refine v_icmp_eq (pc := 92) h 113 (dk dt_X12_chooses 51 rfl) rfl (by omega) (fun c92 => ?_) (fun c92 => ?_)
              ·
                refine v_iload (pc := 113) h (dk dt_X12_chooses 63 rfl) rfl ?_
                refine v_istore_n (lv' := [(3, _), (5, _), (4, _), (0, _), (1, _), (2, _)]) (pc := 115) h (dk dt_X12_chooses 64 rfl) (Nat.le_of_ble_eq_true rfl) rfl ?_
                refine v_iinc (lv' := [(4, _), (3, _), (5, _), (0, _), (1, _), (2, _)]) (pc := 116) h (dk dt_X12_chooses 65 rfl) rfl (Nat.le_of_ble_eq_true rfl) rfl ?_
                refine v_goto (pc := 119) h 44 (dk dt_X12_chooses 66 rfl) rfl ?_
                first
                  | exact absurd rfl c87
                  | exact absurd c87 (by decide)
                  | exact VV.loc (fN (fun q => d59 q.1)) ⟨rfl, rfl, rfl, rfl, rfl, trivial⟩
                  | exact VV.loc (fY ⟨d59, Or.inl c92⟩) ⟨rfl, rfl, rfl, rfl, rfl, trivial⟩
                  | exact VV.loc (fY ⟨d59, Or.inr (by rw [ey]; exact c110)⟩) ⟨rfl, rfl, rfl, rfl, rfl, trivial⟩
                  | (rw [← hy]; exact VV.loc (fN (fun q => by rcases q.2 with z | z; exact c92 z; rw [ey] at z; exact absurd c110 (Int.not_le.mpr z))) ⟨rfl, rfl, rfl, rfl, rfl, trivial⟩)
              ·
                obtain ⟨y, hy⟩ : ∃ y : Nat, bsF (jm μ) n K s.1 i = (y : Int) := ⟨(bsF (jm μ) n K s.1 i).toNat, by omega⟩
                have hyn : y < n := by omega
                have hkI2 := hkI y hyn
                have ey : (bsF (jm μ) n K s.1 i).toNat = y := by omega
                rw [hy]
                refine v_aload_n (pc := 95) h (dk dt_X12_chooses 52 rfl) rfl ?_
                refine v_iload_n (pc := 96) h (dk dt_X12_chooses 53 rfl) rfl ?_
                refine v_iload (pc := 97) h (dk dt_X12_chooses 54 rfl) rfl ?_
                refine v_iload_n (pc := 99) h (dk dt_X12_chooses 55 rfl) rfl ?_
                refine v_cVi (pc := 100) h (c_X12_keyOf h.quiet hE hs hn hb hB hK hrow (by omega)) kv_X12_keyOf sh123 wM_X12_176 rfl rfl (Nat.le_of_ble_eq_true rfl) (RM.of rfl) rfl rfl (dk dt_X12_chooses 56 rfl) ?_
                refine v_aload_n (pc := 103) h (dk dt_X12_chooses 57 rfl) rfl ?_
                refine v_iload_n (pc := 104) h (dk dt_X12_chooses 58 rfl) rfl ?_
                refine v_iload_n (pc := 105) h (dk dt_X12_chooses 59 rfl) rfl ?_
                refine v_iload_n (pc := 106) h (dk dt_X12_chooses 60 rfl) rfl ?_
                refine v_cVi (pc := 107) h (c_X12_keyOf h.quiet hE hs hn hb hB hK hrow (by omega)) kv_X12_keyOf sh123 wM_X12_176 rfl rfl (Nat.le_of_ble_eq_true rfl) (RM.of rfl) rfl rfl (dk dt_X12_chooses 61 rfl) ?_
                refine v_icmp_ge (pc := 110) h 116 (dk dt_X12_chooses 62 rfl) rfl ⟨hkI1, hkI2⟩ (fun c110 => ?_) (fun c110 => ?_)
                ·
                  refine v_iinc (lv' := [(4, _), (5, _), (3, _), (0, _), (1, _), (2, _)]) (pc := 116) h (dk dt_X12_chooses 65 rfl) rfl (Nat.le_of_ble_eq_true rfl) rfl ?_
                  refine v_goto (pc := 119) h 44 (dk dt_X12_chooses 66 rfl) rfl ?_
                  first
                    | exact absurd rfl c87
                    | exact absurd c87 (by decide)
                    | exact VV.loc (fN (fun q => d59 q.1)) ⟨rfl, rfl, rfl, rfl, rfl, trivial⟩
                    | exact VV.loc (fY ⟨d59, Or.inl c92⟩) ⟨rfl, rfl, rfl, rfl, rfl, trivial⟩
                    | exact VV.loc (fY ⟨d59, Or.inr (by rw [ey]; exact c110)⟩) ⟨rfl, rfl, rfl, rfl, rfl, trivial⟩
                    | (rw [← hy]; exact VV.loc (fN (fun q => by rcases q.2 with z | z; exact c92 z; rw [ey] at z; exact absurd c110 (Int.not_le.mpr z))) ⟨rfl, rfl, rfl, rfl, rfl, trivial⟩)
                ·
                  refine v_iload (pc := 113) h (dk dt_X12_chooses 63 rfl) rfl ?_
                  refine v_istore_n (lv' := [(3, _), (5, _), (4, _), (0, _), (1, _), (2, _)]) (pc := 115) h (dk dt_X12_chooses 64 rfl) (Nat.le_of_ble_eq_true rfl) rfl ?_
                  refine v_iinc (lv' := [(4, _), (3, _), (5, _), (0, _), (1, _), (2, _)]) (pc := 116) h (dk dt_X12_chooses 65 rfl) rfl (Nat.le_of_ble_eq_true rfl) rfl ?_
                  refine v_goto (pc := 119) h 44 (dk dt_X12_chooses 66 rfl) rfl ?_
                  first
                    | exact absurd rfl c87
                    | exact absurd c87 (by decide)
                    | exact VV.loc (fN (fun q => d59 q.1)) ⟨rfl, rfl, rfl, rfl, rfl, trivial⟩
                    | exact VV.loc (fY ⟨d59, Or.inl c92⟩) ⟨rfl, rfl, rfl, rfl, rfl, trivial⟩
                    | exact VV.loc (fY ⟨d59, Or.inr (by rw [ey]; exact c110)⟩) ⟨rfl, rfl, rfl, rfl, rfl, trivial⟩
                    | (rw [← hy]; exact VV.loc (fN (fun q => by rcases q.2 with z | z; exact c92 z; rw [ey] at z; exact absurd c110 (Int.not_le.mpr z))) ⟨rfl, rfl, rfl, rfl, rfl, trivial⟩)
          ·
            refine v_aload_n (pc := 68) h (dk dt_X12_chooses 38 rfl) rfl ?_
            refine v_iload (pc := 69) h (dk dt_X12_chooses 39 rfl) rfl ?_
            refine v_cVi (pc := 71) h (c_X12_keeper h.quiet hE hs hn (bR_of hb) hB (by omega)) kv_X12_keeper sh123 wM_X12_162 rfl rfl (Nat.le_of_ble_eq_true rfl) (RM.of rfl) rfl rfl (dk dt_X12_chooses 40 rfl) ?_
            refine v_iconst (pc := 74) h (dk dt_X12_chooses 41 rfl) ?_
            refine v_icmp_ne (pc := 75) h 82 (dk dt_X12_chooses 42 rfl) rfl (by omega) (fun c75 => ?_) (fun c75 => ?_)
            ·
              have d59 : ¬ okR (jm μ) n K s.1 i := fun q => c75 (q.2 (by omega))
              refine v_iconst (pc := 82) h (dk dt_X12_chooses 45 rfl) ?_
              refine v_istore (lv' := [(5, _), (4, _), (3, _), (0, _), (1, _), (2, _)]) (pc := 83) h (dk dt_X12_chooses 46 rfl) (Nat.le_of_ble_eq_true rfl) rfl ?_
              refine v_iload (pc := 85) h (dk dt_X12_chooses 47 rfl) rfl ?_
              refine v_if_eq (pc := 87) h 116 (dk dt_X12_chooses 48 rfl) rfl (by omega) (fun c87 => ?_) (fun c87 => ?_)
              ·
                refine v_iinc (lv' := [(4, _), (5, _), (3, _), (0, _), (1, _), (2, _)]) (pc := 116) h (dk dt_X12_chooses 65 rfl) rfl (Nat.le_of_ble_eq_true rfl) rfl ?_
                refine v_goto (pc := 119) h 44 (dk dt_X12_chooses 66 rfl) rfl ?_
                first
                  | exact absurd rfl c87
                  | exact absurd c87 (by decide)
                  | exact VV.loc (fN (fun q => d59 q.1)) ⟨rfl, rfl, rfl, rfl, rfl, trivial⟩
                  | exact VV.loc (fY ⟨d59, Or.inl c92⟩) ⟨rfl, rfl, rfl, rfl, rfl, trivial⟩
                  | exact VV.loc (fY ⟨d59, Or.inr (by rw [ey]; exact c110)⟩) ⟨rfl, rfl, rfl, rfl, rfl, trivial⟩
                  | (rw [← hy]; exact VV.loc (fN (fun q => by rcases q.2 with z | z; exact c92 z; rw [ey] at z; exact absurd c110 (Int.not_le.mpr z))) ⟨rfl, rfl, rfl, rfl, rfl, trivial⟩)
              ·
                refine v_iload_n (pc := 90) h (dk dt_X12_chooses 49 rfl) rfl ?_
                refine v_iconst (pc := 91) h (dk dt_X12_chooses 50 rfl) ?_
                refine v_icmp_eq (pc := 92) h 113 (dk dt_X12_chooses 51 rfl) rfl (by omega) (fun c92 => ?_) (fun c92 => ?_)
                ·
                  refine v_iload (pc := 113) h (dk dt_X12_chooses 63 rfl) rfl ?_
                  refine v_istore_n (lv' := [(3, _), (5, _), (4, _), (0, _), (1, _), (2, _)]) (pc := 115) h (dk dt_X12_chooses 64 rfl) (Nat.le_of_ble_eq_true rfl) rfl ?_
                  refine v_iinc (lv' := [(4, _), (3, _), (5, _), (0, _), (1, _), (2, _)]) (pc := 116) h (dk dt_X12_chooses 65 rfl) rfl (Nat.le_of_ble_eq_true rfl) rfl ?_
                  refine v_goto (pc := 119) h 44 (dk dt_X12_chooses 66 rfl) rfl ?_
                  first
                    | exact absurd rfl c87
                    | exact absurd c87 (by decide)
                    | exact VV.loc (fN (fun q => d59 q.1)) ⟨rfl, rfl, rfl, rfl, rfl, trivial⟩
                    | exact VV.loc (fY ⟨d59, Or.inl c92⟩) ⟨rfl, rfl, rfl, rfl, rfl, trivial⟩
                    | exact VV.loc (fY ⟨d59, Or.inr (by rw [ey]; exact c110)⟩) ⟨rfl, rfl, rfl, rfl, rfl, trivial⟩
                    | (rw [← hy]; exact VV.loc (fN (fun q => by rcases q.2 with z | z; exact c92 z; rw [ey] at z; exact absurd c110 (Int.not_le.mpr z))) ⟨rfl, rfl, rfl, rfl, rfl, trivial⟩)
                ·
                  obtain ⟨y, hy⟩ : ∃ y : Nat, bsF (jm μ) n K s.1 i = (y : Int) := ⟨(bsF (jm μ) n K s.1 i).toNat, by omega⟩
                  have hyn : y < n := by omega
                  have hkI2 := hkI y hyn
                  have ey : (bsF (jm μ) n K s.1 i).toNat = y := by omega
                  rw [hy]
                  refine v_aload_n (pc := 95) h (dk dt_X12_chooses 52 rfl) rfl ?_
                  refine v_iload_n (pc := 96) h (dk dt_X12_chooses 53 rfl) rfl ?_
                  refine v_iload (pc := 97) h (dk dt_X12_chooses 54 rfl) rfl ?_
                  refine v_iload_n (pc := 99) h (dk dt_X12_chooses 55 rfl) rfl ?_
                  refine v_cVi (pc := 100) h (c_X12_keyOf h.quiet hE hs hn hb hB hK hrow (by omega)) kv_X12_keyOf sh123 wM_X12_176 rfl rfl (Nat.le_of_ble_eq_true rfl) (RM.of rfl) rfl rfl (dk dt_X12_chooses 56 rfl) ?_
                  refine v_aload_n (pc := 103) h (dk dt_X12_chooses 57 rfl) rfl ?_
                  refine v_iload_n (pc := 104) h (dk dt_X12_chooses 58 rfl) rfl ?_
                  refine v_iload_n (pc := 105) h (dk dt_X12_chooses 59 rfl) rfl ?_
                  refine v_iload_n (pc := 106) h (dk dt_X12_chooses 60 rfl) rfl ?_
                  refine v_cVi (pc := 107) h (c_X12_keyOf h.quiet hE hs hn hb hB hK hrow (by omega)) kv_X12_keyOf sh123 wM_X12_176 rfl rfl (Nat.le_of_ble_eq_true rfl) (RM.of rfl) rfl rfl (dk dt_X12_chooses 61 rfl) ?_
                  refine v_icmp_ge (pc := 110) h 116 (dk dt_X12_chooses 62 rfl) rfl ⟨hkI1, hkI2⟩ (fun c110 => ?_) (fun c110 => ?_)
                  ·
                    refine v_iinc (lv' := [(4, _), (5, _), (3, _), (0, _), (1, _), (2, _)]) (pc := 116) h (dk dt_X12_chooses 65 rfl) rfl (Nat.le_of_ble_eq_true rfl) rfl ?_
                    refine v_goto (pc := 119) h 44 (dk dt_X12_chooses 66 rfl) rfl ?_
                    first
                      | exact absurd rfl c87
                      | exact absurd c87 (by decide)
                      | exact VV.loc (fN (fun q => d59 q.1)) ⟨rfl, rfl, rfl, rfl, rfl, trivial⟩
                      | exact VV.loc (fY ⟨d59, Or.inl c92⟩) ⟨rfl, rfl, rfl, rfl, rfl, trivial⟩
                      | exact VV.loc (fY ⟨d59, Or.inr (by rw [ey]; exact c110)⟩) ⟨rfl, rfl, rfl, rfl, rfl, trivial⟩
                      | (rw [← hy]; exact VV.loc (fN (fun q => by rcases q.2 with z | z; exact c92 z; rw [ey] at z; exact absurd c110 (Int.not_le.mpr z))) ⟨rfl, rfl, rfl, rfl, rfl, trivial⟩)
                  ·
                    refine v_iload (pc := 113) h (dk dt_X12_chooses 63 rfl) rfl ?_
                    refine v_istore_n (lv' := [(3, _), (5, _), (4, _), (0, _), (1, _), (2, _)]) (pc := 115) h (dk dt_X12_chooses 64 rfl) (Nat.le_of_ble_eq_true rfl) rfl ?_
                    refine v_iinc (lv' := [(4, _), (3, _), (5, _), (0, _), (1, _), (2, _)]) (pc := 116) h (dk dt_X12_chooses 65 rfl) rfl (Nat.le_of_ble_eq_true rfl) rfl ?_
                    refine v_goto (pc := 119) h 44 (dk dt_X12_chooses 66 rfl) rfl ?_
                    first
                      | exact absurd rfl c87
                      | exact absurd c87 (by decide)
                      | exact VV.loc (fN (fun q => d59 q.1)) ⟨rfl, rfl, rfl, rfl, rfl, trivial⟩
                      | exact VV.loc (fY ⟨d59, Or.inl c92⟩) ⟨rfl, rfl, rfl, rfl, rfl, trivial⟩
                      | exact VV.loc (fY ⟨d59, Or.inr (by rw [ey]; exact c110)⟩) ⟨rfl, rfl, rfl, rfl, rfl, trivial⟩
                      | (rw [← hy]; exact VV.loc (fN (fun q => by rcases q.2 with z | z; exact c92 z; rw [ey] at z; exact absurd c110 (Int.not_le.mpr z))) ⟨rfl, rfl, rfl, rfl, rfl, trivial⟩)
            ·
              have d59 : okR (jm μ) n K s.1 i := ⟨d59, fun _ => by omega⟩
              refine v_iconst (pc := 78) h (dk dt_X12_chooses 43 rfl) ?_
              refine v_goto (pc := 79) h 83 (dk dt_X12_chooses 44 rfl) rfl ?_
              refine v_istore (lv' := [(5, _), (4, _), (3, _), (0, _), (1, _), (2, _)]) (pc := 83) h (dk dt_X12_chooses 46 rfl) (Nat.le_of_ble_eq_true rfl) rfl ?_
              refine v_iload (pc := 85) h (dk dt_X12_chooses 47 rfl) rfl ?_
              refine v_if_eq (pc := 87) h 116 (dk dt_X12_chooses 48 rfl) rfl (by omega) (fun c87 => ?_) (fun c87 => ?_)
              ·
                refine v_iinc (lv' := [(4, _), (5, _), (3, _), (0, _), (1, _), (2, _)]) (pc := 116) h (dk dt_X12_chooses 65 rfl) rfl (Nat.le_of_ble_eq_true rfl) rfl ?_
                refine v_goto (pc := 119) h 44 (dk dt_X12_chooses 66 rfl) rfl ?_
                first
                  | exact absurd rfl c87
                  | exact absurd c87 (by decide)
                  | exact VV.loc (fN (fun q => d59 q.1)) ⟨rfl, rfl, rfl, rfl, rfl, trivial⟩
                  | exact VV.loc (fY ⟨d59, Or.inl c92⟩) ⟨rfl, rfl, rfl, rfl, rfl, trivial⟩
                  | exact VV.loc (fY ⟨d59, Or.inr (by rw [ey]; exact c110)⟩) ⟨rfl, rfl, rfl, rfl, rfl, trivial⟩
                  | (rw [← hy]; exact VV.loc (fN (fun q => by rcases q.2 with z | z; exact c92 z; rw [ey] at z; exact absurd c110 (Int.not_le.mpr z))) ⟨rfl, rfl, rfl, rfl, rfl, trivial⟩)
              ·
                refine v_iload_n (pc := 90) h (dk dt_X12_chooses 49 rfl) rfl ?_
                refine v_iconst (pc := 91) h (dk dt_X12_chooses 50 rfl) ?_
                refine v_icmp_eq (pc := 92) h 113 (dk dt_X12_chooses 51 rfl) rfl (by omega) (fun c92 => ?_) (fun c92 => ?_)
                ·
                  refine v_iload (pc := 113) h (dk dt_X12_chooses 63 rfl) rfl ?_
                  refine v_istore_n (lv' := [(3, _), (5, _), (4, _), (0, _), (1, _), (2, _)]) (pc := 115) h (dk dt_X12_chooses 64 rfl) (Nat.le_of_ble_eq_true rfl) rfl ?_
                  refine v_iinc (lv' := [(4, _), (3, _), (5, _), (0, _), (1, _), (2, _)]) (pc := 116) h (dk dt_X12_chooses 65 rfl) rfl (Nat.le_of_ble_eq_true rfl) rfl ?_
                  refine v_goto (pc := 119) h 44 (dk dt_X12_chooses 66 rfl) rfl ?_
                  first
                    | exact absurd rfl c87
                    | exact absurd c87 (by decide)
                    | exact VV.loc (fN (fun q => d59 q.1)) ⟨rfl, rfl, rfl, rfl, rfl, trivial⟩
                    | exact VV.loc (fY ⟨d59, Or.inl c92⟩) ⟨rfl, rfl, rfl, rfl, rfl, trivial⟩
                    | exact VV.loc (fY ⟨d59, Or.inr (by rw [ey]; exact c110)⟩) ⟨rfl, rfl, rfl, rfl, rfl, trivial⟩
                    | (rw [← hy]; exact VV.loc (fN (fun q => by rcases q.2 with z | z; exact c92 z; rw [ey] at z; exact absurd c110 (Int.not_le.mpr z))) ⟨rfl, rfl, rfl, rfl, rfl, trivial⟩)
                ·
                  obtain ⟨y, hy⟩ : ∃ y : Nat, bsF (jm μ) n K s.1 i = (y : Int) := ⟨(bsF (jm μ) n K s.1 i).toNat, by omega⟩
                  have hyn : y < n := by omega
                  have hkI2 := hkI y hyn
                  have ey : (bsF (jm μ) n K s.1 i).toNat = y := by omega
                  rw [hy]
                  refine v_aload_n (pc := 95) h (dk dt_X12_chooses 52 rfl) rfl ?_
                  refine v_iload_n (pc := 96) h (dk dt_X12_chooses 53 rfl) rfl ?_
                  refine v_iload (pc := 97) h (dk dt_X12_chooses 54 rfl) rfl ?_
                  refine v_iload_n (pc := 99) h (dk dt_X12_chooses 55 rfl) rfl ?_
                  refine v_cVi (pc := 100) h (c_X12_keyOf h.quiet hE hs hn hb hB hK hrow (by omega)) kv_X12_keyOf sh123 wM_X12_176 rfl rfl (Nat.le_of_ble_eq_true rfl) (RM.of rfl) rfl rfl (dk dt_X12_chooses 56 rfl) ?_
                  refine v_aload_n (pc := 103) h (dk dt_X12_chooses 57 rfl) rfl ?_
                  refine v_iload_n (pc := 104) h (dk dt_X12_chooses 58 rfl) rfl ?_
                  refine v_iload_n (pc := 105) h (dk dt_X12_chooses 59 rfl) rfl ?_
                  refine v_iload_n (pc := 106) h (dk dt_X12_chooses 60 rfl) rfl ?_
                  refine v_cVi (pc := 107) h (c_X12_keyOf h.quiet hE hs hn hb hB hK hrow (by omega)) kv_X12_keyOf sh123 wM_X12_176 rfl rfl (Nat.le_of_ble_eq_true rfl) (RM.of rfl) rfl rfl (dk dt_X12_chooses 61 rfl) ?_
                  refine v_icmp_ge (pc := 110) h 116 (dk dt_X12_chooses 62 rfl) rfl ⟨hkI1, hkI2⟩ (fun c110 => ?_) (fun c110 => ?_)
                  ·
                    refine v_iinc (lv' := [(4, _), (5, _), (3, _), (0, _), (1, _), (2, _)]) (pc := 116) h (dk dt_X12_chooses 65 rfl) rfl (Nat.le_of_ble_eq_true rfl) rfl ?_
                    refine v_goto (pc := 119) h 44 (dk dt_X12_chooses 66 rfl) rfl ?_
                    first
                      | exact absurd rfl c87
                      | exact absurd c87 (by decide)
                      | exact VV.loc (fN (fun q => d59 q.1)) ⟨rfl, rfl, rfl, rfl, rfl, trivial⟩
                      | exact VV.loc (fY ⟨d59, Or.inl c92⟩) ⟨rfl, rfl, rfl, rfl, rfl, trivial⟩
                      | exact VV.loc (fY ⟨d59, Or.inr (by rw [ey]; exact c110)⟩) ⟨rfl, rfl, rfl, rfl, rfl, trivial⟩
                      | (rw [← hy]; exact VV.loc (fN (fun q => by rcases q.2 with z | z; exact c92 z; rw [ey] at z; exact absurd c110 (Int.not_le.mpr z))) ⟨rfl, rfl, rfl, rfl, rfl, trivial⟩)
                  ·
                    refine v_iload (pc := 113) h (dk dt_X12_chooses 63 rfl) rfl ?_
                    refine v_istore_n (lv' := [(3, _), (5, _), (4, _), (0, _), (1, _), (2, _)]) (pc := 115) h (dk dt_X12_chooses 64 rfl) (Nat.le_of_ble_eq_true rfl) rfl ?_
                    refine v_iinc (lv' := [(4, _), (3, _), (5, _), (0, _), (1, _), (2, _)]) (pc := 116) h (dk dt_X12_chooses 65 rfl) rfl (Nat.le_of_ble_eq_true rfl) rfl ?_
                    refine v_goto (pc := 119) h 44 (dk dt_X12_chooses 66 rfl) rfl ?_
                    first
                      | exact absurd rfl c87
                      | exact absurd c87 (by decide)
                      | exact VV.loc (fN (fun q => d59 q.1)) ⟨rfl, rfl, rfl, rfl, rfl, trivial⟩
                      | exact VV.loc (fY ⟨d59, Or.inl c92⟩) ⟨rfl, rfl, rfl, rfl, rfl, trivial⟩
                      | exact VV.loc (fY ⟨d59, Or.inr (by rw [ey]; exact c110)⟩) ⟨rfl, rfl, rfl, rfl, rfl, trivial⟩
                      | (rw [← hy]; exact VV.loc (fN (fun q => by rcases q.2 with z | z; exact c92 z; rw [ey] at z; exact absurd c110 (Int.not_le.mpr z))) ⟨rfl, rfl, rfl, rfl, rfl, trivial⟩)
  refine v_iload_n (pc := 0) h (dk dt_X12_chooses 0 rfl) rfl ?_
  refine v_if_eq (pc := 1) h 9 (dk dt_X12_chooses 1 rfl) rfl (by omega) (fun c1 => ?_) (fun c1 => ?_)
  ·
    refine v_iconst (pc := 9) h (dk dt_X12_chooses 5 rfl) ?_
    refine v_istore_n (lv' := [(3, _), (0, _), (1, _), (2, _)]) (pc := 10) h (dk dt_X12_chooses 6 rfl) (Nat.le_of_ble_eq_true rfl) rfl ?_
    exact VV.loc (go11 (by omega)) ⟨rfl, rfl, trivial⟩
  ·
    refine v_iload_n (pc := 4) h (dk dt_X12_chooses 2 rfl) rfl ?_
    refine v_iconst (pc := 5) h (dk dt_X12_chooses 3 rfl) ?_
    refine v_icmp_ne (pc := 6) h 39 (dk dt_X12_chooses 4 rfl) rfl (by omega) (fun c6 => ?_) (fun c6 => ?_)
    ·
      refine v_iconst (pc := 39) h (dk dt_X12_chooses 23 rfl) ?_
      refine v_istore_n (lv' := [(3, _), (0, _), (1, _), (2, _)]) (pc := 40) h (dk dt_X12_chooses 24 rfl) (Nat.le_of_ble_eq_true rfl) rfl ?_
      refine v_iconst (pc := 41) h (dk dt_X12_chooses 25 rfl) ?_
      refine v_istore (lv' := [(4, _), (3, _), (0, _), (1, _), (2, _)]) (pc := 42) h (dk dt_X12_chooses 26 rfl) (Nat.le_of_ble_eq_true rfl) rfl ?_
      exact VV.loc (loop (by omega) n 0 (by omega)) ⟨rfl, rfl, rfl, rfl, rfl, trivial⟩
    ·
      refine v_iconst (pc := 9) h (dk dt_X12_chooses 5 rfl) ?_
      refine v_istore_n (lv' := [(3, _), (0, _), (1, _), (2, _)]) (pc := 10) h (dk dt_X12_chooses 6 rfl) (Nat.le_of_ble_eq_true rfl) rfl ?_
      exact VV.loc (go11 (by omega)) ⟨rfl, rfl, trivial⟩
end
