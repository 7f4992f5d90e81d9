/-! ===== the model: two workers' run ===== -/
section
variable {l : Launch} {B : Nat} {D : va_G} {E : Nat → ClassId} {μ m σ : Mm} {w n : Nat} {K : Nat → Int} {s : St} {J : Mm}
theorem okK2 {le : Int} : okK (K2 le) := ⟨by rw [K2_0]; split <;> omega, show (1 : Int) ≤ 1 ∧ (1 : Int) ≤ 20 by decide, show (0 : Int) ≤ 0 ∧ (0 : Int) ≤ 5 by decide, Or.inl rfl, show (0 : Int) ≤ 0 ∧ (0 : Int) ≤ 99 by decide⟩
theorem vR_ts (hR : vR n σ) (hB : 0 ≤ σ 6 6) : vR n (tsN J n K σ) := by
  intro j hj
  have e5 : tsN J n K σ 5 j = adN J n σ 5 j := by
    unfold tsN; rw [mup_nk (by omega), p1_o _ (a := 5) (by decide) (by decide), p1_o _ (a := 5) (by decide) (by decide)]
  have e2 : tsN J n K σ 2 j = adN J n σ 2 j := by
    unfold tsN; rw [mup_nk (by omega), p1_o _ (a := 2) (by decide) (by decide), p1_o _ (a := 2) (by decide) (by decide)]
  rw [e5, e2, ts_66, ad_5, ad_2]
  by_cases c : comP J σ (σ 6 6) j
  · rw [if_pos ⟨hj, c⟩, if_pos ⟨hj, c⟩]; intro _; omega
  · rw [if_neg (fun z => c z.2), if_neg (fun z => c z.2)]
    intro q
    have := hR j hj q
    omega
/-- the model's memory in a run of two -/
abbrev bT (n : Nat) (μ m σ : Mm) : Prop := frR μ m ∧ bP n m σ ∧ (bQ m 0 [] ∧ bQ m 1 [] ∧ bQ m 2 []) ∧ m 123 34 = cN σ n
theorem Mwk_T {j : Nat} (h : bT n μ m σ) (hj : j < n) (h0 : 1 ≤ σ 0 j) : bT n μ (Mwk m j (σ 6 6)) (p1N σ (j : Int)) := by
  have h2 := Mwk_p h.2.1 hj h0 h.2.2.2
  refine ⟨⟨fun a h1 h2 => by rw [Mwk_o h1 (by omega) (by omega)]; exact h.1.1 a h1 h2, fun b h1 h2 h3 => by rw [Mwk_123 h2]; exact h.1.2 b h1 h2 h3⟩, h2.1, ⟨?_, ?_, ?_⟩, h2.2⟩
  · exact bQ_c (Mwk_o (by decide) (by decide) (by decide)) (Mwk_o (by decide) (by decide) (by decide)) (Mwk_o (by decide) (by decide) (by decide)) h.2.2.1.1
  · exact bQ_c (Mwk_o (by decide) (by decide) (by decide)) (Mwk_o (by decide) (by decide) (by decide)) (Mwk_o (by decide) (by decide) (by decide)) h.2.2.1.2.1
  · exact bQ_c (Mwk_o (by decide) (by decide) (by decide)) (Mwk_o (by decide) (by decide) (by decide)) (Mwk_o (by decide) (by decide) (by decide)) h.2.2.1.2.2
theorem c_X12_two (hst : l.stackTraces = false) (hE : eqJ μ) (hO : hOK μ) (hn : μ 1 9 = (n : Int)) {le la : Int} (hle : le = 0 ∨ le = 1) (hla : la = 0 ∨ la = 1) :
    Ct l B D E yX12_two (.code yX12_two cX12_two 8 (some .int)) rm_X12_two [.ref (pl B 123), iI le, iI la] μ (fun v m => v = some (iI (anTw (jm μ) n le la)) ∧ fT μ m) NX := by
  have hs := hO.J
  have hn12 := hs.1
  have hD := okJD hs hn
  have ht := tn_is (n := n) hD (le := le)
  have hd : ∀ j : Nat, j < n → 0 ≤ μ 7 j ∧ μ 7 j ≤ 400 := fun j hj => (hs.2 j (by omega)).2.2.1
  refine ct_of (own := RX12) (lv := [(0, _), (1, _), (2, _)]) hst (by decide) rfl rfl (Nat.le_of_ble_eq_true rfl) fun a h r t => ?_
  have go128 : ∀ m, bT n μ m (tnN (jm μ) n le) → VV a B (SP B D E m) 0 0 128 [(0, .ref (pl B 123)), (1, iI le), (2, iI la)] [] := by
    intro m hT
    have e9 : m 123 9 = (n : Int) := by rw [hT.1.2 9 (by decide) (by decide) (by decide)]; exact eqJ_n hE hn
    have e126 : ∀ j, m 126 j = μ 7 j := fun j => by rw [hT.1.1 126 (by decide) (by decide), hE.1.2.2.1]
    have h142 : ∀ j, j < n → m 142 j = tnN (jm μ) n le 1 j ∧ 0 ≤ tnN (jm μ) n le 1 j ∧ tnN (jm μ) n le 1 j ≤ 460 := fun j hj => by
      have h1 := (ht.1.2 j hj).2.2.2.2.1 (ht.2.1 j hj)
      have h2 := okD_c hD hj
      exact ⟨(hT.2.1 j hj).2.1, by omega, by omega⟩
    generalize hS : tnN (jm μ) n le = σ at *
    have hsm : ∀ i, i ≤ n → 0 ≤ smF (σ 1) i ∧ smF (σ 1) i ≤ 460 * i := by
      intro i
      induction i with
      | zero => intro _; simp [smF]
      | succ i ih => intro hi; have := ih (by omega); have h2 := h142 i (by omega); simp only [smF]; omega
    have hlb := latN_b (μ 7) (σ 1)
    have ean : anTw (jm μ) n le la = if la = 0 then smF (σ 1) n else latN (μ 7) (σ 1) n := by unfold anTw; rw [hS]; rfl
    rw [ean] at r
    rcases hla with rfl | rfl
    · have loop : ∀ (d i : Nat), i + d = n → VV a B (SP B D E m) 0 0 134 [(5, iI (i : Int)), (4, iI (smF (σ 1) i)), (0, .ref (pl B 123)), (2, iI 0)] [] := by
        intro d
        induction d with
        | zero =>
          intro i hi
          have e : i = n := by omega
          rw [if_pos rfl] at r
          refine v_iload (pc := 134) h (dk dt_X12_two 72 rfl) rfl ?_
          refine v_aload_n (pc := 136) h (dk dt_X12_two 73 rfl) rfl ?_
          refine v_geti (pc := 137) h ci12 sh123 (Nat.le_of_ble_eq_true rfl) (j := 9) wF_X12_108 rfl (dk dt_X12_two 74 rfl) ?_
          refine v_icmp_ge (pc := 140) h 200 (dk dt_X12_two 75 rfl) rfl (by omega) (fun c140 => ?_) (fun c140 => ?_)
          ·
            refine v_aload_n (pc := 200) h (dk dt_X12_two 105 rfl) rfl ?_
            refine v_iload (pc := 201) h (dk dt_X12_two 106 rfl) rfl ?_
            refine v_cVi (pc := 203) h (c_X12_told h.quiet) kv_X12_told sh123 wM_X12_115 rfl rfl (Nat.le_of_ble_eq_true rfl) (RM.of rfl) rfl rfl (dk dt_X12_two 107 rfl) ?_
            exact v_iret (pc := 206) h r (dk dt_X12_two 108 rfl) (Nat.le_of_ble_eq_true rfl) (Nat.le_of_ble_eq_true rfl) ⟨by rw [e], frR_14 (x := 0) hT.1⟩
          ·
            exact absurd c140 (by omega)
        | succ d ih =>
          intro i hi
          have hq := hsm i (by omega)
          have hq2 := hsm (i + 1) (by omega)
          simp only [smF] at hq2
          have h1 := h142 i (by omega)
          refine v_iload (pc := 134) h (dk dt_X12_two 72 rfl) rfl ?_
          refine v_aload_n (pc := 136) h (dk dt_X12_two 73 rfl) rfl ?_
          refine v_geti (pc := 137) h ci12 sh123 (Nat.le_of_ble_eq_true rfl) (j := 9) wF_X12_108 rfl (dk dt_X12_two 74 rfl) ?_
          refine v_icmp_ge (pc := 140) h 200 (dk dt_X12_two 75 rfl) rfl (by omega) (fun c140 => ?_) (fun c140 => ?_)
          ·
            exact absurd c140 (by omega)
          ·
            refine v_iload (pc := 143) h (dk dt_X12_two 76 rfl) rfl ?_
            refine v_iload_n (pc := 145) h (dk dt_X12_two 77 rfl) rfl ?_
            refine v_if_ne (pc := 146) h 159 (dk dt_X12_two 78 rfl) rfl (by omega) (fun c146 => ?_) (fun c146 => ?_)
            ·
              exact absurd rfl c146
            ·
              refine v_aload_n (pc := 149) h (dk dt_X12_two 79 rfl) rfl ?_
              refine v_getr (pc := 150) h ci12 sh123 (Nat.le_of_ble_eq_true rfl) (j := 28) wF_X12_77 rfl (dk dt_X12_two 80 rfl) ?_
              refine v_iload (pc := 153) h (dk dt_X12_two 81 rfl) rfl ?_
              refine v_iald (pc := 155) h sh142 (Nat.le_of_ble_eq_true rfl) (by omega) (dk dt_X12_two 82 rfl) ?_
              rw [Int.toNat_natCast, h1.1]
              refine v_goto (pc := 156) h 191 (dk dt_X12_two 83 rfl) rfl ?_
              refine v_iadd (pc := 191) h (dk dt_X12_two 101 rfl) ?_
              refine v_istore (lv' := [(4, _), (5, _), (0, _), (2, _)]) (pc := 192) h (dk dt_X12_two 102 rfl) (Nat.le_of_ble_eq_true rfl) rfl ?_
              refine v_iinc (lv' := [(5, _), (4, _), (0, _), (2, _)]) (pc := 194) h (dk dt_X12_two 103 rfl) rfl (Nat.le_of_ble_eq_true rfl) rfl ?_
              refine v_goto (pc := 197) h 134 (dk dt_X12_two 104 rfl) rfl ?_
              exact VV.loc (ih (i + 1) (by omega)) ⟨rfl, rfl, rfl, rfl, trivial⟩
      refine v_iconst (pc := 128) h (dk dt_X12_two 68 rfl) ?_
      refine v_istore (lv' := [(4, _), (0, _), (1, _), (2, _)]) (pc := 129) h (dk dt_X12_two 69 rfl) (Nat.le_of_ble_eq_true rfl) rfl ?_
      refine v_iconst (pc := 131) h (dk dt_X12_two 70 rfl) ?_
      refine v_istore (lv' := [(5, _), (4, _), (0, _), (1, _), (2, _)]) (pc := 132) h (dk dt_X12_two 71 rfl) (Nat.le_of_ble_eq_true rfl) rfl ?_
      exact VV.loc (loop n 0 (by omega)) ⟨rfl, rfl, rfl, rfl, trivial⟩
    · have loop : ∀ (d i : Nat), i + d = n → VV a B (SP B D E m) 0 0 134 [(5, iI (i : Int)), (4, iI (latN (μ 7) (σ 1) i)), (0, .ref (pl B 123)), (2, iI 1)] [] := by
        intro d
        induction d with
        | zero =>
          intro i hi
          have e : i = n := by omega
          rw [if_neg (by decide)] at r
          refine v_iload (pc := 134) h (dk dt_X12_two 72 rfl) rfl ?_
          refine v_aload_n (pc := 136) h (dk dt_X12_two 73 rfl) rfl ?_
          refine v_geti (pc := 137) h ci12 sh123 (Nat.le_of_ble_eq_true rfl) (j := 9) wF_X12_108 rfl (dk dt_X12_two 74 rfl) ?_
          refine v_icmp_ge (pc := 140) h 200 (dk dt_X12_two 75 rfl) rfl (by omega) (fun c140 => ?_) (fun c140 => ?_)
          ·
            refine v_aload_n (pc := 200) h (dk dt_X12_two 105 rfl) rfl ?_
            refine v_iload (pc := 201) h (dk dt_X12_two 106 rfl) rfl ?_
            refine v_cVi (pc := 203) h (c_X12_told h.quiet) kv_X12_told sh123 wM_X12_115 rfl rfl (Nat.le_of_ble_eq_true rfl) (RM.of rfl) rfl rfl (dk dt_X12_two 107 rfl) ?_
            exact v_iret (pc := 206) h r (dk dt_X12_two 108 rfl) (Nat.le_of_ble_eq_true rfl) (Nat.le_of_ble_eq_true rfl) ⟨by rw [e], frR_14 (x := 0) hT.1⟩
          ·
            exact absurd c140 (by omega)
        | succ d ih =>
          intro i hi
          have hli := hlb i
          have h1 := h142 i (by omega)
          have hdi := hd i (by omega)
          have lN : latN (μ 7) (σ 1) (i + 1) = latN (μ 7) (σ 1) i + if 0 < lat (μ 7 i) (σ 1 i) then 1 else 0 := rfl
          have l1 : μ 7 i = 0 ∨ σ 1 i ≤ μ 7 i → latN (μ 7) (σ 1) (i + 1) = latN (μ 7) (σ 1) i + 0 := fun q => by
            rw [lN, if_neg (by unfold lat; split; omega; rw [if_neg (by omega)]; omega)]
          have l2 : ¬ (μ 7 i = 0 ∨ σ 1 i ≤ μ 7 i) → latN (μ 7) (σ 1) (i + 1) = latN (μ 7) (σ 1) i + 1 := fun q => by
            rw [lN, if_pos (by unfold lat; rw [if_neg (by omega), if_pos (by omega)]; omega)]
          refine v_iload (pc := 134) h (dk dt_X12_two 72 rfl) rfl ?_
          refine v_aload_n (pc := 136) h (dk dt_X12_two 73 rfl) rfl ?_
          refine v_geti (pc := 137) h ci12 sh123 (Nat.le_of_ble_eq_true rfl) (j := 9) wF_X12_108 rfl (dk dt_X12_two 74 rfl) ?_
          refine v_icmp_ge (pc := 140) h 200 (dk dt_X12_two 75 rfl) rfl (by omega) (fun c140 => ?_) (fun c140 => ?_)
          ·
            exact absurd c140 (by omega)
          ·
            refine v_iload (pc := 143) h (dk dt_X12_two 76 rfl) rfl ?_
            refine v_iload_n (pc := 145) h (dk dt_X12_two 77 rfl) rfl ?_
            refine v_if_ne (pc := 146) h 159 (dk dt_X12_two 78 rfl) rfl (by omega) (fun c146 => ?_) (fun c146 => ?_)
            ·
              refine v_aload_n (pc := 159) h (dk dt_X12_two 84 rfl) rfl ?_
              refine v_getr (pc := 160) h ci12 sh123 (Nat.le_of_ble_eq_true rfl) (j := 2) wF_X12_16 rfl (dk dt_X12_two 85 rfl) ?_
              refine v_iload (pc := 163) h (dk dt_X12_two 86 rfl) rfl ?_
              refine v_iald (pc := 165) h sh126 (Nat.le_of_ble_eq_true rfl) (by omega) (dk dt_X12_two 87 rfl) ?_
              rw [Int.toNat_natCast, e126]
              refine v_if_le (pc := 166) h 190 (dk dt_X12_two 88 rfl) rfl (by omega) (fun c166 => ?_) (fun c166 => ?_)
              ·
                refine v_iconst (pc := 190) h (dk dt_X12_two 100 rfl) ?_
                refine v_iadd (pc := 191) h (dk dt_X12_two 101 rfl) ?_
                refine v_istore (lv' := [(4, _), (5, _), (0, _), (2, _)]) (pc := 192) h (dk dt_X12_two 102 rfl) (Nat.le_of_ble_eq_true rfl) rfl ?_
                refine v_iinc (lv' := [(5, _), (4, _), (0, _), (2, _)]) (pc := 194) h (dk dt_X12_two 103 rfl) rfl (Nat.le_of_ble_eq_true rfl) rfl ?_
                refine v_goto (pc := 197) h 134 (dk dt_X12_two 104 rfl) rfl ?_
                first
                  | (have q : μ 7 i = 0 ∨ σ 1 i ≤ μ 7 i := by omega
                     exact VV.loc (lv' := [(5, _), (4, _), (0, _), (2, _)]) (ih (i + 1) (by omega)) ⟨rfl, lvI (l1 q).symm, rfl, rfl, trivial⟩)
                  | (have q : ¬ (μ 7 i = 0 ∨ σ 1 i ≤ μ 7 i) := by omega
                     exact VV.loc (lv' := [(5, _), (4, _), (0, _), (2, _)]) (ih (i + 1) (by omega)) ⟨rfl, lvI (l2 q).symm, rfl, rfl, trivial⟩)
              ·
                refine v_aload_n (pc := 169) h (dk dt_X12_two 89 rfl) rfl ?_
                refine v_getr (pc := 170) h ci12 sh123 (Nat.le_of_ble_eq_true rfl) (j := 28) wF_X12_77 rfl (dk dt_X12_two 90 rfl) ?_
                refine v_iload (pc := 173) h (dk dt_X12_two 91 rfl) rfl ?_
                refine v_iald (pc := 175) h sh142 (Nat.le_of_ble_eq_true rfl) (by omega) (dk dt_X12_two 92 rfl) ?_
                rw [Int.toNat_natCast, h1.1]
                refine v_aload_n (pc := 176) h (dk dt_X12_two 93 rfl) rfl ?_
                refine v_getr (pc := 177) h ci12 sh123 (Nat.le_of_ble_eq_true rfl) (j := 2) wF_X12_16 rfl (dk dt_X12_two 94 rfl) ?_
                refine v_iload (pc := 180) h (dk dt_X12_two 95 rfl) rfl ?_
                refine v_iald (pc := 182) h sh126 (Nat.le_of_ble_eq_true rfl) (by omega) (dk dt_X12_two 96 rfl) ?_
                rw [Int.toNat_natCast, e126]
                refine v_icmp_le (pc := 183) h 190 (dk dt_X12_two 97 rfl) rfl (by omega) (fun c183 => ?_) (fun c183 => ?_)
                ·
                  refine v_iconst (pc := 190) h (dk dt_X12_two 100 rfl) ?_
                  refine v_iadd (pc := 191) h (dk dt_X12_two 101 rfl) ?_
                  refine v_istore (lv' := [(4, _), (5, _), (0, _), (2, _)]) (pc := 192) h (dk dt_X12_two 102 rfl) (Nat.le_of_ble_eq_true rfl) rfl ?_
                  refine v_iinc (lv' := [(5, _), (4, _), (0, _), (2, _)]) (pc := 194) h (dk dt_X12_two 103 rfl) rfl (Nat.le_of_ble_eq_true rfl) rfl ?_
                  refine v_goto (pc := 197) h 134 (dk dt_X12_two 104 rfl) rfl ?_
                  first
                    | (have q : μ 7 i = 0 ∨ σ 1 i ≤ μ 7 i := by omega
                       exact VV.loc (lv' := [(5, _), (4, _), (0, _), (2, _)]) (ih (i + 1) (by omega)) ⟨rfl, lvI (l1 q).symm, rfl, rfl, trivial⟩)
                    | (have q : ¬ (μ 7 i = 0 ∨ σ 1 i ≤ μ 7 i) := by omega
                       exact VV.loc (lv' := [(5, _), (4, _), (0, _), (2, _)]) (ih (i + 1) (by omega)) ⟨rfl, lvI (l2 q).symm, rfl, rfl, trivial⟩)
                ·
                  refine v_iconst (pc := 186) h (dk dt_X12_two 98 rfl) ?_
                  refine v_goto (pc := 187) h 191 (dk dt_X12_two 99 rfl) rfl ?_
                  refine v_iadd (pc := 191) h (dk dt_X12_two 101 rfl) ?_
                  refine v_istore (lv' := [(4, _), (5, _), (0, _), (2, _)]) (pc := 192) h (dk dt_X12_two 102 rfl) (Nat.le_of_ble_eq_true rfl) rfl ?_
                  refine v_iinc (lv' := [(5, _), (4, _), (0, _), (2, _)]) (pc := 194) h (dk dt_X12_two 103 rfl) rfl (Nat.le_of_ble_eq_true rfl) rfl ?_
                  refine v_goto (pc := 197) h 134 (dk dt_X12_two 104 rfl) rfl ?_
                  first
                    | (have q : μ 7 i = 0 ∨ σ 1 i ≤ μ 7 i := by omega
                       exact VV.loc (lv' := [(5, _), (4, _), (0, _), (2, _)]) (ih (i + 1) (by omega)) ⟨rfl, lvI (l1 q).symm, rfl, rfl, trivial⟩)
                    | (have q : ¬ (μ 7 i = 0 ∨ σ 1 i ≤ μ 7 i) := by omega
                       exact VV.loc (lv' := [(5, _), (4, _), (0, _), (2, _)]) (ih (i + 1) (by omega)) ⟨rfl, lvI (l2 q).symm, rfl, rfl, trivial⟩)
            ·
              exact absurd c146 (by decide)
      refine v_iconst (pc := 128) h (dk dt_X12_two 68 rfl) ?_
      refine v_istore (lv' := [(4, _), (0, _), (1, _), (2, _)]) (pc := 129) h (dk dt_X12_two 69 rfl) (Nat.le_of_ble_eq_true rfl) rfl ?_
      refine v_iconst (pc := 131) h (dk dt_X12_two 70 rfl) ?_
      refine v_istore (lv' := [(5, _), (4, _), (0, _), (1, _), (2, _)]) (pc := 132) h (dk dt_X12_two 71 rfl) (Nat.le_of_ble_eq_true rfl) rfl ?_
      exact VV.loc (loop n 0 (by omega)) ⟨rfl, rfl, rfl, rfl, trivial⟩
  have go11 : ∀ ru : Int, (le = 1 ∧ ru = 3) ∨ (le = 0 ∧ ru = 6) → VV a B (SP B D E μ) 0 0 11 [(3, iI ru), (0, .ref (pl B 123)), (1, iI le), (2, iI la)] [] := by
    intro ru hru
    have hK0 : K2 le 0 = ru := by rw [K2_0]; split <;> omega
    have hnr : ¬ rRow (K2 le) := by unfold rRow; omega
    have loop : ∀ (d i : Nat) (m σ : Mm), i + d = 2304 → bT n μ m σ → vB (jm μ) n σ → vW (jm μ) n σ → vR n σ → σ 6 6 ≤ 99 + dnF (jm μ) σ n → σ 6 6 = (i : Int) → tnN (jm μ) n le = twF (jm μ) n (K2 le) d σ → VV a B (SP B D E m) 0 0 18 [(4, iI (i : Int)), (3, iI ru), (0, .ref (pl B 123)), (1, iI le), (2, iI la)] [] := by
      intro d
      induction d with
      | zero =>
        intro i m σ hi hT hB hW hR hdn hti hfn
        exfalso
        have := dn_le hD hB
        omega
      | succ d ih =>
        intro i m σ hi hT hB hW hR hdn hti hfn
        have e9 : m 123 9 = (n : Int) := by rw [hT.1.2 9 (by decide) (by decide) (by decide)]; exact eqJ_n hE hn
        have hcb := cN_b σ n
        have hca := cN_all σ n
        have h34 := hT.2.2.2
        have h460 : dnF (jm μ) σ n ≤ 360 := dn_le hD hB
        by_cases ho : ovr n σ
        · have hc1 := hca.mpr ho
          have z := go128 m (by rw [hfn, twF, if_pos ho]; exact hT)
          refine v_aload_n (pc := 18) h (dk dt_X12_two 10 rfl) rfl ?_
          refine v_geti (pc := 19) h ci12 sh123 (Nat.le_of_ble_eq_true rfl) (j := 34) wF_X12_184 rfl (dk dt_X12_two 11 rfl) ?_
          refine v_aload_n (pc := 22) h (dk dt_X12_two 12 rfl) rfl ?_
          refine v_geti (pc := 23) h ci12 sh123 (Nat.le_of_ble_eq_true rfl) (j := 9) wF_X12_108 rfl (dk dt_X12_two 13 rfl) ?_
          refine v_icmp_ge (pc := 26) h 128 (dk dt_X12_two 14 rfl) rfl (by omega) (fun c26 => ?_) (fun c26 => ?_)
          ·
            exact VV.loc z ⟨rfl, rfl, rfl, trivial⟩
          ·
            exact absurd c26 (by omega)
        · have hc1 : cN σ n ≠ n := fun z => ho (hca.mp z)
          have q := ts_v (K := K2 le) hD hB hW ho hdn
          have qR := vR_ts (J := jm μ) (K := K2 le) hR hB.1
          have next : ∀ m', bT n μ m' (p1N (p1N (adN (jm μ) n σ) (w1N (jm μ) n (K2 le) (adN (jm μ) n σ))) (w2N (jm μ) n (K2 le) (adN (jm μ) n σ))) → VV a B (SP B D E m') 0 0 18 [(4, iI ((i : Int) + 1)), (3, iI ru), (0, .ref (pl B 123)), (1, iI le), (2, iI la)] [] := by
            intro m' hT'
            refine ih (i + 1) m' (tsN (jm μ) n (K2 le) σ) (by omega) ⟨hT'.1, bP_s (by funext b; exact mup_nk (by omega)) (by funext b; exact mup_nk (by omega)) (by funext b; exact mup_nk (by omega)) (by funext b; exact mup_nk (by omega)) (by funext b; exact mup_nk (by omega)) (by funext b; exact mup_nk (by omega)) hT'.2.1, hT'.2.2.1, hT'.2.2.2.trans (cN_c (fun j _ => by unfold tsN; rw [mup_nk (by omega)])).symm⟩ q.1 q.2.1 qR q.2.2 (by rw [ts_66]; omega) (by rw [hfn, twF, if_neg ho])
          clear ih hfn q qR
          have w1 : lsF (jm μ) n (K2 le) (adN (jm μ) n σ) (-1) n = w1N (jm μ) n (K2 le) (adN (jm μ) n σ) := rfl
          have w2 : lsF (jm μ) n (K2 le) (adN (jm μ) n σ) (w1N (jm μ) n (K2 le) (adN (jm μ) n σ)) n = w2N (jm μ) n (K2 le) (adN (jm μ) n σ) := rfl
          have hw1 := w1_is (J := jm μ) (n := n) (K := K2 le) (σ := adN (jm μ) n σ)
          have hw2 := w2_is (J := jm μ) (n := n) (K := K2 le) (σ := adN (jm μ) n σ)
          have e66 : adN (jm μ) n σ 6 6 = (i : Int) := by rw [ad_o (by decide) (by decide) (by decide)]; exact hti
          have hB1 := vB_ad hB
          have c0 : cN (adN (jm μ) n σ) n = cN σ n := cN_c (fun j _ => by rw [ad_o (by decide) (by decide) (by decide)])
          have hl1 : ∀ j, j < n → rdy (adN (jm μ) n σ) j → 1 ≤ adN (jm μ) n σ 0 j ∧ adN (jm μ) n σ 0 j ≤ 30 := fun j hj hr => by have h1 := (hB1.2 j hj).2.1; have h2 := okD_l hD hj; have h3 := hr.2; omega
          generalize hx1 : w1N (jm μ) n (K2 le) (adN (jm μ) n σ) = x1 at *
          generalize hx2 : w2N (jm μ) n (K2 le) (adN (jm μ) n σ) = x2 at *
          have hbr : ∀ m : Mm, eqJ m → okJ m → m 1 9 = (n : Int) → jm m = jm μ → bT n μ m σ → Ct (axL a) B D E yX12_becomesReady (.code yX12_becomesReady cX12_becomesReady 4 none) rm_X12_becomesReady [.ref (pl B 123), iI ru, iI (i : Int)] m (fun v m' => v = none ∧ (∀ a, a < 143 ∨ a = 144 ∨ 149 < a → m' a = m a) ∧ bP n m' (adN (jm m) n σ) ∧ bQ m' 0 ([] ++ if rRow (K2 le) then cmL (jm m) σ n else []) ∧ bQ m' 1 [] ∧ bQ m' 2 [] ∧ (∀ j, ¬ comP (jm m) σ (σ 6 6) j → m' 149 j = m 149 j)) NX := by
            intro m hEm hsm hnm jm1 hT
            rw [← hK0, ← hti]
            exact c_X12_becomesReady (l := axL a) (B := B) (D := D) (E := E) (μ := m) (n := n) (σ := σ) (K := K2 le) (L0 := []) (L1 := []) (L2 := []) h.quiet hEm hsm hnm hT.2.1 (by rw [jm1]; exact hB) hR (by omega) okK2 hT.2.2.1.1 hT.2.2.1.2.1 hT.2.2.1.2.2 (fun z => absurd z hnr) ⟨by decide, by decide⟩ (fun z => absurd z hnr)
          generalize hS1 : adN (jm μ) n σ = σ1 at *
          have mm : ∀ M, frR μ M → eqJ M ∧ okJ M ∧ M 1 9 = (n : Int) ∧ jm M = jm μ ∧ M 123 9 = (n : Int) := fun M f => ⟨frR_E f hE, okJ_c (frR_J f) hs, by rw [f.1 1 (by omega) (by omega)]; exact hn, jm_c (frR_J f), by rw [f.2 9 (by decide) (by decide) (by decide)]; exact eqJ_n hE hn⟩
          have go108 : ∀ M, bT n μ M (p1N σ1 x1) → VV a B (SP B D E M) 0 0 108 [(7, iI x2), (4, iI (i : Int)), (3, iI ru), (0, .ref (pl B 123)), (1, iI le), (2, iI la)] [] := by
            intro M hT1
            have e66' : p1N σ1 x1 6 6 = (i : Int) := by rw [p1_o _ (a := 6) (by decide) (by decide)]; exact e66
            rcases hw2 with q2 | ⟨c2, q1, q2, q3, q4⟩
            · have z := next M (by rw [q2, p1_n]; exact hT1)
              clear next hbr
              refine v_iload (pc := 108) h (dk dt_X12_two 59 rfl) rfl ?_
              refine v_iconst (pc := 110) h (dk dt_X12_two 60 rfl) ?_
              refine v_icmp_eq (pc := 111) h 122 (dk dt_X12_two 61 rfl) rfl (by omega) (fun c111 => ?_) (fun c111 => ?_)
              ·
                refine v_iinc (lv' := [(4, _), (7, _), (3, _), (0, _), (1, _), (2, _)]) (pc := 122) h (dk dt_X12_two 66 rfl) rfl (Nat.le_of_ble_eq_true rfl) rfl ?_
                refine v_goto (pc := 125) h 18 (dk dt_X12_two 67 rfl) rfl ?_
                exact VV.loc z ⟨rfl, rfl, rfl, rfl, rfl, trivial⟩
              ·
                exact absurd q2 c111
            · have hne : ¬ (x1 ≠ -1 ∧ c2 = x1.toNat) := fun z => by rcases hw1 with ⟨y, -⟩ | ⟨j, -, y, -⟩ <;> omega
              have e0 : p1N σ1 x1 0 c2 = σ1 0 c2 := by rw [p1_0, if_neg hne]
              have h0 := hl1 c2 q1 q3
              have hM := (hT1.2.1 c2 q1).1
              have z := next _ (by rw [q2]; exact Mwk_T hT1 q1 (by omega))
              rw [e66'] at z
              rw [q2]
              clear next hbr
              refine v_iload (pc := 108) h (dk dt_X12_two 59 rfl) rfl ?_
              refine v_iconst (pc := 110) h (dk dt_X12_two 60 rfl) ?_
              refine v_icmp_eq (pc := 111) h 122 (dk dt_X12_two 61 rfl) rfl (by omega) (fun c111 => ?_) (fun c111 => ?_)
              ·
                exact absurd c111 (by omega)
              ·
                refine v_aload_n (pc := 114) h (dk dt_X12_two 62 rfl) rfl ?_
                refine v_iload (pc := 115) h (dk dt_X12_two 63 rfl) rfl ?_
                refine v_iload (pc := 117) h (dk dt_X12_two 64 rfl) rfl ?_
                refine v_cVv (pc := 119) h (c_X12_works h.quiet (by omega) (by omega)) kv_X12_works sh123 wM_X12_245 rfl rfl (Nat.le_of_ble_eq_true rfl) (RM.of rfl) rfl rfl (dk dt_X12_two 65 rfl) ?_
                refine v_iinc (lv' := [(4, _), (7, _), (3, _), (0, _), (1, _), (2, _)]) (pc := 122) h (dk dt_X12_two 66 rfl) rfl (Nat.le_of_ble_eq_true rfl) rfl ?_
                refine v_goto (pc := 125) h 18 (dk dt_X12_two 67 rfl) rfl ?_
                exact VV.loc z ⟨rfl, rfl, rfl, rfl, rfl, trivial⟩
          have go36 : ∀ M, bT n μ M σ1 → VV a B (SP B D E M) 0 0 36 [(4, iI (i : Int)), (3, iI ru), (0, .ref (pl B 123)), (1, iI le), (2, iI la)] [] := by
            intro M hT1
            obtain ⟨hEm, hsm, hnm, jm1, -⟩ := mm M hT1.1
            have hBm : vB (jm M) n σ1 := by rw [jm1]; exact hB1
            have h46 : ∀ j, j < n → M 146 j = σ1 5 j := fun j hj => (hT1.2.1 j hj).2.2.2.2.2
            have h41 : ∀ j, j < n → M 141 j = σ1 0 j := fun j hj => (hT1.2.1 j hj).1
            rcases hw1 with ⟨q1, -⟩ | ⟨c1, q1, q2, q3⟩
            · have q2 : x2 = -1 := by rw [← w2, q1, w1]; exact q1
              have z := next M (by rw [q1, q2, p1_n, p1_n]; exact hT1)
              clear next hbr go108
              refine v_aload_n (pc := 36) h (dk dt_X12_two 19 rfl) rfl ?_
              refine v_iload_n (pc := 37) h (dk dt_X12_two 20 rfl) rfl ?_
              refine v_iconst (pc := 38) h (dk dt_X12_two 21 rfl) ?_
              refine v_cVi (pc := 39) h (c_X12_choose2 (n := n) (σ := σ1) (x := -1) (le := le) h.quiet hEm hsm hnm hBm h46 (fun j hj => by rw [if_neg (by omega)]; exact h41 j hj) hru) kv_X12_chooses sh123 wM_X12_196 rfl rfl (Nat.le_of_ble_eq_true rfl) (RM.of rfl) rfl rfl (dk dt_X12_two 22 rfl) ?_
              rw [jm1, w1, q1]
              refine v_istore (lv' := [(5, _), (4, _), (3, _), (0, _), (1, _), (2, _)]) (pc := 42) h (dk dt_X12_two 23 rfl) (Nat.le_of_ble_eq_true rfl) rfl ?_
              refine v_iload (pc := 44) h (dk dt_X12_two 24 rfl) rfl ?_
              refine v_iconst (pc := 46) h (dk dt_X12_two 25 rfl) ?_
              refine v_icmp_ne (pc := 47) h 54 (dk dt_X12_two 26 rfl) rfl (by omega) (fun c47 => ?_) (fun c47 => ?_)
              ·
                exact absurd rfl c47
              ·
                refine v_iconst (pc := 50) h (dk dt_X12_two 27 rfl) ?_
                refine v_goto (pc := 51) h 61 (dk dt_X12_two 28 rfl) rfl ?_
                refine v_istore (lv' := [(6, _), (5, _), (4, _), (3, _), (0, _), (1, _), (2, _)]) (pc := 61) h (dk dt_X12_two 33 rfl) (Nat.le_of_ble_eq_true rfl) rfl ?_
                refine v_iload (pc := 63) h (dk dt_X12_two 34 rfl) rfl ?_
                refine v_iconst (pc := 65) h (dk dt_X12_two 35 rfl) ?_
                refine v_icmp_eq (pc := 66) h 77 (dk dt_X12_two 36 rfl) rfl (by omega) (fun c66 => ?_) (fun c66 => ?_)
                ·
                  refine v_aload_n (pc := 77) h (dk dt_X12_two 42 rfl) rfl ?_
                  refine v_iload_n (pc := 78) h (dk dt_X12_two 43 rfl) rfl ?_
                  refine v_iconst (pc := 79) h (dk dt_X12_two 44 rfl) ?_
                  refine v_cVi (pc := 80) h (c_X12_choose2 (n := n) (σ := σ1) (x := -1) (le := le) h.quiet hEm hsm hnm hBm h46 (fun j hj => by rw [if_neg (by omega)]; exact h41 j hj) hru) kv_X12_chooses sh123 wM_X12_196 rfl rfl (Nat.le_of_ble_eq_true rfl) (RM.of rfl) rfl rfl (dk dt_X12_two 45 rfl) ?_
                  rw [jm1, w1, q1]
                  refine v_istore (lv' := [(7, _), (6, _), (5, _), (4, _), (3, _), (0, _), (1, _), (2, _)]) (pc := 83) h (dk dt_X12_two 46 rfl) (Nat.le_of_ble_eq_true rfl) rfl ?_
                  refine v_iload (pc := 85) h (dk dt_X12_two 47 rfl) rfl ?_
                  refine v_iconst (pc := 87) h (dk dt_X12_two 48 rfl) ?_
                  refine v_icmp_eq (pc := 88) h 108 (dk dt_X12_two 49 rfl) rfl (by omega) (fun c88 => ?_) (fun c88 => ?_)
                  ·
                    refine v_iload (pc := 108) h (dk dt_X12_two 59 rfl) rfl ?_
                    refine v_iconst (pc := 110) h (dk dt_X12_two 60 rfl) ?_
                    refine v_icmp_eq (pc := 111) h 122 (dk dt_X12_two 61 rfl) rfl (by omega) (fun c111 => ?_) (fun c111 => ?_)
                    ·
                      refine v_iinc (lv' := [(4, _), (7, _), (6, _), (5, _), (3, _), (0, _), (1, _), (2, _)]) (pc := 122) h (dk dt_X12_two 66 rfl) rfl (Nat.le_of_ble_eq_true rfl) rfl ?_
                      refine v_goto (pc := 125) h 18 (dk dt_X12_two 67 rfl) rfl ?_
                      exact VV.loc z ⟨rfl, rfl, rfl, rfl, rfl, trivial⟩
                    ·
                      exact absurd rfl c111
                  ·
                    exact absurd rfl c88
                ·
                  exact absurd rfl c66
            · have h0 := hl1 c1 q1 q3
              have hM := h41 c1 q1
              have hT2 := Mwk_T hT1 q1 (by omega)
              rw [← q2, e66] at hT2
              have z := go108 _ hT2
              have f3 : frR μ (mup M 141 c1 0) := ⟨fun a h1 h2 => by funext b; rw [mup_nk (by omega)]; exact congrFun (hT1.1.1 a h1 h2) b, fun b h1 h2 h3 => by rw [mup_nk (by omega)]; exact hT1.1.2 b h1 h2 h3⟩
              obtain ⟨hE3, hs3, hn3, jm3, -⟩ := mm _ f3
              have hB3 : vB (jm (mup M 141 c1 0)) n σ1 := by rw [jm3]; exact hB1
              have h346 : ∀ j, j < n → mup M 141 c1 0 146 j = σ1 5 j := fun j hj => by rw [mup_nk (by omega)]; exact h46 j hj
              have h341 : ∀ j, j < n → mup M 141 c1 0 141 j = if (j : Int) = x1 then 0 else σ1 0 j := fun j hj => by
                rw [mup_row]
                by_cases e : j = c1
                · rw [if_pos e, if_pos (by omega)]
                · rw [if_neg e, if_neg (by omega)]; exact h41 j hj
              have eM : mup (mup M 141 c1 0) 141 c1 (σ1 0 c1) = M := by
                funext a b
                by_cases e : a = 141 ∧ b = c1
                · rw [e.1, e.2, mup_eq, hM]
                · rw [mup_ne (fun z => e ⟨z.1, z.2⟩), mup_ne (fun z => e ⟨z.1, z.2⟩)]
              have w2' := w2
              rw [q2] at h341 w2'
              clear next hbr go108
              refine v_aload_n (pc := 36) h (dk dt_X12_two 19 rfl) rfl ?_
              refine v_iload_n (pc := 37) h (dk dt_X12_two 20 rfl) rfl ?_
              refine v_iconst (pc := 38) h (dk dt_X12_two 21 rfl) ?_
              refine v_cVi (pc := 39) h (c_X12_choose2 (n := n) (σ := σ1) (x := -1) (le := le) h.quiet hEm hsm hnm hBm h46 (fun j hj => by rw [if_neg (by omega)]; exact h41 j hj) hru) kv_X12_chooses sh123 wM_X12_196 rfl rfl (Nat.le_of_ble_eq_true rfl) (RM.of rfl) rfl rfl (dk dt_X12_two 22 rfl) ?_
              rw [jm1, w1, q2]
              refine v_istore (lv' := [(5, _), (4, _), (3, _), (0, _), (1, _), (2, _)]) (pc := 42) h (dk dt_X12_two 23 rfl) (Nat.le_of_ble_eq_true rfl) rfl ?_
              refine v_iload (pc := 44) h (dk dt_X12_two 24 rfl) rfl ?_
              refine v_iconst (pc := 46) h (dk dt_X12_two 25 rfl) ?_
              refine v_icmp_ne (pc := 47) h 54 (dk dt_X12_two 26 rfl) rfl (by omega) (fun c47 => ?_) (fun c47 => ?_)
              ·
                refine v_aload_n (pc := 54) h (dk dt_X12_two 29 rfl) rfl ?_
                refine v_getr (pc := 55) h ci12 sh123 (Nat.le_of_ble_eq_true rfl) (j := 27) wF_X12_74 rfl (dk dt_X12_two 30 rfl) ?_
                refine v_iload (pc := 58) h (dk dt_X12_two 31 rfl) rfl ?_
                refine v_iald (pc := 60) h sh141 (Nat.le_of_ble_eq_true rfl) (by omega) (dk dt_X12_two 32 rfl) ?_
                rw [Int.toNat_natCast, hM]
                refine v_istore (lv' := [(6, _), (5, _), (4, _), (3, _), (0, _), (1, _), (2, _)]) (pc := 61) h (dk dt_X12_two 33 rfl) (Nat.le_of_ble_eq_true rfl) rfl ?_
                refine v_iload (pc := 63) h (dk dt_X12_two 34 rfl) rfl ?_
                refine v_iconst (pc := 65) h (dk dt_X12_two 35 rfl) ?_
                refine v_icmp_eq (pc := 66) h 77 (dk dt_X12_two 36 rfl) rfl (by omega) (fun c66 => ?_) (fun c66 => ?_)
                ·
                  exact absurd c66 (by omega)
                ·
                  refine v_aload_n (pc := 69) h (dk dt_X12_two 37 rfl) rfl ?_
                  refine v_getr (pc := 70) h ci12 sh123 (Nat.le_of_ble_eq_true rfl) (j := 27) wF_X12_74 rfl (dk dt_X12_two 38 rfl) ?_
                  refine v_iload (pc := 73) h (dk dt_X12_two 39 rfl) rfl ?_
                  refine v_iconst (pc := 75) h (dk dt_X12_two 40 rfl) ?_
                  refine v_iast (pc := 76) h sh141 (Nat.le_of_ble_eq_true rfl) (by omega) (dk dt_X12_two 41 rfl) ?_
                  rw [Int.toNat_natCast]
                  refine v_aload_n (pc := 77) h (dk dt_X12_two 42 rfl) rfl ?_
                  refine v_iload_n (pc := 78) h (dk dt_X12_two 43 rfl) rfl ?_
                  refine v_iconst (pc := 79) h (dk dt_X12_two 44 rfl) ?_
                  refine v_cVi (pc := 80) h (c_X12_choose2 (n := n) (σ := σ1) (x := (c1 : Int)) (le := le) h.quiet hE3 hs3 hn3 hB3 h346 h341 hru) kv_X12_chooses sh123 wM_X12_196 rfl rfl (Nat.le_of_ble_eq_true rfl) (RM.of rfl) rfl rfl (dk dt_X12_two 45 rfl) ?_
                  rw [jm3, w2']
                  refine v_istore (lv' := [(7, _), (6, _), (5, _), (4, _), (3, _), (0, _), (1, _), (2, _)]) (pc := 83) h (dk dt_X12_two 46 rfl) (Nat.le_of_ble_eq_true rfl) rfl ?_
                  refine v_iload (pc := 85) h (dk dt_X12_two 47 rfl) rfl ?_
                  refine v_iconst (pc := 87) h (dk dt_X12_two 48 rfl) ?_
                  refine v_icmp_eq (pc := 88) h 108 (dk dt_X12_two 49 rfl) rfl (by omega) (fun c88 => ?_) (fun c88 => ?_)
                  ·
                    exact absurd c88 (by omega)
                  ·
                    refine v_aload_n (pc := 91) h (dk dt_X12_two 50 rfl) rfl ?_
                    refine v_getr (pc := 92) h ci12 sh123 (Nat.le_of_ble_eq_true rfl) (j := 27) wF_X12_74 rfl (dk dt_X12_two 51 rfl) ?_
                    refine v_iload (pc := 95) h (dk dt_X12_two 52 rfl) rfl ?_
                    refine v_iload (pc := 97) h (dk dt_X12_two 53 rfl) rfl ?_
                    refine v_iast (pc := 99) h sh141 (Nat.le_of_ble_eq_true rfl) (by omega) (dk dt_X12_two 54 rfl) ?_
                    rw [Int.toNat_natCast, eM]
                    refine v_aload_n (pc := 100) h (dk dt_X12_two 55 rfl) rfl ?_
                    refine v_iload (pc := 101) h (dk dt_X12_two 56 rfl) rfl ?_
                    refine v_iload (pc := 103) h (dk dt_X12_two 57 rfl) rfl ?_
                    refine v_cVv (pc := 105) h (c_X12_works h.quiet (by omega) (by omega)) kv_X12_works sh123 wM_X12_245 rfl rfl (Nat.le_of_ble_eq_true rfl) (RM.of rfl) rfl rfl (dk dt_X12_two 58 rfl) ?_
                    exact VV.loc z ⟨rfl, rfl, rfl, rfl, rfl, rfl, trivial⟩
              ·
                exact absurd c47 (by omega)
          clear next go108 hw1 hw2
          obtain ⟨hEm, hsm, hnm, jm1, -⟩ := mm m hT.1
          refine v_aload_n (pc := 18) h (dk dt_X12_two 10 rfl) rfl ?_
          refine v_geti (pc := 19) h ci12 sh123 (Nat.le_of_ble_eq_true rfl) (j := 34) wF_X12_184 rfl (dk dt_X12_two 11 rfl) ?_
          refine v_aload_n (pc := 22) h (dk dt_X12_two 12 rfl) rfl ?_
          refine v_geti (pc := 23) h ci12 sh123 (Nat.le_of_ble_eq_true rfl) (j := 9) wF_X12_108 rfl (dk dt_X12_two 13 rfl) ?_
          refine v_icmp_ge (pc := 26) h 128 (dk dt_X12_two 14 rfl) rfl (by omega) (fun c26 => ?_) (fun c26 => ?_)
          ·
            exact absurd c26 (by omega)
          ·
            refine v_aload_n (pc := 29) h (dk dt_X12_two 15 rfl) rfl ?_
            refine v_iload_n (pc := 30) h (dk dt_X12_two 16 rfl) rfl ?_
            refine v_iload (pc := 31) h (dk dt_X12_two 17 rfl) rfl ?_
            refine v_cV (pc := 33) h ((hbr m hEm hsm hnm jm1 hT)) kv_X12_becomesReady sh123 wM_X12_193 rfl rfl (Nat.le_of_ble_eq_true rfl) (RM.of rfl) rfl rfl (dk dt_X12_two 18 rfl) (fun v33 μ33 p33 => ?_)
            obtain ⟨rfl, f2, p2, q20, q21, q22, -⟩ := p33
            rw [jm1, hS1] at p2
            rw [if_neg hnr] at q20
            have hT1 : bT n μ μ33 σ1 := ⟨frR_tr hT.1 ⟨fun a h1 h2 => f2 a (by omega), fun b h1 h2 h3 => by rw [f2 123 (by omega)]⟩, p2, ⟨q20, q21, q22⟩, by rw [f2 123 (by omega), c0]; exact h34⟩
            exact VV.loc (go36 _ hT1) ⟨rfl, rfl, rfl, rfl, rfl, trivial⟩
    refine v_aload_n (pc := 11) h (dk dt_X12_two 6 rfl) rfl ?_
    refine v_cV (pc := 12) h (c_X12_begins (n := n) h.quiet hE hs hn) kv_X12_begins sh123 wM_X12_187 rfl rfl (Nat.le_of_ble_eq_true rfl) (RM.of rfl) rfl rfl (dk dt_X12_two 7 rfl) (fun v12 μ12 p12 => ?_)
    obtain ⟨rfl, f1, g1, h34, h35, p1', q10, q11, q12⟩ := p12
    have hin := vS_in (K := K2 le) hD (z := 0)
    have ein : ∀ a, a ≠ 6 → inN (jm μ) 0 a = inN (jm μ) (μ 123 13) a := fun a h => by funext b; simp [inN, h]
    have e66 : inN (jm μ) 0 6 6 = 0 := by simp [inN]
    have hN : 0 ≤ dnF (jm μ) (inN (jm μ) 0) n := smF_nn (fun j hj => by have := (hin.1.2 j hj).2.1; show 0 ≤ (jm μ) 1 j - (inS (jm μ) 0).1 0 j; omega)
    have hT0 : bT n μ μ12 (inN (jm μ) 0) := ⟨⟨fun a h1 h2 => f1 a h1 (by omega), fun b h1 h2 h3 => g1 b h2 h3⟩, bP_s (ein 0 (by decide)) (ein 1 (by decide)) (ein 2 (by decide)) (ein 3 (by decide)) (ein 4 (by decide)) (ein 5 (by decide)) p1', ⟨q10, q11, q12⟩, by rw [h34]; exact (cN_in hD).symm⟩
    have z := loop 2304 0 μ12 (inN (jm μ) 0) (by omega) hT0 hin.1 hin.2.1 vR_in (by omega) e66 rfl
    refine v_iconst (pc := 15) h (dk dt_X12_two 8 rfl) ?_
    refine v_istore (lv' := [(4, _), (3, _), (0, _), (1, _), (2, _)]) (pc := 16) h (dk dt_X12_two 9 rfl) (Nat.le_of_ble_eq_true rfl) rfl ?_
    exact VV.loc z ⟨rfl, rfl, rfl, rfl, rfl, trivial⟩
  refine v_iload_n (pc := 0) h (dk dt_X12_two 0 rfl) rfl ?_
  refine v_if_eq (pc := 1) h 8 (dk dt_X12_two 1 rfl) rfl (by omega) (fun c1 => ?_) (fun c1 => ?_)
  ·
    refine v_bipush (pc := 8) h (dk dt_X12_two 4 rfl) rfl ?_
    refine v_istore_n (lv' := [(3, _), (0, _), (1, _), (2, _)]) (pc := 10) h (dk dt_X12_two 5 rfl) (Nat.le_of_ble_eq_true rfl) rfl ?_
    exact VV.loc (go11 _ (by omega)) ⟨rfl, rfl, rfl, rfl, trivial⟩
  ·
    refine v_iconst (pc := 4) h (dk dt_X12_two 2 rfl) ?_
    refine v_goto (pc := 5) h 10 (dk dt_X12_two 3 rfl) rfl ?_
    refine v_istore_n (lv' := [(3, _), (0, _), (1, _), (2, _)]) (pc := 10) h (dk dt_X12_two 5 rfl) (Nat.le_of_ble_eq_true rfl) rfl ?_
    exact VV.loc (go11 _ (by omega)) ⟨rfl, rfl, rfl, rfl, trivial⟩
end
