/-! ===== the law: two houses full of jobs ===== -/
section
variable {a : Ax} {B : Nat} {D : va_G} {E : Nat → ClassId} {n : Nat} {m : Mm} {l : Launch} {μ : Mm} {kc ns : Nat} {P : Pv} {X : Px}
/-- what comes behind a round's jobs -/
theorem p_round (h : Ac a B D E RL cL_plays 10 rm_plays) {w : Nat} (hO : hOK m) (hkc : kc ≤ 12000 ∧ ns ≤ 300000)
    (next : ∀ m' kc' ns', hOK m' → kc' ≤ kc + 8100 → ns' ≤ ns + 48600 → VV a B (SP B D E m') kc' ns' 88 [(7, iI ((w : Int) + 1)), (6, iI 1), (5, .ref (pl B 0)), (0, .ref (pl B 123)), (1, .ref (pl B 124)), (2, .ref (pl B 125)), (3, .ref (pl B 126)), (4, .ref (pl B 127))] []) (hw : w < 2) :
    VV a B (SP B D E m) kc ns 88 [(7, iI (w : Int)), (6, iI 1), (5, .ref (pl B 0)), (0, .ref (pl B 123)), (1, .ref (pl B 124)), (2, .ref (pl B 125)), (3, .ref (pl B 126)), (4, .ref (pl B 127))] [] := by
  have go209 : ∀ (m : Mm) (n kc' ns' : Nat) (wp : Int), hOK m → m 1 9 = (n : Int) → kc' ≤ kc + 8100 → ns' ≤ ns + 48600 → VV a B (SP B D E m) kc' ns' 209 [(6, iI 1), (9, iI wp), (8, iI (n : Int)), (7, iI (w : Int)), (5, .ref (pl B 0)), (0, .ref (pl B 123)), (1, .ref (pl B 124)), (2, .ref (pl B 125)), (3, .ref (pl B 126)), (4, .ref (pl B 127))] [] := by
    intro m n kc ns wp hO hn hkc hns
    have hD := okJD hO.J hn
    have hb := two_b hD (le := 0)
    have h8 : kc ≤ 25000 ∧ ns ≤ 390000 := by omega
    refine v_aload (pc := 209) h (dk dt_L_plays_1 44 rfl) rfl ?_
    refine v_iconst (pc := 211) h (dk dt_L_plays_1 45 rfl) ?_
    refine v_iconst (pc := 212) h (dk dt_L_plays_1 46 rfl) ?_
    refine v_cV (pc := 213) h (c_X11_two (n := n) h.quiet hO hn (Or.inl rfl) (Or.inr rfl)) kv_X11_two sh0 wM_L_183 rfl rfl (Nat.le_of_ble_eq_true rfl) ⟨⟨Nat.le_of_ble_eq_true rfl, Nat.le_of_ble_eq_true rfl⟩, by show kc + 0 ≤ 30000; omega, by show ns + 0 ≤ 400000; omega⟩ rfl rfl (dk dt_L_plays_1 47 rfl) (fun v213 μ213 p213 => ?_)
    obtain ⟨rfl, f4⟩ := p213
    have hO4 := fq_hO hO f4
    have hn4 : μ213 1 9 = (n : Int) := by rw [f4 1 (by omega)]; exact hn
    refine v_if_lt (pc := 216) h 242 (dk dt_L_plays_1 48 rfl) rfl (by omega) (fun c216 => ?_) (fun c216 => ?_)
    ·
      exact absurd c216 (by omega)
    ·
      refine v_aload (pc := 219) h (dk dt_L_plays_1 49 rfl) rfl ?_
      refine v_cV (pc := 221) h (c_X11_best (n := n) h.quiet hO4 hn4) kv_X11_best sh0 wM_L_187 rfl rfl (Nat.le_of_ble_eq_true rfl) ⟨⟨Nat.le_of_ble_eq_true rfl, Nat.le_of_ble_eq_true rfl⟩, by show kc + 0 ≤ 30000; omega, by show ns + 0 ≤ 400000; omega⟩ rfl rfl (dk dt_L_plays_1 50 rfl) (fun v221 μ221 p221 => ?_)
      obtain ⟨rfl, f5⟩ := p221
      have hb5 := bst_b (f := bstG μ213 n) 20 (by omega)
      have hO5 := fq_hO hO4 f5
      have hn5 : μ221 1 9 = (n : Int) := by rw [f5 1 (by omega)]; exact hn4
      refine v_iconst (pc := 224) h (dk dt_L_plays_1 51 rfl) ?_
      refine v_icmp_lt (pc := 225) h 242 (dk dt_L_plays_1 52 rfl) rfl (by omega) (fun c225 => ?_) (fun c225 => ?_)
      ·
        exact absurd c225 (by omega)
      ·
        refine v_aload (pc := 228) h (dk dt_L_plays_1 53 rfl) rfl ?_
        refine v_cV (pc := 230) h (c_X11_best (n := n) h.quiet hO5 hn5) kv_X11_best sh0 wM_L_187 rfl rfl (Nat.le_of_ble_eq_true rfl) ⟨⟨Nat.le_of_ble_eq_true rfl, Nat.le_of_ble_eq_true rfl⟩, by show kc + 0 ≤ 30000; omega, by show ns + 0 ≤ 400000; omega⟩ rfl rfl (dk dt_L_plays_1 54 rfl) (fun v230 μ230 p230 => ?_)
        obtain ⟨rfl, f6⟩ := p230
        have hb6 := bst_b (f := bstG μ221 n) 20 (by omega)
        have hO6 := fq_hO hO5 f6
        refine v_bipush (pc := 233) h (dk dt_L_plays_1 55 rfl) rfl ?_
        refine v_icmp_gt (pc := 235) h 242 (dk dt_L_plays_1 56 rfl) rfl (by omega) (fun c235 => ?_) (fun c235 => ?_)
        ·
          exact absurd c235 (by omega)
        ·
          refine v_iconst (pc := 238) h (dk dt_L_plays_1 57 rfl) ?_
          refine v_goto (pc := 239) h 243 (dk dt_L_plays_1 58 rfl) rfl ?_
          refine v_istore (lv' := [(6, _), (9, _), (8, _), (7, _), (5, _), (0, _), (1, _), (2, _), (3, _), (4, _)]) (pc := 243) h (dk dt_L_plays_1 60 rfl) (Nat.le_of_ble_eq_true rfl) rfl ?_
          refine v_iinc (lv' := [(7, _), (6, _), (9, _), (8, _), (5, _), (0, _), (1, _), (2, _), (3, _), (4, _)]) (pc := 245) h (dk dt_L_plays_1 61 rfl) rfl (Nat.le_of_ble_eq_true rfl) rfl ?_
          refine v_goto (pc := 248) h 88 (dk dt_L_plays_1 62 rfl) rfl ?_
          exact VV.loc (next _ _ _ hO6 hkc hns) ⟨lvI (by omega), rfl, rfl, rfl, rfl, rfl, rfl, rfl, trivial⟩
  have go174 : ∀ (m : Mm) (n kc' ns' : Nat) (wp : Int), hOK m → m 1 9 = (n : Int) → kc' ≤ kc + 8000 → ns' ≤ ns + 48000 → VV a B (SP B D E m) kc' ns' 174 [(9, iI wp), (8, iI (n : Int)), (7, iI (w : Int)), (6, iI 1), (5, .ref (pl B 0)), (0, .ref (pl B 123)), (1, .ref (pl B 124)), (2, .ref (pl B 125)), (3, .ref (pl B 126)), (4, .ref (pl B 127))] [] := by
    intro m n kc1 ns1 wp hO2 hn2 hk1 hn1
    have hn12 : n ≤ 12 := by have := hO2.J.1; omega
    have hk1' : kc1 ≤ 20000 ∧ ns1 ≤ 350000 := by omega
    obtain ⟨kc2, e2⟩ : ∃ k, k = kc := ⟨_, rfl⟩
    obtain ⟨ns2, e3⟩ : ∃ k, k = ns := ⟨_, rfl⟩
    have g9 := go209
    rw [← e2] at hk1 g9
    rw [← e3] at hn1 g9
    clear e2 e3 go209 hkc next
    revert hk1 hn1 hk1' g9
    generalize kc1 = kc
    generalize ns1 = ns
    intro hk1 hn1 hk1' g9
    refine v_aload (pc := 174) h (dk dt_L_plays_1 28 rfl) rfl ?_
    refine v_callV (pc := 176) h (c_X11_errors (n := n) h.quiet hO2 hn2) kv_X11_errors sh0 wM_L_180 rfl rfl (Nat.le_of_ble_eq_true rfl) ⟨⟨Nat.le_of_ble_eq_true rfl, Nat.le_of_ble_eq_true rfl⟩, by show kc + 1 ≤ 30000; omega, by show ns + 6 ≤ 400000; omega⟩ (dk dt_L_plays_1 29 rfl) (fun v176 μ176 p176 => ?_)
    obtain ⟨rfl, f3⟩ := p176
    rw [erA_0 hO2 hn2]
    have hO3 := fq_hO hO2 f3
    have hn3 : μ176 1 9 = (n : Int) := by rw [f3 1 (by omega)]; exact hn2
    refine v_if_ne (pc := 179) h 186 (dk dt_L_plays_1 30 rfl) rfl (by omega) (fun c179 => ?_) (fun c179 => ?_)
    ·
      exact absurd c179 (by decide)
    ·
      refine v_iconst (pc := 182) h (dk dt_L_plays_1 31 rfl) ?_
      refine v_goto (pc := 183) h 187 (dk dt_L_plays_1 32 rfl) rfl ?_
      refine v_istore (lv' := [(6, _), (9, _), (8, _), (7, _), (5, _), (0, _), (1, _), (2, _), (3, _), (4, _)]) (pc := 187) h (dk dt_L_plays_1 34 rfl) (Nat.le_of_ble_eq_true rfl) rfl ?_
      refine v_iload (pc := 189) h (dk dt_L_plays_1 35 rfl) rfl ?_
      refine v_if_eq (pc := 191) h 242 (dk dt_L_plays_1 36 rfl) rfl (by omega) (fun c191 => ?_) (fun c191 => ?_)
      ·
        exact absurd c191 (by decide)
      ·
        refine v_iload (pc := 194) h (dk dt_L_plays_1 37 rfl) rfl ?_
        refine v_if_eq (pc := 196) h 209 (dk dt_L_plays_1 38 rfl) rfl (by omega) (fun c196 => ?_) (fun c196 => ?_)
        ·
          first | exact VV.loc (g9 _ n _ _ wp hO4 hn4 (by simp only [rm_X11_errors]; omega) (by simp only [rm_X11_errors]; omega)) ⟨rfl, rfl, rfl, rfl, rfl, rfl, rfl, rfl, rfl, rfl, trivial⟩ | exact VV.loc (g9 _ n _ _ wp hO3 hn3 (by simp only [rm_X11_errors]; omega) (by simp only [rm_X11_errors]; omega)) ⟨rfl, rfl, rfl, rfl, rfl, rfl, rfl, rfl, rfl, rfl, trivial⟩
        ·
          refine v_aload (pc := 199) h (dk dt_L_plays_1 39 rfl) rfl ?_
          refine v_iconst (pc := 201) h (dk dt_L_plays_1 40 rfl) ?_
          refine v_iconst (pc := 202) h (dk dt_L_plays_1 41 rfl) ?_
          refine v_cV (pc := 203) h (c_X11_two (n := n) h.quiet hO3 hn3 (Or.inr rfl) (Or.inl rfl)) kv_X11_two sh0 wM_L_183 rfl rfl (Nat.le_of_ble_eq_true rfl) ⟨⟨Nat.le_of_ble_eq_true rfl, Nat.le_of_ble_eq_true rfl⟩, by show kc + 1 + (0) ≤ 30000; omega, by show ns + 6 + (0) ≤ 400000; omega⟩ rfl rfl (dk dt_L_plays_1 42 rfl) (fun v203 μ203 p203 => ?_)
          obtain ⟨rfl, f4⟩ := p203
          have hD3 := okJD hO3.J hn3
          have hb4 := two_b hD3 (le := 1)
          have hp4 := two_pos hD3 (show 0 < n by omega) (le := 1)
          have hO4 := fq_hO hO3 f4
          have hn4 : μ203 1 9 = (n : Int) := by rw [f4 1 (by omega)]; exact hn3
          refine v_if_le (pc := 206) h 242 (dk dt_L_plays_1 43 rfl) rfl (by omega) (fun c206 => ?_) (fun c206 => ?_)
          ·
            exact absurd c206 (by omega)
          ·
            first | exact VV.loc (g9 _ n _ _ wp hO4 hn4 (by simp only [rm_X11_errors]; omega) (by simp only [rm_X11_errors]; omega)) ⟨rfl, rfl, rfl, rfl, rfl, rfl, rfl, rfl, rfl, rfl, trivial⟩ | exact VV.loc (g9 _ n _ _ wp hO3 hn3 (by simp only [rm_X11_errors]; omega) (by simp only [rm_X11_errors]; omega)) ⟨rfl, rfl, rfl, rfl, rfl, rfl, rfl, rfl, rfl, rfl, trivial⟩
  have go158 : ∀ (m : Mm) (n kc' ns' : Nat) (wp : Int), TI n wp m → (wp = 0 ∨ wp = 1) → kc' ≤ kc + 3000 → ns' ≤ ns + 18000 → VV a B (SP B D E m) kc' ns' 158 [(9, iI wp), (8, iI (n : Int)), (7, iI (w : Int)), (6, iI 1), (5, .ref (pl B 0)), (0, .ref (pl B 123)), (1, .ref (pl B 124)), (2, .ref (pl B 125)), (3, .ref (pl B 126)), (4, .ref (pl B 127))] [] := by
    intro m n kc1 ns1 wp hT hwp hk1 hn1
    obtain ⟨hT1, hn1', hA1, hd1, hw1⟩ := hT
    have hk1' : kc1 ≤ 15000 ∧ ns1 ≤ 320000 := by omega
    obtain ⟨kc2, e2⟩ : ∃ k, k = kc := ⟨_, rfl⟩
    obtain ⟨ns2, e3⟩ : ∃ k, k = ns := ⟨_, rfl⟩
    have g9 := go174
    rw [← e2] at hk1 g9
    rw [← e3] at hn1 g9
    clear e2 e3 go209 go174 hkc next
    revert hk1 hn1 hk1' g9
    generalize kc1 = kc
    generalize ns1 = ns
    intro hk1 hn1 hk1' g9
    refine v_aload (pc := 158) h (dk dt_L_plays_1 19 rfl) rfl ?_
    refine v_aload_n (pc := 160) h (dk dt_L_plays_1 20 rfl) rfl ?_
    refine v_aload_n (pc := 161) h (dk dt_L_plays_1 21 rfl) rfl ?_
    refine v_iload (pc := 162) h (dk dt_L_plays_1 22 rfl) rfl ?_
    refine v_iload (pc := 164) h (dk dt_L_plays_1 23 rfl) rfl ?_
    refine v_aload_n (pc := 166) h (dk dt_L_plays_1 24 rfl) rfl ?_
    refine v_aload_n (pc := 167) h (dk dt_L_plays_1 25 rfl) rfl ?_
    refine v_callS (pc := 168) h (c_L_runs (n := n) h.quiet hT1 hn1' hA1 hd1 hwp hw1) kv_L_runs wM_L_176 rfl rfl (Nat.le_of_ble_eq_true rfl) ⟨⟨Nat.le_of_ble_eq_true rfl, Nat.le_of_ble_eq_true rfl⟩, by show kc + 5000 ≤ 30000; omega, by show ns + 30000 ≤ 400000; omega⟩ (dk dt_L_plays_1 26 rfl) (fun v168 μ168 p168 => ?_)
    obtain ⟨rfl, sl, co, le, ri, z, hX⟩ := p168
    have hO2 := hX.1.1
    have hn2 := hX.1.2.1
    clear hX
    refine v_if_eq (pc := 171) h 186 (dk dt_L_plays_1 27 rfl) rfl (by omega) (fun c171 => ?_) (fun c171 => ?_)
    ·
      exact absurd c171 (by decide)
    ·
      exact VV.loc (g9 _ n _ _ wp hO2 hn2 (by simp only [rm_L_runs]; omega) (by simp only [rm_L_runs]; omega)) ⟨rfl, rfl, rfl, rfl, rfl, rfl, rfl, rfl, rfl, rfl, trivial⟩
  have go142 : ∀ (m : Mm) (n : Nat) (wp : Int), hOK m → n ≤ 12 → (wp = 0 ∨ wp = 1) → VV a B (SP B D E m) kc ns 142 [(8, iI (n : Int)), (7, iI (w : Int)), (6, iI 1), (5, .ref (pl B 0)), (0, .ref (pl B 123)), (1, .ref (pl B 124)), (2, .ref (pl B 125)), (3, .ref (pl B 126)), (4, .ref (pl B 127))] [iI wp] := by
    intro m n wp hO hn12 hwp
    refine v_istore (lv' := [(9, _), (8, _), (7, _), (6, _), (5, _), (0, _), (1, _), (2, _), (3, _), (4, _)]) (pc := 142) h (dk dt_L_plays_1 11 rfl) (Nat.le_of_ble_eq_true rfl) rfl ?_
    refine v_aload (pc := 144) h (dk dt_L_plays_1 12 rfl) rfl ?_
    refine v_aload_n (pc := 146) h (dk dt_L_plays_1 13 rfl) rfl ?_
    refine v_aload_n (pc := 147) h (dk dt_L_plays_1 14 rfl) rfl ?_
    refine v_iload (pc := 148) h (dk dt_L_plays_1 15 rfl) rfl ?_
    refine v_iload (pc := 150) h (dk dt_L_plays_1 16 rfl) rfl ?_
    refine v_callS (pc := 152) h (c_L_tells (n := n) h.quiet hO hn12 hwp) kv_L_tells wM_L_172 rfl rfl (Nat.le_of_ble_eq_true rfl) ⟨⟨Nat.le_of_ble_eq_true rfl, Nat.le_of_ble_eq_true rfl⟩, by show kc + 3000 ≤ 30000; omega, by show ns + 18000 ≤ 400000; omega⟩ (dk dt_L_plays_1 17 rfl) (fun v152 μ152 p152 => ?_)
    obtain ⟨rfl, hT⟩ := p152
    refine v_if_eq (pc := 155) h 186 (dk dt_L_plays_1 18 rfl) rfl (by omega) (fun c155 => ?_) (fun c155 => ?_)
    ·
      exact absurd c155 (by decide)
    ·
      exact VV.loc (go158 _ n _ _ wp hT hwp (by simp only [rm_L_tells]; omega) (by simp only [rm_L_tells]; omega)) ⟨rfl, rfl, rfl, rfl, rfl, rfl, rfl, rfl, rfl, rfl, trivial⟩
  refine v_iload (pc := 88) h (dk dt_L_plays_0 47 rfl) rfl ?_
  refine v_iconst (pc := 90) h (dk dt_L_plays_0 48 rfl) ?_
  refine v_icmp_ge (pc := 91) h 251 (dk dt_L_plays_0 49 rfl) rfl (by omega) (fun c91 => ?_) (fun c91 => ?_)
  ·
    exact absurd c91 (by omega)
  ·
    refine v_iload (pc := 94) h (dk dt_L_plays_0 50 rfl) rfl ?_
    refine v_if_eq (pc := 96) h 251 (dk dt_L_plays_0 51 rfl) rfl (by omega) (fun c96 => ?_) (fun c96 => ?_)
    ·
      exact absurd c96 (by decide)
    ·
      refine v_aload_n (pc := 99) h (dk dt_L_plays_0 52 rfl) rfl ?_
      refine v_cS (pc := 100) h (c_L_next h.quiet) kv_L_next wM_L_8 rfl rfl (Nat.le_of_ble_eq_true rfl) ⟨⟨Nat.le_of_ble_eq_true rfl, Nat.le_of_ble_eq_true rfl⟩, by show kc + 0 ≤ 30000; omega, by show ns + 0 ≤ 400000; omega⟩ rfl rfl (dk dt_L_plays_0 53 rfl) (fun v100 μ100 p100 => ?_)
      obtain ⟨x, y, rfl, y1, y2, rfl⟩ := p100
      have hO := hO_c (m := mup m 123 0 y) (fun a q => by funext b; exact mup_nk (by omega)) hO
      generalize mup m 123 0 y = m1 at hO ⊢
      refine v_iconst (pc := 103) h (dk dt_L_plays_0 54 rfl) ?_
      refine v_irem (pc := 104) h (dk dt_L_plays_0 55 rfl) (by omega) (by omega) ?_
      have hx := Int.emod_lt_of_pos x (show (0 : Int) < 4 by decide)
      have hx2 := Int.emod_nonneg x (show (4 : Int) ≠ 0 by decide)
      generalize x % 4 = qt at hx hx2 ⊢
      refine v_if_ne (pc := 105) h 119 (dk dt_L_plays_0 56 rfl) rfl (by omega) (fun c105 => ?_) (fun c105 => ?_)
      ·
        refine v_aload_n (pc := 119) h (dk dt_L_plays_0 62 rfl) rfl ?_
        refine v_iconst (pc := 120) h (dk dt_L_plays_0 63 rfl) ?_
        refine v_bipush (pc := 121) h (dk dt_L_plays_1 0 rfl) rfl ?_
        refine v_cS (pc := 123) h (c_L_from h.quiet (by omega) (by omega)) kv_L_from wM_L_75 rfl rfl (Nat.le_of_ble_eq_true rfl) ⟨⟨Nat.le_of_ble_eq_true rfl, Nat.le_of_ble_eq_true rfl⟩, by show kc + 0 ≤ 30000; omega, by show ns + 0 ≤ 400000; omega⟩ rfl rfl (dk dt_L_plays_1 1 rfl) (fun v123 μ123 p123 => ?_)
        obtain ⟨nn, y3, rfl, z1, z2, rfl⟩ := p123
        have hO := hO_c (m := mup m1 123 0 y3) (fun a q => by funext b; exact mup_nk (by omega)) hO
        generalize mup m1 123 0 y3 = m2 at hO ⊢
        obtain ⟨n, hn⟩ : ∃ n : Nat, nn = (n : Int) := ⟨nn.toNat, by omega⟩
        subst hn
        refine v_istore (lv' := [(8, _), (7, _), (6, _), (5, _), (0, _), (1, _), (2, _), (3, _), (4, _)]) (pc := 126) h (dk dt_L_plays_1 2 rfl) (Nat.le_of_ble_eq_true rfl) rfl ?_
        refine v_aload_n (pc := 128) h (dk dt_L_plays_1 3 rfl) rfl ?_
        refine v_cS (pc := 129) h (c_L_next h.quiet) kv_L_next wM_L_8 rfl rfl (Nat.le_of_ble_eq_true rfl) ⟨⟨Nat.le_of_ble_eq_true rfl, Nat.le_of_ble_eq_true rfl⟩, by show kc + 0 ≤ 30000; omega, by show ns + 0 ≤ 400000; omega⟩ rfl rfl (dk dt_L_plays_1 4 rfl) (fun v129 μ129 p129 => ?_)
        obtain ⟨x, y5, rfl, y6, y7, rfl⟩ := p129
        have hO := hO_c (m := mup m2 123 0 y5) (fun a q => by funext b; exact mup_nk (by omega)) hO
        generalize mup m2 123 0 y5 = m3 at hO ⊢
        refine v_iconst (pc := 132) h (dk dt_L_plays_1 5 rfl) ?_
        refine v_irem (pc := 133) h (dk dt_L_plays_1 6 rfl) (by omega) (by omega) ?_
        have hx3 := Int.emod_lt_of_pos x (show (0 : Int) < 2 by decide)
        have hx4 := Int.emod_nonneg x (show (2 : Int) ≠ 0 by decide)
        generalize x % 2 = qt2 at hx3 hx4 ⊢
        refine v_if_ne (pc := 134) h 141 (dk dt_L_plays_1 7 rfl) rfl (by omega) (fun c134 => ?_) (fun c134 => ?_)
        ·
          refine v_iconst (pc := 141) h (dk dt_L_plays_1 10 rfl) ?_
          exact VV.loc (go142 m3 n _ hO (by omega) (by first | exact Or.inr rfl | exact Or.inl rfl)) ⟨rfl, rfl, rfl, rfl, rfl, rfl, rfl, rfl, rfl, trivial⟩
        ·
          refine v_iconst (pc := 137) h (dk dt_L_plays_1 8 rfl) ?_
          refine v_goto (pc := 138) h 142 (dk dt_L_plays_1 9 rfl) rfl ?_
          exact VV.loc (go142 m3 n _ hO (by omega) (by first | exact Or.inr rfl | exact Or.inl rfl)) ⟨rfl, rfl, rfl, rfl, rfl, rfl, rfl, rfl, rfl, trivial⟩
      ·
        refine v_aload_n (pc := 108) h (dk dt_L_plays_0 57 rfl) rfl ?_
        refine v_bipush (pc := 109) h (dk dt_L_plays_0 58 rfl) rfl ?_
        refine v_bipush (pc := 111) h (dk dt_L_plays_0 59 rfl) rfl ?_
        refine v_cS (pc := 113) h (c_L_from h.quiet (by omega) (by omega)) kv_L_from wM_L_75 rfl rfl (Nat.le_of_ble_eq_true rfl) ⟨⟨Nat.le_of_ble_eq_true rfl, Nat.le_of_ble_eq_true rfl⟩, by show kc + 0 ≤ 30000; omega, by show ns + 0 ≤ 400000; omega⟩ rfl rfl (dk dt_L_plays_0 60 rfl) (fun v113 μ113 p113 => ?_)
        obtain ⟨nn, y3, rfl, z1, z2, rfl⟩ := p113
        have hO := hO_c (m := mup m1 123 0 y3) (fun a q => by funext b; exact mup_nk (by omega)) hO
        generalize mup m1 123 0 y3 = m2 at hO ⊢
        obtain ⟨n, hn⟩ : ∃ n : Nat, nn = (n : Int) := ⟨nn.toNat, by omega⟩
        subst hn
        refine v_goto (pc := 116) h 126 (dk dt_L_plays_0 61 rfl) rfl ?_
        refine v_istore (lv' := [(8, _), (7, _), (6, _), (5, _), (0, _), (1, _), (2, _), (3, _), (4, _)]) (pc := 126) h (dk dt_L_plays_1 2 rfl) (Nat.le_of_ble_eq_true rfl) rfl ?_
        refine v_aload_n (pc := 128) h (dk dt_L_plays_1 3 rfl) rfl ?_
        refine v_cS (pc := 129) h (c_L_next h.quiet) kv_L_next wM_L_8 rfl rfl (Nat.le_of_ble_eq_true rfl) ⟨⟨Nat.le_of_ble_eq_true rfl, Nat.le_of_ble_eq_true rfl⟩, by show kc + 0 ≤ 30000; omega, by show ns + 0 ≤ 400000; omega⟩ rfl rfl (dk dt_L_plays_1 4 rfl) (fun v129 μ129 p129 => ?_)
        obtain ⟨x, y5, rfl, y6, y7, rfl⟩ := p129
        have hO := hO_c (m := mup m2 123 0 y5) (fun a q => by funext b; exact mup_nk (by omega)) hO
        generalize mup m2 123 0 y5 = m3 at hO ⊢
        refine v_iconst (pc := 132) h (dk dt_L_plays_1 5 rfl) ?_
        refine v_irem (pc := 133) h (dk dt_L_plays_1 6 rfl) (by omega) (by omega) ?_
        have hx3 := Int.emod_lt_of_pos x (show (0 : Int) < 2 by decide)
        have hx4 := Int.emod_nonneg x (show (2 : Int) ≠ 0 by decide)
        generalize x % 2 = qt2 at hx3 hx4 ⊢
        refine v_if_ne (pc := 134) h 141 (dk dt_L_plays_1 7 rfl) rfl (by omega) (fun c134 => ?_) (fun c134 => ?_)
        ·
          refine v_iconst (pc := 141) h (dk dt_L_plays_1 10 rfl) ?_
          exact VV.loc (go142 m3 n _ hO (by omega) (by first | exact Or.inr rfl | exact Or.inl rfl)) ⟨rfl, rfl, rfl, rfl, rfl, rfl, rfl, rfl, rfl, trivial⟩
        ·
          refine v_iconst (pc := 137) h (dk dt_L_plays_1 8 rfl) ?_
          refine v_goto (pc := 138) h 142 (dk dt_L_plays_1 9 rfl) rfl ?_
          exact VV.loc (go142 m3 n _ hO (by omega) (by first | exact Or.inr rfl | exact Or.inl rfl)) ⟨rfl, rfl, rfl, rfl, rfl, rfl, rfl, rfl, rfl, trivial⟩
end
