/-! ===== Worker: a moment, a run ===== -/
section
variable {l : Launch} {B : Nat} {D : va_G} {E : Nat → ClassId} {μ m σ : Mm} {w n : Nat} {K : Nat → Int} {s : St} {J : Mm}
theorem c_X10_begin (hst : l.stackTraces = false) (hr : isW w) (hw : 28 ≤ w) (hs : okJ μ) (hn : μ 1 9 = (n : Int)) (hk : μ w 8 = K 0 ∧ μ w 9 = K 1 ∧ μ w 10 = K 2 ∧ μ w 11 = K 3) (h4 : μ 27 2 = K 4) {z : Int} (hz : μ 27 3 = z) :
    Ct l B D E yX10_begin (.code yX10_begin cX10_begin 1 none) rm_X10_begin [.ref (B + w)] μ (fun v m => v = none ∧ fr w μ m ∧ aW w n K m (inS (jm μ) z)) NX := by
  have hb := hs.1
  have hD := okJD hs hn
  have fin : ∀ M m, M = mbeg μ (w + 12) n n → (mup (mup (mup (mup (mup (mup (mfill (mfill (mup (mup (mup (mup M (w + 19) 0 0) (w + 4) 1 0) (w + 6) 1 0) (w + 8) 1 0) (w + 11) 12 0) (w + 2) 12 0) w 12 z) w 13 (-1)) w 14 0) w 15 0) w 16 0) w 17 (-1)) = m → fr w μ m ∧ aW w n K m (inS (jm μ) z) := by
    intro M m hM hm
    have o1 : ∀ a, a ≠ w → a ≠ w + 19 → a ≠ w + 4 → a ≠ w + 6 → a ≠ w + 8 → a ≠ w + 11 → a ≠ w + 2 → m a = M a := by
      intro a z1 z2 z3 z4 z5 z6 z7
      rw [← hm]
      funext b
      rw [mup_nk z1, mup_nk z1, mup_nk z1, mup_nk z1, mup_nk z1, mup_nk z1]
      unfold mfill
      rw [if_neg (by omega), if_neg (by omega), mup_nk z5, mup_nk z4, mup_nk z3, mup_nk z2]
    have o2 : ∀ a, a < w + 12 ∨ w + 19 ≤ a → M a = μ a := by
      intro a ha
      rw [hM]
      funext b
      unfold mbeg
      rw [if_neg (by omega), if_neg (by omega), if_neg (by omega), if_neg (by omega), if_neg (by omega)]
    have ow : ∀ b, b < 12 → m w b = μ w b := by
      intro b hb
      rw [← congrFun (o2 w (by omega)) b, ← hm]
      rw [mup_ne (by omega), mup_ne (by omega), mup_ne (by omega), mup_ne (by omega), mup_ne (by omega), mup_ne (by omega)]
      unfold mfill
      rw [if_neg (by omega), if_neg (by omega), mup_nk (by omega), mup_nk (by omega), mup_nk (by omega), mup_nk (by omega)]
    have e3 : ∀ a, a ≠ 0 → a ≠ 6 → ∀ b, inN (jm μ) z a b = 0 := fun a h1 h2 b => by simp [inN, h1, h2]
    have ef : ∀ (k : Nat), k ≠ w → k = w + 11 ∨ k = w + 2 → ∀ b, b < 12 → m k b = 0 := by
      intro k h1 h2 b hb
      rw [← hm, mup_nk h1, mup_nk h1, mup_nk h1, mup_nk h1, mup_nk h1, mup_nk h1]
      unfold mfill
      rcases h2 with h2 | h2
      · rw [if_neg (by omega), if_pos ⟨h2, hb⟩]
      · rw [if_pos ⟨h2, hb⟩]
    have el : ∀ k, k = w + 4 ∨ k = w + 6 ∨ k = w + 8 → m k 1 = 0 := by
      intro k h1
      rw [← hm, mup_nk (by omega), mup_nk (by omega), mup_nk (by omega), mup_nk (by omega), mup_nk (by omega), mup_nk (by omega)]
      unfold mfill
      rw [if_neg (by omega), if_neg (by omega)]
      unfold mup
      rcases h1 with h1 | h1 | h1
      · rw [if_neg (by omega), if_neg (by omega), if_pos ⟨h1, rfl⟩]
      · rw [if_neg (by omega), if_pos ⟨h1, rfl⟩]
      · rw [if_pos ⟨h1, rfl⟩]
    have eq : ∀ k, k = w + 4 ∨ k = w + 6 ∨ k = w + 8 → qis m k [] := fun k h => ⟨el k h, fun i j h => by simp at h⟩
    refine ⟨fun a ha => by rw [o1 a (by omega) (by omega) (by omega) (by omega) (by omega) (by omega) (by omega), o2 a (by omega)], ?_⟩
    refine ⟨aP_c (fun a h1 h2 => o1 a (by omega) (by omega) (by omega) (by omega) (by omega) (by omega) (by omega)) (hM ▸ aP_in (by omega) hD), fun j hj => ?_, ⟨?_, fun t ht => ?_⟩, ⟨eq _ (by omega), eq _ (by omega), eq _ (by omega)⟩, ?_, ?_, ?_, fun _ => ?_⟩
    · show m (w + 11) j = inN (jm μ) z 3 j ∧ m (w + 2) j = inN (jm μ) z 4 j
      rw [e3 3 (by decide) (by decide), e3 4 (by decide) (by decide)]
      exact ⟨ef _ (by omega) (by omega) j (by omega), ef _ (by omega) (by omega) j (by omega)⟩
    · show m (w + 19) 0 = inN (jm μ) z 6 6
      rw [show inN (jm μ) z 6 6 = 0 by simp [inN], ← hm, mup_nk (by omega), mup_nk (by omega), mup_nk (by omega), mup_nk (by omega), mup_nk (by omega), mup_nk (by omega)]
      unfold mfill
      rw [if_neg (by omega), if_neg (by omega), mup_nk (by omega), mup_nk (by omega), mup_nk (by omega), mup_eq]
    · have ht : (t : Int) < inN (jm μ) z 6 6 := ht
      rw [show inN (jm μ) z 6 6 = 0 by simp [inN]] at ht
      omega
    · show m w 13 = inN (jm μ) z 6 0 ∧ m w 17 = inN (jm μ) z 6 1 ∧ m w 12 = inN (jm μ) z 6 5 ∧ (inN (jm μ) z 6 0 ≠ -1 → _)
      rw [← hm]
      simp [mup, inN]
    · rw [ow 8 (by decide), ow 9 (by decide), ow 10 (by decide), ow 11 (by decide)]; exact hk
    · rw [o1 27 (by omega) (by omega) (by omega) (by omega) (by omega) (by omega) (by omega), o2 27 (by omega)]; exact h4
    · rw [← hm]; simp [mup]
  refine ct_of (own := RX10) (lv := [(0, _)]) hst (by decide) rfl rfl (Nat.le_of_ble_eq_true rfl) fun a h r t => ?_
  refine v_aload_n (pc := 0) h (dk dt_X10_begin 0 rfl) rfl ?_
  refine v_getr (pc := 1) h ci10 (W_hd hr) (Nat.le_of_ble_eq_true rfl) (j := 0) wF_X10_75 rfl (dk dt_X10_begin 1 rfl) ?_
  refine v_cVv (pc := 4) h (c_X6_begin h.quiet (W_prog hr) (by omega) (by assumption) (by assumption)) kv_X6_begin (P_hd (W_prog hr)) wM_X10_111 rfl rfl (Nat.le_of_ble_eq_true rfl) (RM.of rfl) rfl rfl (dk dt_X10_begin 2 rfl) ?_
  refine v_aload_n (pc := 7) h (dk dt_X10_begin 3 rfl) rfl ?_
  refine v_getr (pc := 8) h ci10 (W_hd hr) (Nat.le_of_ble_eq_true rfl) (j := 1) wF_X10_82 rfl (dk dt_X10_begin 4 rfl) ?_
  refine v_iconst (pc := 11) h (dk dt_X10_begin 5 rfl) ?_
  refine v_put (pc := 12) h ci0 (C_hd (W_course hr)) (Nat.le_of_ble_eq_true rfl) (j := 0) wF_X10_112 rfl rfl rfl rfl (dk dt_X10_begin 6 rfl) ?_
  refine v_aload_n (pc := 15) h (dk dt_X10_begin 7 rfl) rfl ?_
  refine v_getr (pc := 16) h ci10 (W_hd hr) (Nat.le_of_ble_eq_true rfl) (j := 5) wF_X10_23 rfl (dk dt_X10_begin 8 rfl) ?_
  refine v_cVv (pc := 19) h (c_X2_empty h.quiet (W_levels hr)) kv_X2_empty (V_hd (W_levels hr)) wM_X10_115 rfl rfl (Nat.le_of_ble_eq_true rfl) (RM.of rfl) rfl rfl (dk dt_X10_begin 9 rfl) ?_
  refine v_aload_n (pc := 22) h (dk dt_X10_begin 10 rfl) rfl ?_
  refine v_getr (pc := 23) h ci10 (W_hd hr) (Nat.le_of_ble_eq_true rfl) (j := 6) wF_X10_27 rfl (dk dt_X10_begin 11 rfl) ?_
  refine v_iconst (pc := 26) h (dk dt_X10_begin 12 rfl) ?_
  refine v_cVv (pc := 27) h (c_X7_filln h.quiet (W_counts hr) (o1 := w + 11) rfl (Nat.le_of_ble_eq_true rfl)) kv_X7_fill (W_counts hr).1 wM_X10_118 rfl rfl (Nat.le_of_ble_eq_true rfl) (RM.of rfl) rfl rfl (dk dt_X10_begin 13 rfl) ?_
  refine v_aload_n (pc := 30) h (dk dt_X10_begin 14 rfl) rfl ?_
  refine v_getr (pc := 31) h ci10 (W_hd hr) (Nat.le_of_ble_eq_true rfl) (j := 2) wF_X10_14 rfl (dk dt_X10_begin 15 rfl) ?_
  refine v_iconst (pc := 34) h (dk dt_X10_begin 16 rfl) ?_
  refine v_cVv (pc := 35) h (c_X7_filln h.quiet (W_kept hr) (o1 := w + 2) rfl (Nat.le_of_ble_eq_true rfl)) kv_X7_fill (W_kept hr).1 wM_X10_118 rfl rfl (Nat.le_of_ble_eq_true rfl) (RM.of rfl) rfl rfl (dk dt_X10_begin 17 rfl) ?_
  refine v_aload_n (pc := 38) h (dk dt_X10_begin 18 rfl) rfl ?_
  refine v_aload_n (pc := 39) h (dk dt_X10_begin 19 rfl) rfl ?_
  refine v_getr (pc := 40) h ci10 (W_hd hr) (Nat.le_of_ble_eq_true rfl) (j := 4) wF_X10_66 rfl (dk dt_X10_begin 20 rfl) ?_
  refine v_geti (pc := 43) h ci9 sh27 (Nat.le_of_ble_eq_true rfl) (j := 3) wF_X10_121 rfl (dk dt_X10_begin 21 rfl) ?_
  rw [show (mfill (mfill (mup (mup (mup (mup (mbeg μ (w + 12) n n) (w + 19) 0 0) (w + 4) 1 0) (w + 6) 1 0) (w + 8) 1 0) (w + 11) 12 0) (w + 2) 12 0) 27 3 = z by (unfold mfill; rw [if_neg (by omega), if_neg (by omega), mup_nk (by omega), mup_nk (by omega), mup_nk (by omega), mup_nk (by omega)]; unfold mbeg; rw [if_neg (by omega), if_neg (by omega), if_neg (by omega), if_neg (by omega), if_neg (by omega)]; exact hz)]
  refine v_put (pc := 46) h ci10 (W_hd hr) (Nat.le_of_ble_eq_true rfl) (j := 12) wF_X10_44 rfl rfl rfl rfl (dk dt_X10_begin 22 rfl) ?_
  refine v_aload_n (pc := 49) h (dk dt_X10_begin 23 rfl) rfl ?_
  refine v_iconst (pc := 50) h (dk dt_X10_begin 24 rfl) ?_
  refine v_put (pc := 51) h ci10 (W_hd hr) (Nat.le_of_ble_eq_true rfl) (j := 13) wF_X10_47 rfl rfl rfl rfl (dk dt_X10_begin 25 rfl) ?_
  refine v_aload_n (pc := 54) h (dk dt_X10_begin 26 rfl) rfl ?_
  refine v_iconst (pc := 55) h (dk dt_X10_begin 27 rfl) ?_
  refine v_put (pc := 56) h ci10 (W_hd hr) (Nat.le_of_ble_eq_true rfl) (j := 14) wF_X10_50 rfl rfl rfl rfl (dk dt_X10_begin 28 rfl) ?_
  refine v_aload_n (pc := 59) h (dk dt_X10_begin 29 rfl) rfl ?_
  refine v_iconst (pc := 60) h (dk dt_X10_begin 30 rfl) ?_
  refine v_put (pc := 61) h ci10 (W_hd hr) (Nat.le_of_ble_eq_true rfl) (j := 15) wF_X10_53 rfl rfl rfl rfl (dk dt_X10_begin 31 rfl) ?_
  refine v_aload_n (pc := 64) h (dk dt_X10_begin 32 rfl) rfl ?_
  refine v_iconst (pc := 65) h (dk dt_X10_begin 33 rfl) ?_
  refine v_put (pc := 66) h ci10 (W_hd hr) (Nat.le_of_ble_eq_true rfl) (j := 16) wF_X10_56 rfl rfl rfl rfl (dk dt_X10_begin 34 rfl) ?_
  refine v_aload_n (pc := 69) h (dk dt_X10_begin 35 rfl) rfl ?_
  refine v_iconst (pc := 70) h (dk dt_X10_begin 36 rfl) ?_
  refine v_put (pc := 71) h ci10 (W_hd hr) (Nat.le_of_ble_eq_true rfl) (j := 17) wF_X10_59 rfl rfl rfl rfl (dk dt_X10_begin 37 rfl) ?_
  exact v_vret (pc := 74) h r (dk dt_X10_begin 38 rfl) (Nat.le_of_ble_eq_true rfl) (Nat.le_of_ble_eq_true rfl) ⟨rfl, fin _ _ rfl rfl⟩
theorem c_X10_endSlice (hst : l.stackTraces = false) (hr : isW w) (hw : 28 ≤ w) (hK : okK K) (hn : n ≤ 12) (ha : aW w n K μ s) (hS : vS J n K s) (h0 : s.1 6 0 ≠ -1) (h2 : s.1 6 2 ≤ 0) :
    Ct l B D E yX10_endSlice (.code yX10_endSlice cX10_endSlice 2 none) rm_X10_endSlice [.ref (B + w)] μ (fun v m => v = none ∧ fr w μ m ∧ (∀ a, w + 22 ≤ a → m a = μ a) ∧ aW w n K m (ovF K s)) NX := by
  have hK0 := hK.1
  have hk := ha.k
  have hf := ha.f
  have hf3 := hf.2.2.2 h0
  have hA := hS.2.2.2.1
  have hA1 := hA.1
  have hA3 := hA.2.2 h0
  have hov : ovF K s = (mup s.1 6 0 (-1), ovQ K s (s.1 6 0).toNat) := by unfold ovF; rw [if_pos ⟨h0, h2⟩]
  have hlen : rRow K → s.2.1.length + (s.2.2.1.length + s.2.2.2.length) + 1 ≤ 12 := by
    intro q
    have hq := hS.2.2.2.2.1.1 q
    have hnd : ((s.1 6 0).toNat :: (s.2.1 ++ (s.2.2.1 ++ s.2.2.2))).Nodup := List.nodup_cons.mpr ⟨fun z => ((hq.2 _).mp z).2.2 (by omega), hq.1⟩
    have hsub : ((s.1 6 0).toNat :: (s.2.1 ++ (s.2.2.1 ++ s.2.2.2))) ⊆ List.range n := by
      intro x hx
      rw [List.mem_range]
      rcases List.mem_cons.mp hx with e | e
      · rw [e]; omega
      · exact ((hq.2 _).mp e).1
    have := hnd.length_le_of_subset hsub
    simp only [List.length_cons, List.length_append, List.length_range] at this
    omega
  have e6 : ∀ b, b ≠ 0 → mup s.1 6 0 (-1) 6 b = s.1 6 b := fun b hb => mup_ne (fun z => hb z.2)
  have fin : ∀ (m : Mm) (Q : List Nat × (List Nat × List Nat)), (∀ a, a < w + 4 ∨ w + 10 ≤ a → m a = μ a) → Q = ovQ K s (s.1 6 0).toNat → qis m (w + 4) Q.1 ∧ qis m (w + 6) Q.2.1 ∧ qis m (w + 8) Q.2.2 → fr w μ (mup m w 13 (-1)) ∧ (∀ a, w + 22 ≤ a → (mup m w 13 (-1)) a = μ a) ∧ aW w n K (mup m w 13 (-1)) (ovF K s) := by
    intro m Q hm hQ hq
    have o : ∀ a, a ≠ w → mup m w 13 (-1) a = m a := fun a h => by funext b; exact mup_nk h
    have ow : ∀ b, b ≠ 13 → mup m w 13 (-1) w b = μ w b := fun b h => by rw [mup_ne (fun z => h z.2), hm w (by omega)]
    refine ⟨fun a h => by rw [o a (by omega), hm a (by omega)], fun a h => by rw [o a (by omega), hm a (by omega)], ?_⟩
    rw [hov]
    refine aW_6 ha hw (fun a h1 h2 => by rw [o a h1, hm a (by omega)]) (fun a h => by funext b; exact mup_nk h) (e6 6 (by decide)) ?_ ?_ ⟨ow 8 (by decide), ow 9 (by decide), ow 10 (by decide), ow 11 (by decide)⟩ (fun q => by rw [ow 14 (by decide)]; exact ha.lv q)
    · rw [← hQ]
      exact ⟨qis_c (o _ (by omega)) (o _ (by omega)) hq.1, qis_c (o _ (by omega)) (o _ (by omega)) hq.2.1, qis_c (o _ (by omega)) (o _ (by omega)) hq.2.2⟩
    · show mup m w 13 (-1) w 13 = mup s.1 6 0 (-1) 6 0 ∧ mup m w 13 (-1) w 17 = mup s.1 6 0 (-1) 6 1 ∧ mup m w 13 (-1) w 12 = mup s.1 6 0 (-1) 6 5 ∧ (mup s.1 6 0 (-1) 6 0 ≠ -1 → _)
      rw [mup_eq, mup_eq, ow 17 (by decide), ow 12 (by decide), e6 1 (by decide), e6 5 (by decide)]
      exact ⟨rfl, hf.2.1, hf.2.2.1, fun z => absurd rfl z⟩
  have q := ha.q
  have q0 := q.1.1
  have q1 := q.2.1.1
  have q2 := q.2.2.1
  have hc : s.1 6 0 = (((s.1 6 0).toNat : Nat) : Int) := by have := hA.1; omega
  have e13 : μ w 13 = (((s.1 6 0).toNat : Nat) : Int) := by rw [hf.1]; exact hc
  have join : ∀ (k : Nat) (L : List Nat), k = w + 4 ∨ k = w + 6 ∨ k = w + 8 → qis μ k L → (∀ a, a < w + 4 ∨ w + 10 ≤ a → (mup (mup μ (k + 1) (μ k 1).toNat (μ w 13)) k 1 (μ k 1 + 1)) a = μ a) ∧ qis (mup (mup μ (k + 1) (μ k 1).toNat (μ w 13)) k 1 (μ k 1 + 1)) k (L ++ [(s.1 6 0).toNat]) ∧ ∀ k' L', k' = w + 4 ∨ k' = w + 6 ∨ k' = w + 8 → k' ≠ k → qis μ k' L' → qis (mup (mup μ (k + 1) (μ k 1).toNat (μ w 13)) k 1 (μ k 1 + 1)) k' L' := by
    intro k L hk hq
    rw [e13]
    refine ⟨fun a h => by funext b; rw [mup_nk (by omega), mup_nk (by omega)], qis_j hq, fun k' L' h1 h2 h3 => qis_c (by funext b; rw [mup_nk (by omega), mup_nk (by omega)]) (by funext b; rw [mup_nk (by omega), mup_nk (by omega)]) h3⟩
  refine ct_of (own := RX10) (lv := [(0, _)]) hst (by decide) rfl rfl (Nat.le_of_ble_eq_true rfl) fun a h r t => ?_
  have go28 : ∀ (z : Int) (k : Nat) (L : List Nat), InR z → lineAt (w + 3) z = k → k = w + 4 ∨ k = w + 6 ∨ k = w + 8 → qis μ k L → L.length < 12 → (∀ m, m = mup (mup (mup μ (k + 1) (μ k 1).toNat (μ w 13)) k 1 (μ k 1 + 1)) w 13 (-1) → fr w μ m ∧ (∀ a, w + 22 ≤ a → m a = μ a) ∧ aW w n K m (ovF K s)) → VV a B (SP B D E μ) 0 0 28 [(0, .ref (B + w))] [iI z] := by
    intro z k L hz hk hk3 hq hl hfin
    have hkl : isLine k := hk ▸ lineAt_is (W_levels hr) z
    have hq1 := hq.1
    refine v_istore_n (lv' := [(1, _), (0, _)]) (pc := 28) h (dk dt_X10_endSlice 14 rfl) (Nat.le_of_ble_eq_true rfl) rfl ?_
    refine v_aload_n (pc := 29) h (dk dt_X10_endSlice 15 rfl) rfl ?_
    refine v_getr (pc := 30) h ci10 (W_hd hr) (Nat.le_of_ble_eq_true rfl) (j := 5) wF_X10_23 rfl (dk dt_X10_endSlice 16 rfl) ?_
    refine v_iload_n (pc := 33) h (dk dt_X10_endSlice 17 rfl) rfl ?_
    refine v_cVi (pc := 34) h (c_X2_lineOf h.quiet (W_levels hr) (by omega)) kv_X2_lineOf (V_hd (W_levels hr)) wM_X10_161 rfl rfl (Nat.le_of_ble_eq_true rfl) (RM.of rfl) rfl rfl (dk dt_X10_endSlice 18 rfl) ?_
    rw [hk]
    refine v_aload_n (pc := 37) h (dk dt_X10_endSlice 19 rfl) rfl ?_
    refine v_geti (pc := 38) h ci10 (W_hd hr) (Nat.le_of_ble_eq_true rfl) (j := 13) wF_X10_47 rfl (dk dt_X10_endSlice 20 rfl) ?_
    refine v_cVv (pc := 41) h (c_X3_join h.quiet hkl (by omega)) kv_X3_join hkl.1 wM_X10_165 rfl rfl (Nat.le_of_ble_eq_true rfl) (RM.of rfl) rfl rfl (dk dt_X10_endSlice 21 rfl) ?_
    refine v_aload_n (pc := 44) h (dk dt_X10_endSlice 22 rfl) rfl ?_
    refine v_iconst (pc := 45) h (dk dt_X10_endSlice 23 rfl) ?_
    refine v_put (pc := 46) h ci10 (W_hd hr) (Nat.le_of_ble_eq_true rfl) (j := 13) wF_X10_47 rfl rfl rfl rfl (dk dt_X10_endSlice 24 rfl) ?_
    exact v_vret (pc := 49) h r (dk dt_X10_endSlice 25 rfl) (Nat.le_of_ble_eq_true rfl) (Nat.le_of_ble_eq_true rfl) ⟨rfl, hfin _ rfl⟩
  refine v_aload_n (pc := 0) h (dk dt_X10_endSlice 0 rfl) rfl ?_
  refine v_cVi (pc := 1) h (c_X10_usesLevels h.quiet hr (by omega)) kv_X10_usesLevels (W_hd hr) wM_X10_158 rfl rfl (Nat.le_of_ble_eq_true rfl) (RM.of rfl) rfl rfl (dk dt_X10_endSlice 1 rfl) ?_
  refine v_if_eq (pc := 4) h 44 (dk dt_X10_endSlice 2 rfl) rfl (by split <;> omega) (fun c4 => ?_) (fun c4 => ?_)
  ·
    have d4 : ¬ rRow K := fun q => by rw [if_pos (by omega)] at c4; omega
    refine v_aload_n (pc := 44) h (dk dt_X10_endSlice 22 rfl) rfl ?_
    refine v_iconst (pc := 45) h (dk dt_X10_endSlice 23 rfl) ?_
    refine v_put (pc := 46) h ci10 (W_hd hr) (Nat.le_of_ble_eq_true rfl) (j := 13) wF_X10_47 rfl rfl rfl rfl (dk dt_X10_endSlice 24 rfl) ?_
    exact v_vret (pc := 49) h r (dk dt_X10_endSlice 25 rfl) (Nat.le_of_ble_eq_true rfl) (Nat.le_of_ble_eq_true rfl) ⟨rfl, fin μ s.2 (fun _ _ => rfl) (by unfold ovQ; rw [if_neg (by omega), if_neg (by omega)]) q⟩
  ·
    have d4 : rRow K := by by_cases q : rRow K; exact q; rw [if_neg (by omega)] at c4; omega
    have hlen := hlen d4
    refine v_aload_n (pc := 7) h (dk dt_X10_endSlice 3 rfl) rfl ?_
    refine v_geti (pc := 8) h ci10 (W_hd hr) (Nat.le_of_ble_eq_true rfl) (j := 8) wF_X10_30 rfl (dk dt_X10_endSlice 4 rfl) ?_
    refine v_if_ne (pc := 11) h 18 (dk dt_X10_endSlice 5 rfl) rfl (by omega) (fun c11 => ?_) (fun c11 => ?_)
    ·
      refine v_aload_n (pc := 18) h (dk dt_X10_endSlice 8 rfl) rfl ?_
      refine v_geti (pc := 19) h ci10 (W_hd hr) (Nat.le_of_ble_eq_true rfl) (j := 14) wF_X10_50 rfl (dk dt_X10_endSlice 9 rfl) ?_
      refine v_iconst (pc := 22) h (dk dt_X10_endSlice 10 rfl) ?_
      refine v_iadd (pc := 23) h (dk dt_X10_endSlice 11 rfl) ?_
      refine v_iconst (pc := 24) h (dk dt_X10_endSlice 12 rfl) ?_
      refine v_min (pc := 25) h km_min wM_X10_173 (by omega) (Nat.le_of_ble_eq_true rfl) ⟨Nat.le_of_ble_eq_true rfl, Nat.le_of_ble_eq_true rfl, Nat.le_of_ble_eq_true rfl, Nat.le_of_ble_eq_true rfl⟩ (dk dt_X10_endSlice 13 rfl) ?_
      first
        | exact VV.loc (go28 0 (w + 4) s.2.1 (by omega) rfl (by omega) q.1 (by omega) (fun m hm => hm ▸ fin _ (s.2.1 ++ [(s.1 6 0).toNat], s.2.2) (join (w + 4) _ (by omega) q.1).1 (by unfold ovQ; rw [if_pos (by omega)]) ⟨(join (w + 4) _ (by omega) q.1).2.1, (join (w + 4) _ (by omega) q.1).2.2 _ _ (by omega) (by omega) q.2.1, (join (w + 4) _ (by omega) q.1).2.2 _ _ (by omega) (by omega) q.2.2⟩)) ⟨rfl, trivial⟩
        | (rcases (show s.1 6 4 = 0 ∨ s.1 6 4 ≠ 0 by omega) with e4 | e4
           · rw [show (if 2 < μ w 14 + 1 then 2 else μ w 14 + 1) = 1 by rw [if_neg (by omega)]; omega]
             exact VV.loc (go28 1 (w + 6) s.2.2.1 (by omega) rfl (by omega) q.2.1 (by omega) (fun m hm => hm ▸ fin _ (s.2.1, s.2.2.1 ++ [(s.1 6 0).toNat], s.2.2.2) (join (w + 6) _ (by omega) q.2.1).1 (by unfold ovQ; rw [if_neg (by omega), if_pos (by omega), if_pos e4]) ⟨(join (w + 6) _ (by omega) q.2.1).2.2 _ _ (by omega) (by omega) q.1, (join (w + 6) _ (by omega) q.2.1).2.1, (join (w + 6) _ (by omega) q.2.1).2.2 _ _ (by omega) (by omega) q.2.2⟩)) ⟨rfl, trivial⟩
           · rw [show (if 2 < μ w 14 + 1 then 2 else μ w 14 + 1) = 2 by split <;> omega]
             exact VV.loc (go28 2 (w + 8) s.2.2.2 (by omega) rfl (by omega) q.2.2 (by omega) (fun m hm => hm ▸ fin _ (s.2.1, s.2.2.1, s.2.2.2 ++ [(s.1 6 0).toNat]) (join (w + 8) _ (by omega) q.2.2).1 (by unfold ovQ; rw [if_neg (by omega), if_pos (by omega), if_neg e4]) ⟨(join (w + 8) _ (by omega) q.2.2).2.2 _ _ (by omega) (by omega) q.1, (join (w + 8) _ (by omega) q.2.2).2.2 _ _ (by omega) (by omega) q.2.1, (join (w + 8) _ (by omega) q.2.2).2.1⟩)) ⟨rfl, trivial⟩)
    ·
      refine v_iconst (pc := 14) h (dk dt_X10_endSlice 6 rfl) ?_
      refine v_goto (pc := 15) h 28 (dk dt_X10_endSlice 7 rfl) rfl ?_
      first
        | exact VV.loc (go28 0 (w + 4) s.2.1 (by omega) rfl (by omega) q.1 (by omega) (fun m hm => hm ▸ fin _ (s.2.1 ++ [(s.1 6 0).toNat], s.2.2) (join (w + 4) _ (by omega) q.1).1 (by unfold ovQ; rw [if_pos (by omega)]) ⟨(join (w + 4) _ (by omega) q.1).2.1, (join (w + 4) _ (by omega) q.1).2.2 _ _ (by omega) (by omega) q.2.1, (join (w + 4) _ (by omega) q.1).2.2 _ _ (by omega) (by omega) q.2.2⟩)) ⟨rfl, trivial⟩
        | (rcases (show s.1 6 4 = 0 ∨ s.1 6 4 ≠ 0 by omega) with e4 | e4
           · rw [show (if 2 < μ w 14 + 1 then 2 else μ w 14 + 1) = 1 by rw [if_neg (by omega)]; omega]
             exact VV.loc (go28 1 (w + 6) s.2.2.1 (by omega) rfl (by omega) q.2.1 (by omega) (fun m hm => hm ▸ fin _ (s.2.1, s.2.2.1 ++ [(s.1 6 0).toNat], s.2.2.2) (join (w + 6) _ (by omega) q.2.1).1 (by unfold ovQ; rw [if_neg (by omega), if_pos (by omega), if_pos e4]) ⟨(join (w + 6) _ (by omega) q.2.1).2.2 _ _ (by omega) (by omega) q.1, (join (w + 6) _ (by omega) q.2.1).2.1, (join (w + 6) _ (by omega) q.2.1).2.2 _ _ (by omega) (by omega) q.2.2⟩)) ⟨rfl, trivial⟩
           · rw [show (if 2 < μ w 14 + 1 then 2 else μ w 14 + 1) = 2 by split <;> omega]
             exact VV.loc (go28 2 (w + 8) s.2.2.2 (by omega) rfl (by omega) q.2.2 (by omega) (fun m hm => hm ▸ fin _ (s.2.1, s.2.2.1, s.2.2.2 ++ [(s.1 6 0).toNat]) (join (w + 8) _ (by omega) q.2.2).1 (by unfold ovQ; rw [if_neg (by omega), if_pos (by omega), if_neg e4]) ⟨(join (w + 8) _ (by omega) q.2.2).2.2 _ _ (by omega) (by omega) q.1, (join (w + 8) _ (by omega) q.2.2).2.2 _ _ (by omega) (by omega) q.2.1, (join (w + 8) _ (by omega) q.2.2).2.1⟩)) ⟨rfl, trivial⟩)
end
