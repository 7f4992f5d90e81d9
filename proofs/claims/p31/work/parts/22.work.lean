/-! ===== Worker: a moment, a run ===== -/
section
variable {l : Launch} {B : Nat} {D : va_G} {E : Nat → ClassId} {μ m σ : Mm} {w n : Nat} {K : Nat → Int} {s : St} {J : Mm}
theorem c_X10_begin (hst : l.stackTraces = false) (hr : isW w) (hw : 28 ≤ w) (hs : okJ μ) (hn : μ 1 9 = (n : Int)) (hk : μ w 8 = K 0 ∧ μ w 9 = K 1 ∧ μ w 10 = K 2 ∧ μ w 11 = K 3) (h4 : μ 27 2 = K 4) {z : Int} (hz : μ 27 3 = z) :
    Ct l B D E yX10_begin (.code yX10_begin cX10_begin 1 none) rm_X10_begin [.ref (pl B w)] μ (fun v m => v = none ∧ fr w μ m ∧ aW w n K m (inS (jm μ) z)) NX := by
  have hb := hs.1
  have hD := okJD hs hn
  have fin : ∀ M m, M = mbeg μ (w + 12) n n → (mup (mup (mup (mup (mup (mup (mfill (mfill (mup (mup (mup (mup M (w + 19) 0 0) (w + 4) 1 0) (w + 6) 1 0) (w + 8) 1 0) (w + 11) 12 0) (w + 2) 12 0) w 12 z) w 13 (-1)) w 14 0) w 15 0) w 16 0) w 17 (-1)) = m → fr w μ m ∧ aW w n K m (inS (jm μ) z) := by
    intro M m hM hm
    have o1 : ∀ a, a ≠ w → a ≠ w + 19 → a ≠ w + 4 → a ≠ w + 6 → a ≠ w + 8 → a ≠ w + 11 → a ≠ w + 2 → m a = M a := by
      intro a z1 z2 z3 z4 z5 z6 z7
      rw [← hm]
      funext b
      rw [mup_nk z1, mup_nk z1, mup_nk z1, mup_nk z1, mup_nk z1, mup_nk z1]
      unfold mfill
      rw [if_neg (by omega), if_neg (by omega), mup_nk z5, mup_nk z4, mup_nk z3, mup_nk z2]
    have o2 : ∀ a, a < w + 12 ∨ w + 19 ≤ a → M a = μ a := by
      intro a ha
      rw [hM]
      funext b
      unfold mbeg
      rw [if_neg (by omega), if_neg (by omega), if_neg (by omega), if_neg (by omega), if_neg (by omega)]
    have ow : ∀ b, b < 12 → m w b = μ w b := by
      intro b hb
      rw [← congrFun (o2 w (by omega)) b, ← hm]
      rw [mup_ne (by omega), mup_ne (by omega), mup_ne (by omega), mup_ne (by omega), mup_ne (by omega), mup_ne (by omega)]
      unfold mfill
      rw [if_neg (by omega), if_neg (by omega), mup_nk (by omega), mup_nk (by omega), mup_nk (by omega), mup_nk (by omega)]
    have e3 : ∀ a, a ≠ 0 → a ≠ 6 → ∀ b, inN (jm μ) z a b = 0 := fun a h1 h2 b => by simp [inN, h1, h2]
    have ef : ∀ (k : Nat), k ≠ w → k = w + 11 ∨ k = w + 2 → ∀ b, b < 12 → m k b = 0 := by
      intro k h1 h2 b hb
      rw [← hm, mup_nk h1, mup_nk h1, mup_nk h1, mup_nk h1, mup_nk h1, mup_nk h1]
      unfold mfill
      rcases h2 with h2 | h2
      · rw [if_neg (by omega), if_pos ⟨h2, hb⟩]
      · rw [if_pos ⟨h2, hb⟩]
    have el : ∀ k, k = w + 4 ∨ k = w + 6 ∨ k = w + 8 → m k 1 = 0 := by
      intro k h1
      rw [← hm, mup_nk (by omega), mup_nk (by omega), mup_nk (by omega), mup_nk (by omega), mup_nk (by omega), mup_nk (by omega)]
      unfold mfill
      rw [if_neg (by omega), if_neg (by omega)]
      unfold mup
      rcases h1 with h1 | h1 | h1
      · rw [if_neg (by omega), if_neg (by omega), if_pos ⟨h1, rfl⟩]
      · rw [if_neg (by omega), if_pos ⟨h1, rfl⟩]
      · rw [if_pos ⟨h1, rfl⟩]
    have eq : ∀ k, k = w + 4 ∨ k = w + 6 ∨ k = w + 8 → qis m k [] := fun k h => ⟨el k h, fun i j h => by simp at h⟩
    refine ⟨fun a ha => by rw [o1 a (by omega) (by omega) (by omega) (by omega) (by omega) (by omega) (by omega), o2 a (by omega)], ?_⟩
    refine ⟨aP_c (fun a h1 h2 => o1 a (by omega) (by omega) (by omega) (by omega) (by omega) (by omega) (by omega)) (hM ▸ aP_in (by omega) hD), fun j hj => ?_, ⟨?_, fun t ht => ?_⟩, ⟨eq _ (by omega), eq _ (by omega), eq _ (by omega)⟩, ?_, ?_, ?_, fun _ => ?_⟩
    · show m (w + 11) j = inN (jm μ) z 3 j ∧ m (w + 2) j = inN (jm μ) z 4 j
      rw [e3 3 (by decide) (by decide), e3 4 (by decide) (by decide)]
      exact ⟨ef _ (by omega) (by omega) j (by omega), ef _ (by omega) (by omega) j (by omega)⟩
    · show m (w + 19) 0 = inN (jm μ) z 6 6
      rw [show inN (jm μ) z 6 6 = 0 by simp [inN], ← hm, mup_nk (by omega), mup_nk (by omega), mup_nk (by omega), mup_nk (by omega), mup_nk (by omega), mup_nk (by omega)]
      unfold mfill
      rw [if_neg (by omega), if_neg (by omega), mup_nk (by omega), mup_nk (by omega), mup_nk (by omega), mup_eq]
    · have ht : (t : Int) < inN (jm μ) z 6 6 := ht
      rw [show inN (jm μ) z 6 6 = 0 by simp [inN]] at ht
      omega
    · show m w 13 = inN (jm μ) z 6 0 ∧ m w 17 = inN (jm μ) z 6 1 ∧ m w 12 = inN (jm μ) z 6 5 ∧ (inN (jm μ) z 6 0 ≠ -1 → _)
      rw [← hm]
      simp [mup, inN]
    · rw [ow 8 (by decide), ow 9 (by decide), ow 10 (by decide), ow 11 (by decide)]; exact hk
    · rw [o1 27 (by omega) (by omega) (by omega) (by omega) (by omega) (by omega) (by omega), o2 27 (by omega)]; exact h4
    · rw [← hm]; simp [mup]
  refine ct_of (own := RX10) (lv := [(0, _)]) hst (by decide) rfl rfl (Nat.le_of_ble_eq_true rfl) fun a h r t => ?_
  refine v_aload_n (pc := 0) h (dk dt_X10_begin 0 rfl) rfl ?_
  refine v_getr (pc := 1) h ci10 (W_hd hr) (Nat.le_of_ble_eq_true rfl) (j := 0) wF_X10_75 rfl (dk dt_X10_begin 1 rfl) ?_
  refine v_cVv (pc := 4) h (c_X6_begin h.quiet (W_prog hr) (by omega) (by assumption) (by assumption)) kv_X6_begin (P_hd (W_prog hr)) wM_X10_111 rfl rfl (Nat.le_of_ble_eq_true rfl) (RM.of rfl) rfl rfl (dk dt_X10_begin 2 rfl) ?_
  refine v_aload_n (pc := 7) h (dk dt_X10_begin 3 rfl) rfl ?_
  refine v_getr (pc := 8) h ci10 (W_hd hr) (Nat.le_of_ble_eq_true rfl) (j := 1) wF_X10_82 rfl (dk dt_X10_begin 4 rfl) ?_
  refine v_iconst (pc := 11) h (dk dt_X10_begin 5 rfl) ?_
  refine v_put (pc := 12) h ci0 (C_hd (W_course hr)) (Nat.le_of_ble_eq_true rfl) (j := 0) wF_X10_112 rfl rfl rfl rfl (dk dt_X10_begin 6 rfl) ?_
  refine v_aload_n (pc := 15) h (dk dt_X10_begin 7 rfl) rfl ?_
  refine v_getr (pc := 16) h ci10 (W_hd hr) (Nat.le_of_ble_eq_true rfl) (j := 5) wF_X10_23 rfl (dk dt_X10_begin 8 rfl) ?_
  refine v_cVv (pc := 19) h (c_X2_empty h.quiet (W_levels hr)) kv_X2_empty (V_hd (W_levels hr)) wM_X10_115 rfl rfl (Nat.le_of_ble_eq_true rfl) (RM.of rfl) rfl rfl (dk dt_X10_begin 9 rfl) ?_
  refine v_aload_n (pc := 22) h (dk dt_X10_begin 10 rfl) rfl ?_
  refine v_getr (pc := 23) h ci10 (W_hd hr) (Nat.le_of_ble_eq_true rfl) (j := 6) wF_X10_27 rfl (dk dt_X10_begin 11 rfl) ?_
  refine v_iconst (pc := 26) h (dk dt_X10_begin 12 rfl) ?_
  refine v_cVv (pc := 27) h (c_X7_filln h.quiet (W_counts hr) (o1 := w + 11) rfl (Nat.le_of_ble_eq_true rfl)) kv_X7_fill (W_counts hr).1 wM_X10_118 rfl rfl (Nat.le_of_ble_eq_true rfl) (RM.of rfl) rfl rfl (dk dt_X10_begin 13 rfl) ?_
  refine v_aload_n (pc := 30) h (dk dt_X10_begin 14 rfl) rfl ?_
  refine v_getr (pc := 31) h ci10 (W_hd hr) (Nat.le_of_ble_eq_true rfl) (j := 2) wF_X10_14 rfl (dk dt_X10_begin 15 rfl) ?_
  refine v_iconst (pc := 34) h (dk dt_X10_begin 16 rfl) ?_
  refine v_cVv (pc := 35) h (c_X7_filln h.quiet (W_kept hr) (o1 := w + 2) rfl (Nat.le_of_ble_eq_true rfl)) kv_X7_fill (W_kept hr).1 wM_X10_118 rfl rfl (Nat.le_of_ble_eq_true rfl) (RM.of rfl) rfl rfl (dk dt_X10_begin 17 rfl) ?_
  refine v_aload_n (pc := 38) h (dk dt_X10_begin 18 rfl) rfl ?_
  refine v_aload_n (pc := 39) h (dk dt_X10_begin 19 rfl) rfl ?_
  refine v_getr (pc := 40) h ci10 (W_hd hr) (Nat.le_of_ble_eq_true rfl) (j := 4) wF_X10_66 rfl (dk dt_X10_begin 20 rfl) ?_
  refine v_geti (pc := 43) h ci9 sh27 (Nat.le_of_ble_eq_true rfl) (j := 3) wF_X10_121 rfl (dk dt_X10_begin 21 rfl) ?_
  rw [show (mfill (mfill (mup (mup (mup (mup (mbeg μ (w + 12) n n) (w + 19) 0 0) (w + 4) 1 0) (w + 6) 1 0) (w + 8) 1 0) (w + 11) 12 0) (w + 2) 12 0) 27 3 = z by (unfold mfill; rw [if_neg (by omega), if_neg (by omega), mup_nk (by omega), mup_nk (by omega), mup_nk (by omega), mup_nk (by omega)]; unfold mbeg; rw [if_neg (by omega), if_neg (by omega), if_neg (by omega), if_neg (by omega), if_neg (by omega)]; exact hz)]
  refine v_put (pc := 46) h ci10 (W_hd hr) (Nat.le_of_ble_eq_true rfl) (j := 12) wF_X10_44 rfl rfl rfl rfl (dk dt_X10_begin 22 rfl) ?_
  refine v_aload_n (pc := 49) h (dk dt_X10_begin 23 rfl) rfl ?_
  refine v_iconst (pc := 50) h (dk dt_X10_begin 24 rfl) ?_
  refine v_put (pc := 51) h ci10 (W_hd hr) (Nat.le_of_ble_eq_true rfl) (j := 13) wF_X10_47 rfl rfl rfl rfl (dk dt_X10_begin 25 rfl) ?_
  refine v_aload_n (pc := 54) h (dk dt_X10_begin 26 rfl) rfl ?_
  refine v_iconst (pc := 55) h (dk dt_X10_begin 27 rfl) ?_
  refine v_put (pc := 56) h ci10 (W_hd hr) (Nat.le_of_ble_eq_true rfl) (j := 14) wF_X10_50 rfl rfl rfl rfl (dk dt_X10_begin 28 rfl) ?_
  refine v_aload_n (pc := 59) h (dk dt_X10_begin 29 rfl) rfl ?_
  refine v_iconst (pc := 60) h (dk dt_X10_begin 30 rfl) ?_
  refine v_put (pc := 61) h ci10 (W_hd hr) (Nat.le_of_ble_eq_true rfl) (j := 15) wF_X10_53 rfl rfl rfl rfl (dk dt_X10_begin 31 rfl) ?_
  refine v_aload_n (pc := 64) h (dk dt_X10_begin 32 rfl) rfl ?_
  refine v_iconst (pc := 65) h (dk dt_X10_begin 33 rfl) ?_
  refine v_put (pc := 66) h ci10 (W_hd hr) (Nat.le_of_ble_eq_true rfl) (j := 16) wF_X10_56 rfl rfl rfl rfl (dk dt_X10_begin 34 rfl) ?_
  refine v_aload_n (pc := 69) h (dk dt_X10_begin 35 rfl) rfl ?_
  refine v_iconst (pc := 70) h (dk dt_X10_begin 36 rfl) ?_
  refine v_put (pc := 71) h ci10 (W_hd hr) (Nat.le_of_ble_eq_true rfl) (j := 17) wF_X10_59 rfl rfl rfl rfl (dk dt_X10_begin 37 rfl) ?_
  exact v_vret (pc := 74) h r (dk dt_X10_begin 38 rfl) (Nat.le_of_ble_eq_true rfl) (Nat.le_of_ble_eq_true rfl) ⟨rfl, fin _ _ rfl rfl⟩
theorem c_X10_endSlice (hst : l.stackTraces = false) (hr : isW w) (hw : 28 ≤ w) (hK : okK K) (hn : n ≤ 12) (ha : aW w n K μ s) (hS : vS J n K s) (h0 : s.1 6 0 ≠ -1) (h2 : s.1 6 2 ≤ 0) :
    Ct l B D E yX10_endSlice (.code yX10_endSlice cX10_endSlice 2 none) rm_X10_endSlice [.ref (pl B w)] μ (fun v m => v = none ∧ fr w μ m ∧ (∀ a, w + 22 ≤ a → m a = μ a) ∧ aW w n K m (ovF K s)) NX := by
  have hK0 := hK.1
  have hk := ha.k
  have hf := ha.f
  have hf3 := hf.2.2.2 h0
  have hA := hS.2.2.2.1
  have hA1 := hA.1
  have hA3 := hA.2.2 h0
  have hov : ovF K s = (mup s.1 6 0 (-1), ovQ K s (s.1 6 0).toNat) := by unfold ovF; rw [if_pos ⟨h0, h2⟩]
  have hlen : rRow K → s.2.1.length + (s.2.2.1.length + s.2.2.2.length) + 1 ≤ 12 := by
    intro q
    have hq := hS.2.2.2.2.1.1 q
    have hnd : ((s.1 6 0).toNat :: (s.2.1 ++ (s.2.2.1 ++ s.2.2.2))).Nodup := List.nodup_cons.mpr ⟨fun z => ((hq.2 _).mp z).2.2 (by omega), hq.1⟩
    have hsub : ((s.1 6 0).toNat :: (s.2.1 ++ (s.2.2.1 ++ s.2.2.2))) ⊆ List.range n := by
      intro x hx
      rw [List.mem_range]
      rcases List.mem_cons.mp hx with e | e
      · rw [e]; omega
      · exact ((hq.2 _).mp e).1
    have := hnd.length_le_of_subset hsub
    simp only [List.length_cons, List.length_append, List.length_range] at this
    omega
  have e6 : ∀ b, b ≠ 0 → mup s.1 6 0 (-1) 6 b = s.1 6 b := fun b hb => mup_ne (fun z => hb z.2)
  have fin : ∀ (m : Mm) (Q : List Nat × (List Nat × List Nat)), (∀ a, a < w + 4 ∨ w + 10 ≤ a → m a = μ a) → Q = ovQ K s (s.1 6 0).toNat → qis m (w + 4) Q.1 ∧ qis m (w + 6) Q.2.1 ∧ qis m (w + 8) Q.2.2 → fr w μ (mup m w 13 (-1)) ∧ (∀ a, w + 22 ≤ a → (mup m w 13 (-1)) a = μ a) ∧ aW w n K (mup m w 13 (-1)) (ovF K s) := by
    intro m Q hm hQ hq
    have o : ∀ a, a ≠ w → mup m w 13 (-1) a = m a := fun a h => by funext b; exact mup_nk h
    have ow : ∀ b, b ≠ 13 → mup m w 13 (-1) w b = μ w b := fun b h => by rw [mup_ne (fun z => h z.2), hm w (by omega)]
    refine ⟨fun a h => by rw [o a (by omega), hm a (by omega)], fun a h => by rw [o a (by omega), hm a (by omega)], ?_⟩
    rw [hov]
    refine aW_6 ha hw (fun a h1 h2 => by rw [o a h1, hm a (by omega)]) (fun a h => by funext b; exact mup_nk h) (e6 6 (by decide)) ?_ ?_ ⟨ow 8 (by decide), ow 9 (by decide), ow 10 (by decide), ow 11 (by decide)⟩ (fun q => by rw [ow 14 (by decide)]; exact ha.lv q)
    · rw [← hQ]
      exact ⟨qis_c (o _ (by omega)) (o _ (by omega)) hq.1, qis_c (o _ (by omega)) (o _ (by omega)) hq.2.1, qis_c (o _ (by omega)) (o _ (by omega)) hq.2.2⟩
    · show mup m w 13 (-1) w 13 = mup s.1 6 0 (-1) 6 0 ∧ mup m w 13 (-1) w 17 = mup s.1 6 0 (-1) 6 1 ∧ mup m w 13 (-1) w 12 = mup s.1 6 0 (-1) 6 5 ∧ (mup s.1 6 0 (-1) 6 0 ≠ -1 → _)
      rw [mup_eq, mup_eq, ow 17 (by decide), ow 12 (by decide), e6 1 (by decide), e6 5 (by decide)]
      exact ⟨rfl, hf.2.1, hf.2.2.1, fun z => absurd rfl z⟩
  have q := ha.q
  have q0 := q.1.1
  have q1 := q.2.1.1
  have q2 := q.2.2.1
  have hc : s.1 6 0 = (((s.1 6 0).toNat : Nat) : Int) := by have := hA.1; omega
  have e13 : μ w 13 = (((s.1 6 0).toNat : Nat) : Int) := by rw [hf.1]; exact hc
  have join : ∀ (k : Nat) (L : List Nat), k = w + 4 ∨ k = w + 6 ∨ k = w + 8 → qis μ k L → (∀ a, a < w + 4 ∨ w + 10 ≤ a → (mup (mup μ (k + 1) (μ k 1).toNat (μ w 13)) k 1 (μ k 1 + 1)) a = μ a) ∧ qis (mup (mup μ (k + 1) (μ k 1).toNat (μ w 13)) k 1 (μ k 1 + 1)) k (L ++ [(s.1 6 0).toNat]) ∧ ∀ k' L', k' = w + 4 ∨ k' = w + 6 ∨ k' = w + 8 → k' ≠ k → qis μ k' L' → qis (mup (mup μ (k + 1) (μ k 1).toNat (μ w 13)) k 1 (μ k 1 + 1)) k' L' := by
    intro k L hk hq
    rw [e13]
    refine ⟨fun a h => by funext b; rw [mup_nk (by omega), mup_nk (by omega)], qis_j hq, fun k' L' h1 h2 h3 => qis_c (by funext b; rw [mup_nk (by omega), mup_nk (by omega)]) (by funext b; rw [mup_nk (by omega), mup_nk (by omega)]) h3⟩
  refine ct_of (own := RX10) (lv := [(0, _)]) hst (by decide) rfl rfl (Nat.le_of_ble_eq_true rfl) fun a h r t => ?_
  have go28 : ∀ (z : Int) (k : Nat) (L : List Nat), InR z → lineAt (w + 3) z = k → k = w + 4 ∨ k = w + 6 ∨ k = w + 8 → qis μ k L → L.length < 12 → (∀ m, m = mup (mup (mup μ (k + 1) (μ k 1).toNat (μ w 13)) k 1 (μ k 1 + 1)) w 13 (-1) → fr w μ m ∧ (∀ a, w + 22 ≤ a → m a = μ a) ∧ aW w n K m (ovF K s)) → VV a B (SP B D E μ) 0 0 28 [(0, .ref (pl B w))] [iI z] := by
    intro z k L hz hk hk3 hq hl hfin
    have hkl : isLine k := hk ▸ lineAt_is (W_levels hr) z
    have hq1 := hq.1
    refine v_istore_n (lv' := [(1, _), (0, _)]) (pc := 28) h (dk dt_X10_endSlice 14 rfl) (Nat.le_of_ble_eq_true rfl) rfl ?_
    refine v_aload_n (pc := 29) h (dk dt_X10_endSlice 15 rfl) rfl ?_
    refine v_getr (pc := 30) h ci10 (W_hd hr) (Nat.le_of_ble_eq_true rfl) (j := 5) wF_X10_23 rfl (dk dt_X10_endSlice 16 rfl) ?_
    refine v_iload_n (pc := 33) h (dk dt_X10_endSlice 17 rfl) rfl ?_
    refine v_cVi (pc := 34) h (c_X2_lineOf h.quiet (W_levels hr) (by omega)) kv_X2_lineOf (V_hd (W_levels hr)) wM_X10_161 rfl rfl (Nat.le_of_ble_eq_true rfl) (RM.of rfl) rfl rfl (dk dt_X10_endSlice 18 rfl) ?_
    rw [hk]
    refine v_aload_n (pc := 37) h (dk dt_X10_endSlice 19 rfl) rfl ?_
    refine v_geti (pc := 38) h ci10 (W_hd hr) (Nat.le_of_ble_eq_true rfl) (j := 13) wF_X10_47 rfl (dk dt_X10_endSlice 20 rfl) ?_
    refine v_cVv (pc := 41) h (c_X3_join h.quiet hkl (by omega)) kv_X3_join hkl.1 wM_X10_165 rfl rfl (Nat.le_of_ble_eq_true rfl) (RM.of rfl) rfl rfl (dk dt_X10_endSlice 21 rfl) ?_
    refine v_aload_n (pc := 44) h (dk dt_X10_endSlice 22 rfl) rfl ?_
    refine v_iconst (pc := 45) h (dk dt_X10_endSlice 23 rfl) ?_
    refine v_put (pc := 46) h ci10 (W_hd hr) (Nat.le_of_ble_eq_true rfl) (j := 13) wF_X10_47 rfl rfl rfl rfl (dk dt_X10_endSlice 24 rfl) ?_
    exact v_vret (pc := 49) h r (dk dt_X10_endSlice 25 rfl) (Nat.le_of_ble_eq_true rfl) (Nat.le_of_ble_eq_true rfl) ⟨rfl, hfin _ rfl⟩
  refine v_aload_n (pc := 0) h (dk dt_X10_endSlice 0 rfl) rfl ?_
  refine v_cVi (pc := 1) h (c_X10_usesLevels h.quiet hr (by omega)) kv_X10_usesLevels (W_hd hr) wM_X10_158 rfl rfl (Nat.le_of_ble_eq_true rfl) (RM.of rfl) rfl rfl (dk dt_X10_endSlice 1 rfl) ?_
  refine v_if_eq (pc := 4) h 44 (dk dt_X10_endSlice 2 rfl) rfl (by split <;> omega) (fun c4 => ?_) (fun c4 => ?_)
  ·
    have d4 : ¬ rRow K := fun q => by rw [if_pos (by omega)] at c4; omega
    refine v_aload_n (pc := 44) h (dk dt_X10_endSlice 22 rfl) rfl ?_
    refine v_iconst (pc := 45) h (dk dt_X10_endSlice 23 rfl) ?_
    refine v_put (pc := 46) h ci10 (W_hd hr) (Nat.le_of_ble_eq_true rfl) (j := 13) wF_X10_47 rfl rfl rfl rfl (dk dt_X10_endSlice 24 rfl) ?_
    exact v_vret (pc := 49) h r (dk dt_X10_endSlice 25 rfl) (Nat.le_of_ble_eq_true rfl) (Nat.le_of_ble_eq_true rfl) ⟨rfl, fin μ s.2 (fun _ _ => rfl) (by unfold ovQ; rw [if_neg (by omega), if_neg (by omega)]) q⟩
  ·
    have d4 : rRow K := by by_cases q : rRow K; exact q; rw [if_neg (by omega)] at c4; omega
    have hlen := hlen d4
    refine v_aload_n (pc := 7) h (dk dt_X10_endSlice 3 rfl) rfl ?_
    refine v_geti (pc := 8) h ci10 (W_hd hr) (Nat.le_of_ble_eq_true rfl) (j := 8) wF_X10_30 rfl (dk dt_X10_endSlice 4 rfl) ?_
    refine v_if_ne (pc := 11) h 18 (dk dt_X10_endSlice 5 rfl) rfl (by omega) (fun c11 => ?_) (fun c11 => ?_)
    ·
      refine v_aload_n (pc := 18) h (dk dt_X10_endSlice 8 rfl) rfl ?_
      refine v_geti (pc := 19) h ci10 (W_hd hr) (Nat.le_of_ble_eq_true rfl) (j := 14) wF_X10_50 rfl (dk dt_X10_endSlice 9 rfl) ?_
      refine v_iconst (pc := 22) h (dk dt_X10_endSlice 10 rfl) ?_
      refine v_iadd (pc := 23) h (dk dt_X10_endSlice 11 rfl) ?_
      refine v_iconst (pc := 24) h (dk dt_X10_endSlice 12 rfl) ?_
      refine v_min (pc := 25) h km_min wM_X10_173 (by omega) (Nat.le_of_ble_eq_true rfl) ⟨Nat.le_of_ble_eq_true rfl, Nat.le_of_ble_eq_true rfl, Nat.le_of_ble_eq_true rfl, Nat.le_of_ble_eq_true rfl⟩ (dk dt_X10_endSlice 13 rfl) ?_
      first
        | exact VV.loc (go28 0 (w + 4) s.2.1 (by omega) rfl (by omega) q.1 (by omega) (fun m hm => hm ▸ fin _ (s.2.1 ++ [(s.1 6 0).toNat], s.2.2) (join (w + 4) _ (by omega) q.1).1 (by unfold ovQ; rw [if_pos (by omega)]) ⟨(join (w + 4) _ (by omega) q.1).2.1, (join (w + 4) _ (by omega) q.1).2.2 _ _ (by omega) (by omega) q.2.1, (join (w + 4) _ (by omega) q.1).2.2 _ _ (by omega) (by omega) q.2.2⟩)) ⟨rfl, trivial⟩
        | (rcases (show s.1 6 4 = 0 ∨ s.1 6 4 ≠ 0 by omega) with e4 | e4
           · rw [show (if 2 < μ w 14 + 1 then 2 else μ w 14 + 1) = 1 by rw [if_neg (by omega)]; omega]
             exact VV.loc (go28 1 (w + 6) s.2.2.1 (by omega) rfl (by omega) q.2.1 (by omega) (fun m hm => hm ▸ fin _ (s.2.1, s.2.2.1 ++ [(s.1 6 0).toNat], s.2.2.2) (join (w + 6) _ (by omega) q.2.1).1 (by unfold ovQ; rw [if_neg (by omega), if_pos (by omega), if_pos e4]) ⟨(join (w + 6) _ (by omega) q.2.1).2.2 _ _ (by omega) (by omega) q.1, (join (w + 6) _ (by omega) q.2.1).2.1, (join (w + 6) _ (by omega) q.2.1).2.2 _ _ (by omega) (by omega) q.2.2⟩)) ⟨rfl, trivial⟩
           · rw [show (if 2 < μ w 14 + 1 then 2 else μ w 14 + 1) = 2 by split <;> omega]
             exact VV.loc (go28 2 (w + 8) s.2.2.2 (by omega) rfl (by omega) q.2.2 (by omega) (fun m hm => hm ▸ fin _ (s.2.1, s.2.2.1, s.2.2.2 ++ [(s.1 6 0).toNat]) (join (w + 8) _ (by omega) q.2.2).1 (by unfold ovQ; rw [if_neg (by omega), if_pos (by omega), if_neg e4]) ⟨(join (w + 8) _ (by omega) q.2.2).2.2 _ _ (by omega) (by omega) q.1, (join (w + 8) _ (by omega) q.2.2).2.2 _ _ (by omega) (by omega) q.2.1, (join (w + 8) _ (by omega) q.2.2).2.1⟩)) ⟨rfl, trivial⟩)
    ·
      refine v_iconst (pc := 14) h (dk dt_X10_endSlice 6 rfl) ?_
      refine v_goto (pc := 15) h 28 (dk dt_X10_endSlice 7 rfl) rfl ?_
      first
        | exact VV.loc (go28 0 (w + 4) s.2.1 (by omega) rfl (by omega) q.1 (by omega) (fun m hm => hm ▸ fin _ (s.2.1 ++ [(s.1 6 0).toNat], s.2.2) (join (w + 4) _ (by omega) q.1).1 (by unfold ovQ; rw [if_pos (by omega)]) ⟨(join (w + 4) _ (by omega) q.1).2.1, (join (w + 4) _ (by omega) q.1).2.2 _ _ (by omega) (by omega) q.2.1, (join (w + 4) _ (by omega) q.1).2.2 _ _ (by omega) (by omega) q.2.2⟩)) ⟨rfl, trivial⟩
        | (rcases (show s.1 6 4 = 0 ∨ s.1 6 4 ≠ 0 by omega) with e4 | e4
           · rw [show (if 2 < μ w 14 + 1 then 2 else μ w 14 + 1) = 1 by rw [if_neg (by omega)]; omega]
             exact VV.loc (go28 1 (w + 6) s.2.2.1 (by omega) rfl (by omega) q.2.1 (by omega) (fun m hm => hm ▸ fin _ (s.2.1, s.2.2.1 ++ [(s.1 6 0).toNat], s.2.2.2) (join (w + 6) _ (by omega) q.2.1).1 (by unfold ovQ; rw [if_neg (by omega), if_pos (by omega), if_pos e4]) ⟨(join (w + 6) _ (by omega) q.2.1).2.2 _ _ (by omega) (by omega) q.1, (join (w + 6) _ (by omega) q.2.1).2.1, (join (w + 6) _ (by omega) q.2.1).2.2 _ _ (by omega) (by omega) q.2.2⟩)) ⟨rfl, trivial⟩
           · rw [show (if 2 < μ w 14 + 1 then 2 else μ w 14 + 1) = 2 by split <;> omega]
             exact VV.loc (go28 2 (w + 8) s.2.2.2 (by omega) rfl (by omega) q.2.2 (by omega) (fun m hm => hm ▸ fin _ (s.2.1, s.2.2.1, s.2.2.2 ++ [(s.1 6 0).toNat]) (join (w + 8) _ (by omega) q.2.2).1 (by unfold ovQ; rw [if_neg (by omega), if_pos (by omega), if_neg e4]) ⟨(join (w + 8) _ (by omega) q.2.2).2.2 _ _ (by omega) (by omega) q.1, (join (w + 8) _ (by omega) q.2.2).2.2 _ _ (by omega) (by omega) q.2.1, (join (w + 8) _ (by omega) q.2.2).2.1⟩)) ⟨rfl, trivial⟩)
theorem adm_o {μ σ : Mm} {g n a : Nat} (h1 : a ≠ g) (h2 : a ≠ g + 6) : madm μ g n σ a = μ a := by
  funext b
  unfold madm
  rw [mup_nk h1]
  unfold madI
  rw [if_neg (fun z => h2 z.1)]
theorem aW_ad {m' : Mm} (hw : 28 ≤ w) (hD : okD (jm μ) n) (ha : aW w n K μ s) (hS : vS (jm μ) n K s) (h1 : ∀ a, a ≠ w + 11 → a ≠ w + 4 → a ≠ w + 5 → m' a = madm μ (w + 12) n s.1 a) (h2 : ∀ j, j < n → m' (w + 11) j = if decide (comP (jm μ) s.1 (s.1 6 6) j) then lcZ s.1 n else μ (w + 11) j) (h3 : qis m' (w + 4) (s.2.1 ++ if rRow K then cmL (jm μ) s.1 n else [])) : aW w n K m' (adF (jm μ) n K s) := by
  have o : ∀ a, a ≠ w + 11 → a ≠ w + 4 → a ≠ w + 5 → a ≠ w + 12 → a ≠ w + 18 → m' a = μ a := fun a z1 z2 z3 z4 z5 => by rw [h1 a z1 z2 z3, adm_o z4 (by omega)]
  have e6 : (adF (jm μ) n K s).1 6 = s.1 6 := ad_o (by decide) (by decide) (by decide)
  refine ⟨aP_c (fun a q1 q2 => h1 a (by omega) (by omega) (by omega)) (aP_adm ha.P (by omega) hD hS.1), fun j hj => ⟨?_, ?_⟩, ⟨?_, fun t ht => ?_⟩, ⟨?_, ?_, ?_⟩, ?_, ?_, ?_, ?_⟩
  · rw [h2 j hj]
    show _ = adN (jm μ) n s.1 3 j
    rw [ad_3, ha.cnt hj]
    by_cases c : comP (jm μ) s.1 (s.1 6 6) j
    · rw [if_pos (decide_eq_true c), if_pos ⟨hj, c⟩]
    · rw [if_neg (by simp [c]), if_neg (fun z => c z.2)]
  · rw [o _ (by omega) (by omega) (by omega) (by omega) (by omega)]
    show _ = adN (jm μ) n s.1 4 j
    rw [ad_o (by decide) (by decide) (by decide)]; exact ha.kept hj
  · rw [o _ (by omega) (by omega) (by omega) (by omega) (by omega), e6]; exact ha.len
  · rw [o _ (by omega) (by omega) (by omega) (by omega) (by omega)]
    show _ = adN (jm μ) n s.1 7 t
    rw [ad_o (by decide) (by decide) (by decide)]
    exact ha.log (by rw [e6] at ht; exact ht)
  · exact h3
  · exact qis_c (o _ (by omega) (by omega) (by omega) (by omega) (by omega)) (o _ (by omega) (by omega) (by omega) (by omega) (by omega)) ha.q.2.1
  · exact qis_c (o _ (by omega) (by omega) (by omega) (by omega) (by omega)) (o _ (by omega) (by omega) (by omega) (by omega) (by omega)) ha.q.2.2
  · rw [o w (by omega) (by omega) (by omega) (by omega) (by omega), e6]; exact ha.f
  · rw [o w (by omega) (by omega) (by omega) (by omega) (by omega)]; exact ha.k
  · rw [o 27 (by omega) (by omega) (by omega) (by omega) (by omega)]; exact ha.rise
  · rw [o w (by omega) (by omega) (by omega) (by omega) (by omega)]; exact ha.lv
theorem c_X10_beginMoment (hst : l.stackTraces = false) (hr : isW w) (hw : 28 ≤ w) (hs : okJ μ) (hn : μ 1 9 = (n : Int)) (hK : okK K) (ha : aW w n K μ s) (hS : vS (jm μ) n K s) :
    Ct l B D E yX10_beginMoment (.code yX10_beginMoment cX10_beginMoment 4 none) rm_X10_beginMoment [.ref (pl B w), iI (s.1 6 6)] μ (fun v m => v = none ∧ fr w μ m ∧ aW w n K m (bgF (jm μ) n K s) ∧ (K 0 = 8 → aK (w + 22) n (jm μ) (bgF (jm μ) n K s).1 (K 3) m)) NX := by
  have hb := hs.1
  have hD := okJD hs hn
  have hK0 := hK.1
  have hK4 := hK.2.2.2.2
  have ht := t_le hD hS
  have ht0 := hS.1.1
  have hk := ha.k
  have hrise := ha.rise
  have hP := W_prog hr
  refine ct_of (own := RX10) (lv := [(0, _), (1, _)]) hst (by decide) rfl rfl (Nat.le_of_ble_eq_true rfl) fun a h r t => ?_
  have go91 : ∀ m4, fr w μ m4 → aW w n K m4 (bgF (jm μ) n K s) → VV a B (SP B D E m4) 0 0 91 [(0, .ref (pl B w))] [] := by
    intro m4 f4 a4
    have k4 := a4.k
    have j4 : jm m4 = jm μ := jm_c (fun a h => f4 a (by omega))
    have hs4 : okJ m4 := okJ_c (fun a h => f4 a (by omega)) hs
    have hn4 : m4 1 9 = (n : Int) := by rw [f4 1 (by omega)]; exact hn
    have hS4 := (vS_bg (K := K) hD hS).1
    have hB4 : vB (jm m4) n (bgF (jm μ) n K s).1 := by rw [j4]; exact hS4.1
    have a4P := a4.P
    have hle : m4 w 11 = 0 ∨ m4 w 11 = 1 := by have := hK.2.2.2.1; omega
    refine v_aload_n (pc := 91) h (dk dt_X10_beginMoment 45 rfl) rfl ?_
    refine v_geti (pc := 92) h ci10 (W_hd hr) (Nat.le_of_ble_eq_true rfl) (j := 8) wF_X10_30 rfl (dk dt_X10_beginMoment 46 rfl) ?_
    refine v_bipush (pc := 95) h (dk dt_X10_beginMoment 47 rfl) rfl ?_
    refine v_icmp_ne (pc := 97) h 111 (dk dt_X10_beginMoment 48 rfl) rfl (by omega) (fun c97 => ?_) (fun c97 => ?_)
    ·
      exact v_vret (pc := 111) h r (dk dt_X10_beginMoment 54 rfl) (Nat.le_of_ble_eq_true rfl) (Nat.le_of_ble_eq_true rfl) (by first | exact ⟨rfl, f4, a4, fun q => absurd q (by omega)⟩ | exact ⟨rfl, fr_tr f4 (fun a h => lk_o (by omega)), aW_c a4 hw (fun a h => lk_o (by omega)), fun _ => by rw [← j4, ← k4.2.2.2]; exact aK_look⟩)
    ·
      refine v_aload_n (pc := 100) h (dk dt_X10_beginMoment 49 rfl) rfl ?_
      refine v_getr (pc := 101) h ci10 (W_hd hr) (Nat.le_of_ble_eq_true rfl) (j := 7) wF_X10_91 rfl (dk dt_X10_beginMoment 50 rfl) ?_
      refine v_aload_n (pc := 104) h (dk dt_X10_beginMoment 51 rfl) rfl ?_
      refine v_geti (pc := 105) h ci10 (W_hd hr) (Nat.le_of_ble_eq_true rfl) (j := 11) wF_X10_40 rfl (dk dt_X10_beginMoment 52 rfl) ?_
      refine v_cVv (pc := 108) h (c_X4_look (n := n) (σ := (bgF (jm μ) n K s).1) h.quiet (W_locks hr) (by omega) hs4 hn4 a4P hB4 (by rw [j4]; exact (hS4.2.2.2.2.2.2 (by omega)).1) hle) kv_X4_look (K_hd (W_locks hr)) wM_X10_146 rfl rfl (Nat.le_of_ble_eq_true rfl) (RM.of rfl) rfl rfl (dk dt_X10_beginMoment 53 rfl) ?_
      exact v_vret (pc := 111) h r (dk dt_X10_beginMoment 54 rfl) (Nat.le_of_ble_eq_true rfl) (Nat.le_of_ble_eq_true rfl) (by first | exact ⟨rfl, f4, a4, fun q => absurd q (by omega)⟩ | exact ⟨rfl, fr_tr f4 (fun a h => lk_o (by omega)), aW_c a4 hw (fun a h => lk_o (by omega)), fun _ => by rw [← j4, ← k4.2.2.2]; exact aK_look⟩)
  have go72 : ∀ m3, fr w μ m3 → aW w n K m3 (adF (jm μ) n K (rsF K s)) → VV a B (SP B D E m3) 0 0 72 [(0, .ref (pl B w))] [] := by
    intro m3 f3 a3
    have hS3 : vS (jm μ) n K (adF (jm μ) n K (rsF K s)) := vS_ad hD (vS_rs hS)
    have hf := a3.f
    have hA := hS3.2.2.2.1
    have hA1 := hA.1
    generalize hs2 : adF (jm μ) n K (rsF K s) = s2 at a3 hS3 hf hA hA1
    have ebg : bgF (jm μ) n K s = ovF K s2 := by rw [← hs2]; rfl
    have e15 : s2.1 6 0 ≠ -1 → InR (m3 w 15) := fun q => by have := (hf.2.2.2 q).1; have := (hA.2.2 q).2.1; omega
    have en : (s2.1 6 0 = -1 ∨ 0 < s2.1 6 2) → ovF K s2 = s2 := fun q => by unfold ovF; rw [if_neg (by omega)]
    refine v_aload_n (pc := 72) h (dk dt_X10_beginMoment 36 rfl) rfl ?_
    refine v_geti (pc := 73) h ci10 (W_hd hr) (Nat.le_of_ble_eq_true rfl) (j := 13) wF_X10_47 rfl (dk dt_X10_beginMoment 37 rfl) ?_
    refine v_iconst (pc := 76) h (dk dt_X10_beginMoment 38 rfl) ?_
    refine v_icmp_eq (pc := 77) h 91 (dk dt_X10_beginMoment 39 rfl) rfl (by omega) (fun c77 => ?_) (fun c77 => ?_)
    ·
      first
        | exact VV.loc (go91 m3 f3 (by rw [ebg, en (by omega)]; exact a3)) ⟨rfl, trivial⟩
        | exact VV.loc (go91 _ (fr_tr f3 q1) (by rw [ebg]; exact q3)) ⟨rfl, trivial⟩
    ·
      have d77 : s2.1 6 0 ≠ -1 := by omega
      have d15 := (hf.2.2.2 d77).1
      refine v_aload_n (pc := 80) h (dk dt_X10_beginMoment 40 rfl) rfl ?_
      refine v_geti (pc := 81) h ci10 (W_hd hr) (Nat.le_of_ble_eq_true rfl) (j := 15) wF_X10_53 rfl (dk dt_X10_beginMoment 41 rfl) ?_
      refine v_if_gt (pc := 84) h 91 (dk dt_X10_beginMoment 42 rfl) rfl (e15 (by omega)) (fun c84 => ?_) (fun c84 => ?_)
      ·
        first
          | exact VV.loc (go91 m3 f3 (by rw [ebg, en (by omega)]; exact a3)) ⟨rfl, trivial⟩
          | exact VV.loc (go91 _ (fr_tr f3 q1) (by rw [ebg]; exact q3)) ⟨rfl, trivial⟩
      ·
        refine v_aload_n (pc := 87) h (dk dt_X10_beginMoment 43 rfl) rfl ?_
        refine v_cV (pc := 88) h (c_X10_endSlice (J := jm μ) (n := n) (K := K) (s := s2) h.quiet hr hw hK (by omega) a3 hS3 d77 (by omega)) kv_X10_endSlice (W_hd hr) wM_X10_143 rfl rfl (Nat.le_of_ble_eq_true rfl) (RM.of rfl) rfl rfl (dk dt_X10_beginMoment 44 rfl) (fun v88 μ88 p88 => ?_)
        obtain ⟨rfl, q1, q2, q3⟩ := p88
        first
          | exact VV.loc (go91 m3 f3 (by rw [ebg, en (by omega)]; exact a3)) ⟨rfl, trivial⟩
          | exact VV.loc (go91 _ (fr_tr f3 q1) (by rw [ebg]; exact q3)) ⟨rfl, trivial⟩
  have go41 : ∀ m1, fr w μ m1 → aW w n K m1 (rsF K s) → VV a B (SP B D E m1) 0 0 41 [(0, .ref (pl B w)), (1, iI (s.1 6 6))] [] := by
    intro m1 f1 a1
    have j1 : jm m1 = jm μ := jm_c (fun a h => f1 a (by omega))
    have hs1 : okJ m1 := okJ_c (fun a h => f1 a (by omega)) hs
    have hn1 : m1 1 9 = (n : Int) := by rw [f1 1 (by omega)]; exact hn
    have hS1 : vS (jm μ) n K (rsF K s) := vS_rs hS
    have e1 : (rsF K s).1 = s.1 := rs_1 K s
    have a1P := a1.P
    rw [e1] at a1P
    have hB1 : vB (jm m1) n s.1 := by rw [j1]; exact hS.1
    have hR : m1 (w + 12) 3 = ((bsN (fun j => decide (rdy s.1 j)) n : Nat) : Int) := a1P.2.1
    have o2 : ∀ a, a ≠ w + 12 → a ≠ w + 18 → madm m1 (w + 12) n s.1 a = m1 a := fun a z1 z2 => adm_o z1 (by omega)
    have fm : fr w μ (madm m1 (w + 12) n s.1) := fun a h => by rw [o2 a (by omega) (by omega)]; exact f1 a h
    have hs2 : okJ (madm m1 (w + 12) n s.1) := okJ_c (fun a h => fm a (by omega)) hs
    have hn2 : madm m1 (w + 12) n s.1 1 9 = (n : Int) := by rw [fm 1 (by omega)]; exact hn
    have hc2 : ∀ j, j < n → madm m1 (w + 12) n s.1 (w + 11) j = s.1 3 j := fun j hj => by rw [o2 _ (by omega) (by omega)]; have := a1.cnt hj; rwa [e1] at this
    have hb3 : ∀ j, j < n → 0 ≤ s.1 3 j ∧ s.1 3 j ≤ 10000000 := fun j hj => by have := (hS.1.2 j hj).2.2.2.2.2.2.1; omega
    have hk2 : madm m1 (w + 12) n s.1 w 8 = K 0 := by rw [o2 w (by omega) (by omega)]; exact a1.k.1
    have hq2 : qis (madm m1 (w + 12) n s.1) (w + 4) (rsF K s).2.1 := qis_c (o2 _ (by omega) (by omega)) (o2 _ (by omega) (by omega)) a1.q.1
    have hcl : ∀ L : List Nat, (rRow K → L = (rsF K s).2.1) → rRow K → L.length + ((List.range n).filter (fun j => decide (comP (jm m1) s.1 (s.1 6 6) j))).length ≤ 12 := by
      intro L hL hrow
      have hq := (vS_ad hD hS1).2.2.2.2.1.1 hrow
      have hsub : ((adF (jm μ) n K (rsF K s)).2.1 ++ ((adF (jm μ) n K (rsF K s)).2.2.1 ++ (adF (jm μ) n K (rsF K s)).2.2.2)) ⊆ List.range n := fun x hx => List.mem_range.mpr ((hq.2 x).mp hx).1
      have hle := hq.1.length_le_of_subset hsub
      rw [List.length_append, List.length_range] at hle
      have e : (adF (jm μ) n K (rsF K s)).2.1 = (rsF K s).2.1 ++ cmL (jm μ) s.1 n := by
        show (rsF K s).2.1 ++ (if K 0 = 0 ∨ K 0 = 4 then cmL (jm μ) (rsF K s).1 n else []) = _
        rw [if_pos hrow, e1]
      rw [e, List.length_append] at hle
      rw [hL hrow, j1]
      show (rsF K s).2.1.length + (cmL (jm μ) s.1 n).length ≤ 12
      omega
    have hfin : ∀ m3, (∀ a, a ≠ w + 11 → a ≠ w + 4 → a ≠ w + 5 → m3 a = madm m1 (w + 12) n s.1 a) → (∀ j, j < n → m3 (w + 11) j = if decide (comP (jm m1) s.1 (s.1 6 6) j) then lcZ s.1 n else m1 (w + 11) j) → qis m3 (w + 4) ((rsF K s).2.1 ++ if rRow K then (List.range n).filter (fun j => decide (comP (jm m1) s.1 (s.1 6 6) j)) else []) → VV a B (SP B D E m3) 0 0 72 [(0, .ref (pl B w))] [] := by
      intro m3 z1 z2 z3
      refine go72 m3 (fun a h => by rw [z1 a (by omega) (by omega) (by omega)]; exact fm a h) ?_
      have := aW_ad (m' := m3) (μ := m1) hw (by rw [j1]; exact hD) a1 (by rw [j1]; exact hS1) (by rw [e1]; exact z1) (by rw [e1]; exact z2) (by rw [e1]; exact z3)
      rw [j1] at this
      exact this
    have hcm := bsN_bit (fun j => decide (comP (jm m1) s.1 (s.1 6 6) j)) n
    have hc12 := bsN_lt12 (fun j => decide (comP (jm m1) s.1 (s.1 6 6) j)) (n := n) (by omega)
    refine v_aload_n (pc := 41) h (dk dt_X10_beginMoment 19 rfl) rfl ?_
    refine v_getr (pc := 42) h ci10 (W_hd hr) (Nat.le_of_ble_eq_true rfl) (j := 0) wF_X10_75 rfl (dk dt_X10_beginMoment 20 rfl) ?_
    refine v_geti (pc := 45) h ci6 (P_hd (W_prog hr)) (Nat.le_of_ble_eq_true rfl) (j := 3) wF_X10_129 rfl (dk dt_X10_beginMoment 21 rfl) ?_
    rw [hR]
    refine v_istore_n (lv' := [(2, _), (0, _), (1, _)]) (pc := 48) h (dk dt_X10_beginMoment 22 rfl) (Nat.le_of_ble_eq_true rfl) rfl ?_
    refine v_aload_n (pc := 49) h (dk dt_X10_beginMoment 23 rfl) rfl ?_
    refine v_getr (pc := 50) h ci10 (W_hd hr) (Nat.le_of_ble_eq_true rfl) (j := 0) wF_X10_75 rfl (dk dt_X10_beginMoment 24 rfl) ?_
    refine v_iload_n (pc := 53) h (dk dt_X10_beginMoment 25 rfl) rfl ?_
    refine v_cVi (pc := 54) h (c_X6_admit (n := n) (σ := s.1) h.quiet (W_prog hr) (by omega) hs1 hn1 a1P hB1 (by omega)) kv_X6_admit (P_hd (W_prog hr)) wM_X10_132 rfl rfl (Nat.le_of_ble_eq_true rfl) (RM.of rfl) rfl rfl (dk dt_X10_beginMoment 26 rfl) ?_
    refine v_istore_n (lv' := [(3, _), (2, _), (0, _), (1, _)]) (pc := 57) h (dk dt_X10_beginMoment 27 rfl) (Nat.le_of_ble_eq_true rfl) rfl ?_
    refine v_iload_n (pc := 58) h (dk dt_X10_beginMoment 28 rfl) rfl ?_
    refine v_if_eq (pc := 59) h 72 (dk dt_X10_beginMoment 29 rfl) rfl (by omega) (fun c59 => ?_) (fun c59 => ?_)
    ·
      have d59 : ∀ j, j < n → ¬ comP (jm m1) s.1 (s.1 6 6) j := fun j hj q => by
        have z := hcm j
        rw [show bsN (fun j => decide (comP (jm m1) s.1 (s.1 6 6) j)) n = 0 by omega, Nat.zero_testBit] at z
        rw [decide_eq_true hj, decide_eq_true q] at z
        exact absurd z (by decide)
      first
        | exact VV.loc (hfin _ (fun _ _ _ _ => rfl) (fun j hj => by rw [o2 _ (by omega) (by omega), if_neg (by simp [d59 j hj])]) (by rw [show (List.range n).filter (fun j => decide (comP (jm m1) s.1 (s.1 6 6) j)) = [] from List.filter_eq_nil_iff.mpr (fun x hx => by simpa using d59 x (List.mem_range.mp hx)), ite_self, List.append_nil]; exact hq2)) ⟨rfl, trivial⟩
        | exact VV.loc (hfin _ q1 (fun j hj => by rw [q2 j hj, o2 _ (by omega) (by omega)]) q3) ⟨rfl, trivial⟩
    ·
      refine v_aload_n (pc := 62) h (dk dt_X10_beginMoment 30 rfl) rfl ?_
      refine v_iload_n (pc := 63) h (dk dt_X10_beginMoment 31 rfl) rfl ?_
      refine v_aload_n (pc := 64) h (dk dt_X10_beginMoment 32 rfl) rfl ?_
      refine v_iload_n (pc := 65) h (dk dt_X10_beginMoment 33 rfl) rfl ?_
      refine v_cVi (pc := 66) h (c_X10_leastCount (n := n) (σ := s.1) h.quiet hr hs2 hn2 hc2 hb3) kv_X10_leastCount (W_hd hr) wM_X10_136 rfl rfl (Nat.le_of_ble_eq_true rfl) (RM.of rfl) rfl rfl (dk dt_X10_beginMoment 34 rfl) ?_
      refine v_cV (pc := 69) h (c_X10_welcome (n := n) (K := K) (cm := fun j => decide (comP (jm m1) s.1 (s.1 6 6) j)) (L := (rsF K s).2.1) h.quiet hr hw hs2 hn2 hk2 hK hq2 (hcl _ (fun _ => rfl))) kv_X10_welcome (W_hd hr) wM_X10_139 rfl rfl (Nat.le_of_ble_eq_true rfl) (RM.of rfl) rfl rfl (dk dt_X10_beginMoment 35 rfl) (fun v69 μ69 p69 => ?_)
      obtain ⟨rfl, q1, q2, q3⟩ := p69
      first
        | exact VV.loc (hfin _ (fun _ _ _ _ => rfl) (fun j hj => by rw [o2 _ (by omega) (by omega), if_neg (by simp [d59 j hj])]) (by rw [show (List.range n).filter (fun j => decide (comP (jm m1) s.1 (s.1 6 6) j)) = [] from List.filter_eq_nil_iff.mpr (fun x hx => by simpa using d59 x (List.mem_range.mp hx)), ite_self, List.append_nil]; exact hq2)) ⟨rfl, trivial⟩
        | exact VV.loc (hfin _ q1 (fun j hj => by rw [q2 j hj, o2 _ (by omega) (by omega)]) q3) ⟨rfl, trivial⟩
  have a0 := ha.q
  have hlen3 : rRow K → s.2.1.length + (s.2.2.1.length + s.2.2.2.length) ≤ 12 := by
    intro hrow
    have hq := hS.2.2.2.2.1.1 hrow
    have hsub : (s.2.1 ++ (s.2.2.1 ++ s.2.2.2)) ⊆ List.range n := fun x hx => List.mem_range.mpr ((hq.2 x).mp hx).1
    have hle := hq.1.length_le_of_subset hsub
    simp only [List.length_append, List.length_range] at hle
    omega
  have rsn : ¬ (K 0 = 4 ∧ 0 < K 4 ∧ 0 < s.1 6 6 ∧ s.1 6 6 % K 4 = 0) → rsF K s = s := fun q => by unfold rsF; rw [if_neg q]
  have rsy : K 0 = 4 ∧ 0 < K 4 ∧ 0 < s.1 6 6 ∧ s.1 6 6 % K 4 = 0 → rsF K s = (s.1, s.2.1 ++ (s.2.2.1 ++ s.2.2.2), [], []) := fun q => by unfold rsF; rw [if_pos q]
  refine v_aload_n (pc := 0) h (dk dt_X10_beginMoment 0 rfl) rfl ?_
  refine v_geti (pc := 1) h ci10 (W_hd hr) (Nat.le_of_ble_eq_true rfl) (j := 8) wF_X10_30 rfl (dk dt_X10_beginMoment 1 rfl) ?_
  refine v_iconst (pc := 4) h (dk dt_X10_beginMoment 2 rfl) ?_
  refine v_icmp_ne (pc := 5) h 41 (dk dt_X10_beginMoment 3 rfl) rfl (by omega) (fun c5 => ?_) (fun c5 => ?_)
  ·
    first
      | exact VV.loc (go41 μ fr_rf (by rw [rsn (fun q => by omega)]; exact ha)) ⟨rfl, rfl, trivial⟩
      | exact VV.loc (go41 μ fr_rf (by rw [rsn (fun q => c31 q.2.2.2)]; exact ha)) ⟨rfl, rfl, trivial⟩
      | exact VV.loc (go41 _ (fun a h => q1 a (by omega) (by omega) (by omega) (by omega)) (by rw [rsy ⟨by omega, by omega, by omega, c31⟩]; exact aW_6 ha hw (fun a h1 h2 => q1 a (by omega) (by omega) (by omega) (by omega)) (fun _ _ => rfl) rfl ⟨q2, q3, q4⟩ (by rw [q1 w (by omega) (by omega) (by omega) (by omega)]; exact ha.f) (by rw [q1 w (by omega) (by omega) (by omega) (by omega)]; exact ⟨rfl, rfl, rfl, rfl⟩) (by rw [q1 w (by omega) (by omega) (by omega) (by omega)]; exact ha.lv))) ⟨rfl, rfl, trivial⟩
  ·
    refine v_aload_n (pc := 8) h (dk dt_X10_beginMoment 4 rfl) rfl ?_
    refine v_getr (pc := 9) h ci10 (W_hd hr) (Nat.le_of_ble_eq_true rfl) (j := 4) wF_X10_66 rfl (dk dt_X10_beginMoment 5 rfl) ?_
    refine v_geti (pc := 12) h ci9 sh27 (Nat.le_of_ble_eq_true rfl) (j := 2) wF_X10_124 rfl (dk dt_X10_beginMoment 6 rfl) ?_
    refine v_if_le (pc := 15) h 41 (dk dt_X10_beginMoment 7 rfl) rfl (by omega) (fun c15 => ?_) (fun c15 => ?_)
    ·
      first
        | exact VV.loc (go41 μ fr_rf (by rw [rsn (fun q => by omega)]; exact ha)) ⟨rfl, rfl, trivial⟩
        | exact VV.loc (go41 μ fr_rf (by rw [rsn (fun q => c31 q.2.2.2)]; exact ha)) ⟨rfl, rfl, trivial⟩
        | exact VV.loc (go41 _ (fun a h => q1 a (by omega) (by omega) (by omega) (by omega)) (by rw [rsy ⟨by omega, by omega, by omega, c31⟩]; exact aW_6 ha hw (fun a h1 h2 => q1 a (by omega) (by omega) (by omega) (by omega)) (fun _ _ => rfl) rfl ⟨q2, q3, q4⟩ (by rw [q1 w (by omega) (by omega) (by omega) (by omega)]; exact ha.f) (by rw [q1 w (by omega) (by omega) (by omega) (by omega)]; exact ⟨rfl, rfl, rfl, rfl⟩) (by rw [q1 w (by omega) (by omega) (by omega) (by omega)]; exact ha.lv))) ⟨rfl, rfl, trivial⟩
    ·
      refine v_iload_n (pc := 18) h (dk dt_X10_beginMoment 8 rfl) rfl ?_
      refine v_if_le (pc := 19) h 41 (dk dt_X10_beginMoment 9 rfl) rfl (by omega) (fun c19 => ?_) (fun c19 => ?_)
      ·
        first
          | exact VV.loc (go41 μ fr_rf (by rw [rsn (fun q => by omega)]; exact ha)) ⟨rfl, rfl, trivial⟩
          | exact VV.loc (go41 μ fr_rf (by rw [rsn (fun q => c31 q.2.2.2)]; exact ha)) ⟨rfl, rfl, trivial⟩
          | exact VV.loc (go41 _ (fun a h => q1 a (by omega) (by omega) (by omega) (by omega)) (by rw [rsy ⟨by omega, by omega, by omega, c31⟩]; exact aW_6 ha hw (fun a h1 h2 => q1 a (by omega) (by omega) (by omega) (by omega)) (fun _ _ => rfl) rfl ⟨q2, q3, q4⟩ (by rw [q1 w (by omega) (by omega) (by omega) (by omega)]; exact ha.f) (by rw [q1 w (by omega) (by omega) (by omega) (by omega)]; exact ⟨rfl, rfl, rfl, rfl⟩) (by rw [q1 w (by omega) (by omega) (by omega) (by omega)]; exact ha.lv))) ⟨rfl, rfl, trivial⟩
      ·
        refine v_iload_n (pc := 22) h (dk dt_X10_beginMoment 10 rfl) rfl ?_
        refine v_aload_n (pc := 23) h (dk dt_X10_beginMoment 11 rfl) rfl ?_
        refine v_getr (pc := 24) h ci10 (W_hd hr) (Nat.le_of_ble_eq_true rfl) (j := 4) wF_X10_66 rfl (dk dt_X10_beginMoment 12 rfl) ?_
        refine v_geti (pc := 27) h ci9 sh27 (Nat.le_of_ble_eq_true rfl) (j := 2) wF_X10_124 rfl (dk dt_X10_beginMoment 13 rfl) ?_
        rw [hrise]
        refine v_irem (pc := 30) h (dk dt_X10_beginMoment 14 rfl) ⟨by omega, by omega⟩ ⟨by omega, by omega⟩ ?_
        refine v_if_ne (pc := 31) h 41 (dk dt_X10_beginMoment 15 rfl) rfl (by have := Int.emod_nonneg (s.1 6 6) (show K 4 ≠ 0 by omega); have := Int.emod_lt_of_pos (s.1 6 6) (show 0 < K 4 by omega); omega) (fun c31 => ?_) (fun c31 => ?_)
        ·
          first
            | exact VV.loc (go41 μ fr_rf (by rw [rsn (fun q => by omega)]; exact ha)) ⟨rfl, rfl, trivial⟩
            | exact VV.loc (go41 μ fr_rf (by rw [rsn (fun q => c31 q.2.2.2)]; exact ha)) ⟨rfl, rfl, trivial⟩
            | exact VV.loc (go41 _ (fun a h => q1 a (by omega) (by omega) (by omega) (by omega)) (by rw [rsy ⟨by omega, by omega, by omega, c31⟩]; exact aW_6 ha hw (fun a h1 h2 => q1 a (by omega) (by omega) (by omega) (by omega)) (fun _ _ => rfl) rfl ⟨q2, q3, q4⟩ (by rw [q1 w (by omega) (by omega) (by omega) (by omega)]; exact ha.f) (by rw [q1 w (by omega) (by omega) (by omega) (by omega)]; exact ⟨rfl, rfl, rfl, rfl⟩) (by rw [q1 w (by omega) (by omega) (by omega) (by omega)]; exact ha.lv))) ⟨rfl, rfl, trivial⟩
        ·
          refine v_aload_n (pc := 34) h (dk dt_X10_beginMoment 16 rfl) rfl ?_
          refine v_getr (pc := 35) h ci10 (W_hd hr) (Nat.le_of_ble_eq_true rfl) (j := 5) wF_X10_23 rfl (dk dt_X10_beginMoment 17 rfl) ?_
          refine v_cV (pc := 38) h (c_X2_rise (L0 := s.2.1) (L1 := s.2.2.1) (L2 := s.2.2.2) h.quiet (W_levels hr) a0.1 a0.2.1 a0.2.2 (hlen3 (Or.inr (by omega)))) kv_X2_rise (V_hd (W_levels hr)) wM_X10_127 rfl rfl (Nat.le_of_ble_eq_true rfl) (RM.of rfl) rfl rfl (dk dt_X10_beginMoment 18 rfl) (fun v38 μ38 p38 => ?_)
          obtain ⟨rfl, q1, q2, q3, q4⟩ := p38
          first
            | exact VV.loc (go41 μ fr_rf (by rw [rsn (fun q => by omega)]; exact ha)) ⟨rfl, rfl, trivial⟩
            | exact VV.loc (go41 μ fr_rf (by rw [rsn (fun q => c31 q.2.2.2)]; exact ha)) ⟨rfl, rfl, trivial⟩
            | exact VV.loc (go41 _ (fun a h => q1 a (by omega) (by omega) (by omega) (by omega)) (by rw [rsy ⟨by omega, by omega, by omega, c31⟩]; exact aW_6 ha hw (fun a h1 h2 => q1 a (by omega) (by omega) (by omega) (by omega)) (fun _ _ => rfl) rfl ⟨q2, q3, q4⟩ (by rw [q1 w (by omega) (by omega) (by omega) (by omega)]; exact ha.f) (by rw [q1 w (by omega) (by omega) (by omega) (by omega)]; exact ⟨rfl, rfl, rfl, rfl⟩) (by rw [q1 w (by omega) (by omega) (by omega) (by omega)]; exact ha.lv))) ⟨rfl, rfl, trivial⟩
end
