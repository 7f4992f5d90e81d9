/-! ===== Worker: pass, follow ===== -/
section
variable {l : Launch} {B : Nat} {D : va_G} {E : Nat → ClassId} {μ m σ σ' : Mm} {w n g : Nat} {K : Nat → Int} {s : St} {J : Mm}
theorem rkF_c (h0 : σ' 0 = σ 0) (h5 : σ' 5 = σ 5) (le : Int) (j : Nat) : ∀ k, rkF J n σ' le j k = rkF J n σ le j k := by
  intro k
  induction k with
  | zero => rfl
  | succ k ih =>
    have e : rdy σ' k ↔ rdy σ k := by unfold rdy; rw [h0, h5]
    simp only [rkF, ih, kpr_c h0]
    by_cases c : le ≠ 0 ∧ rdy σ k ∧ kpr J n σ k = (j : Int) ∧ rkF J n σ le j k < J 3 k
    · rw [if_pos c, if_pos ⟨c.1, e.mpr c.2.1, c.2.2⟩]
    · rw [if_neg c, if_neg (fun z => c ⟨z.1, e.mp z.2.1, z.2.2⟩)]
theorem aK_c {le : Int} (h0 : σ' 0 = σ 0) (h5 : σ' 5 = σ 5) (hm : ∀ a, g ≤ a → m a = μ a) (h : aK g n J σ le μ) : aK g n J σ' le m := by
  intro j hj
  rw [hm _ (by omega), hm _ (by omega), kpr_c h0, rkF_c h0 h5]
  exact h j hj
theorem aW_ps (hw : 28 ≤ w) (ha : aW w n K μ s) (ht : 0 ≤ s.1 6 6) (hP : aP (w + 12) n m σ') (hc : ∀ j, j < n → m (w + 11) j = σ' 3 j) (hk : ∀ j, j < n → m (w + 2) j = σ' 4 j) (hl : m (w + 19) 0 = s.1 6 6 + 1) (h66 : σ' 6 6 = s.1 6 6 + 1)
    (hlog : ∀ t : Nat, t ≠ (s.1 6 6).toNat → m (w + 21) t = μ (w + 21) t) (h7 : ∀ t : Nat, t ≠ (s.1 6 6).toNat → σ' 7 t = s.1 7 t) (hnew : m (w + 21) (s.1 6 6).toNat = σ' 7 (s.1 6 6).toNat) (hq : ∀ k, w + 4 ≤ k → k < w + 10 → m k = μ k)
    (hf : m w 13 = σ' 6 0 ∧ m w 17 = σ' 6 1 ∧ m w 12 = σ' 6 5 ∧ (σ' 6 0 ≠ -1 → m w 15 = σ' 6 2 ∧ m w 16 = σ' 6 3 ∧ m w 14 = σ' 6 4)) (hkk : m w 8 = μ w 8 ∧ m w 9 = μ w 9 ∧ m w 10 = μ w 10 ∧ m w 11 = μ w 11) (h27 : m 27 = μ 27) (h14 : m w 14 = μ w 14) : aW w n K m (σ', s.2) := by
  refine ⟨hP, fun j hj => ⟨hc j hj, hk j hj⟩, ⟨by rw [hl]; exact h66.symm, fun t h => ?_⟩, ⟨qis_c (hq _ (by omega) (by omega)) (hq _ (by omega) (by omega)) ha.q.1, qis_c (hq _ (by omega) (by omega)) (hq _ (by omega) (by omega)) ha.q.2.1, qis_c (hq _ (by omega) (by omega)) (hq _ (by omega) (by omega)) ha.q.2.2⟩, hf, ?_, by rw [h27]; exact ha.rise, fun z => by rw [h14]; exact ha.lv z⟩
  · have h : (t : Int) < σ' 6 6 := h
    show m (w + 21) t = σ' 7 t
    by_cases e : t = (s.1 6 6).toNat
    · rw [e]; exact hnew
    · rw [hlog t e, h7 t e]; exact ha.log (by omega)
  · rw [hkk.1, hkk.2.1, hkk.2.2.1, hkk.2.2.2]; exact ha.k
theorem c_X10_pass (hst : l.stackTraces = false) (hr : isW w) (hw : 28 ≤ w) (hs : okJ μ) (hn : μ 1 9 = (n : Int)) (hK : okK K) (ha : aW w n K μ s) (hS : vS (jm μ) n K s) (h8 : K 0 = 8 → aK (w + 22) n (jm μ) s.1 (K 3) μ) :
    Ct l B D E yX10_pass (.code yX10_pass cX10_pass 2 none) rm_X10_pass [.ref (pl B w), iI (s.1 6 6)] μ (fun v m => v = none ∧ fr w μ m ∧ aW w n K m (psF (jm μ) n K s)) NX := by
  have hb := hs.1
  have hD := okJD hs hn
  have hK0 := hK.1
  have hk := ha.k
  have hf := ha.f
  have hA := hS.2.2.2.1
  have hA1 := hA.1
  have hP := ha.P
  have htt := t_le hD hS
  have ht0 := hS.1.1
  have hlen := ha.len
  have hkb : ∀ j, j < n → 0 ≤ μ (w + 2) j ∧ μ (w + 2) j ≤ 5000 := fun j hj => by rw [ha.kept hj]; have := (hS.1.2 j hj).2.2.2.2.2.2.2; omega
  refine ct_of (own := RX10) (lv := [(0, _), (1, _)]) hst (by decide) rfl rfl (Nat.le_of_ble_eq_true rfl) fun a h r t => ?_
  have go30 : s.1 6 0 ≠ -1 → ∀ M0, (∀ a, a ≠ w + 2 → M0 a = μ a) → (∀ j, j < n → M0 (w + 2) j = keN (jm μ) n K s.1 4 j) → VV a B (SP B D E M0) 0 0 30 [(0, .ref (pl B w)), (1, iI (s.1 6 6))] [] := by
    intro hch M0 o0 hkn
    have hA3 := hA.2.2 hch
    have hf3 := hf.2.2.2 hch
    obtain ⟨c, hc, hcn⟩ : ∃ c : Nat, s.1 6 0 = (c : Int) ∧ c < n := ⟨(s.1 6 0).toNat, by omega, by omega⟩
    have e16 : M0 w 16 = s.1 6 3 := by rw [o0 w (by omega)]; exact hf3.2.1
    have e13 : M0 w 13 = (c : Int) := by rw [o0 w (by omega), hf.1]; exact hc
    have e190 : M0 (w + 19) 0 = s.1 6 6 := by rw [o0 _ (by omega)]; exact hlen
    have k0 : keN (jm μ) n K s.1 0 = s.1 0 := ke_o (by decide)
    have k1 : keN (jm μ) n K s.1 1 = s.1 1 := ke_o (by decide)
    have k2 : keN (jm μ) n K s.1 2 = s.1 2 := ke_o (by decide)
    have k3 : keN (jm μ) n K s.1 3 = s.1 3 := ke_o (by decide)
    have k5 : keN (jm μ) n K s.1 5 = s.1 5 := ke_o (by decide)
    have k6 : keN (jm μ) n K s.1 6 = s.1 6 := ke_o (by decide)
    have k7 : keN (jm μ) n K s.1 7 = s.1 7 := ke_o (by decide)
    have hps : psF (jm μ) n K s = (if 0 < s.1 6 3 then mup (mup (mup (keN (jm μ) n K s.1) 6 3 (s.1 6 3 - 1)) 7 (s.1 6 6).toNat (-2)) 6 6 (s.1 6 6 + 1) else wkN (jm μ) (keN (jm μ) n K s.1) c (s.1 6 6).toNat, s.2) := by
      unfold psF psN
      rw [if_neg hch, hc, Int.toNat_natCast]
    have finC : 0 < s.1 6 3 → ∀ m, m = mup (mup (mup M0 w 16 (s.1 6 3 - 1)) (w + 21) (s.1 6 6).toNat (-2)) (w + 19) 0 (s.1 6 6 + 1) → fr w μ m ∧ aW w n K m (psF (jm μ) n K s) := by
      intro d m hm
      generalize hκ : keN (jm μ) n K s.1 = κ at *
      have o : ∀ a, a ≠ w → a ≠ w + 21 → a ≠ w + 19 → m a = M0 a := fun a z1 z2 z3 => by rw [hm]; funext b; rw [mup_nk z3, mup_nk z2, mup_nk z1]
      have ow : ∀ b, b ≠ 16 → m w b = μ w b := fun b h => by rw [hm, mup_nk (by omega), mup_nk (by omega), mup_ne (fun z => h z.2), o0 w (by omega)]
      refine ⟨fun a h => by rw [o a (by omega) (by omega) (by omega), o0 a (by omega)], ?_⟩
      rw [hps, if_pos d]
      refine aW_ps hw ha ht0 ?_ (fun j hj => ?_) (fun j hj => ?_) ?_ ?_ (fun t h => ?_) (fun t h => ?_) ?_ (fun k h1 h2 => ?_) ?_ ⟨ow 8 (by decide), ow 9 (by decide), ow 10 (by decide), ow 11 (by decide)⟩ ?_ (ow 14 (by decide))
      · refine aP_s ?_ ?_ ?_ ?_ (aP_c (fun a h1 h2 => (o a (by omega) (by omega) (by omega)).trans (o0 a (by omega))) hP)
        · rw [← k0]; funext b; simp [mup]
        · rw [← k1]; funext b; simp [mup]
        · rw [← k2]; funext b; simp [mup]
        · rw [← k5]; funext b; simp [mup]
      · rw [o _ (by omega) (by omega) (by omega), o0 _ (by omega), ha.cnt hj, ← k3]; simp [mup]
      · rw [o _ (by omega) (by omega) (by omega), hkn j hj]; simp [mup]
      · rw [hm, mup_eq]
      · simp [mup]
      · rw [hm, mup_nk (by omega), mup_ne (fun z => h z.2), mup_nk (by omega), o0 _ (by omega)]
      · rw [mup_nk (by omega), mup_ne (fun z => h z.2), mup_nk (by omega), k7]
      · rw [hm, mup_nk (by omega), mup_eq, mup_nk (by omega), mup_eq]
      · rw [o k (by omega) (by omega) (by omega), o0 k (by omega)]
      · rw [ow 13 (by decide), ow 17 (by decide), ow 12 (by decide), ow 15 (by decide), ow 14 (by decide)]
        have e16m : m w 16 = s.1 6 3 - 1 := by rw [hm, mup_nk (by omega), mup_nk (by omega), mup_eq]
        rw [e16m]
        have q : ∀ b, b ≠ 3 → b ≠ 6 → (mup (mup (mup κ 6 3 (s.1 6 3 - 1)) 7 (s.1 6 6).toNat (-2)) 6 6 (s.1 6 6 + 1)) 6 b = s.1 6 b := fun b h1 h2 => by rw [mup_ne (fun z => h2 z.2), mup_nk (by omega), mup_ne (fun z => h1 z.2), k6]
        have q3 : (mup (mup (mup κ 6 3 (s.1 6 3 - 1)) 7 (s.1 6 6).toNat (-2)) 6 6 (s.1 6 6 + 1)) 6 3 = s.1 6 3 - 1 := by rw [mup_ne (by omega), mup_nk (by omega), mup_eq]
        rw [q 0 (by decide) (by decide), q 1 (by decide) (by decide), q 5 (by decide) (by decide), q 2 (by decide) (by decide), q 4 (by decide) (by decide), q3]
        exact ⟨hf.1, hf.2.1, hf.2.2.1, fun _ => ⟨hf3.1, rfl, hf3.2.2⟩⟩
      · rw [o 27 (by omega) (by omega) (by omega), o0 27 (by omega)]
    have hwc : 1 ≤ μ 9 c ∧ μ 9 c ≤ 9 := okD_w hD hcn
    have hrc : rdy s.1 c := by have := hA3.1; rwa [hc, Int.toNat_natCast] at this
    have h0c : 1 ≤ s.1 0 c ∧ s.1 0 c ≤ 30 := by
      have h1 := (hS.1.2 c hcn).2.1
      have h2 := okD_l hD hcn
      have := hrc.2
      omega
    have e15 : M0 w 15 = s.1 6 2 := by rw [o0 w (by omega)]; exact hf3.1
    have finW : ¬ 0 < s.1 6 3 → ∀ m, m = mwk (mup (mup M0 (w + 21) (s.1 6 6).toNat (c : Int)) (w + 19) 0 (s.1 6 6 + 1)) w n s.1 c → fr w μ m ∧ aW w n K m (psF (jm μ) n K s) := by
      intro d m hm
      generalize hM1 : mup (mup M0 (w + 21) (s.1 6 6).toNat (c : Int)) (w + 19) 0 (s.1 6 6 + 1) = M1 at hm
      have o1 : ∀ a, a ≠ w + 21 → a ≠ w + 19 → M1 a = M0 a := fun a z1 z2 => by rw [← hM1]; funext b; rw [mup_nk z2, mup_nk z1]
      have hP1 : aP (w + 12) n (mup M1 (w + 11) c (M1 (w + 11) c + 2520 / M1 9 c)) s.1 := aP_c (fun a h1 h2 => by funext b; rw [mup_nk (by omega), o1 a (by omega) (by omega), o0 a (by omega)]) hP
      have hP2 : aP (w + 12) n (mspd (mup M1 (w + 11) c (M1 (w + 11) c + 2520 / M1 9 c)) (w + 12) s.1 n c (s.1 6 6)) (wkN (jm μ) (keN (jm μ) n K s.1) c (s.1 6 6).toNat) := aP_spd hP1 hcn hrc (fun b => by rw [wk_0, k0]) (fun b => by rw [wk_1, k0, k1, k6]) (by rw [wk_2, k2]) (by rw [wk_5, k5])
      have o2 : ∀ a, a < w + 12 ∨ w + 17 ≤ a → a ≠ w + 11 → mspd (mup M1 (w + 11) c (M1 (w + 11) c + 2520 / M1 9 c)) (w + 12) s.1 n c (s.1 6 6) a = M1 a := fun a h1 h2 => by rw [spd_o (by omega)]; funext b; exact mup_nk h2
      have o11 : ∀ b, mspd (mup M1 (w + 11) c (M1 (w + 11) c + 2520 / M1 9 c)) (w + 12) s.1 n c (s.1 6 6) (w + 11) b = if b = c then M1 (w + 11) c + 2520 / M1 9 c else M1 (w + 11) b := fun b => by rw [spd_o (by omega), mup_row]
      have hdf : mwk M1 w n s.1 c = if s.1 0 c = 1 then mup (mup (mup (mspd (mup M1 (w + 11) c (M1 (w + 11) c + 2520 / M1 9 c)) (w + 12) s.1 n c (s.1 6 6)) w 15 (M1 w 15 - 1)) w 17 (c : Int)) w 13 (-1) else mup (mup (mspd (mup M1 (w + 11) c (M1 (w + 11) c + 2520 / M1 9 c)) (w + 12) s.1 n c (s.1 6 6)) w 15 (M1 w 15 - 1)) w 17 (c : Int) := rfl
      generalize hM2 : mspd (mup M1 (w + 11) c (M1 (w + 11) c + 2520 / M1 9 c)) (w + 12) s.1 n c (s.1 6 6) = M2 at hP2 o2 o11 hdf
      rw [hdf] at hm
      have o3 : ∀ a, a ≠ w → m a = M2 a := fun a h => by rw [hm]; funext b; split; rw [mup_nk h, mup_nk h, mup_nk h]; rw [mup_nk h, mup_nk h]
      have e13m : m w 13 = if s.1 0 c = 1 then -1 else (c : Int) := by
        rw [hm]
        split
        · exact mup_eq _ _ _ _
        · rw [mup_ne (by omega), mup_ne (by omega), o2 w (by omega) (by omega), o1 w (by omega) (by omega)]; exact e13
      have ow : ∀ b, b ≠ 13 → b ≠ 15 → b ≠ 17 → m w b = μ w b := fun b h1 h2 h3 => by
        have q : m w b = M2 w b := by
          rw [hm]; split
          · rw [mup_ne (fun z => h1 z.2), mup_ne (fun z => h3 z.2), mup_ne (fun z => h2 z.2)]
          · rw [mup_ne (fun z => h3 z.2), mup_ne (fun z => h2 z.2)]
        rw [q, o2 w (by omega) (by omega), o1 w (by omega) (by omega), o0 w (by omega)]
      have e17m : m w 17 = (c : Int) := by
        rw [hm]; split
        · rw [mup_ne (by omega), mup_eq]
        · rw [mup_eq]
      have e15m : m w 15 = s.1 6 2 - 1 := by
        rw [← e15, ← congrFun (o1 w (by omega) (by omega)) 15, hm]; split
        · rw [mup_ne (by omega), mup_ne (by omega), mup_eq]
        · rw [mup_ne (by omega), mup_eq]
      refine ⟨fun a h => by rw [o3 a (by omega), o2 a (by omega) (by omega), o1 a (by omega) (by omega), o0 a (by omega)], ?_⟩
      rw [hps, if_neg d]
      refine aW_ps hw ha ht0 ?_ (fun j hj => ?_) (fun j hj => ?_) ?_ ?_ (fun t h => ?_) (fun t h => ?_) ?_ (fun k h1 h2 => ?_) ?_ ⟨ow 8 (by decide) (by decide) (by decide), ow 9 (by decide) (by decide) (by decide), ow 10 (by decide) (by decide) (by decide), ow 11 (by decide) (by decide) (by decide)⟩ ?_ (ow 14 (by decide) (by decide) (by decide))
      · exact aP_c (fun a h1 h2 => o3 a (by omega)) hP2
      · rw [o3 _ (by omega), o11, wk_3, k3, o1 _ (by omega) (by omega), o0 _ (by omega), o1 9 (by omega) (by omega), o0 9 (by omega)]
        by_cases e : j = c
        · rw [if_pos e, if_pos e, ha.cnt hcn]; rfl
        · rw [if_neg e, if_neg e, ha.cnt hj]
      · rw [o3 _ (by omega), o2 _ (by omega) (by omega), o1 _ (by omega) (by omega), wk_4]; exact hkn j hj
      · rw [o3 _ (by omega), o2 _ (by omega) (by omega), ← hM1, mup_eq]
      · rw [wk_66, k6]
      · rw [o3 _ (by omega), o2 _ (by omega) (by omega), ← hM1, mup_nk (by omega), mup_ne (fun z => h z.2), o0 _ (by omega)]
      · rw [wk_7, if_neg h, k7]
      · rw [o3 _ (by omega), o2 _ (by omega) (by omega), ← hM1, mup_nk (by omega), mup_eq, wk_7, if_pos rfl]
      · rw [o3 _ (by omega), o2 _ (by omega) (by omega), o1 _ (by omega) (by omega), o0 _ (by omega)]
      · rw [e13m, e17m, e15m, ow 12 (by decide) (by decide) (by decide), ow 16 (by decide) (by decide) (by decide), ow 14 (by decide) (by decide) (by decide), wk_60, wk_61, wk_62, wk_63, wk_64, wk_65, k0, k6, hc]
        exact ⟨rfl, rfl, hf.2.2.1, fun _ => ⟨rfl, hf3.2.1, hf3.2.2⟩⟩
      · rw [o3 27 (by omega), o2 27 (by omega) (by omega), o1 27 (by omega) (by omega), o0 27 (by omega)]
    have hP3 : aP (w + 12) n (mup (mup M0 (w + 21) (s.1 6 6).toNat (c : Int)) (w + 19) 0 (s.1 6 6 + 1)) s.1 := aP_c (fun a h1 h2 => by funext b; rw [mup_nk (by omega), mup_nk (by omega), o0 a (by omega)]) hP
    have e13c : (mup (mup M0 (w + 21) (s.1 6 6).toNat (c : Int)) (w + 19) 0 (s.1 6 6 + 1)) w 13 = (c : Int) := by rw [mup_nk (by omega), mup_nk (by omega)]; exact e13
    have e15c : (mup (mup M0 (w + 21) (s.1 6 6).toNat (c : Int)) (w + 19) 0 (s.1 6 6 + 1)) w 15 = s.1 6 2 := by rw [mup_nk (by omega), mup_nk (by omega)]; exact e15
    have e9c : (mup (mup M0 (w + 21) (s.1 6 6).toNat (c : Int)) (w + 19) 0 (s.1 6 6 + 1)) 9 c = μ 9 c := by rw [mup_nk (by omega), mup_nk (by omega), o0 9 (by omega)]
    have e190b : (mup M0 w 16 (s.1 6 3 - 1)) (w + 19) 0 = s.1 6 6 := by rw [mup_nk (by omega)]; exact e190
    refine v_aload_n (pc := 30) h (dk dt_X10_pass 15 rfl) rfl ?_
    refine v_geti (pc := 31) h ci10 (W_hd hr) (Nat.le_of_ble_eq_true rfl) (j := 16) wF_X10_56 rfl (dk dt_X10_pass 16 rfl) ?_
    rw [e16]
    refine v_if_le (pc := 34) h 57 (dk dt_X10_pass 17 rfl) rfl (by omega) (fun c34 => ?_) (fun c34 => ?_)
    ·
      refine v_aload_n (pc := 57) h (dk dt_X10_pass 29 rfl) rfl ?_
      refine v_getr (pc := 58) h ci10 (W_hd hr) (Nat.le_of_ble_eq_true rfl) (j := 1) wF_X10_82 rfl (dk dt_X10_pass 30 rfl) ?_
      refine v_aload_n (pc := 61) h (dk dt_X10_pass 31 rfl) rfl ?_
      refine v_geti (pc := 62) h ci10 (W_hd hr) (Nat.le_of_ble_eq_true rfl) (j := 13) wF_X10_47 rfl (dk dt_X10_pass 32 rfl) ?_
      rw [e13]
      refine v_cVv (pc := 65) h (c_X0_note h.quiet (W_course hr) (by omega)) kv_X0_note (C_hd (W_course hr)) wM_X10_221 rfl rfl (Nat.le_of_ble_eq_true rfl) (RM.of rfl) rfl rfl (dk dt_X10_pass 33 rfl) ?_
      rw [e190]
      refine v_aload_n (pc := 68) h (dk dt_X10_pass 34 rfl) rfl ?_
      refine v_iload_n (pc := 69) h (dk dt_X10_pass 35 rfl) rfl ?_
      refine v_cVv (pc := 70) h (c_X10_workAtChosen (n := n) (σ := s.1) h.quiet hr hw (by omega) hP3 hcn e13c (by omega) hrc h0c (by omega)) kv_X10_workAtChosen (W_hd hr) wM_X10_227 rfl rfl (Nat.le_of_ble_eq_true rfl) (RM.of rfl) rfl rfl (dk dt_X10_pass 36 rfl) ?_
      exact v_vret (pc := 73) h r (dk dt_X10_pass 37 rfl) (Nat.le_of_ble_eq_true rfl) (Nat.le_of_ble_eq_true rfl) ⟨rfl, finW (by omega) _ rfl⟩
    ·
      refine v_aload_n (pc := 37) h (dk dt_X10_pass 18 rfl) rfl ?_
      refine v_dup (pc := 38) h (dk dt_X10_pass 19 rfl) rfl ?_
      refine v_geti (pc := 39) h ci10 (W_hd hr) (Nat.le_of_ble_eq_true rfl) (j := 16) wF_X10_56 rfl (dk dt_X10_pass 20 rfl) ?_
      rw [e16]
      refine v_iconst (pc := 42) h (dk dt_X10_pass 21 rfl) ?_
      refine v_isub (pc := 43) h (dk dt_X10_pass 22 rfl) ?_
      refine v_put (pc := 44) h ci10 (W_hd hr) (Nat.le_of_ble_eq_true rfl) (j := 16) wF_X10_56 rfl rfl rfl rfl (dk dt_X10_pass 23 rfl) ?_
      refine v_aload_n (pc := 47) h (dk dt_X10_pass 24 rfl) rfl ?_
      refine v_getr (pc := 48) h ci10 (W_hd hr) (Nat.le_of_ble_eq_true rfl) (j := 1) wF_X10_82 rfl (dk dt_X10_pass 25 rfl) ?_
      refine v_bipush (pc := 51) h (dk dt_X10_pass 26 rfl) rfl ?_
      refine v_cVv (pc := 53) h (c_X0_note h.quiet (W_course hr) (by omega)) kv_X0_note (C_hd (W_course hr)) wM_X10_221 rfl rfl (Nat.le_of_ble_eq_true rfl) (RM.of rfl) rfl rfl (dk dt_X10_pass 27 rfl) ?_
      rw [e190b]
      exact v_vret (pc := 56) h r (dk dt_X10_pass 28 rfl) (Nat.le_of_ble_eq_true rfl) (Nat.le_of_ble_eq_true rfl) ⟨rfl, finC (by omega) _ rfl⟩
  have finI : s.1 6 0 = -1 → ∀ m, m = mup (mup μ (w + 21) (s.1 6 6).toNat (-1)) (w + 19) 0 (s.1 6 6 + 1) → fr w μ m ∧ aW w n K m (psF (jm μ) n K s) := by
    intro hch m hm
    have o : ∀ a, a ≠ w + 21 → a ≠ w + 19 → m a = μ a := fun a z1 z2 => by rw [hm]; funext b; rw [mup_nk z2, mup_nk z1]
    refine ⟨fun a h => o a (by omega) (by omega), ?_⟩
    have hps : psF (jm μ) n K s = (mup (mup s.1 7 (s.1 6 6).toNat (-1)) 6 6 (s.1 6 6 + 1), s.2) := by unfold psF psN; rw [if_pos hch]
    rw [hps]
    have q : ∀ b, b ≠ 6 → (mup (mup s.1 7 (s.1 6 6).toNat (-1)) 6 6 (s.1 6 6 + 1)) 6 b = s.1 6 b := fun b h => by rw [mup_ne (fun z => h z.2), mup_nk (by omega)]
    have qr : ∀ a, a ≠ 6 → a ≠ 7 → (mup (mup s.1 7 (s.1 6 6).toNat (-1)) 6 6 (s.1 6 6 + 1)) a = s.1 a := fun a h1 h2 => by funext b; rw [mup_nk h1, mup_nk h2]
    refine aW_ps hw ha ht0 (aP_s (qr 0 (by decide) (by decide)) (qr 1 (by decide) (by decide)) (qr 2 (by decide) (by decide)) (qr 5 (by decide) (by decide)) (aP_c (fun a h1 h2 => o a (by omega) (by omega)) hP)) (fun j hj => ?_) (fun j hj => ?_) ?_ (mup_eq _ _ _ _) (fun t h => ?_) (fun t h => ?_) ?_ (fun k h1 h2 => o k (by omega) (by omega)) ?_ (by rw [o w (by omega) (by omega)]; exact ⟨rfl, rfl, rfl, rfl⟩) (o 27 (by omega) (by omega)) (by rw [o w (by omega) (by omega)])
    · rw [o _ (by omega) (by omega), qr 3 (by decide) (by decide)]; exact ha.cnt hj
    · rw [o _ (by omega) (by omega), qr 4 (by decide) (by decide)]; exact ha.kept hj
    · rw [hm, mup_eq]
    · rw [hm, mup_nk (by omega), mup_ne (fun z => h z.2)]
    · rw [mup_nk (by omega), mup_ne (fun z => h z.2)]
    · rw [hm, mup_nk (by omega), mup_eq, mup_nk (by omega), mup_eq]
    · rw [o w (by omega) (by omega), q 0 (by decide), q 1 (by decide), q 5 (by decide), q 2 (by decide), q 3 (by decide), q 4 (by decide)]
      exact hf
  have hmk : ∀ c : Nat, s.1 6 0 = (c : Int) → K 0 = 8 → ∀ j, j < n → mkp μ w n (jm μ) s.1 c n (w + 2) j = keN (jm μ) n K s.1 4 j := by
    intro c hc h8 j hj
    have e : keN (jm μ) n K s.1 4 j = kpN (jm μ) n s.1 4 j := by unfold keN; rw [if_pos h8]
    rw [e]
    unfold kpN mkp
    rw [hc, Int.toNat_natCast, ha.kept hj]
    by_cases q : rdy s.1 j ∧ kpr (jm μ) n s.1 j ≠ -1 ∧ jm μ 3 c < jm μ 3 j
    · rw [if_pos ⟨rfl, hj, q⟩, if_pos ⟨rfl, hj, q⟩]
    · rw [if_neg (fun z => q z.2.2), if_neg (fun z => q z.2.2)]
  refine v_aload_n (pc := 0) h (dk dt_X10_pass 0 rfl) rfl ?_
  refine v_geti (pc := 1) h ci10 (W_hd hr) (Nat.le_of_ble_eq_true rfl) (j := 13) wF_X10_47 rfl (dk dt_X10_pass 1 rfl) ?_
  refine v_iconst (pc := 4) h (dk dt_X10_pass 2 rfl) ?_
  refine v_icmp_ne (pc := 5) h 17 (dk dt_X10_pass 3 rfl) rfl (by omega) (fun c5 => ?_) (fun c5 => ?_)
  ·
    refine v_aload_n (pc := 17) h (dk dt_X10_pass 9 rfl) rfl ?_
    refine v_geti (pc := 18) h ci10 (W_hd hr) (Nat.le_of_ble_eq_true rfl) (j := 8) wF_X10_30 rfl (dk dt_X10_pass 10 rfl) ?_
    refine v_bipush (pc := 21) h (dk dt_X10_pass 11 rfl) rfl ?_
    refine v_icmp_ne (pc := 23) h 30 (dk dt_X10_pass 12 rfl) rfl (by omega) (fun c23 => ?_) (fun c23 => ?_)
    ·
      first
        | exact VV.loc (go30 (by omega) μ (fun _ _ => rfl) (fun j hj => by unfold keN; rw [if_neg (by omega)]; exact ha.kept hj)) ⟨rfl, rfl, trivial⟩
        | exact VV.loc (go30 (by omega) _ (fun a h => mkp_o h) (hmk c hc (by omega))) ⟨rfl, rfl, trivial⟩
    ·
      obtain ⟨c, hc, hcn⟩ : ∃ c : Nat, s.1 6 0 = (c : Int) ∧ c < n := ⟨(s.1 6 0).toNat, by omega, by omega⟩
      refine v_aload_n (pc := 26) h (dk dt_X10_pass 13 rfl) rfl ?_
      refine v_cVv (pc := 27) h (c_X10_countKept (n := n) (σ := s.1) (c := c) h.quiet hr hw hs hn hP (h8 (by omega)) hcn (by rw [hf.1]; exact hc) hkb) kv_X10_countKept (W_hd hr) wM_X10_224 rfl rfl (Nat.le_of_ble_eq_true rfl) (RM.of rfl) rfl rfl (dk dt_X10_pass 14 rfl) ?_
      first
        | exact VV.loc (go30 (by omega) μ (fun _ _ => rfl) (fun j hj => by unfold keN; rw [if_neg (by omega)]; exact ha.kept hj)) ⟨rfl, rfl, trivial⟩
        | exact VV.loc (go30 (by omega) _ (fun a h => mkp_o h) (hmk c hc (by omega))) ⟨rfl, rfl, trivial⟩
  ·
    refine v_aload_n (pc := 8) h (dk dt_X10_pass 4 rfl) rfl ?_
    refine v_getr (pc := 9) h ci10 (W_hd hr) (Nat.le_of_ble_eq_true rfl) (j := 1) wF_X10_82 rfl (dk dt_X10_pass 5 rfl) ?_
    refine v_iconst (pc := 12) h (dk dt_X10_pass 6 rfl) ?_
    refine v_cVv (pc := 13) h (c_X0_note h.quiet (W_course hr) (by omega)) kv_X0_note (C_hd (W_course hr)) wM_X10_221 rfl rfl (Nat.le_of_ble_eq_true rfl) (RM.of rfl) rfl rfl (dk dt_X10_pass 7 rfl) ?_
    rw [hlen]
    exact v_vret (pc := 16) h r (dk dt_X10_pass 8 rfl) (Nat.le_of_ble_eq_true rfl) (Nat.le_of_ble_eq_true rfl) ⟨rfl, finI (by omega) _ rfl⟩
/-- the run's end, as the worker holds it -/
def aR (w n : Nat) (K : Nat → Int) (J : Mm) (z : Int) (m : Mm) : Prop := aW w n K m (fnF J n K z)
theorem c_X10_follow (hst : l.stackTraces = false) (hr : isW w) (hw : 28 ≤ w) (hs : okJ μ) (hn : μ 1 9 = (n : Int)) (hK : okK K) (h4 : μ 27 2 = K 4) {z : Int} (hz : μ 27 3 = z) :
    Ct l B D E yX10_follow (.code yX10_follow cX10_follow 6 none) rm_X10_follow [.ref (pl B w), iI (K 0), iI (K 1), iI (K 2), iI (K 3)] μ (fun v m => v = none ∧ fr w μ m ∧ aR w n K (jm μ) z m) NX := by
  have hb := hs.1
  have hD := okJD hs hn
  refine ct_of (own := RX10) (lv := [(0, _), (1, _), (2, _), (3, _), (4, _)]) hst (by decide) rfl rfl (Nat.le_of_ble_eq_true rfl) fun a h r t => ?_
  have go64 : ∀ (d i : Nat), (∀ (i : Nat) (m : Mm) (s : St), i + d = 2304 → fr w μ m → aW w n K m s → vS (jm μ) n K s → vY K s.1 → vR n s.1 → s.1 6 6 = (i : Int) → fnF (jm μ) n K z = ruF (jm μ) n K d s → VV a B (SP B D E m) 0 0 28 [(5, iI (i : Int)), (0, .ref (pl B w))] []) → i + (d + 1) = 2304 → ∀ s : St, s.1 6 6 = (i : Int) → fnF (jm μ) n K z = ruF (jm μ) n K d (stF (jm μ) n K s) → vS (jm μ) n K (stF (jm μ) n K s) ∧ vY K (stF (jm μ) n K s).1 → vR n (stF (jm μ) n K s).1 → vS (jm μ) n K (chF (jm μ) n K (bgF (jm μ) n K s)) → ∀ m, fr w μ m → aW w n K m (chF (jm μ) n K (bgF (jm μ) n K s)) → (K 0 = 8 → aK (w + 22) n (jm μ) (chF (jm μ) n K (bgF (jm μ) n K s)).1 (K 3) m) → VV a B (SP B D E m) 0 0 64 [(5, iI (s.1 6 6)), (0, .ref (pl B w))] [] := by
    intro d i ih hi s hti hfn2 hst2 hR2 hch m f1 a1 k1
    have j1 : jm m = jm μ := jm_c (fun a h => f1 a (by omega))
    have hs1 : okJ m := okJ_c (fun a h => f1 a (by omega)) hs
    have hn1 : m 1 9 = (n : Int) := by rw [f1 1 (by omega)]; exact hn
    have e66 : (chF (jm μ) n K (bgF (jm μ) n K s)).1 6 6 = s.1 6 6 := by rw [ch_66, bg_6 (by decide)]
    have h66 := st_66 (J := jm μ) (n := n) (K := K) (s := s)
    rw [← e66]
    refine v_aload_n (pc := 64) h (dk dt_X10_follow 32 rfl) rfl ?_
    refine v_iload (pc := 65) h (dk dt_X10_follow 33 rfl) rfl ?_
    refine v_cV (pc := 67) h (c_X10_pass (n := n) (K := K) (s := chF (jm μ) n K (bgF (jm μ) n K s)) h.quiet hr hw hs1 hn1 hK a1 (by rw [j1]; exact hch) (by rw [j1]; exact k1)) kv_X10_pass (W_hd hr) wM_X10_108 rfl rfl (Nat.le_of_ble_eq_true rfl) (RM.of rfl) rfl rfl (dk dt_X10_follow 34 rfl) (fun v67 μ67 p67 => ?_)
    obtain ⟨rfl, f2, a2⟩ := p67
    rw [j1] at a2
    refine v_iinc (lv' := [(5, _), (0, _)]) (pc := 70) h (dk dt_X10_follow 35 rfl) rfl (Nat.le_of_ble_eq_true rfl) rfl ?_
    refine v_goto (pc := 73) h 28 (dk dt_X10_follow 36 rfl) rfl ?_
    exact VV.loc (ih (i + 1) _ (stF (jm μ) n K s) (by omega) (fr_tr f1 f2) a2 hst2.1 hst2.2 hR2 (by omega) hfn2) ⟨lvI (by omega), rfl, trivial⟩
  have loop : ∀ (d i : Nat) (m : Mm) (s : St), i + d = 2304 → fr w μ m → aW w n K m s → vS (jm μ) n K s → vY K s.1 → vR n s.1 → s.1 6 6 = (i : Int) → fnF (jm μ) n K z = ruF (jm μ) n K d s → VV a B (SP B D E m) 0 0 28 [(5, iI (i : Int)), (0, .ref (pl B w))] [] := by
    intro d
    induction d with
    | zero =>
      intro i m s hi f1 a1 hS hy hR hti hfn
      refine v_iload (pc := 28) h (dk dt_X10_follow 16 rfl) rfl ?_
      refine v_sipush (pc := 30) h (dk dt_X10_follow 17 rfl) rfl ?_
      refine v_icmp_ge (pc := 33) h 76 (dk dt_X10_follow 18 rfl) rfl (by omega) (fun c33 => ?_) (fun c33 => ?_)
      ·
        exact v_vret (pc := 76) h r (dk dt_X10_follow 37 rfl) (Nat.le_of_ble_eq_true rfl) (Nat.le_of_ble_eq_true rfl) ⟨rfl, f1, by unfold aR; rw [hfn]; exact a1⟩
      ·
        exact absurd c33 (by omega)
    | succ d ih =>
      intro i m s hi f1 a1 hS hy hR hti hfn
      have j1 : jm m = jm μ := jm_c (fun a h => f1 a (by omega))
      have hs1 : okJ m := okJ_c (fun a h => f1 a (by omega)) hs
      have hn1 : m 1 9 = (n : Int) := by rw [f1 1 (by omega)]; exact hn
      have a1P := a1.P
      have hS1 : vS (jm m) n K s := by rw [j1]; exact hS
      have hb2 := vS_bg (K := K) hD hS
      rw [← hti]
      refine v_iload (pc := 28) h (dk dt_X10_follow 16 rfl) rfl ?_
      refine v_sipush (pc := 30) h (dk dt_X10_follow 17 rfl) rfl ?_
      refine v_icmp_ge (pc := 33) h 76 (dk dt_X10_follow 18 rfl) rfl (by omega) (fun c33 => ?_) (fun c33 => ?_)
      ·
        exact absurd c33 (by omega)
      ·
        refine v_aload_n (pc := 36) h (dk dt_X10_follow 19 rfl) rfl ?_
        refine v_getr (pc := 37) h ci10 (W_hd hr) (Nat.le_of_ble_eq_true rfl) (j := 0) wF_X10_75 rfl (dk dt_X10_follow 20 rfl) ?_
        refine v_cVi (pc := 40) h (c_X6_isOver (n := n) (σ := s.1) h.quiet (W_prog hr) (by omega) a1P) kv_X6_isOver (P_hd (W_prog hr)) wM_X10_98 rfl rfl (Nat.le_of_ble_eq_true rfl) (RM.of rfl) rfl rfl (dk dt_X10_follow 21 rfl) ?_
        refine v_if_ne (pc := 43) h 76 (dk dt_X10_follow 22 rfl) rfl (by split <;> omega) (fun c43 => ?_) (fun c43 => ?_)
        ·
          have d43 : ovr n s.1 := by by_cases q : ovr n s.1; exact q; rw [if_neg q] at c43; omega
          exact v_vret (pc := 76) h r (dk dt_X10_follow 37 rfl) (Nat.le_of_ble_eq_true rfl) (Nat.le_of_ble_eq_true rfl) ⟨rfl, f1, by unfold aR; rw [hfn, ruF, if_pos d43]; exact a1⟩
        ·
          have d43 : ¬ ovr n s.1 := fun q => by rw [if_pos q] at c43; omega
          have hfn2 : fnF (jm μ) n K z = ruF (jm μ) n K d (stF (jm μ) n K s) := by rw [hfn, ruF, if_neg d43]
          have hst2 := vS_st hD hK hS hy d43
          have hR2 := vR_st (J := jm μ) hD hK hS
          have hch := vS_ch hD hK hb2.1 hb2.2
          refine v_aload_n (pc := 46) h (dk dt_X10_follow 23 rfl) rfl ?_
          refine v_iload (pc := 47) h (dk dt_X10_follow 24 rfl) rfl ?_
          refine v_cV (pc := 49) h (c_X10_beginMoment (n := n) (K := K) (s := s) h.quiet hr hw hs1 hn1 hK a1 hS1) kv_X10_beginMoment (W_hd hr) wM_X10_102 rfl rfl (Nat.le_of_ble_eq_true rfl) (RM.of rfl) rfl rfl (dk dt_X10_follow 25 rfl) (fun v49 μ49 p49 => ?_)
          obtain ⟨rfl, f2, a2, k2⟩ := p49
          rw [j1] at a2 k2
          have f2' := fr_tr f1 f2
          have j2 : jm μ49 = jm μ := jm_c (fun a h => f2' a (by omega))
          have hs2 : okJ μ49 := okJ_c (fun a h => f2' a (by omega)) hs
          have hn2 : μ49 1 9 = (n : Int) := by rw [f2' 1 (by omega)]; exact hn
          have a2f := a2.f
          have hA1 := hb2.1.2.2.2.1.1
          refine v_aload_n (pc := 52) h (dk dt_X10_follow 26 rfl) rfl ?_
          refine v_geti (pc := 53) h ci10 (W_hd hr) (Nat.le_of_ble_eq_true rfl) (j := 13) wF_X10_47 rfl (dk dt_X10_follow 27 rfl) ?_
          refine v_iconst (pc := 56) h (dk dt_X10_follow 28 rfl) ?_
          refine v_icmp_ne (pc := 57) h 64 (dk dt_X10_follow 29 rfl) rfl (by omega) (fun c57 => ?_) (fun c57 => ?_)
          ·
            first
              | exact VV.loc (go64 d i ih hi s hti hfn2 hst2 hR2 hch.1 μ49 f2' (by rw [chF, if_pos (show (bgF (jm μ) n K s).1 6 0 ≠ -1 by omega)]; exact a2) (fun q => aK_c (ch_o (by decide)) (ch_o (by decide)) (fun _ _ => rfl) (k2 q))) ⟨rfl, rfl, trivial⟩
              | exact VV.loc (go64 d i ih hi s hti hfn2 hst2 hR2 hch.1 _ (fr_tr f2' (fun a h => f3 a (by omega))) a3 (fun q => aK_c (ch_o (by decide)) (ch_o (by decide)) (fun a h => f3 a (by omega)) (k2 q))) ⟨rfl, rfl, trivial⟩
          ·
            refine v_aload_n (pc := 60) h (dk dt_X10_follow 30 rfl) rfl ?_
            refine v_cV (pc := 61) h (c_X10_choose (n := n) (K := K) (s := bgF (jm μ) n K s) h.quiet hr hw hs2 hn2 hK a2 (by rw [j2]; exact hb2.1) (by omega) (by rw [j2]; exact k2)) kv_X10_choose (W_hd hr) wM_X10_105 rfl rfl (Nat.le_of_ble_eq_true rfl) (RM.of rfl) rfl rfl (dk dt_X10_follow 31 rfl) (fun v61 μ61 p61 => ?_)
            obtain ⟨rfl, f3, a3⟩ := p61
            rw [j2] at a3
            first
              | exact VV.loc (go64 d i ih hi s hti hfn2 hst2 hR2 hch.1 μ49 f2' (by rw [chF, if_pos (show (bgF (jm μ) n K s).1 6 0 ≠ -1 by omega)]; exact a2) (fun q => aK_c (ch_o (by decide)) (ch_o (by decide)) (fun _ _ => rfl) (k2 q))) ⟨rfl, rfl, trivial⟩
              | exact VV.loc (go64 d i ih hi s hti hfn2 hst2 hR2 hch.1 _ (fr_tr f2' (fun a h => f3 a (by omega))) a3 (fun q => aK_c (ch_o (by decide)) (ch_o (by decide)) (fun a h => f3 a (by omega)) (k2 q))) ⟨rfl, rfl, trivial⟩
  generalize hm0 : mup (mup (mup (mup μ w 8 (K 0)) w 9 (K 1)) w 10 (K 2)) w 11 (K 3) = m0
  have o0 : ∀ a, a ≠ w → m0 a = μ a := fun a h => by rw [← hm0]; funext b; rw [mup_nk h, mup_nk h, mup_nk h, mup_nk h]
  have hs0 : okJ m0 := okJ_c (fun a h => o0 a (by omega)) hs
  have hn0 : m0 1 9 = (n : Int) := by rw [o0 1 (by omega)]; exact hn
  have j0 : jm m0 = jm μ := jm_c (fun a h => o0 a (by omega))
  have hk0 : m0 w 8 = K 0 ∧ m0 w 9 = K 1 ∧ m0 w 10 = K 2 ∧ m0 w 11 = K 3 := by rw [← hm0]; simp [mup]
  have h40 : m0 27 2 = K 4 := by rw [o0 27 (by omega)]; exact h4
  have hz0 : m0 27 3 = z := by rw [o0 27 (by omega)]; exact hz
  refine v_aload_n (pc := 0) h (dk dt_X10_follow 0 rfl) rfl ?_
  refine v_iload_n (pc := 1) h (dk dt_X10_follow 1 rfl) rfl ?_
  refine v_put (pc := 2) h ci10 (W_hd hr) (Nat.le_of_ble_eq_true rfl) (j := 8) wF_X10_30 rfl rfl rfl rfl (dk dt_X10_follow 2 rfl) ?_
  refine v_aload_n (pc := 5) h (dk dt_X10_follow 3 rfl) rfl ?_
  refine v_iload_n (pc := 6) h (dk dt_X10_follow 4 rfl) rfl ?_
  refine v_put (pc := 7) h ci10 (W_hd hr) (Nat.le_of_ble_eq_true rfl) (j := 9) wF_X10_34 rfl rfl rfl rfl (dk dt_X10_follow 5 rfl) ?_
  refine v_aload_n (pc := 10) h (dk dt_X10_follow 6 rfl) rfl ?_
  refine v_iload_n (pc := 11) h (dk dt_X10_follow 7 rfl) rfl ?_
  refine v_put (pc := 12) h ci10 (W_hd hr) (Nat.le_of_ble_eq_true rfl) (j := 10) wF_X10_37 rfl rfl rfl rfl (dk dt_X10_follow 8 rfl) ?_
  refine v_aload_n (pc := 15) h (dk dt_X10_follow 9 rfl) rfl ?_
  refine v_iload (pc := 16) h (dk dt_X10_follow 10 rfl) rfl ?_
  refine v_put (pc := 18) h ci10 (W_hd hr) (Nat.le_of_ble_eq_true rfl) (j := 11) wF_X10_40 rfl rfl (narZ (by omega)) (fitZ (by omega)) (dk dt_X10_follow 11 rfl) ?_
  rw [hm0]
  refine v_aload_n (pc := 21) h (dk dt_X10_follow 12 rfl) rfl ?_
  refine v_cV (pc := 22) h (c_X10_begin (n := n) (K := K) h.quiet hr hw hs0 hn0 hk0 h40 hz0) kv_X10_begin (W_hd hr) wM_X10_95 rfl rfl (Nat.le_of_ble_eq_true rfl) (RM.of rfl) rfl rfl (dk dt_X10_follow 13 rfl) (fun v22 μ22 p22 => ?_)
  obtain ⟨rfl, f0, a0⟩ := p22
  refine v_iconst (pc := 25) h (dk dt_X10_follow 14 rfl) ?_
  refine v_istore (lv' := [(5, _), (0, _), (1, _), (2, _), (3, _), (4, _)]) (pc := 26) h (dk dt_X10_follow 15 rfl) (Nat.le_of_ble_eq_true rfl) rfl ?_
  exact VV.loc (loop 2304 0 _ (inS (jm μ) z) (by omega) (fun a q => (f0 a q).trans (o0 a (by omega))) (by rw [← j0]; exact a0) (vS_in hD) vY_in vR_in (by simp [inS, inN]) rfl) ⟨rfl, rfl, trivial⟩
end
