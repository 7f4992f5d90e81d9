/-! ===== the law's walk through a run: a moment, all moments ===== -/
section
variable {a : Ax} {B : Nat} {D : va_G} {E : Nat → ClassId} {J : Mm} {n : Nat} {K : Nat → Int} {g : Nat → Int} {m m1 : Mm} {s s' : St} {t T : Nat} {z : Int}
theorem WX.log (hX : WX J n K T g m1) : ∀ b, b < T → -2 ≤ g b ∧ g b < 12 := by
  intro b hb
  have hR := (hX.1.1.R hX.1.2.2).1
  obtain ⟨h6, -, h8⟩ := hX.2.2.1
  have := hR.2 b (by omega)
  rw [← h8 b hb]
  exact this
/-- the job c works: up to who it is -/
theorem w_who (h : Ac a B D E RL cL_walks 20 rm_L_walks) (hX : WX J n K T g m1) (hs : vS J n K s) (h66 : s.1 6 6 = (t : Int)) (hl : ∀ j, s.1 0 j = lfT J g t j) (ht : t < T) {c : Nat} (hc : c < n) (hgc : g t = (c : Int)) (hr : rdL J s.1 c) (hk8 : K 0 = 8 → kpr J n s.1 c = -1)
    (hcost : chgN g t = if 0 ≤ lstN g t ∧ lstN g t ≠ g t then K 2 else 0) (hlst : -1 ≤ lstN g t ∧ lstN g t < 12)
    (h5 : s'.1 5 c = 1) (h0 : ∀ b, s'.1 0 b = if b = c then s.1 0 c - 1 else s.1 0 b) (h1 : ∀ b, s'.1 1 b = if s.1 0 c = 1 ∧ b = c then (t : Int) + 1 else s.1 1 b) {m : Mm} (hW : WIm J n g m1 m t (t + 1) (s.1 0) (s.1 1) (s'.1 2) (s'.1 5))
    (go601 : ∀ m', WIm J n g m1 m' (t + 1) (t + 1) (s'.1 0) (s'.1 1) (s'.1 2) (s'.1 5) → VV a B (SP B D E m') 20 120 601 [(14, iI (t : Int)), (13, iI (cntB g (t + 1))), (12, iI (cntW g (t + 1))), (11, iI (ckS g (t + 1))), (10, iI (chgN g (t + 1))), (9, iI (lstN g (t + 1))), (8, iI (ufN (s'.1 0) n)), (7, iI (T : Int)), (0, .ref (pl B 0)), (1, .ref (pl B 124)), (2, iI (n : Int)), (3, iI (K 0)), (4, iI (K 2)), (5, .ref (pl B 125)), (6, .ref (pl B 126))] []) :
    VV a B (SP B D E m) 20 120 380 [(15, iI (c : Int)), (14, iI (t : Int)), (13, iI (cntB g (t + 1))), (12, iI (cntW g t)), (11, iI (ckS g (t + 1))), (10, iI (chgN g t)), (9, iI (lstN g t)), (8, iI (ufN (s.1 0) n)), (7, iI (T : Int)), (0, .ref (pl B 0)), (1, .ref (pl B 124)), (2, iI (n : Int)), (3, iI (K 0)), (4, iI (K 2)), (5, .ref (pl B 125)), (6, .ref (pl B 126))] [] := by
  have hD := hX.2.1.1
  have hK := hX.2.1.2
  have hT := hX.2.2.1.2.1
  have hn12 : n ≤ 12 := by have := hD.1; omega
  have hle : leA J s.1 n := fun k hk => (hs.1.2 k hk).2.1
  obtain ⟨-, -, c3, -, c5⟩ := hW.2.2.1 c hc
  obtain ⟨d1, d2, d3⟩ := c5 h5
  have c3 : m 124 (60 * c + 22) = _ := c3
  rw [if_pos h5] at c3
  have d3 : (m 124 (60 * c + 24) = 0 ∧ _) ∨ (m 124 (60 * c + 24) = 1 ∧ m 124 (60 * c + 25) = _) := d3
  have i22 : (60 * (c : Int) + 22).toNat = 60 * c + 22 := by omega
  have i24 : (60 * (c : Int) + 24).toNat = 60 * c + 24 := by omega
  have i25 : (60 * (c : Int) + 25).toNat = 60 * c + 25 := by omega
  have hK2 := hK.2.2.1
  have hch : 0 ≤ chgN g t ∧ chgN g t ≤ 5 := by rw [hcost]; split <;> omega
  have go417 : VV a B (SP B D E m) 20 120 417 [(18, iI (60 * (c : Int))), (15, iI (c : Int)), (14, iI (t : Int)), (13, iI (cntB g (t + 1))), (12, iI (cntW g t)), (11, iI (ckS g (t + 1))), (10, iI (chgN g t)), (9, iI (lstN g t)), (8, iI (ufN (s.1 0) n)), (7, iI (T : Int)), (0, .ref (pl B 0)), (1, .ref (pl B 124)), (2, iI (n : Int)), (3, iI (K 0)), (4, iI (K 2)), (5, .ref (pl B 125)), (6, .ref (pl B 126))] [] := by
    have go479 := w_done h hX hs h66 hl ht hc hgc hr h5 h0 h1 hW go601
    have go442 : VV a B (SP B D E m) 20 120 442 [(18, iI (60 * (c : Int))), (15, iI (c : Int)), (14, iI (t : Int)), (13, iI (cntB g (t + 1))), (12, iI (cntW g t)), (11, iI (ckS g (t + 1))), (10, iI (chgN g t)), (9, iI (lstN g t)), (8, iI (ufN (s.1 0) n)), (7, iI (T : Int)), (0, .ref (pl B 0)), (1, .ref (pl B 124)), (2, iI (n : Int)), (3, iI (K 0)), (4, iI (K 2)), (5, .ref (pl B 125)), (6, .ref (pl B 126))] [] := by
      refine v_iconst (pc := 442) h (dk dt_L_walks_4 7 rfl) ?_
      refine v_istore (lv' := [(10, _), (18, _), (15, _), (14, _), (13, _), (12, _), (11, _), (9, _), (8, _), (7, _), (0, _), (1, _), (2, _), (3, _), (4, _), (5, _), (6, _)]) (pc := 443) h (dk dt_L_walks_4 8 rfl) (Nat.le_of_ble_eq_true rfl) rfl ?_
      refine v_iload (pc := 445) h (dk dt_L_walks_4 9 rfl) rfl ?_
      refine v_istore (lv' := [(9, _), (10, _), (18, _), (15, _), (14, _), (13, _), (12, _), (11, _), (8, _), (7, _), (0, _), (1, _), (2, _), (3, _), (4, _), (5, _), (6, _)]) (pc := 447) h (dk dt_L_walks_4 10 rfl) (Nat.le_of_ble_eq_true rfl) rfl ?_
      refine v_iinc (lv' := [(12, _), (9, _), (10, _), (18, _), (15, _), (14, _), (13, _), (11, _), (8, _), (7, _), (0, _), (1, _), (2, _), (3, _), (4, _), (5, _), (6, _)]) (pc := 449) h (dk dt_L_walks_4 11 rfl) rfl (Nat.le_of_ble_eq_true rfl) rfl ?_
      refine v_aload_n (pc := 452) h (dk dt_L_walks_4 12 rfl) rfl ?_
      refine v_iload (pc := 453) h (dk dt_L_walks_4 13 rfl) rfl ?_
      refine v_bipush (pc := 455) h (dk dt_L_walks_4 14 rfl) rfl ?_
      refine v_iadd (pc := 457) h (dk dt_L_walks_4 15 rfl) ?_
      refine v_iald (pc := 458) h sh124 (Nat.le_of_ble_eq_true rfl) (by omega) (dk dt_L_walks_4 16 rfl) ?_
      rw [i24]
      refine v_if_ne (pc := 459) h 472 (dk dt_L_walks_4 17 rfl) rfl (by rcases d3 with d3 | d3 <;> omega) (fun c459 => ?_) (fun c459 => ?_)
      ·
        refine v_aload_n (pc := 472) h (dk dt_L_walks_4 24 rfl) rfl ?_
        refine v_iload (pc := 473) h (dk dt_L_walks_4 25 rfl) rfl ?_
        refine v_bipush (pc := 475) h (dk dt_L_walks_4 26 rfl) rfl ?_
        refine v_iadd (pc := 477) h (dk dt_L_walks_4 27 rfl) ?_
        refine v_iald (pc := 478) h sh124 (Nat.le_of_ble_eq_true rfl) (by omega) (dk dt_L_walks_4 28 rfl) ?_
        rw [i25, show m 124 (60 * c + 25) = ((gpS g (c : Int) (s'.1 2 c).toNat (t - (s'.1 2 c).toNat)).1 : Int) from by rcases d3 with d3 | d3; omega; exact d3.2]
        exact VV.loc go479 ⟨rfl, rfl, rfl, rfl, rfl, rfl, rfl, rfl, rfl, rfl, rfl, rfl, rfl, rfl, rfl, rfl, rfl, trivial⟩
      ·
        refine v_aload_n (pc := 462) h (dk dt_L_walks_4 18 rfl) rfl ?_
        refine v_iload (pc := 463) h (dk dt_L_walks_4 19 rfl) rfl ?_
        refine v_bipush (pc := 465) h (dk dt_L_walks_4 20 rfl) rfl ?_
        refine v_iadd (pc := 467) h (dk dt_L_walks_4 21 rfl) ?_
        refine v_iald (pc := 468) h sh124 (Nat.le_of_ble_eq_true rfl) (by omega) (dk dt_L_walks_4 22 rfl) ?_
        rw [i22, c3, show s'.1 2 c = ((gpS g (c : Int) (s'.1 2 c).toNat (t - (s'.1 2 c).toNat)).1 : Int) from by rcases d3 with d3 | d3; (rw [d3.2]; omega); omega]
        refine v_goto (pc := 469) h 479 (dk dt_L_walks_4 23 rfl) rfl ?_
        exact VV.loc go479 ⟨rfl, rfl, rfl, rfl, rfl, rfl, rfl, rfl, rfl, rfl, rfl, rfl, rfl, rfl, rfl, rfl, rfl, trivial⟩
    refine v_iload (pc := 417) h (dk dt_L_walks_3 59 rfl) rfl ?_
    refine v_iload (pc := 419) h (dk dt_L_walks_3 60 rfl) rfl ?_
    refine v_if_lt (pc := 421) h 436 (dk dt_L_walks_3 61 rfl) rfl (by omega) (fun c421 => ?_) (fun c421 => ?_)
    ·
      refine v_iconst (pc := 436) h (dk dt_L_walks_4 3 rfl) ?_
      refine v_icmp_eq (pc := 437) h 442 (dk dt_L_walks_4 4 rfl) rfl (by omega) (fun c437 => ?_) (fun c437 => ?_)
      ·
        exact VV.loc go442 ⟨rfl, rfl, rfl, rfl, rfl, rfl, rfl, rfl, rfl, rfl, rfl, rfl, rfl, rfl, rfl, rfl, rfl, trivial⟩
      ·
        exact absurd (hcost.trans (by first | exact if_neg (by omega) | exact if_pos (by omega))) c437
    ·
      refine v_iload (pc := 424) h (dk dt_L_walks_3 62 rfl) rfl ?_
      refine v_iload (pc := 426) h (dk dt_L_walks_3 63 rfl) rfl ?_
      refine v_icmp_eq (pc := 428) h 436 (dk dt_L_walks_4 0 rfl) rfl (by omega) (fun c428 => ?_) (fun c428 => ?_)
      ·
        refine v_iconst (pc := 436) h (dk dt_L_walks_4 3 rfl) ?_
        refine v_icmp_eq (pc := 437) h 442 (dk dt_L_walks_4 4 rfl) rfl (by omega) (fun c437 => ?_) (fun c437 => ?_)
        ·
          exact VV.loc go442 ⟨rfl, rfl, rfl, rfl, rfl, rfl, rfl, rfl, rfl, rfl, rfl, rfl, rfl, rfl, rfl, rfl, rfl, trivial⟩
        ·
          exact absurd (hcost.trans (by first | exact if_neg (by omega) | exact if_pos (by omega))) c437
      ·
        refine v_iload (pc := 431) h (dk dt_L_walks_4 1 rfl) rfl ?_
        refine v_goto (pc := 433) h 437 (dk dt_L_walks_4 2 rfl) rfl ?_
        refine v_icmp_eq (pc := 437) h 442 (dk dt_L_walks_4 4 rfl) rfl (by omega) (fun c437 => ?_) (fun c437 => ?_)
        ·
          exact VV.loc go442 ⟨rfl, rfl, rfl, rfl, rfl, rfl, rfl, rfl, rfl, rfl, rfl, rfl, rfl, rfl, rfl, rfl, rfl, trivial⟩
        ·
          exact absurd (hcost.trans (by first | exact if_neg (by omega) | exact if_pos (by omega))) c437
  refine v_bipush (pc := 380) h (dk dt_L_walks_3 39 rfl) rfl ?_
  refine v_iload (pc := 382) h (dk dt_L_walks_3 40 rfl) rfl ?_
  refine v_imul (pc := 384) h (dk dt_L_walks_3 41 rfl) ?_
  refine v_istore (lv' := [(18, _), (15, _), (14, _), (13, _), (12, _), (11, _), (10, _), (9, _), (8, _), (7, _), (0, _), (1, _), (2, _), (3, _), (4, _), (5, _), (6, _)]) (pc := 385) h (dk dt_L_walks_3 42 rfl) (Nat.le_of_ble_eq_true rfl) rfl ?_
  refine v_aload_n (pc := 387) h (dk dt_L_walks_3 43 rfl) rfl ?_
  refine v_iload_n (pc := 388) h (dk dt_L_walks_3 44 rfl) rfl ?_
  refine v_iload (pc := 389) h (dk dt_L_walks_3 45 rfl) rfl ?_
  refine v_iload (pc := 391) h (dk dt_L_walks_3 46 rfl) rfl ?_
  refine v_cSi (pc := 393) h (c_L_isReady (J := J) (σ := s.1) (n := n) (k := c) h.quiet hD (hX.frame hW).2.2.2.2 hW.dnA hle hc h66 (by omega)) kv_L_isReady wM_L_97 rfl rfl (Nat.le_of_ble_eq_true rfl) (RM.of rfl) rfl rfl (dk dt_L_walks_3 47 rfl) ?_
  rw [if_pos hr]
  refine v_if_eq (pc := 396) h 415 (dk dt_L_walks_3 48 rfl) rfl (by omega) (fun c396 => ?_) (fun c396 => ?_)
  ·
    exact absurd c396 (by decide)
  ·
    refine v_iload_n (pc := 399) h (dk dt_L_walks_3 49 rfl) rfl ?_
    refine v_bipush (pc := 400) h (dk dt_L_walks_3 50 rfl) rfl ?_
    refine v_icmp_ne (pc := 402) h 417 (dk dt_L_walks_3 51 rfl) rfl (by have := hK.1; omega) (fun c402 => ?_) (fun c402 => ?_)
    ·
      exact VV.loc go417 ⟨rfl, rfl, rfl, rfl, rfl, rfl, rfl, rfl, rfl, rfl, rfl, rfl, rfl, rfl, rfl, rfl, rfl, trivial⟩
    ·
      refine v_aload_n (pc := 405) h (dk dt_L_walks_3 52 rfl) rfl ?_
      refine v_iload_n (pc := 406) h (dk dt_L_walks_3 53 rfl) rfl ?_
      refine v_iload (pc := 407) h (dk dt_L_walks_3 54 rfl) rfl ?_
      refine v_cSi (pc := 409) h (c_L_keeper (J := J) (σ := s.1) (n := n) (k := c) h.quiet hD (hX.frame hW).2.2.2.2 hW.dnA hle hc (hk8 c402)) kv_L_keeper wM_L_107 rfl rfl (Nat.le_of_ble_eq_true rfl) (RM.of rfl) rfl rfl (dk dt_L_walks_3 55 rfl) ?_
      refine v_if_lt (pc := 412) h 417 (dk dt_L_walks_3 56 rfl) rfl (by omega) (fun c412 => ?_) (fun c412 => ?_)
      ·
        exact VV.loc go417 ⟨rfl, rfl, rfl, rfl, rfl, rfl, rfl, rfl, rfl, rfl, rfl, rfl, rfl, rfl, rfl, rfl, rfl, trivial⟩
      ·
        exact absurd c412 (by decide)
theorem W_log (hW : WIm J n g m1 m t t (s.1 0) (s.1 1) (s.1 2) (s.1 5)) : WIm J n g m1 (mup m 125 t (g t)) t (t + 1) (s.1 0) (s.1 1) (rw2 s s' 0) (rw5 s s' 0) := by
  obtain ⟨w1, w2, w3, w4, w5, w6⟩ := hW
  have e124 : mup m 125 t (g t) 124 = m 124 := by funext b; exact mup_nk (by decide)
  refine ⟨fun a h1 h2 h3 => by rw [← w1 a h1 h2 h3]; funext b; exact mup_nk h2, fun k c hk hc => by rw [e124]; exact w2 k c hk hc, fun k hk => ?_, fun b hb => ?_, by rw [mup_nk (by decide)]; exact w5, by rw [mup_nk (by decide)]; exact w6⟩
  · rw [e124]
    have h0 := w3 k hk
    have r2 : rw2 s s' 0 k = s.1 2 k := if_neg (Nat.not_lt_zero k)
    have r5 : rw5 s s' 0 k = s.1 5 k := if_neg (Nat.not_lt_zero k)
    unfold colOK gapOK at h0 ⊢
    rw [r2, r5]
    exact h0
  · rw [mup_row]
    by_cases y : b = t
    · rw [if_pos y, y]
    · rw [if_neg y]; exact w4 b (by omega)
set_option maxHeartbeats 1000000 in
theorem w_moment (h : Ac a B D E RL cL_walks 20 rm_L_walks) (hX : WX J n K T g m1) (hs : vS J n K s) (h66 : s.1 6 6 = (t : Int)) (hst : stG J n K s s' (g t)) (hl : ∀ j, s.1 0 j = lfT J g t j) (ht : t < T) (hno : ¬ ovr n s.1)
    (hcost : 0 ≤ g t → chgN g t = if 0 ≤ lstN g t ∧ lstN g t ≠ g t then K 2 else 0) (hlst : -1 ≤ lstN g t ∧ lstN g t < 12) (hch : 0 ≤ chgN g t) (hW : WIm J n g m1 m t t (s.1 0) (s.1 1) (s.1 2) (s.1 5))
    (next : ∀ m', WIm J n g m1 m' (t + 1) (t + 1) (s'.1 0) (s'.1 1) (s'.1 2) (s'.1 5) → VV a B (SP B D E m') 20 120 601 [(14, iI (t : Int)), (13, iI (cntB g (t + 1))), (12, iI (cntW g (t + 1))), (11, iI (ckS g (t + 1))), (10, iI (chgN g (t + 1))), (9, iI (lstN g (t + 1))), (8, iI (ufN (s'.1 0) n)), (7, iI (T : Int)), (0, .ref (pl B 0)), (1, .ref (pl B 124)), (2, iI (n : Int)), (3, iI (K 0)), (4, iI (K 2)), (5, .ref (pl B 125)), (6, .ref (pl B 126))] []) :
    VV a B (SP B D E m) 20 120 112 [(14, iI (t : Int)), (13, iI (cntB g t)), (12, iI (cntW g t)), (11, iI (ckS g t)), (10, iI (chgN g t)), (9, iI (lstN g t)), (8, iI (ufN (s.1 0) n)), (7, iI (T : Int)), (0, .ref (pl B 0)), (1, .ref (pl B 124)), (2, iI (n : Int)), (3, iI (K 0)), (4, iI (K 2)), (5, .ref (pl B 125)), (6, .ref (pl B 126))] [] := by
  have hD := hX.2.1.1
  have hT := hX.2.2.1.2.1
  have hn12 : n ≤ 12 := by have := hD.1; omega
  have hB := (uf_pos (a0 := s.1 0) (n := n) (fun k hk => (hs.1.2 k hk).2.1.1)).mpr (fun q => hno (fun j hj => q j hj))
  have hu := uf_le12 (a0 := s.1 0) (n := n)
  have hgl := hX.log
  have hgt := hgl t ht
  have hst' := hst
  obtain ⟨-, h5, h2, -, hcs⟩ := hst'
  rw [h66] at h5 h2
  -- who is ready
  have han : anL J s.1 n = if g t = -1 then 0 else 1 := by
    rcases hcs with ⟨q0, -, -, -, -, -, q6⟩ | ⟨c, q1, q2, q3, -⟩ | ⟨c, q1, q2, q3, -⟩
    · rw [if_pos q0]
      rcases anL_b J s.1 n with e | e
      · exact e
      · obtain ⟨k, k1, k2⟩ := (anL_is J s.1 n).mp e
        exact absurd k2 (q6 k k1)
    · rw [if_neg (by omega)]; exact (anL_is J s.1 n).mpr ⟨c, q1, q2⟩
    · rw [if_neg (by omega)]; exact (anL_is J s.1 n).mpr ⟨c, q1, q2⟩
  have hab := anL_b J s.1 n
  have go302 : ∀ m, WIm J n g m1 m t (t + 1) (s.1 0) (s.1 1) (s'.1 2) (s'.1 5) → VV a B (SP B D E m) 20 120 302 [(18, iI (n : Int)), (17, iI (wkS (m1 3) (m1 5) (m1 49) (m1 47 0) (t : Int) n)), (16, iI (anL J s.1 n)), (15, iI (g t)), (14, iI (t : Int)), (13, iI (cntB g t)), (12, iI (cntW g t)), (11, iI (ckS g (t + 1))), (10, iI (chgN g t)), (9, iI (lstN g t)), (8, iI (ufN (s.1 0) n)), (7, iI (T : Int)), (0, .ref (pl B 0)), (1, .ref (pl B 124)), (2, iI (n : Int)), (3, iI (K 0)), (4, iI (K 2)), (5, .ref (pl B 125)), (6, .ref (pl B 126))] [] := by
    intro m hW
    have hXm := hX.frame hW
    have ew : wkS (m 3) (m 5) (m 49) (m 47 0) (t : Int) n = wkS (m1 3) (m1 5) (m1 49) (m1 47 0) (t : Int) n := by
      rw [hW.1 3 (by decide) (by decide) (by decide), hW.1 5 (by decide) (by decide) (by decide), hW.1 49 (by decide) (by decide) (by decide), hW.1 47 (by decide) (by decide) (by decide)]
    have go365 : VV a B (SP B D E m) 20 120 365 [(15, iI (g t)), (14, iI (t : Int)), (13, iI (cntB g (t + 1))), (12, iI (cntW g t)), (11, iI (ckS g (t + 1))), (10, iI (chgN g t)), (9, iI (lstN g t)), (8, iI (ufN (s.1 0) n)), (7, iI (T : Int)), (0, .ref (pl B 0)), (1, .ref (pl B 124)), (2, iI (n : Int)), (3, iI (K 0)), (4, iI (K 2)), (5, .ref (pl B 125)), (6, .ref (pl B 126))] [] := by
      have idle : g t < 0 → s'.1 0 = s.1 0 ∧ s'.1 1 = s.1 1 := by
        intro q
        rcases hcs with ⟨-, -, q1, q2, -⟩ | ⟨c, -, -, -, q1, q2, -⟩ | ⟨c, -, -, q3, -⟩
        · exact ⟨q1, q2⟩
        · exact ⟨q1, q2⟩
        · omega
      have hWi : g t < 0 → WIm J n g m1 m (t + 1) (t + 1) (s'.1 0) (s'.1 1) (s'.1 2) (s'.1 5) := fun q => by
        rw [(idle q).1, (idle q).2]; exact W_idle hW q
      have el : g t < 0 → lstN g (t + 1) = lstN g t := fun q => by simp only [lstN]; rw [if_neg (by omega)]
      have ec1 : g t = -2 → chgN g (t + 1) = chgN g t + 1 := fun q => by simp only [chgN]; rw [if_pos q]
      have ec2 : g t = -1 → chgN g (t + 1) = chgN g t := fun q => by simp only [chgN]; rw [if_neg (by omega), if_neg (by omega)]
      have ew2 : g t < 0 → cntW g (t + 1) = cntW g t := fun q => by simp only [cntW]; rw [if_neg (by omega)]; omega
      have euf : g t < 0 → ufN (s'.1 0) n = ufN (s.1 0) n := fun q => by rw [(idle q).1]
      have go380 : 0 ≤ g t → VV a B (SP B D E m) 20 120 380 [(15, iI (g t)), (14, iI (t : Int)), (13, iI (cntB g (t + 1))), (12, iI (cntW g t)), (11, iI (ckS g (t + 1))), (10, iI (chgN g t)), (9, iI (lstN g t)), (8, iI (ufN (s.1 0) n)), (7, iI (T : Int)), (0, .ref (pl B 0)), (1, .ref (pl B 124)), (2, iI (n : Int)), (3, iI (K 0)), (4, iI (K 2)), (5, .ref (pl B 125)), (6, .ref (pl B 126))] [] := by
        intro q
        rcases hcs with ⟨q0, -⟩ | ⟨c, -, -, q3, -⟩ | ⟨c, q1, q2, q3, q4, q5, -, -, -, q8, -, -⟩
        · omega
        · omega
        · have h5c : s'.1 5 c = 1 := by
            have hci := com_iff hD hs q1
            rw [h66] at hci
            rw [h5]
            by_cases y : s.1 5 c = 1
            · split
              · rfl
              · exact y
            · rw [if_pos ⟨q1, hci.mpr ⟨q2, y⟩⟩]
          rw [h66] at q5
          have := w_who h hX hs h66 hl ht q1 q3 q2 q8 (hcost q) hlst h5c q4 q5 hW next
          rw [q3]
          exact this
      refine v_iload (pc := 365) h (dk dt_L_walks_3 33 rfl) rfl ?_
      refine v_bipush (pc := 367) h (dk dt_L_walks_3 34 rfl) rfl ?_
      refine v_icmp_ne (pc := 369) h 375 (dk dt_L_walks_3 35 rfl) rfl (by omega) (fun c369 => ?_) (fun c369 => ?_)
      ·
        refine v_iload (pc := 375) h (dk dt_L_walks_3 37 rfl) rfl ?_
        refine v_if_lt (pc := 377) h 601 (dk dt_L_walks_3 38 rfl) rfl (by omega) (fun c377 => ?_) (fun c377 => ?_)
        ·
          first
            | exact VV.loc (next m (hWi (by omega))) ⟨rfl, rfl, lvI (ew2 (by omega)).symm, rfl, lvI (ec2 (by omega)).symm, lvI (el (by omega)).symm, lvI (euf (by omega)).symm, rfl, rfl, rfl, rfl, rfl, rfl, rfl, rfl, trivial⟩
            | exact VV.loc (next m (hWi (by omega))) ⟨rfl, rfl, lvI (ew2 (by omega)).symm, rfl, lvI (ec1 (by omega)).symm, lvI (el (by omega)).symm, lvI (euf (by omega)).symm, rfl, rfl, rfl, rfl, rfl, rfl, rfl, rfl, trivial⟩
            | exact absurd c377 (by omega)
        ·
          first
            | exact VV.loc (go380 (by omega)) ⟨rfl, rfl, rfl, rfl, rfl, rfl, rfl, rfl, rfl, rfl, rfl, rfl, rfl, rfl, rfl, rfl, trivial⟩
            | exact absurd c377 (by omega)
      ·
        refine v_iinc (lv' := [(10, _), (15, _), (14, _), (13, _), (12, _), (11, _), (9, _), (8, _), (7, _), (0, _), (1, _), (2, _), (3, _), (4, _), (5, _), (6, _)]) (pc := 372) h (dk dt_L_walks_3 36 rfl) rfl (Nat.le_of_ble_eq_true rfl) rfl ?_
        refine v_iload (pc := 375) h (dk dt_L_walks_3 37 rfl) rfl ?_
        refine v_if_lt (pc := 377) h 601 (dk dt_L_walks_3 38 rfl) rfl (by omega) (fun c377 => ?_) (fun c377 => ?_)
        ·
          first
            | exact VV.loc (next m (hWi (by omega))) ⟨rfl, rfl, lvI (ew2 (by omega)).symm, rfl, lvI (ec2 (by omega)).symm, lvI (el (by omega)).symm, lvI (euf (by omega)).symm, rfl, rfl, rfl, rfl, rfl, rfl, rfl, rfl, trivial⟩
            | exact VV.loc (next m (hWi (by omega))) ⟨rfl, rfl, lvI (ew2 (by omega)).symm, rfl, lvI (ec1 (by omega)).symm, lvI (el (by omega)).symm, lvI (euf (by omega)).symm, rfl, rfl, rfl, rfl, rfl, rfl, rfl, rfl, trivial⟩
            | exact absurd c377 (by omega)
        ·
          first
            | exact VV.loc (go380 (by omega)) ⟨rfl, rfl, rfl, rfl, rfl, rfl, rfl, rfl, rfl, rfl, rfl, rfl, rfl, rfl, rfl, rfl, trivial⟩
            | exact absurd c377 (by omega)
    have eB : ¬ bgn g t → cntB g (t + 1) = cntB g t + 0 := fun q => by simp only [cntB]; rw [if_neg q]
    have eY : bgn g t → cntB g (t + 1) = cntB g t + 1 := fun q => by simp only [cntB]; rw [if_pos q]
    refine v_aload_n (pc := 302) h (dk dt_L_walks_2 62 rfl) rfl ?_
    refine v_iload (pc := 303) h (dk dt_L_walks_2 63 rfl) rfl ?_
    refine v_cVi (pc := 305) h (cz_work h.quiet hXm.1.1 hXm.1.2.1 (by omega) (by omega) hXm.1.2.2) kv_X11_work sh0 wM_L_104 rfl rfl (Nat.le_of_ble_eq_true rfl) (RM.of rfl) rfl rfl (dk dt_L_walks_3 0 rfl) ?_
    rw [ew]
    refine v_iload (pc := 308) h (dk dt_L_walks_3 1 rfl) rfl ?_
    refine v_icmp_eqS (pc := 310) h 315 (dk dt_L_walks_3 2 rfl) rfl ?_
    refine v_iload (pc := 315) h (dk dt_L_walks_3 5 rfl) rfl ?_
    refine v_iconst (pc := 317) h (dk dt_L_walks_3 6 rfl) ?_
    refine v_icmp_ne (pc := 318) h 325 (dk dt_L_walks_3 7 rfl) rfl (by omega) (fun c318 => ?_) (fun c318 => ?_)
    ·
      refine v_iconst (pc := 325) h (dk dt_L_walks_3 10 rfl) ?_
      refine v_iload (pc := 326) h (dk dt_L_walks_3 11 rfl) rfl ?_
      refine v_icmp_ne (pc := 328) h 333 (dk dt_L_walks_3 12 rfl) rfl (by omega) (fun c328 => ?_) (fun c328 => ?_)
      ·
        refine v_iload (pc := 333) h (dk dt_L_walks_3 15 rfl) rfl ?_
        refine v_iload (pc := 335) h (dk dt_L_walks_3 16 rfl) rfl ?_
        refine v_iconst (pc := 337) h (dk dt_L_walks_3 17 rfl) ?_
        refine v_icmp_eq (pc := 338) h 361 (dk dt_L_walks_3 18 rfl) rfl (by omega) (fun c338 => ?_) (fun c338 => ?_)
        ·
          refine v_iconst (pc := 361) h (dk dt_L_walks_3 30 rfl) ?_
          refine v_iadd (pc := 362) h (dk dt_L_walks_3 31 rfl) ?_
          refine v_istore (lv' := [(13, _), (18, _), (17, _), (16, _), (15, _), (14, _), (12, _), (11, _), (10, _), (9, _), (8, _), (7, _), (0, _), (1, _), (2, _), (3, _), (4, _), (5, _), (6, _)]) (pc := 363) h (dk dt_L_walks_3 32 rfl) (Nat.le_of_ble_eq_true rfl) rfl ?_
          first
            | exact VV.loc go365 ⟨rfl, rfl, lvI (eB (fun q => q.1 (by assumption))).symm, rfl, rfl, rfl, rfl, rfl, rfl, rfl, rfl, rfl, rfl, rfl, rfl, rfl, trivial⟩
            | exact VV.loc go365 ⟨rfl, rfl, lvI (eB (fun q => by rcases q.2 with y | y; omega; exact absurd y c354)).symm, rfl, rfl, rfl, rfl, rfl, rfl, rfl, rfl, rfl, rfl, rfl, rfl, rfl, trivial⟩
            | exact VV.loc go365 ⟨rfl, rfl, lvI (eY ⟨by assumption, Or.inr c354⟩).symm, rfl, rfl, rfl, rfl, rfl, rfl, rfl, rfl, rfl, rfl, rfl, rfl, rfl, trivial⟩
            | exact VV.loc go365 ⟨rfl, rfl, lvI (eY ⟨by assumption, Or.inl (by omega)⟩).symm, rfl, rfl, rfl, rfl, rfl, rfl, rfl, rfl, rfl, rfl, rfl, rfl, rfl, trivial⟩
        ·
          refine v_iload (pc := 341) h (dk dt_L_walks_3 19 rfl) rfl ?_
          refine v_if_eq (pc := 343) h 357 (dk dt_L_walks_3 20 rfl) rfl (by omega) (fun c343 => ?_) (fun c343 => ?_)
          ·
            refine v_iconst (pc := 357) h (dk dt_L_walks_3 28 rfl) ?_
            refine v_goto (pc := 358) h 362 (dk dt_L_walks_3 29 rfl) rfl ?_
            refine v_iadd (pc := 362) h (dk dt_L_walks_3 31 rfl) ?_
            refine v_istore (lv' := [(13, _), (18, _), (17, _), (16, _), (15, _), (14, _), (12, _), (11, _), (10, _), (9, _), (8, _), (7, _), (0, _), (1, _), (2, _), (3, _), (4, _), (5, _), (6, _)]) (pc := 363) h (dk dt_L_walks_3 32 rfl) (Nat.le_of_ble_eq_true rfl) rfl ?_
            first
              | exact VV.loc go365 ⟨rfl, rfl, lvI (eB (fun q => q.1 (by assumption))).symm, rfl, rfl, rfl, rfl, rfl, rfl, rfl, rfl, rfl, rfl, rfl, rfl, rfl, trivial⟩
              | exact VV.loc go365 ⟨rfl, rfl, lvI (eB (fun q => by rcases q.2 with y | y; omega; exact absurd y c354)).symm, rfl, rfl, rfl, rfl, rfl, rfl, rfl, rfl, rfl, rfl, rfl, rfl, rfl, trivial⟩
              | exact VV.loc go365 ⟨rfl, rfl, lvI (eY ⟨by assumption, Or.inr c354⟩).symm, rfl, rfl, rfl, rfl, rfl, rfl, rfl, rfl, rfl, rfl, rfl, rfl, rfl, trivial⟩
              | exact VV.loc go365 ⟨rfl, rfl, lvI (eY ⟨by assumption, Or.inl (by omega)⟩).symm, rfl, rfl, rfl, rfl, rfl, rfl, rfl, rfl, rfl, rfl, rfl, rfl, rfl, trivial⟩
          ·
            refine v_aload (pc := 346) h (dk dt_L_walks_3 21 rfl) rfl ?_
            refine v_iload (pc := 348) h (dk dt_L_walks_3 22 rfl) rfl ?_
            refine v_iconst (pc := 350) h (dk dt_L_walks_3 23 rfl) ?_
            refine v_isub (pc := 351) h (dk dt_L_walks_3 24 rfl) ?_
            refine v_iald (pc := 352) h sh125 (Nat.le_of_ble_eq_true rfl) (by omega) (dk dt_L_walks_3 25 rfl) ?_
            rw [show ((t : Int) - 1).toNat = t - 1 by omega, hW.2.2.2.1 (t - 1) (by omega)]
            refine v_iconst (pc := 353) h (dk dt_L_walks_3 26 rfl) ?_
            refine v_icmp_ne (pc := 354) h 361 (dk dt_L_walks_3 27 rfl) rfl (by have := hgl (t - 1) (by omega); omega) (fun c354 => ?_) (fun c354 => ?_)
            ·
              refine v_iconst (pc := 361) h (dk dt_L_walks_3 30 rfl) ?_
              refine v_iadd (pc := 362) h (dk dt_L_walks_3 31 rfl) ?_
              refine v_istore (lv' := [(13, _), (18, _), (17, _), (16, _), (15, _), (14, _), (12, _), (11, _), (10, _), (9, _), (8, _), (7, _), (0, _), (1, _), (2, _), (3, _), (4, _), (5, _), (6, _)]) (pc := 363) h (dk dt_L_walks_3 32 rfl) (Nat.le_of_ble_eq_true rfl) rfl ?_
              first
                | exact VV.loc go365 ⟨rfl, rfl, lvI (eB (fun q => q.1 (by assumption))).symm, rfl, rfl, rfl, rfl, rfl, rfl, rfl, rfl, rfl, rfl, rfl, rfl, rfl, trivial⟩
                | exact VV.loc go365 ⟨rfl, rfl, lvI (eB (fun q => by rcases q.2 with y | y; omega; exact absurd y c354)).symm, rfl, rfl, rfl, rfl, rfl, rfl, rfl, rfl, rfl, rfl, rfl, rfl, rfl, trivial⟩
                | exact VV.loc go365 ⟨rfl, rfl, lvI (eY ⟨by assumption, Or.inr c354⟩).symm, rfl, rfl, rfl, rfl, rfl, rfl, rfl, rfl, rfl, rfl, rfl, rfl, rfl, trivial⟩
                | exact VV.loc go365 ⟨rfl, rfl, lvI (eY ⟨by assumption, Or.inl (by omega)⟩).symm, rfl, rfl, rfl, rfl, rfl, rfl, rfl, rfl, rfl, rfl, rfl, rfl, rfl, trivial⟩
            ·
              refine v_iconst (pc := 357) h (dk dt_L_walks_3 28 rfl) ?_
              refine v_goto (pc := 358) h 362 (dk dt_L_walks_3 29 rfl) rfl ?_
              refine v_iadd (pc := 362) h (dk dt_L_walks_3 31 rfl) ?_
              refine v_istore (lv' := [(13, _), (18, _), (17, _), (16, _), (15, _), (14, _), (12, _), (11, _), (10, _), (9, _), (8, _), (7, _), (0, _), (1, _), (2, _), (3, _), (4, _), (5, _), (6, _)]) (pc := 363) h (dk dt_L_walks_3 32 rfl) (Nat.le_of_ble_eq_true rfl) rfl ?_
              first
                | exact VV.loc go365 ⟨rfl, rfl, lvI (eB (fun q => q.1 (by assumption))).symm, rfl, rfl, rfl, rfl, rfl, rfl, rfl, rfl, rfl, rfl, rfl, rfl, rfl, trivial⟩
                | exact VV.loc go365 ⟨rfl, rfl, lvI (eB (fun q => by rcases q.2 with y | y; omega; exact absurd y c354)).symm, rfl, rfl, rfl, rfl, rfl, rfl, rfl, rfl, rfl, rfl, rfl, rfl, rfl, trivial⟩
                | exact VV.loc go365 ⟨rfl, rfl, lvI (eY ⟨by assumption, Or.inr c354⟩).symm, rfl, rfl, rfl, rfl, rfl, rfl, rfl, rfl, rfl, rfl, rfl, rfl, rfl, trivial⟩
                | exact VV.loc go365 ⟨rfl, rfl, lvI (eY ⟨by assumption, Or.inl (by omega)⟩).symm, rfl, rfl, rfl, rfl, rfl, rfl, rfl, rfl, rfl, rfl, rfl, rfl, rfl, trivial⟩
      ·
        exact absurd (c328.trans han) (by first | (rw [if_pos c318]; decide) | (rw [if_neg c318]; decide))
    ·
      refine v_iconst (pc := 321) h (dk dt_L_walks_3 8 rfl) ?_
      refine v_goto (pc := 322) h 326 (dk dt_L_walks_3 9 rfl) rfl ?_
      refine v_iload (pc := 326) h (dk dt_L_walks_3 11 rfl) rfl ?_
      refine v_icmp_ne (pc := 328) h 333 (dk dt_L_walks_3 12 rfl) rfl (by omega) (fun c328 => ?_) (fun c328 => ?_)
      ·
        refine v_iload (pc := 333) h (dk dt_L_walks_3 15 rfl) rfl ?_
        refine v_iload (pc := 335) h (dk dt_L_walks_3 16 rfl) rfl ?_
        refine v_iconst (pc := 337) h (dk dt_L_walks_3 17 rfl) ?_
        refine v_icmp_eq (pc := 338) h 361 (dk dt_L_walks_3 18 rfl) rfl (by omega) (fun c338 => ?_) (fun c338 => ?_)
        ·
          refine v_iconst (pc := 361) h (dk dt_L_walks_3 30 rfl) ?_
          refine v_iadd (pc := 362) h (dk dt_L_walks_3 31 rfl) ?_
          refine v_istore (lv' := [(13, _), (18, _), (17, _), (16, _), (15, _), (14, _), (12, _), (11, _), (10, _), (9, _), (8, _), (7, _), (0, _), (1, _), (2, _), (3, _), (4, _), (5, _), (6, _)]) (pc := 363) h (dk dt_L_walks_3 32 rfl) (Nat.le_of_ble_eq_true rfl) rfl ?_
          first
            | exact VV.loc go365 ⟨rfl, rfl, lvI (eB (fun q => q.1 (by assumption))).symm, rfl, rfl, rfl, rfl, rfl, rfl, rfl, rfl, rfl, rfl, rfl, rfl, rfl, trivial⟩
            | exact VV.loc go365 ⟨rfl, rfl, lvI (eB (fun q => by rcases q.2 with y | y; omega; exact absurd y c354)).symm, rfl, rfl, rfl, rfl, rfl, rfl, rfl, rfl, rfl, rfl, rfl, rfl, rfl, trivial⟩
            | exact VV.loc go365 ⟨rfl, rfl, lvI (eY ⟨by assumption, Or.inr c354⟩).symm, rfl, rfl, rfl, rfl, rfl, rfl, rfl, rfl, rfl, rfl, rfl, rfl, rfl, trivial⟩
            | exact VV.loc go365 ⟨rfl, rfl, lvI (eY ⟨by assumption, Or.inl (by omega)⟩).symm, rfl, rfl, rfl, rfl, rfl, rfl, rfl, rfl, rfl, rfl, rfl, rfl, rfl, trivial⟩
        ·
          refine v_iload (pc := 341) h (dk dt_L_walks_3 19 rfl) rfl ?_
          refine v_if_eq (pc := 343) h 357 (dk dt_L_walks_3 20 rfl) rfl (by omega) (fun c343 => ?_) (fun c343 => ?_)
          ·
            refine v_iconst (pc := 357) h (dk dt_L_walks_3 28 rfl) ?_
            refine v_goto (pc := 358) h 362 (dk dt_L_walks_3 29 rfl) rfl ?_
            refine v_iadd (pc := 362) h (dk dt_L_walks_3 31 rfl) ?_
            refine v_istore (lv' := [(13, _), (18, _), (17, _), (16, _), (15, _), (14, _), (12, _), (11, _), (10, _), (9, _), (8, _), (7, _), (0, _), (1, _), (2, _), (3, _), (4, _), (5, _), (6, _)]) (pc := 363) h (dk dt_L_walks_3 32 rfl) (Nat.le_of_ble_eq_true rfl) rfl ?_
            first
              | exact VV.loc go365 ⟨rfl, rfl, lvI (eB (fun q => q.1 (by assumption))).symm, rfl, rfl, rfl, rfl, rfl, rfl, rfl, rfl, rfl, rfl, rfl, rfl, rfl, trivial⟩
              | exact VV.loc go365 ⟨rfl, rfl, lvI (eB (fun q => by rcases q.2 with y | y; omega; exact absurd y c354)).symm, rfl, rfl, rfl, rfl, rfl, rfl, rfl, rfl, rfl, rfl, rfl, rfl, rfl, trivial⟩
              | exact VV.loc go365 ⟨rfl, rfl, lvI (eY ⟨by assumption, Or.inr c354⟩).symm, rfl, rfl, rfl, rfl, rfl, rfl, rfl, rfl, rfl, rfl, rfl, rfl, rfl, trivial⟩
              | exact VV.loc go365 ⟨rfl, rfl, lvI (eY ⟨by assumption, Or.inl (by omega)⟩).symm, rfl, rfl, rfl, rfl, rfl, rfl, rfl, rfl, rfl, rfl, rfl, rfl, rfl, trivial⟩
          ·
            refine v_aload (pc := 346) h (dk dt_L_walks_3 21 rfl) rfl ?_
            refine v_iload (pc := 348) h (dk dt_L_walks_3 22 rfl) rfl ?_
            refine v_iconst (pc := 350) h (dk dt_L_walks_3 23 rfl) ?_
            refine v_isub (pc := 351) h (dk dt_L_walks_3 24 rfl) ?_
            refine v_iald (pc := 352) h sh125 (Nat.le_of_ble_eq_true rfl) (by omega) (dk dt_L_walks_3 25 rfl) ?_
            rw [show ((t : Int) - 1).toNat = t - 1 by omega, hW.2.2.2.1 (t - 1) (by omega)]
            refine v_iconst (pc := 353) h (dk dt_L_walks_3 26 rfl) ?_
            refine v_icmp_ne (pc := 354) h 361 (dk dt_L_walks_3 27 rfl) rfl (by have := hgl (t - 1) (by omega); omega) (fun c354 => ?_) (fun c354 => ?_)
            ·
              refine v_iconst (pc := 361) h (dk dt_L_walks_3 30 rfl) ?_
              refine v_iadd (pc := 362) h (dk dt_L_walks_3 31 rfl) ?_
              refine v_istore (lv' := [(13, _), (18, _), (17, _), (16, _), (15, _), (14, _), (12, _), (11, _), (10, _), (9, _), (8, _), (7, _), (0, _), (1, _), (2, _), (3, _), (4, _), (5, _), (6, _)]) (pc := 363) h (dk dt_L_walks_3 32 rfl) (Nat.le_of_ble_eq_true rfl) rfl ?_
              first
                | exact VV.loc go365 ⟨rfl, rfl, lvI (eB (fun q => q.1 (by assumption))).symm, rfl, rfl, rfl, rfl, rfl, rfl, rfl, rfl, rfl, rfl, rfl, rfl, rfl, trivial⟩
                | exact VV.loc go365 ⟨rfl, rfl, lvI (eB (fun q => by rcases q.2 with y | y; omega; exact absurd y c354)).symm, rfl, rfl, rfl, rfl, rfl, rfl, rfl, rfl, rfl, rfl, rfl, rfl, rfl, trivial⟩
                | exact VV.loc go365 ⟨rfl, rfl, lvI (eY ⟨by assumption, Or.inr c354⟩).symm, rfl, rfl, rfl, rfl, rfl, rfl, rfl, rfl, rfl, rfl, rfl, rfl, rfl, trivial⟩
                | exact VV.loc go365 ⟨rfl, rfl, lvI (eY ⟨by assumption, Or.inl (by omega)⟩).symm, rfl, rfl, rfl, rfl, rfl, rfl, rfl, rfl, rfl, rfl, rfl, rfl, rfl, trivial⟩
            ·
              refine v_iconst (pc := 357) h (dk dt_L_walks_3 28 rfl) ?_
              refine v_goto (pc := 358) h 362 (dk dt_L_walks_3 29 rfl) rfl ?_
              refine v_iadd (pc := 362) h (dk dt_L_walks_3 31 rfl) ?_
              refine v_istore (lv' := [(13, _), (18, _), (17, _), (16, _), (15, _), (14, _), (12, _), (11, _), (10, _), (9, _), (8, _), (7, _), (0, _), (1, _), (2, _), (3, _), (4, _), (5, _), (6, _)]) (pc := 363) h (dk dt_L_walks_3 32 rfl) (Nat.le_of_ble_eq_true rfl) rfl ?_
              first
                | exact VV.loc go365 ⟨rfl, rfl, lvI (eB (fun q => q.1 (by assumption))).symm, rfl, rfl, rfl, rfl, rfl, rfl, rfl, rfl, rfl, rfl, rfl, rfl, rfl, trivial⟩
                | exact VV.loc go365 ⟨rfl, rfl, lvI (eB (fun q => by rcases q.2 with y | y; omega; exact absurd y c354)).symm, rfl, rfl, rfl, rfl, rfl, rfl, rfl, rfl, rfl, rfl, rfl, rfl, rfl, trivial⟩
                | exact VV.loc go365 ⟨rfl, rfl, lvI (eY ⟨by assumption, Or.inr c354⟩).symm, rfl, rfl, rfl, rfl, rfl, rfl, rfl, rfl, rfl, rfl, rfl, rfl, rfl, trivial⟩
                | exact VV.loc go365 ⟨rfl, rfl, lvI (eY ⟨by assumption, Or.inl (by omega)⟩).symm, rfl, rfl, rfl, rfl, rfl, rfl, rfl, rfl, rfl, rfl, rfl, rfl, rfl, trivial⟩
      ·
        exact absurd (c328.trans han) (by first | (rw [if_pos c318]; decide) | (rw [if_neg c318]; decide))
  have hX0 := hX.frame hW
  have edo : doF (m 49) (m 47 0) (t : Int) = g t := by
    obtain ⟨h6, -, h8⟩ := hX0.2.2.1
    rw [doF_y ⟨by omega, by omega⟩, Int.toNat_natCast, h8 t ht]
  refine v_iload (pc := 112) h (dk dt_L_walks_1 13 rfl) rfl ?_
  refine v_if_le (pc := 114) h 607 (dk dt_L_walks_1 14 rfl) rfl (by omega) (fun c114 => ?_) (fun c114 => ?_)
  ·
    exact absurd c114 (by omega)
  ·
    refine v_iload (pc := 117) h (dk dt_L_walks_1 15 rfl) rfl ?_
    refine v_sipush (pc := 119) h (dk dt_L_walks_1 16 rfl) rfl ?_
    refine v_icmp_ge (pc := 122) h 607 (dk dt_L_walks_1 17 rfl) rfl (by omega) (fun c122 => ?_) (fun c122 => ?_)
    ·
      exact absurd c122 (by omega)
    ·
      refine v_aload_n (pc := 125) h (dk dt_L_walks_1 18 rfl) rfl ?_
      refine v_iload (pc := 126) h (dk dt_L_walks_1 19 rfl) rfl ?_
      refine v_cVi (pc := 128) h (cz_running h.quiet hX0.1.1 (by omega) (by omega) hX0.1.2.2) kv_X11_running sh0 wM_L_31 rfl rfl (Nat.le_of_ble_eq_true rfl) (RM.of rfl) rfl rfl (dk dt_L_walks_1 20 rfl) ?_
      rw [edo]
      refine v_istore (lv' := [(15, _), (14, _), (13, _), (12, _), (11, _), (10, _), (9, _), (8, _), (7, _), (0, _), (1, _), (2, _), (3, _), (4, _), (5, _), (6, _)]) (pc := 131) h (dk dt_L_walks_1 21 rfl) (Nat.le_of_ble_eq_true rfl) rfl ?_
      refine v_aload (pc := 133) h (dk dt_L_walks_1 22 rfl) rfl ?_
      refine v_iload (pc := 135) h (dk dt_L_walks_1 23 rfl) rfl ?_
      refine v_iload (pc := 137) h (dk dt_L_walks_1 24 rfl) rfl ?_
      refine v_iast (pc := 139) h sh125 (Nat.le_of_ble_eq_true rfl) (by omega) (dk dt_L_walks_1 25 rfl) ?_
      rw [Int.toNat_natCast]
      refine v_bipush (pc := 140) h (dk dt_L_walks_1 26 rfl) rfl ?_
      refine v_iload (pc := 142) h (dk dt_L_walks_1 27 rfl) rfl ?_
      refine v_imul (pc := 144) h (dk dt_L_walks_1 28 rfl) ?_
      refine v_iconst (pc := 145) h (dk dt_L_walks_1 29 rfl) ?_
      refine v_iadd (pc := 146) h (dk dt_L_walks_1 30 rfl) ?_
      refine v_iload (pc := 147) h (dk dt_L_walks_1 31 rfl) rfl ?_
      refine v_iadd (pc := 149) h (dk dt_L_walks_1 32 rfl) ?_
      refine v_istore (lv' := [(11, _), (15, _), (14, _), (13, _), (12, _), (10, _), (9, _), (8, _), (7, _), (0, _), (1, _), (2, _), (3, _), (4, _), (5, _), (6, _)]) (pc := 150) h (dk dt_L_walks_1 33 rfl) (Nat.le_of_ble_eq_true rfl) rfl ?_
      refine v_iconst (pc := 152) h (dk dt_L_walks_1 34 rfl) ?_
      refine v_istore (lv' := [(16, _), (11, _), (15, _), (14, _), (13, _), (12, _), (10, _), (9, _), (8, _), (7, _), (0, _), (1, _), (2, _), (3, _), (4, _), (5, _), (6, _)]) (pc := 153) h (dk dt_L_walks_1 35 rfl) (Nat.le_of_ble_eq_true rfl) rfl ?_
      refine v_iconst (pc := 155) h (dk dt_L_walks_1 36 rfl) ?_
      refine v_istore (lv' := [(17, _), (16, _), (11, _), (15, _), (14, _), (13, _), (12, _), (10, _), (9, _), (8, _), (7, _), (0, _), (1, _), (2, _), (3, _), (4, _), (5, _), (6, _)]) (pc := 156) h (dk dt_L_walks_1 37 rfl) (Nat.le_of_ble_eq_true rfl) rfl ?_
      refine v_iconst (pc := 158) h (dk dt_L_walks_1 38 rfl) ?_
      refine v_istore (lv' := [(18, _), (17, _), (16, _), (11, _), (15, _), (14, _), (13, _), (12, _), (10, _), (9, _), (8, _), (7, _), (0, _), (1, _), (2, _), (3, _), (4, _), (5, _), (6, _)]) (pc := 159) h (dk dt_L_walks_1 39 rfl) (Nat.le_of_ble_eq_true rfl) rfl ?_
      exact VV.loc (w_inner h hX hs h66 hst hl ht go302 n 0 _ (by omega) (W_log hW)) ⟨rfl, rfl, rfl, rfl, rfl, rfl, rfl, rfl, rfl, rfl, rfl, rfl, rfl, rfl, rfl, rfl, rfl, rfl, rfl, trivial⟩
end
