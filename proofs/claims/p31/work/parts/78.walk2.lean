/-! ===== the law's walk through a run: who works ===== -/
/-- the law's numbers of a job that has worked -/
def WK (m : Mm) (c : Nat) (v t1 x : Int) : Mm := mup (mup (mup (mup m 124 (60 * c + 23) v) 124 (60 * c + 24) 1) 124 (60 * c + 25) t1) 124 (60 * c + 20) x
theorem WK_o {m : Mm} {c : Nat} {v t1 x : Int} {a : Nat} (h : a ≠ 124) : WK m c v t1 x a = m a := by
  funext b
  unfold WK
  rw [mup_nk h, mup_nk h, mup_nk h, mup_nk h]
theorem WK_b {m : Mm} {c b : Nat} {v t1 x : Int} (h : b ≠ 60 * c + 20 ∧ b ≠ 60 * c + 23 ∧ b ≠ 60 * c + 24 ∧ b ≠ 60 * c + 25) : WK m c v t1 x 124 b = m 124 b := by
  unfold WK
  rw [mup_ne (fun q => h.1 q.2), mup_ne (fun q => h.2.2.2 q.2), mup_ne (fun q => h.2.2.1 q.2), mup_ne (fun q => h.2.1 q.2)]
theorem WK_20 {m : Mm} {c : Nat} {v t1 x : Int} : WK m c v t1 x 124 (60 * c + 20) = x := by unfold WK; rw [mup_eq]
theorem WK_23 {m : Mm} {c : Nat} {v t1 x : Int} : WK m c v t1 x 124 (60 * c + 23) = v := by unfold WK; rw [mup_ne (by omega), mup_ne (by omega), mup_ne (by omega), mup_eq]
theorem WK_24 {m : Mm} {c : Nat} {v t1 x : Int} : WK m c v t1 x 124 (60 * c + 24) = 1 := by unfold WK; rw [mup_ne (by omega), mup_ne (by omega), mup_eq]
theorem WK_25 {m : Mm} {c : Nat} {v t1 x : Int} : WK m c v t1 x 124 (60 * c + 25) = t1 := by unfold WK; rw [mup_ne (by omega), mup_eq]
theorem gpS_up {g : Nat → Int} {j : Int} {f : Nat} : ∀ k : Nat, (gpS g j f k).2 ≤ ((f + k : Nat) : Int) := by
  intro k
  induction k with
  | zero => show (0 : Int) ≤ _; omega
  | succ k ih =>
    have h1 := (gpS_le (g := g) (j := j) (f := f) k).1
    rw [gpS]
    split
    · simp only
      split <;> omega
    · omega
section
variable {a : Ax} {B : Nat} {D : va_G} {E : Nat → ClassId} {J : Mm} {n : Nat} {K : Nat → Int} {g : Nat → Int} {m m1 : Mm} {s s' : St} {t T : Nat}
set_option maxHeartbeats 1000000 in
theorem w_done (h : Ac a B D E RL cL_walks 20 rm_L_walks) (hX : WX J n K T g m1) (hs : vS J n K s) (h66 : s.1 6 6 = (t : Int)) (hl : ∀ j, s.1 0 j = lfT J g t j) (ht : t < T) {c : Nat} (hc : c < n) (hgc : g t = (c : Int)) (hr : rdL J s.1 c)
    (h5 : s'.1 5 c = 1) (h0 : ∀ b, s'.1 0 b = if b = c then s.1 0 c - 1 else s.1 0 b) (h1 : ∀ b, s'.1 1 b = if s.1 0 c = 1 ∧ b = c then (t : Int) + 1 else s.1 1 b) {m : Mm} (hW : WIm J n g m1 m t (t + 1) (s.1 0) (s.1 1) (s'.1 2) (s'.1 5))
    (go601 : ∀ m', WIm J n g m1 m' (t + 1) (t + 1) (s'.1 0) (s'.1 1) (s'.1 2) (s'.1 5) → VV a B (SP B D E m') 20 120 601 [(14, iI (t : Int)), (13, iI (cntB g (t + 1))), (12, iI (cntW g (t + 1))), (11, iI (ckS g (t + 1))), (10, iI (chgN g (t + 1))), (9, iI (lstN g (t + 1))), (8, iI (ufN (s'.1 0) n)), (7, iI (T : Int)), (0, .ref (pl B 0)), (1, .ref (pl B 124)), (2, iI (n : Int)), (3, iI (K 0)), (4, iI (K 2)), (5, .ref (pl B 125)), (6, .ref (pl B 126))] []) :
    VV a B (SP B D E m) 20 120 479 [(12, iI (cntW g t + 1)), (9, iI (c : Int)), (10, iI 0), (18, iI (60 * (c : Int))), (15, iI (c : Int)), (14, iI (t : Int)), (13, iI (cntB g (t + 1))), (11, iI (ckS g (t + 1))), (8, iI (ufN (s.1 0) n)), (7, iI (T : Int)), (0, .ref (pl B 0)), (1, .ref (pl B 124)), (2, iI (n : Int)), (3, iI (K 0)), (4, iI (K 2)), (5, .ref (pl B 125)), (6, .ref (pl B 126))] [iI ((gpS g (c : Int) (s'.1 2 c).toNat (t - (s'.1 2 c).toNat)).1 : Int)] := by
  have hD := hX.2.1.1
  have hT := hX.2.2.1.2.1
  have hn12 : n ≤ 12 := by have := hD.1; omega
  have hJ := okD_l hD hc
  have hJd := okD_d hD hc
  have hB := hs.1.2 c hc
  have hA := (hX.frame hW).2.2.2.2 c hc
  have hs0 : s.1 0 c ≠ 0 := hr.2.1
  obtain ⟨c1, c2, c3, -, c5⟩ := hW.2.2.1 c hc
  obtain ⟨d1, d2, d3⟩ := c5 h5
  have gl := gpS_le (g := g) (j := (c : Int)) (f := (s'.1 2 c).toNat) (t - (s'.1 2 c).toNat)
  have gu := gpS_up (g := g) (j := (c : Int)) (f := (s'.1 2 c).toNat) (t - (s'.1 2 c).toNat)
  have d2 : m 124 (60 * c + 23) = _ := d2
  have c1 : m 124 (60 * c + 20) = _ := c1
  have i20 : (60 * (c : Int) + 20).toNat = 60 * c + 20 := by omega
  have i21 : (60 * (c : Int) + 21).toNat = 60 * c + 21 := by omega
  have i23 : (60 * (c : Int) + 23).toNat = 60 * c + 23 := by omega
  have i24 : (60 * (c : Int) + 24).toNat = 60 * c + 24 := by omega
  have i25 : (60 * (c : Int) + 25).toNat = 60 * c + 25 := by omega
  have i1 : (60 * (c : Int) + 1).toNat = 60 * c + 1 := by omega
  have i2 : (60 * (c : Int) + 2).toNat = 60 * c + 2 := by omega
  have ea1 : m 124 (60 * c + 1) = J 1 c := hA.2.1
  have ea2 : m 124 (60 * c + 2) = J 2 c := hA.2.2.1
  have el : lstN g (t + 1) = (c : Int) := by simp only [lstN]; rw [if_pos (by omega), hgc]
  have ech : chgN g (t + 1) = 0 := by simp only [chgN]; rw [if_neg (by omega), if_pos (by omega)]
  have ew : cntW g (t + 1) = cntW g t + 1 := by simp only [cntW]; rw [if_pos (by omega)]
  have euf := uf_end (a0 := s.1 0) hc h0 hs0
  have hnn : ∀ k, k < n → 0 ≤ s.1 0 k := fun k hk => (hs.1.2 k hk).2.1.1
  have hzz : ∀ k, k < n → s.1 0 k ≠ 0 → s.1 1 k = 0 := fun k hk => (hs.1.2 k hk).2.2.2.1
  have e126 : m 126 1 = smF (s.1 1) n := hW.2.2.2.2.1
  have gen := fun (m' : Mm) => W_work (m' := m') (b0 := s'.1 0) (b1 := s'.1 1) hc hW hgc h5 hs0 hnn hzz h0 h1
  generalize hv : (gpS g (c : Int) (s'.1 2 c).toNat (t - (s'.1 2 c).toNat)).1 = sv at *
  have gen1 : s.1 0 c ≠ 1 → ∀ v, v = (if m 124 (60 * c + 23) < (t : Int) - (sv : Int) then (t : Int) - (sv : Int) else m 124 (60 * c + 23)) → WIm J n g m1 (WK m c v ((t : Int) + 1) (m 124 (60 * c + 20) + 1)) (t + 1) (t + 1) (s'.1 0) (s'.1 1) (s'.1 2) (s'.1 5) := by
    intro q v hv
    refine gen _ (fun a q1 _ => WK_o q1) (fun b hb => WK_b (by omega)) WK_20 (fun y => absurd y q) (WK_23.trans hv) WK_24 WK_25 ?_ ?_
    · rw [WK_o (by decide), if_neg q]; omega
    · rw [WK_o (by decide), if_neg (fun y => q y.1)]
  have gen2 : s.1 0 c = 1 → ∀ v, v = (if m 124 (60 * c + 23) < (t : Int) - (sv : Int) then (t : Int) - (sv : Int) else m 124 (60 * c + 23)) → ¬ (0 < J 2 c ∧ J 2 c < (t : Int) + 1) → WIm J n g m1 (mup (mup (WK m c v ((t : Int) + 1) (m 124 (60 * c + 20) + 1)) 124 (60 * c + 21) ((t : Int) + 1)) 126 1 (m 126 1 + ((t : Int) + 1))) (t + 1) (t + 1) (s'.1 0) (s'.1 1) (s'.1 2) (s'.1 5) := by
    intro q v hv q2
    refine gen _ (fun a q1 q3 => ?_) (fun b hb => ?_) ?_ (fun _ => ?_) ?_ ?_ ?_ ?_ ?_
    · funext b; rw [mup_nk q3, mup_nk q1, WK_o q1]
    · rw [mup_nk (by decide), mup_ne (by omega), WK_b (by omega)]
    · rw [mup_nk (by decide), mup_ne (by omega), WK_20]
    · rw [mup_nk (by decide), mup_eq]
    · rw [mup_nk (by decide), mup_ne (by omega), WK_23, hv]
    · rw [mup_nk (by decide), mup_ne (by omega), WK_24]
    · rw [mup_nk (by decide), mup_ne (by omega), WK_25]
    · rw [mup_eq, if_pos q]
    · rw [mup_ne (by omega), mup_nk (by decide), WK_o (by decide), if_neg (fun y => q2 y.2)]
  have gen3 : s.1 0 c = 1 → ∀ v, v = (if m 124 (60 * c + 23) < (t : Int) - (sv : Int) then (t : Int) - (sv : Int) else m 124 (60 * c + 23)) → (0 < J 2 c ∧ J 2 c < (t : Int) + 1) → WIm J n g m1 (mup (mup (mup (WK m c v ((t : Int) + 1) (m 124 (60 * c + 20) + 1)) 124 (60 * c + 21) ((t : Int) + 1)) 126 1 (m 126 1 + ((t : Int) + 1))) 126 3 0) (t + 1) (t + 1) (s'.1 0) (s'.1 1) (s'.1 2) (s'.1 5) := by
    intro q v hv q2
    refine gen _ (fun a q1 q3 => ?_) (fun b hb => ?_) ?_ (fun _ => ?_) ?_ ?_ ?_ ?_ ?_
    · funext b; rw [mup_nk q3, mup_nk q3, mup_nk q1, WK_o q1]
    · rw [mup_nk (by decide), mup_nk (by decide), mup_ne (by omega), WK_b (by omega)]
    · rw [mup_nk (by decide), mup_nk (by decide), mup_ne (by omega), WK_20]
    · rw [mup_nk (by decide), mup_nk (by decide), mup_eq]
    · rw [mup_nk (by decide), mup_nk (by decide), mup_ne (by omega), WK_23, hv]
    · rw [mup_nk (by decide), mup_nk (by decide), mup_ne (by omega), WK_24]
    · rw [mup_nk (by decide), mup_nk (by decide), mup_ne (by omega), WK_25]
    · rw [mup_ne (by omega), mup_eq, if_pos q]
    · rw [mup_eq, if_pos ⟨q, q2⟩]
  refine v_istore (lv' := [(19, _), (12, _), (9, _), (10, _), (18, _), (15, _), (14, _), (13, _), (11, _), (8, _), (7, _), (0, _), (1, _), (2, _), (3, _), (4, _), (5, _), (6, _)]) (pc := 479) h (dk dt_L_walks_4 29 rfl) (Nat.le_of_ble_eq_true rfl) rfl ?_
  refine v_aload_n (pc := 481) h (dk dt_L_walks_4 30 rfl) rfl ?_
  refine v_iload (pc := 482) h (dk dt_L_walks_4 31 rfl) rfl ?_
  refine v_bipush (pc := 484) h (dk dt_L_walks_4 32 rfl) rfl ?_
  refine v_iadd (pc := 486) h (dk dt_L_walks_4 33 rfl) ?_
  refine v_aload_n (pc := 487) h (dk dt_L_walks_4 34 rfl) rfl ?_
  refine v_iload (pc := 488) h (dk dt_L_walks_4 35 rfl) rfl ?_
  refine v_bipush (pc := 490) h (dk dt_L_walks_4 36 rfl) rfl ?_
  refine v_iadd (pc := 492) h (dk dt_L_walks_4 37 rfl) ?_
  refine v_iald (pc := 493) h sh124 (Nat.le_of_ble_eq_true rfl) (by omega) (dk dt_L_walks_4 38 rfl) ?_
  rw [i23]
  refine v_iload (pc := 494) h (dk dt_L_walks_4 39 rfl) rfl ?_
  refine v_iload (pc := 496) h (dk dt_L_walks_4 40 rfl) rfl ?_
  refine v_isub (pc := 498) h (dk dt_L_walks_4 41 rfl) ?_
  refine v_max (pc := 499) h km_max wM_L_79 (by omega) (Nat.le_of_ble_eq_true rfl) ⟨Nat.le_of_ble_eq_true rfl, Nat.le_of_ble_eq_true rfl, Nat.le_of_ble_eq_true rfl, Nat.le_of_ble_eq_true rfl⟩ (dk dt_L_walks_4 42 rfl) ?_
  refine v_iast (pc := 502) h sh124 (Nat.le_of_ble_eq_true rfl) (by omega) (dk dt_L_walks_4 43 rfl) ?_
  rw [i23]
  refine v_aload_n (pc := 503) h (dk dt_L_walks_4 44 rfl) rfl ?_
  refine v_iload (pc := 504) h (dk dt_L_walks_4 45 rfl) rfl ?_
  refine v_bipush (pc := 506) h (dk dt_L_walks_4 46 rfl) rfl ?_
  refine v_iadd (pc := 508) h (dk dt_L_walks_4 47 rfl) ?_
  refine v_iconst (pc := 509) h (dk dt_L_walks_4 48 rfl) ?_
  refine v_iast (pc := 510) h sh124 (Nat.le_of_ble_eq_true rfl) (by omega) (dk dt_L_walks_4 49 rfl) ?_
  rw [i24]
  refine v_aload_n (pc := 511) h (dk dt_L_walks_4 50 rfl) rfl ?_
  refine v_iload (pc := 512) h (dk dt_L_walks_4 51 rfl) rfl ?_
  refine v_bipush (pc := 514) h (dk dt_L_walks_4 52 rfl) rfl ?_
  refine v_iadd (pc := 516) h (dk dt_L_walks_4 53 rfl) ?_
  refine v_iload (pc := 517) h (dk dt_L_walks_4 54 rfl) rfl ?_
  refine v_iconst (pc := 519) h (dk dt_L_walks_4 55 rfl) ?_
  refine v_iadd (pc := 520) h (dk dt_L_walks_4 56 rfl) ?_
  refine v_iast (pc := 521) h sh124 (Nat.le_of_ble_eq_true rfl) (by omega) (dk dt_L_walks_4 57 rfl) ?_
  rw [i25]
  refine v_aload_n (pc := 522) h (dk dt_L_walks_4 58 rfl) rfl ?_
  refine v_iload (pc := 523) h (dk dt_L_walks_4 59 rfl) rfl ?_
  refine v_bipush (pc := 525) h (dk dt_L_walks_4 60 rfl) rfl ?_
  refine v_iadd (pc := 527) h (dk dt_L_walks_4 61 rfl) ?_
  refine v_dup2 (pc := 528) h (dk dt_L_walks_4 62 rfl) rfl rfl ?_
  refine v_iald (pc := 529) h sh124 (Nat.le_of_ble_eq_true rfl) (by omega) (dk dt_L_walks_4 63 rfl) ?_
  rw [i20, show ∀ v : Int, mup (mup (mup m 124 (60 * c + 23) v) 124 (60 * c + 24) 1) 124 (60 * c + 25) ((t : Int) + 1) 124 (60 * c + 20) = m 124 (60 * c + 20) from fun v => by rw [mup_ne (by omega), mup_ne (by omega), mup_ne (by omega)]]
  refine v_iconst (pc := 530) h (dk dt_L_walks_5 0 rfl) ?_
  refine v_iadd (pc := 531) h (dk dt_L_walks_5 1 rfl) ?_
  refine v_iast (pc := 532) h sh124 (Nat.le_of_ble_eq_true rfl) (by omega) (dk dt_L_walks_5 2 rfl) ?_
  rw [i20]
  generalize hvv : (if m 124 (60 * c + 23) < (t : Int) - (sv : Int) then (t : Int) - (sv : Int) else m 124 (60 * c + 23)) = v
  have hvv := hvv.symm
  show VV a B (SP B D E (WK m c v ((t : Int) + 1) (m 124 (60 * c + 20) + 1))) 20 120 _ _ _
  refine v_aload_n (pc := 533) h (dk dt_L_walks_5 3 rfl) rfl ?_
  refine v_iload (pc := 534) h (dk dt_L_walks_5 4 rfl) rfl ?_
  refine v_bipush (pc := 536) h (dk dt_L_walks_5 5 rfl) rfl ?_
  refine v_iadd (pc := 538) h (dk dt_L_walks_5 6 rfl) ?_
  refine v_iald (pc := 539) h sh124 (Nat.le_of_ble_eq_true rfl) (by omega) (dk dt_L_walks_5 7 rfl) ?_
  rw [i20, WK_20]
  refine v_aload_n (pc := 540) h (dk dt_L_walks_5 8 rfl) rfl ?_
  refine v_iload (pc := 541) h (dk dt_L_walks_5 9 rfl) rfl ?_
  refine v_iconst (pc := 543) h (dk dt_L_walks_5 10 rfl) ?_
  refine v_iadd (pc := 544) h (dk dt_L_walks_5 11 rfl) ?_
  refine v_iald (pc := 545) h sh124 (Nat.le_of_ble_eq_true rfl) (by omega) (dk dt_L_walks_5 12 rfl) ?_
  rw [i1, WK_b (by omega), ea1]
  refine v_icmp_ne (pc := 546) h 601 (dk dt_L_walks_5 13 rfl) rfl (by omega) (fun c546 => ?_) (fun c546 => ?_)
  ·
    first
      | exact VV.loc (go601 _ (gen1 (by omega) v hvv)) ⟨rfl, rfl, lvI ew.symm, rfl, lvI ech.symm, lvI el.symm, lvI (by rw [euf, if_neg (by omega)]; omega), rfl, rfl, rfl, rfl, rfl, rfl, rfl, rfl, trivial⟩
      | exact VV.loc (go601 _ (gen3 (by omega) v hvv (by omega))) ⟨rfl, rfl, lvI ew.symm, rfl, lvI ech.symm, lvI el.symm, lvI (by rw [euf, if_pos (by omega)]; omega), rfl, rfl, rfl, rfl, rfl, rfl, rfl, rfl, trivial⟩
      | exact VV.loc (go601 _ (gen2 (by omega) v hvv (by omega))) ⟨rfl, rfl, lvI ew.symm, rfl, lvI ech.symm, lvI el.symm, lvI (by rw [euf, if_pos (by omega)]; omega), rfl, rfl, rfl, rfl, rfl, rfl, rfl, rfl, trivial⟩
  ·
    refine v_aload_n (pc := 549) h (dk dt_L_walks_5 14 rfl) rfl ?_
    refine v_iload (pc := 550) h (dk dt_L_walks_5 15 rfl) rfl ?_
    refine v_bipush (pc := 552) h (dk dt_L_walks_5 16 rfl) rfl ?_
    refine v_iadd (pc := 554) h (dk dt_L_walks_5 17 rfl) ?_
    refine v_iload (pc := 555) h (dk dt_L_walks_5 18 rfl) rfl ?_
    refine v_iconst (pc := 557) h (dk dt_L_walks_5 19 rfl) ?_
    refine v_iadd (pc := 558) h (dk dt_L_walks_5 20 rfl) ?_
    refine v_iast (pc := 559) h sh124 (Nat.le_of_ble_eq_true rfl) (by omega) (dk dt_L_walks_5 21 rfl) ?_
    rw [i21]
    refine v_aload (pc := 560) h (dk dt_L_walks_5 22 rfl) rfl ?_
    refine v_iconst (pc := 562) h (dk dt_L_walks_5 23 rfl) ?_
    refine v_dup2 (pc := 563) h (dk dt_L_walks_5 24 rfl) rfl rfl ?_
    refine v_iald (pc := 564) h sh126 (Nat.le_of_ble_eq_true rfl) (by omega) (dk dt_L_walks_5 25 rfl) ?_
    rw [show ((1 : Int)).toNat = 1 from rfl, mup_nk (show (126 : Nat) ≠ 124 by decide), WK_o (show (126 : Nat) ≠ 124 by decide)]
    refine v_iload (pc := 565) h (dk dt_L_walks_5 26 rfl) rfl ?_
    refine v_iconst (pc := 567) h (dk dt_L_walks_5 27 rfl) ?_
    refine v_iadd (pc := 568) h (dk dt_L_walks_5 28 rfl) ?_
    refine v_iadd (pc := 569) h (dk dt_L_walks_5 29 rfl) ?_
    refine v_iast (pc := 570) h sh126 (Nat.le_of_ble_eq_true rfl) (by omega) (dk dt_L_walks_5 30 rfl) ?_
    rw [show ((1 : Int)).toNat = 1 from rfl]
    refine v_iinc (lv' := [(8, _), (19, _), (12, _), (9, _), (10, _), (18, _), (15, _), (14, _), (13, _), (11, _), (7, _), (0, _), (1, _), (2, _), (3, _), (4, _), (5, _), (6, _)]) (pc := 571) h (dk dt_L_walks_5 31 rfl) rfl (Nat.le_of_ble_eq_true rfl) rfl ?_
    refine v_aload_n (pc := 574) h (dk dt_L_walks_5 32 rfl) rfl ?_
    refine v_iload (pc := 575) h (dk dt_L_walks_5 33 rfl) rfl ?_
    refine v_iconst (pc := 577) h (dk dt_L_walks_5 34 rfl) ?_
    refine v_iadd (pc := 578) h (dk dt_L_walks_5 35 rfl) ?_
    refine v_iald (pc := 579) h sh124 (Nat.le_of_ble_eq_true rfl) (by omega) (dk dt_L_walks_5 36 rfl) ?_
    rw [i2, mup_nk (show (124 : Nat) ≠ 126 by decide), mup_ne (show ¬ (124 = 124 ∧ 60 * c + 2 = 60 * c + 21) by omega), WK_b (by omega), ea2]
    refine v_if_le (pc := 580) h 601 (dk dt_L_walks_5 37 rfl) rfl (by omega) (fun c580 => ?_) (fun c580 => ?_)
    ·
      first
        | exact VV.loc (go601 _ (gen1 (by omega) v hvv)) ⟨rfl, rfl, lvI ew.symm, rfl, lvI ech.symm, lvI el.symm, lvI (by rw [euf, if_neg (by omega)]; omega), rfl, rfl, rfl, rfl, rfl, rfl, rfl, rfl, trivial⟩
        | exact VV.loc (go601 _ (gen3 (by omega) v hvv (by omega))) ⟨rfl, rfl, lvI ew.symm, rfl, lvI ech.symm, lvI el.symm, lvI (by rw [euf, if_pos (by omega)]; omega), rfl, rfl, rfl, rfl, rfl, rfl, rfl, rfl, trivial⟩
        | exact VV.loc (go601 _ (gen2 (by omega) v hvv (by omega))) ⟨rfl, rfl, lvI ew.symm, rfl, lvI ech.symm, lvI el.symm, lvI (by rw [euf, if_pos (by omega)]; omega), rfl, rfl, rfl, rfl, rfl, rfl, rfl, rfl, trivial⟩
    ·
      refine v_iload (pc := 583) h (dk dt_L_walks_5 38 rfl) rfl ?_
      refine v_iconst (pc := 585) h (dk dt_L_walks_5 39 rfl) ?_
      refine v_iadd (pc := 586) h (dk dt_L_walks_5 40 rfl) ?_
      refine v_aload_n (pc := 587) h (dk dt_L_walks_5 41 rfl) rfl ?_
      refine v_iload (pc := 588) h (dk dt_L_walks_5 42 rfl) rfl ?_
      refine v_iconst (pc := 590) h (dk dt_L_walks_5 43 rfl) ?_
      refine v_iadd (pc := 591) h (dk dt_L_walks_5 44 rfl) ?_
      refine v_iald (pc := 592) h sh124 (Nat.le_of_ble_eq_true rfl) (by omega) (dk dt_L_walks_5 45 rfl) ?_
      rw [i2, mup_nk (show (124 : Nat) ≠ 126 by decide), mup_ne (show ¬ (124 = 124 ∧ 60 * c + 2 = 60 * c + 21) by omega), WK_b (by omega), ea2]
      refine v_icmp_le (pc := 593) h 601 (dk dt_L_walks_5 46 rfl) rfl (by omega) (fun c593 => ?_) (fun c593 => ?_)
      ·
        first
          | exact VV.loc (go601 _ (gen1 (by omega) v hvv)) ⟨rfl, rfl, lvI ew.symm, rfl, lvI ech.symm, lvI el.symm, lvI (by rw [euf, if_neg (by omega)]; omega), rfl, rfl, rfl, rfl, rfl, rfl, rfl, rfl, trivial⟩
          | exact VV.loc (go601 _ (gen3 (by omega) v hvv (by omega))) ⟨rfl, rfl, lvI ew.symm, rfl, lvI ech.symm, lvI el.symm, lvI (by rw [euf, if_pos (by omega)]; omega), rfl, rfl, rfl, rfl, rfl, rfl, rfl, rfl, trivial⟩
          | exact VV.loc (go601 _ (gen2 (by omega) v hvv (by omega))) ⟨rfl, rfl, lvI ew.symm, rfl, lvI ech.symm, lvI el.symm, lvI (by rw [euf, if_pos (by omega)]; omega), rfl, rfl, rfl, rfl, rfl, rfl, rfl, rfl, trivial⟩
      ·
        refine v_aload (pc := 596) h (dk dt_L_walks_5 47 rfl) rfl ?_
        refine v_iconst (pc := 598) h (dk dt_L_walks_5 48 rfl) ?_
        refine v_iconst (pc := 599) h (dk dt_L_walks_5 49 rfl) ?_
        refine v_iast (pc := 600) h sh126 (Nat.le_of_ble_eq_true rfl) (by omega) (dk dt_L_walks_5 50 rfl) ?_
        rw [show ((3 : Int)).toNat = 3 from rfl]
        first
          | exact VV.loc (go601 _ (gen1 (by omega) v hvv)) ⟨rfl, rfl, lvI ew.symm, rfl, lvI ech.symm, lvI el.symm, lvI (by rw [euf, if_neg (by omega)]; omega), rfl, rfl, rfl, rfl, rfl, rfl, rfl, rfl, trivial⟩
          | exact VV.loc (go601 _ (gen3 (by omega) v hvv (by omega))) ⟨rfl, rfl, lvI ew.symm, rfl, lvI ech.symm, lvI el.symm, lvI (by rw [euf, if_pos (by omega)]; omega), rfl, rfl, rfl, rfl, rfl, rfl, rfl, rfl, trivial⟩
          | exact VV.loc (go601 _ (gen2 (by omega) v hvv (by omega))) ⟨rfl, rfl, lvI ew.symm, rfl, lvI ech.symm, lvI el.symm, lvI (by rw [euf, if_pos (by omega)]; omega), rfl, rfl, rfl, rfl, rfl, rfl, rfl, rfl, trivial⟩
end
