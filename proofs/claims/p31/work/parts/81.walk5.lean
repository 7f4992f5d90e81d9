/-! ===== the law's walk through a run: its end, its contract ===== -/
section
variable {a : Ax} {B : Nat} {D : va_G} {E : Nat → ClassId} {J : Mm} {n : Nat} {K : Nat → Int} {g : Nat → Int} {m m1 : Mm} {s s' : St} {t T : Nat} {z : Int} {l : Launch} {μ : Mm} {P : Pv} {X : Px}
theorem whS_bit {μ : Mm} {r : Nat} (hr : r < 9) (hJ : jm μ = J) (hK : kM μ (r : Int) = K) (hz : μ 27 3 = z) (e66 : (fnF J n K z).1 6 6 = (T : Int)) (e47 : μ 47 0 = (T : Int)) (e49 : ∀ t : Nat, t < T → μ 49 t = (fnF J n K z).1 7 t) : bnd (bsr ((whS μ n : Nat) : Int) (r : Int)) 1 = 1 := by
  have hlt : whS μ n < 2 ^ 9 := bsN_lt _ 9
  rw [bit1 (by have : (2 : Nat) ^ 9 = 512 := rfl; omega) (by omega), if_pos]
  unfold whS
  rw [bsN_bit, decide_eq_true hr, Bool.true_and]
  show sameR (jm μ) n (kM μ (r : Int)) (μ 27 3) (μ 49) (μ 47 0) = true
  unfold sameR
  rw [hJ, hK, hz, Bool.and_eq_true, decide_eq_true_iff, decide_eq_true_iff]
  exact ⟨by rw [e66, e47], fun t ht => (e49 t (by omega)).symm⟩
theorem lf_a5 (hD : okD J n) (h : vS J n K s) {k : Nat} (hk : k < n) (h0 : s.1 0 k = 0) : s.1 5 k = 1 := by
  have hB := h.1.2 k hk
  have hl := okD_l hD hk
  rcases hB.1 with e | e
  · have := hB.2.2.1 e; omega
  · exact e
set_option maxHeartbeats 1000000 in
theorem w_end (h : Ac a B D E RL cL_walks 20 rm_L_walks) (r : Rt a B D E (some .boolean) P X rm_L_walks.cells rm_L_walks.slots) (hX : WX J n K T g m1) (hR : RunT J n K z T) (hg : (fnF J n K z).1 7 = g) (hJ : jm m1 = J) (hK : kM m1 (K 0) = K) (hz : m1 27 3 = z)
    (h44 : ∀ k, k < n → m1 44 k = (fnF J n K z).1 1 k ∧ m1 46 k = (fnF J n K z).1 2 k) {m : Mm} (hW : WIm J n g m1 m T T ((itN J n K z T).1 0) ((itN J n K z T).1 1) ((itN J n K z T).1 2) ((itN J n K z T).1 5))
    (hp : ∀ m', fq (mup (mup m 126 0 (T : Int)) 126 2 (cntW g T)) m' → P (some (iI 1)) m') : VV a B (SP B D E m) 20 120 607 [(14, iI (T : Int)), (13, iI (cntB g T)), (12, iI (cntW g T)), (11, iI (ckS g T)), (7, iI (T : Int)), (0, .ref (pl B 0)), (1, .ref (pl B 124)), (2, iI (n : Int)), (3, iI (K 0)), (4, iI (K 2)), (5, .ref (pl B 125)), (6, .ref (pl B 126))] [] := by
  have hD := hX.2.1.1
  have hKK := hX.2.1.2
  have hT := hX.2.2.1.2.1
  have hn12 : n ≤ 12 := by have := hD.1; omega
  have hXm := hX.frame hW
  have hv := (hR.2.2.2.2 T (Nat.le_refl _))
  have efn : fnF J n K z = itN J n K z T := hR.1
  have e66 : (fnF J n K z).1 6 6 = (T : Int) := by rw [efn]; exact hv.2.2
  have e126 : m 126 1 = smF ((fnF J n K z).1 1) n := by rw [efn]; exact hW.2.2.2.2.1
  generalize hM : mup (mup m 126 0 (T : Int)) 126 2 (cntW g T) = M at hp
  have fM : ∀ a, a ≠ 126 → M a = m a := fun a q => by rw [← hM]; funext b; rw [mup_nk q, mup_nk q]
  have fM1 : M 126 1 = m 126 1 := by rw [← hM, mup_ne (by omega), mup_ne (by omega)]
  have f1 : ∀ a, a ≠ 124 → a ≠ 125 → a ≠ 126 → M a = m1 a := fun a q1 q2 q3 => by rw [fM a q3]; exact hW.1 a q1 q2 q3
  have hO : hOK M := hO_c (fun a q => f1 a (by omega) (by omega) (by omega)) hX.1.1
  have h7 : M 0 7 = 1 := by rw [f1 0 (by decide) (by decide) (by decide)]; exact hX.1.2.2
  have hn : M 1 9 = (n : Int) := by rw [f1 1 (by decide) (by decide) (by decide)]; exact hX.1.2.1
  have e47 : M 47 0 = (T : Int) := by rw [f1 47 (by decide) (by decide) (by decide)]; exact hX.2.2.1.1
  have e49 : ∀ t : Nat, t < T → M 49 t = g t := fun t ht => by rw [f1 49 (by decide) (by decide) (by decide)]; exact hX.2.2.1.2.2 t ht
  have hJM : jm M = J := by rw [← hJ]; exact jm_c (fun a q => f1 a (by omega) (by omega) (by omega))
  have e27 : M 27 = m1 27 := f1 27 (by decide) (by decide) (by decide)
  have hKM : kM M (K 0) = K := by rw [← hK]; show kof _ (M 27 0) (M 27 1) (M 27 4) (M 27 2) = kof _ (m1 27 0) (m1 27 1) (m1 27 4) (m1 27 2); rw [e27]; rfl
  have hzM : M 27 3 = z := by rw [e27]; exact hz
  have esum : smF (M 44) n = m 126 1 := by
    rw [e126]
    exact smF_cong (fun k hk => by rw [f1 44 (by decide) (by decide) (by decide)]; exact (h44 k hk).1)
  have edo : doF (M 49) (M 47 0) ((T : Int) + 7) = -1 := doF_n (by omega)
  have erb : rcB (M 0 7) (M 49) (M 47 0) (-1) = 0 := by unfold rcB; rw [if_neg (by omega), if_pos rfl]
  have ecb : cntB (M 49) T = cntB g T := cntB_c e49
  have hcb := cntB_b (M 49) T
  have eab : anB (M 49) (M 47 0) (-1) 0 = cntB g T := by unfold anB; rw [if_pos rfl, e47, Int.toNat_natCast, ecb]
  have erb2 : rcB (M 0 7) (M 49) (M 47 0) (cntB g T) = 2 := by
    unfold rcB
    rw [if_neg (by omega), if_neg (by omega), if_pos]
    unfold bgZ
    rw [e47, Int.toNat_natCast]
    refine bBeg_no T 0 0 ?_
    rw [Nat.zero_add, ecb]
    show (0 : Int) + (cntB g T - 0) ≤ cntB g T
    omega
  have eck : ckS (M 49) (M 47 0).toNat = ckS g T := by rw [e47, Int.toNat_natCast]; exact ckS_c e49
  have hK0 := hKK.1
  have ewh : bnd (bsr ((whS M n : Nat) : Int) (K 0)) 1 = 1 := by
    have := whS_bit (μ := M) (J := J) (n := n) (K := K) (z := z) (T := T) (r := (K 0).toNat) (by omega) hJM (by rw [show (((K 0).toNat : Nat) : Int) = K 0 by omega]; exact hKM) hzM e66 e47 (fun t ht => by rw [e49 t ht, hg])
    rwa [show (((K 0).toNat : Nat) : Int) = K 0 by omega] at this
  have hend : ∀ m', fq M m' → ∀ k, k < n → m' 124 (60 * k + 21) = m' 44 k ∧ m' 124 (60 * k + 23) = gapJ (m' 49) (k : Int) (T - (m' 46 k).toNat) (m' 46 k).toNat ((m' 46 k).toNat : Int) 0 ∧ m' 124 (60 * k + 2) = m' 7 k := by
    intro m' hq k hk
    rw [hq 124 (by omega), hq 44 (by omega), hq 46 (by omega), hq 49 (by omega), hq 7 (by omega), f1 44 (by decide) (by decide) (by decide), f1 46 (by decide) (by decide) (by decide), f1 7 (by decide) (by decide) (by decide), fM 124 (by decide), (h44 k hk).1, (h44 k hk).2, hX.2.2.2.1.2.2]
    obtain ⟨c1, c2, c3, -, c5⟩ := hW.2.2.1 k hk
    have h0 := hR.2.2.1 k hk
    obtain ⟨d1, d2, -⟩ := c5 (lf_a5 hD hv.1 hk h0)
    refine ⟨by rw [efn]; exact c2 h0, ?_, (hXm.2.2.2.2 k hk).2.2.1⟩
    rw [efn, gap_0]
    have e2 : gpS (M 49) (k : Int) ((itN J n K z T).1 2 k).toNat (T - ((itN J n K z T).1 2 k).toNat) = gpS g (k : Int) ((itN J n K z T).1 2 k).toNat (T - ((itN J n K z T).1 2 k).toNat) := gpS_c (fun b hb => e49 b (by omega))
    rw [e2]
    exact d2
  refine v_aload (pc := 607) h (dk dt_L_walks_5 53 rfl) rfl ?_
  refine v_iconst (pc := 609) h (dk dt_L_walks_5 54 rfl) ?_
  refine v_iload (pc := 610) h (dk dt_L_walks_5 55 rfl) rfl ?_
  refine v_iast (pc := 612) h sh126 (Nat.le_of_ble_eq_true rfl) (by omega) (dk dt_L_walks_5 56 rfl) ?_
  rw [show ((0 : Int)).toNat = 0 from rfl]
  refine v_aload (pc := 613) h (dk dt_L_walks_5 57 rfl) rfl ?_
  refine v_iconst (pc := 615) h (dk dt_L_walks_5 58 rfl) ?_
  refine v_iload (pc := 616) h (dk dt_L_walks_5 59 rfl) rfl ?_
  refine v_iast (pc := 618) h sh126 (Nat.le_of_ble_eq_true rfl) (by omega) (dk dt_L_walks_5 60 rfl) ?_
  rw [show ((2 : Int)).toNat = 2 from rfl, hM]
  refine v_iload (pc := 619) h (dk dt_L_walks_5 61 rfl) rfl ?_
  refine v_iload (pc := 621) h (dk dt_L_walks_5 62 rfl) rfl ?_
  refine v_icmp_neS (pc := 623) h 706 (dk dt_L_walks_5 63 rfl) rfl ?_
  refine v_aload_n (pc := 626) h (dk dt_L_walks_6 0 rfl) rfl ?_
  refine v_callVX (pc := 627) h (c_X11_sumOfEnds h.quiet hO hn) kv_X11_sumOfEnds sh0 wM_L_110 rfl rfl (Nat.le_of_ble_eq_true rfl) (RM.of rfl) (dk dt_L_walks_6 1 rfl) (fun e627 μ627 p627 => ?_) (fun v627 μ627 p627 => ?_)
  ·
    exfalso
    obtain ⟨⟨i2, q1, -⟩, -⟩ := p627
    rw [rcN_0 h7] at q1; omega
  ·
    obtain ⟨-, rfl, rfl⟩ := p627
    rw [esum]
    refine v_aload (pc := 630) h (dk dt_L_walks_6 2 rfl) rfl ?_
    refine v_iconst (pc := 632) h (dk dt_L_walks_6 3 rfl) ?_
    refine v_iald (pc := 633) h sh126 (Nat.le_of_ble_eq_true rfl) (by omega) (dk dt_L_walks_6 4 rfl) ?_
    rw [show ((1 : Int)).toNat = 1 from rfl, fM1]
    refine v_icmp_neS (pc := 634) h 706 (dk dt_L_walks_6 5 rfl) rfl ?_
    refine v_aload_n (pc := 637) h (dk dt_L_walks_6 6 rfl) rfl ?_
    refine v_iload (pc := 638) h (dk dt_L_walks_6 7 rfl) rfl ?_
    refine v_bipush (pc := 640) h (dk dt_L_walks_6 8 rfl) rfl ?_
    refine v_iadd (pc := 642) h (dk dt_L_walks_6 9 rfl) ?_
    refine v_cVi (pc := 643) h (cz_running h.quiet hO (by omega) (by omega) h7) kv_X11_running sh0 wM_L_31 rfl rfl (Nat.le_of_ble_eq_true rfl) (RM.of rfl) rfl rfl (dk dt_L_walks_6 10 rfl) ?_
    rw [edo]
    refine v_iconst (pc := 646) h (dk dt_L_walks_6 11 rfl) ?_
    refine v_icmp_neS (pc := 647) h 706 (dk dt_L_walks_6 12 rfl) rfl ?_
    refine v_aload_n (pc := 650) h (dk dt_L_walks_6 13 rfl) rfl ?_
    refine v_bipush (pc := 651) h (dk dt_L_walks_6 14 rfl) rfl ?_
    refine v_iconst (pc := 653) h (dk dt_L_walks_6 15 rfl) ?_
    refine v_iconst (pc := 654) h (dk dt_L_walks_6 16 rfl) ?_
    refine v_iconst (pc := 655) h (dk dt_L_walks_6 17 rfl) ?_
    refine v_iconst (pc := 656) h (dk dt_L_walks_6 18 rfl) ?_
    refine v_callH (pc := 657) h (d_busy h.quiet hO (by omega)) kh_L_done wM_L_84 rfl rfl (Nat.le_of_ble_eq_true rfl) (RM.of rfl) (dk dt_L_walks_6 19 rfl) (fun v657 μ657 p657 => ?_)
    rcases p657 with ⟨-, rfl, rfl⟩ | ⟨q, -, -⟩
    case inr => exact absurd erb q
    rw [eab]
    refine v_iload (pc := 660) h (dk dt_L_walks_6 20 rfl) rfl ?_
    refine v_icmp_neS (pc := 662) h 706 (dk dt_L_walks_6 21 rfl) rfl ?_
    refine v_aload_n (pc := 665) h (dk dt_L_walks_6 22 rfl) rfl ?_
    refine v_bipush (pc := 666) h (dk dt_L_walks_6 23 rfl) rfl ?_
    refine v_iload (pc := 668) h (dk dt_L_walks_6 24 rfl) rfl ?_
    refine v_iconst (pc := 670) h (dk dt_L_walks_6 25 rfl) ?_
    refine v_iconst (pc := 671) h (dk dt_L_walks_6 26 rfl) ?_
    refine v_iconst (pc := 672) h (dk dt_L_walks_6 27 rfl) ?_
    refine v_callH (pc := 673) h (d_busy h.quiet hO (by omega)) kh_L_done wM_L_84 rfl rfl (Nat.le_of_ble_eq_true rfl) (RM.of rfl) (dk dt_L_walks_6 28 rfl) (fun v673 μ673 p673 => ?_)
    rcases p673 with ⟨q, -, -⟩ | ⟨-, rfl, rfl⟩
    case inl => rw [erb2] at q; exact absurd q (by decide)
    rw [erb2]
    show VV a B _ _ _ _ _ [iI (-14)]
    refine v_bipush (pc := 676) h (dk dt_L_walks_6 29 rfl) rfl ?_
    refine v_icmp_neS (pc := 678) h 706 (dk dt_L_walks_6 30 rfl) rfl ?_
    refine v_aload_n (pc := 681) h (dk dt_L_walks_6 31 rfl) rfl ?_
    refine v_callVX (pc := 682) h (c_X11_checksum h.quiet hO) kv_X11_checksum sh0 wM_L_113 rfl rfl (Nat.le_of_ble_eq_true rfl) (RM.of rfl) (dk dt_L_walks_6 32 rfl) (fun e682 μ682 p682 => ?_) (fun v682 μ682 p682 => ?_)
    ·
      exfalso
      obtain ⟨⟨i2, q1, -⟩, -⟩ := p682
      rw [rcN_0 h7] at q1; omega
    ·
      obtain ⟨-, rfl, rfl⟩ := p682
      rw [eck]
      refine v_iload (pc := 685) h (dk dt_L_walks_6 33 rfl) rfl ?_
      refine v_icmp_neS (pc := 687) h 706 (dk dt_L_walks_6 34 rfl) rfl ?_
      refine v_aload_n (pc := 690) h (dk dt_L_walks_6 35 rfl) rfl ?_
      refine v_callVX (pc := 691) h (c_X11_which h.quiet hO hn) kv_X11_which sh0 wM_L_116 rfl rfl (Nat.le_of_ble_eq_true rfl) (RM.of rfl) (dk dt_L_walks_6 36 rfl) (fun e691 μ691 p691 => ?_) (fun v691 μ691 p691 => ?_)
      ·
        exfalso
        obtain ⟨⟨i2, q1, -⟩, -⟩ := p691
        rw [rcN_0 h7] at q1; omega
      ·
        obtain ⟨-, rfl, hq⟩ := p691
        refine v_iload_n (pc := 694) h (dk dt_L_walks_6 37 rfl) rfl ?_
        refine v_ishr (pc := 695) h (dk dt_L_walks_6 38 rfl) ?_
        refine v_iconst (pc := 696) h (dk dt_L_walks_6 39 rfl) ?_
        refine v_iand (pc := 697) h (dk dt_L_walks_6 40 rfl) ?_
        rw [ewh]
        refine v_iconst (pc := 698) h (dk dt_L_walks_6 41 rfl) ?_
        refine v_icmp_neS (pc := 699) h 706 (dk dt_L_walks_6 42 rfl) rfl ?_
        refine v_iconst (pc := 702) h (dk dt_L_walks_6 43 rfl) ?_
        refine v_goto (pc := 703) h 707 (dk dt_L_walks_6 44 rfl) rfl ?_
        refine v_istore (lv' := [(15, _), (14, _), (13, _), (12, _), (11, _), (7, _), (0, _), (1, _), (2, _), (3, _), (4, _), (5, _), (6, _)]) (pc := 707) h (dk dt_L_walks_6 46 rfl) (Nat.le_of_ble_eq_true rfl) rfl ?_
        refine v_iconst (pc := 709) h (dk dt_L_walks_6 47 rfl) ?_
        refine v_istore (lv' := [(16, _), (15, _), (14, _), (13, _), (12, _), (11, _), (7, _), (0, _), (1, _), (2, _), (3, _), (4, _), (5, _), (6, _)]) (pc := 710) h (dk dt_L_walks_6 48 rfl) (Nat.le_of_ble_eq_true rfl) rfl ?_
        exact VV.loc (w_jobs (P := P) (X := X) h r (hO_c (fun a q => hq a (by omega)) hO) (by rw [hq 1 (by omega)]; exact hn) (by rw [hq 0 (by omega)]; exact h7) hT (by rw [hq 47 (by omega)]; exact e47) (by rw [hq 49 (by omega)]; exact cntW_c e49) (hend _ hq) (hp _ hq) n 0 _ _ (by omega) (Nat.le_of_ble_eq_true rfl) (Nat.le_of_ble_eq_true rfl)) ⟨rfl, rfl, rfl, rfl, rfl, rfl, rfl, trivial⟩
theorem c_L_walks (hst : l.stackTraces = false) (hO : hOK μ) (hn : μ 1 9 = (n : Int)) (hA : eqA (jm μ) n (μ 124)) {ru : Int} (hr : 0 ≤ ru ∧ ru ≤ 8) :
    Ct l B D E yL_walks (.code yL_walks cL_walks 20 (some .boolean)) rm_L_walks [.ref (pl B 0), .ref (pl B 124), iI (n : Int), iI ru, iI (μ 27 1), .ref (pl B 125), .ref (pl B 126)] μ (fun v m => v = some (iI 1) ∧ PW μ n (jm μ) (kM μ ru) (μ 27 3) m) NX := by
  have hD := okJD hO.J hn
  have hW := hO.W
  have hK : okK (kM μ ru) := okK_kof hr hW.1 hW.2.1 hW.2.2.2 hW.2.2.1
  obtain ⟨T, hR⟩ := fn_run hD hK (μ 27 3)
  have hn12 : n ≤ 12 := by have := hD.1; omega
  have hT := hR.2.2.2.1
  have hv := (hR.2.2.2.2 T (Nat.le_refl _))
  have efn : fnF (jm μ) n (kM μ ru) (μ 27 3) = itN (jm μ) n (kM μ ru) (μ 27 3) T := hR.1
  have e66 : (fnF (jm μ) n (kM μ ru) (μ 27 3)).1 6 6 = (T : Int) := by rw [efn]; exact hv.2.2
  generalize hJ : jm μ = J at *
  generalize hKe : kM μ ru = K at *
  generalize hz : μ 27 3 = z at *
  have eK0 : K 0 = ru := by rw [← hKe]; rfl
  have eK2 : K 2 = μ 27 1 := by rw [← hKe]; rfl
  refine ct_of (own := RL) (lv := [(0, _), (1, _), (2, _), (3, _), (4, _), (5, _), (6, _)]) hst (by decide) rfl rfl (Nat.le_of_ble_eq_true rfl) fun a h r t => ?_
  have key : ∀ m1 : Mm, m1 0 7 = 1 → (∀ a, a ≠ 0 → a < 28 ∨ 57 ≤ a → m1 a = μ a) → aR 28 n K J z m1 → VV a B (SP B D E m1) 20 120 32 [(14, iI 0), (13, iI 0), (12, iI 0), (11, iI 0), (10, iI 0), (9, iI (-1)), (8, iI (n : Int)), (7, iI (m1 47 0)), (0, .ref (pl B 0)), (1, .ref (pl B 124)), (2, iI (n : Int)), (3, iI ru), (4, iI (μ 27 1)), (5, .ref (pl B 125)), (6, .ref (pl B 126))] [] := by
    intro m1 q7 qf qR
    have ha := aR_is hD hK qR
    have hO1 : hOK m1 := hOK_run hO hn hr qf q7 (by rw [hKe, hJ, hz]; exact qR)
    have e47 : m1 47 0 = (T : Int) := ha.2.1.trans e66
    have hJ1 : jm m1 = J := by
      rw [← hJ]
      unfold jm
      rw [qf 3 (by decide) (by decide), qf 5 (by decide) (by decide), qf 7 (by decide) (by decide), qf 9 (by decide) (by decide), qf 11 (by decide) (by decide), qf 13 (by decide) (by decide), qf 15 (by decide) (by decide), qf 17 (by decide) (by decide), qf 19 (by decide) (by decide)]
    have hK1 : kM m1 (K 0) = K := by
      have e27 : m1 27 = μ 27 := qf 27 (by decide) (by decide)
      rw [eK0, ← hKe]
      show kof _ (m1 27 0) (m1 27 1) (m1 27 4) (m1 27 2) = kof _ (μ 27 0) (μ 27 1) (μ 27 4) (μ 27 2)
      rw [e27]
    have hz1 : m1 27 3 = z := by rw [qf 27 (by decide) (by decide)]; exact hz
    have hX : WX J n K T ((fnF J n K z).1 7) m1 := by
      refine ⟨⟨hO1, by rw [qf 1 (by decide) (by decide)]; exact hn, q7⟩, ⟨hD, hK⟩, ⟨e47, hT, fun t ht => ha.2.2.1 t (by rw [e66]; omega)⟩, ?_, by rw [qf 124 (by decide) (by decide)]; exact hA⟩
      rw [← hJ1]
      exact ⟨rfl, rfl, rfl⟩
    have fin : ∀ m, WIm J n ((fnF J n K z).1 7) m1 m T T ((itN J n K z T).1 0) ((itN J n K z T).1 1) ((itN J n K z T).1 2) ((itN J n K z T).1 5) → ∀ m', fq (mup (mup m 126 0 (T : Int)) 126 2 (cntW ((fnF J n K z).1 7) T)) m' → (fun v m => v = some (iI 1) ∧ PW μ n J K z m) (some (iI 1)) m' := by
      intro m hW m' hq
      have f1 : ∀ a, a < 57 ∨ 123 ≤ a → a ≠ 124 → a ≠ 125 → a ≠ 126 → m' a = m1 a := fun a y q1 q2 q3 => by
        rw [hq a y]; funext b; rw [mup_nk q3, mup_nk q3, hW.1 a q1 q2 q3]
      have f4 : ∀ a, a = 124 ∨ a = 125 → m' a = m a := fun a y => by
        rw [hq a (by omega)]; funext b; rw [mup_nk (by omega), mup_nk (by omega)]
      have f6 : ∀ b, b ≠ 0 → b ≠ 2 → m' 126 b = m 126 b := fun b y1 y2 => by
        rw [hq 126 (by omega), mup_ne (by omega), mup_ne (by omega)]
      refine ⟨rfl, hO_c (fun a q => f1 a (by omega) (by omega) (by omega) (by omega)) hO1, by rw [f1 0 (by omega) (by decide) (by decide) (by decide)]; exact q7, fun a y1 y2 y3 y4 y5 => by rw [f1 a (by omega) y3 y4 y5]; exact qf a y1 (by omega), fun k c hk hc => ?_, ⟨T, hT, e66, ?_, fun t ht => ?_⟩, ?_, ?_, fun k hk => ?_⟩
      · rw [f4 124 (Or.inl rfl), hW.2.1 k c hk hc, qf 124 (by decide) (by decide)]
      · rw [hq 126 (by omega), mup_ne (by omega), mup_eq]
      · rw [f4 125 (Or.inr rfl)]; exact hW.2.2.2.1 t ht
      · rw [f6 1 (by decide) (by decide), hW.2.2.2.2.1]; unfold sumE; rw [efn]
      · rw [f6 3 (by decide) (by decide), hW.2.2.2.2.2]
        have e : lateE J n K z = 0 ↔ kpS J n ((itN J n K z T).1 0) ((itN J n K z T).1 1) := by
          unfold lateE
          rw [lat_0, efn]
          constructor
          · intro y k hk _ y2
            rcases y k hk with w | w
            · omega
            · exact w
          · intro y k hk
            by_cases w : J 2 k = 0
            · exact Or.inl w
            · exact Or.inr (y k hk (hR.2.2.1 k hk) (by have := okD_d hD hk; omega))
        by_cases y : lateE J n K z = 0
        · rw [if_pos y, if_pos (e.mp y)]
        · rw [if_neg y, if_neg (fun w => y (e.mpr w))]
      · have hc := (hW.2.2.1 k hk).2.1 (hR.2.2.1 k hk)
        have h4 := ha.2.2.2 k hk
        refine ⟨?_, ?_, ?_⟩
        · rw [f4 124 (Or.inl rfl), efn]; exact hc
        · rw [f1 44 (by omega) (by decide) (by decide) (by decide)]; exact h4.1.1
        · rw [f1 30 (by omega) (by decide) (by decide) (by decide)]; exact h4.2.2.1
    have lp := w_loop h hX hR rfl (fun m hW => w_end h r hX hR rfl hJ1 hK1 hz1 (fun k hk => ⟨(ha.2.2.2 k hk).1.1, (ha.2.2.2 k hk).2.1.1⟩) hW (fin m hW))
    have init : ∀ (d i : Nat) (m : Mm), i + d = n → (∀ a, a ≠ 124 → m a = m1 a) → (∀ k c, k < n → c < 20 → m 124 (60 * k + c) = m1 124 (60 * k + c)) → (∀ k, k < i → m 124 (60 * k + 20) = 0 ∧ m 124 (60 * k + 22) = -1 ∧ m 124 (60 * k + 23) = 0 ∧ m 124 (60 * k + 24) = 0) →
        VV a B (SP B D E m) 20 120 32 [(14, iI (i : Int)), (13, iI 0), (12, iI 0), (11, iI 0), (10, iI 0), (9, iI (-1)), (8, iI (n : Int)), (7, iI (m1 47 0)), (0, .ref (pl B 0)), (1, .ref (pl B 124)), (2, iI (n : Int)), (3, iI ru), (4, iI (μ 27 1)), (5, .ref (pl B 125)), (6, .ref (pl B 126))] [] := by
      intro d
      induction d with
      | zero =>
        intro i m hi m2 m3 m4
        have ei : i = n := by omega
        subst ei
        have hW0 : WIm J i ((fnF J i K z).1 7) m1 (mup (mup m 126 1 0) 126 3 1) 0 0 ((itN J i K z 0).1 0) ((itN J i K z 0).1 1) ((itN J i K z 0).1 2) ((itN J i K z 0).1 5) := by
          refine WIm_in hD (fun a q1 q2 q3 => ?_) (fun k c hk hc => ?_) (fun k hk => ?_) ?_ (mup_eq _ _ _ _)
          · rw [← m2 a q1]; funext b; rw [mup_nk q3, mup_nk q3]
          · rw [mup_nk (by decide), mup_nk (by decide)]; exact m3 k c hk hc
          · have e : mup (mup m 126 1 0) 126 3 1 124 = m 124 := by funext b; rw [mup_nk (by decide), mup_nk (by decide)]
            rw [e]; exact m4 k hk
          · rw [mup_ne (by omega), mup_eq]
        have euf : ufN ((itN J i K z 0).1 0) i = (i : Int) := by
          have : ufN ((itN J i K z 0).1 0) i = smF (fun _ => 1) i := smF_cong (fun k hk => by
            have := okD_l hD hk
            have e0 : (itN J i K z 0).1 0 k = J 1 k := by simp [itN, inS, inN]
            show (if (itN J i K z 0).1 0 k = 0 then (0 : Int) else 1) = 1
            rw [if_neg (by omega)])
          rw [this, smF_const]; omega
        refine v_iload (pc := 32) h (dk dt_L_walks_0 22 rfl) rfl ?_
        refine v_iload_n (pc := 34) h (dk dt_L_walks_0 23 rfl) rfl ?_
        refine v_icmp_ge (pc := 35) h 99 (dk dt_L_walks_0 24 rfl) rfl (by omega) (fun c35 => ?_) (fun c35 => ?_)
        ·
          refine v_aload (pc := 99) h (dk dt_L_walks_1 3 rfl) rfl ?_
          refine v_iconst (pc := 101) h (dk dt_L_walks_1 4 rfl) ?_
          refine v_iconst (pc := 102) h (dk dt_L_walks_1 5 rfl) ?_
          refine v_iast (pc := 103) h sh126 (Nat.le_of_ble_eq_true rfl) (by omega) (dk dt_L_walks_1 6 rfl) ?_
          rw [show ((1 : Int)).toNat = 1 from rfl]
          refine v_aload (pc := 104) h (dk dt_L_walks_1 7 rfl) rfl ?_
          refine v_iconst (pc := 106) h (dk dt_L_walks_1 8 rfl) ?_
          refine v_iconst (pc := 107) h (dk dt_L_walks_1 9 rfl) ?_
          refine v_iast (pc := 108) h sh126 (Nat.le_of_ble_eq_true rfl) (by omega) (dk dt_L_walks_1 10 rfl) ?_
          rw [show ((3 : Int)).toNat = 3 from rfl]
          refine v_iconst (pc := 109) h (dk dt_L_walks_1 11 rfl) ?_
          refine v_istore (lv' := [(14, _), (13, _), (12, _), (11, _), (10, _), (9, _), (8, _), (7, _), (0, _), (1, _), (2, _), (3, _), (4, _), (5, _), (6, _)]) (pc := 110) h (dk dt_L_walks_1 12 rfl) (Nat.le_of_ble_eq_true rfl) rfl ?_
          exact VV.loc (lp T 0 _ (by omega) hW0) ⟨rfl, rfl, rfl, rfl, rfl, rfl, lvI euf.symm, lvI e47, rfl, rfl, rfl, lvI eK0.symm, lvI eK2.symm, rfl, rfl, trivial⟩
        ·
          exact absurd c35 (by omega)
      | succ d ih =>
        intro i m hi m2 m3 m4
        refine v_iload (pc := 32) h (dk dt_L_walks_0 22 rfl) rfl ?_
        refine v_iload_n (pc := 34) h (dk dt_L_walks_0 23 rfl) rfl ?_
        refine v_icmp_ge (pc := 35) h 99 (dk dt_L_walks_0 24 rfl) rfl (by omega) (fun c35 => ?_) (fun c35 => ?_)
        ·
          exact absurd c35 (by omega)
        ·
          refine v_aload_n (pc := 38) h (dk dt_L_walks_0 25 rfl) rfl ?_
          refine v_bipush (pc := 39) h (dk dt_L_walks_0 26 rfl) rfl ?_
          refine v_iload (pc := 41) h (dk dt_L_walks_0 27 rfl) rfl ?_
          refine v_imul (pc := 43) h (dk dt_L_walks_0 28 rfl) ?_
          refine v_bipush (pc := 44) h (dk dt_L_walks_0 29 rfl) rfl ?_
          refine v_iadd (pc := 46) h (dk dt_L_walks_0 30 rfl) ?_
          refine v_iconst (pc := 47) h (dk dt_L_walks_0 31 rfl) ?_
          refine v_iast (pc := 48) h sh124 (Nat.le_of_ble_eq_true rfl) (by omega) (dk dt_L_walks_0 32 rfl) ?_
          rw [show (60 * (i : Int) + 20).toNat = 60 * i + 20 by omega]
          refine v_aload_n (pc := 49) h (dk dt_L_walks_0 33 rfl) rfl ?_
          refine v_bipush (pc := 50) h (dk dt_L_walks_0 34 rfl) rfl ?_
          refine v_iload (pc := 52) h (dk dt_L_walks_0 35 rfl) rfl ?_
          refine v_imul (pc := 54) h (dk dt_L_walks_0 36 rfl) ?_
          refine v_bipush (pc := 55) h (dk dt_L_walks_0 37 rfl) rfl ?_
          refine v_iadd (pc := 57) h (dk dt_L_walks_0 38 rfl) ?_
          refine v_iconst (pc := 58) h (dk dt_L_walks_0 39 rfl) ?_
          refine v_iast (pc := 59) h sh124 (Nat.le_of_ble_eq_true rfl) (by omega) (dk dt_L_walks_0 40 rfl) ?_
          rw [show (60 * (i : Int) + 22).toNat = 60 * i + 22 by omega]
          refine v_aload_n (pc := 60) h (dk dt_L_walks_0 41 rfl) rfl ?_
          refine v_bipush (pc := 61) h (dk dt_L_walks_0 42 rfl) rfl ?_
          refine v_iload (pc := 63) h (dk dt_L_walks_0 43 rfl) rfl ?_
          refine v_imul (pc := 65) h (dk dt_L_walks_0 44 rfl) ?_
          refine v_bipush (pc := 66) h (dk dt_L_walks_0 45 rfl) rfl ?_
          refine v_iadd (pc := 68) h (dk dt_L_walks_0 46 rfl) ?_
          refine v_iconst (pc := 69) h (dk dt_L_walks_0 47 rfl) ?_
          refine v_iast (pc := 70) h sh124 (Nat.le_of_ble_eq_true rfl) (by omega) (dk dt_L_walks_0 48 rfl) ?_
          rw [show (60 * (i : Int) + 23).toNat = 60 * i + 23 by omega]
          refine v_aload_n (pc := 71) h (dk dt_L_walks_0 49 rfl) rfl ?_
          refine v_bipush (pc := 72) h (dk dt_L_walks_0 50 rfl) rfl ?_
          refine v_iload (pc := 74) h (dk dt_L_walks_0 51 rfl) rfl ?_
          refine v_imul (pc := 76) h (dk dt_L_walks_0 52 rfl) ?_
          refine v_bipush (pc := 77) h (dk dt_L_walks_0 53 rfl) rfl ?_
          refine v_iadd (pc := 79) h (dk dt_L_walks_0 54 rfl) ?_
          refine v_iconst (pc := 80) h (dk dt_L_walks_0 55 rfl) ?_
          refine v_iast (pc := 81) h sh124 (Nat.le_of_ble_eq_true rfl) (by omega) (dk dt_L_walks_0 56 rfl) ?_
          rw [show (60 * (i : Int) + 24).toNat = 60 * i + 24 by omega]
          refine v_aload_n (pc := 82) h (dk dt_L_walks_0 57 rfl) rfl ?_
          refine v_bipush (pc := 83) h (dk dt_L_walks_0 58 rfl) rfl ?_
          refine v_iload (pc := 85) h (dk dt_L_walks_0 59 rfl) rfl ?_
          refine v_imul (pc := 87) h (dk dt_L_walks_0 60 rfl) ?_
          refine v_bipush (pc := 88) h (dk dt_L_walks_0 61 rfl) rfl ?_
          refine v_iadd (pc := 90) h (dk dt_L_walks_0 62 rfl) ?_
          refine v_iconst (pc := 91) h (dk dt_L_walks_0 63 rfl) ?_
          refine v_iast (pc := 92) h sh124 (Nat.le_of_ble_eq_true rfl) (by omega) (dk dt_L_walks_1 0 rfl) ?_
          rw [show (60 * (i : Int) + 25).toNat = 60 * i + 25 by omega]
          refine v_iinc (lv' := [(14, _), (13, _), (12, _), (11, _), (10, _), (9, _), (8, _), (7, _), (0, _), (1, _), (2, _), (3, _), (4, _), (5, _), (6, _)]) (pc := 93) h (dk dt_L_walks_1 1 rfl) rfl (Nat.le_of_ble_eq_true rfl) rfl ?_
          refine v_goto (pc := 96) h 32 (dk dt_L_walks_1 2 rfl) rfl ?_
          refine VV.loc (ih (i + 1) _ (by omega) (fun a q => ?_) (fun k c hk hc => ?_) (fun k hk => ?_)) ⟨rfl, rfl, rfl, rfl, rfl, rfl, rfl, rfl, rfl, rfl, rfl, rfl, rfl, rfl, rfl, trivial⟩
          · rw [← m2 a q]; funext b; rw [mup_nk q, mup_nk q, mup_nk q, mup_nk q, mup_nk q]
          · rw [cu (by decide) (by omega), if_neg (by omega), cu (by decide) (by omega), if_neg (by omega), cu (by decide) (by omega), if_neg (by omega), cu (by decide) (by omega), if_neg (by omega), cu (by decide) (by omega), if_neg (by omega)]
            exact m3 k c hk hc
          · have ex : ∀ c, c < 60 → c ≠ 20 → c ≠ 22 → c ≠ 23 → c ≠ 24 → c ≠ 25 → True := fun _ _ _ _ _ _ _ => trivial
            by_cases y : k = i
            · subst y
              refine ⟨?_, ?_, ?_, ?_⟩
              · rw [cu (by decide) (by decide), if_neg (by omega), cu (by decide) (by decide), if_neg (by omega), cu (by decide) (by decide), if_neg (by omega), cu (by decide) (by decide), if_neg (by omega), cu (by decide) (by decide), if_pos ⟨rfl, rfl⟩]
              · rw [cu (by decide) (by decide), if_neg (by omega), cu (by decide) (by decide), if_neg (by omega), cu (by decide) (by decide), if_neg (by omega), cu (by decide) (by decide), if_pos ⟨rfl, rfl⟩]
              · rw [cu (by decide) (by decide), if_neg (by omega), cu (by decide) (by decide), if_neg (by omega), cu (by decide) (by decide), if_pos ⟨rfl, rfl⟩]
              · rw [cu (by decide) (by decide), if_neg (by omega), cu (by decide) (by decide), if_pos ⟨rfl, rfl⟩]
            · have ez : ∀ c, c < 60 → mup (mup (mup (mup (mup m 124 (60 * i + 20) 0) 124 (60 * i + 22) (-1)) 124 (60 * i + 23) 0) 124 (60 * i + 24) 0) 124 (60 * i + 25) 0 124 (60 * k + c) = m 124 (60 * k + c) := fun c hc => by
                rw [cu (by decide) hc, if_neg (fun w => y w.1), cu (by decide) hc, if_neg (fun w => y w.1), cu (by decide) hc, if_neg (fun w => y w.1), cu (by decide) hc, if_neg (fun w => y w.1), cu (by decide) hc, if_neg (fun w => y w.1)]
              rw [ez 20 (by decide), ez 22 (by decide), ez 23 (by decide), ez 24 (by decide)]
              exact m4 k (by omega)
    exact VV.loc (init n 0 m1 (by omega) (fun _ _ => rfl) (fun _ _ _ _ => rfl) (fun k hk => absurd hk (by omega))) ⟨rfl, rfl, rfl, rfl, rfl, rfl, rfl, rfl, rfl, rfl, rfl, rfl, rfl, rfl, rfl, trivial⟩
  refine v_aload_n (pc := 0) h (dk dt_L_walks_0 0 rfl) rfl ?_
  refine v_iconst (pc := 1) h (dk dt_L_walks_0 1 rfl) ?_
  refine v_iload_n (pc := 2) h (dk dt_L_walks_0 2 rfl) rfl ?_
  refine v_iconst (pc := 3) h (dk dt_L_walks_0 3 rfl) ?_
  refine v_iconst (pc := 4) h (dk dt_L_walks_0 4 rfl) ?_
  refine v_iconst (pc := 5) h (dk dt_L_walks_0 5 rfl) ?_
  refine v_callH (pc := 6) h (d_run h.quiet hO hn (by omega)) kh_L_done wM_L_84 rfl rfl (Nat.le_of_ble_eq_true rfl) (RM.of rfl) (dk dt_L_walks_0 6 rfl) (fun v6 μ6 p6 => ?_)
  rcases p6 with ⟨-, rfl, q7, qf, qR⟩ | ⟨q, -, -⟩
  case inr => exact absurd (show rcR1 ru = 0 by unfold rcR1; rw [if_neg (by omega)]) q
  rw [hKe, hJ, hz] at qR
  refine v_istore (lv' := [(7, _), (0, _), (1, _), (2, _), (3, _), (4, _), (5, _), (6, _)]) (pc := 9) h (dk dt_L_walks_0 7 rfl) (Nat.le_of_ble_eq_true rfl) rfl ?_
  refine v_iload_n (pc := 11) h (dk dt_L_walks_0 8 rfl) rfl ?_
  refine v_istore (lv' := [(8, _), (7, _), (0, _), (1, _), (2, _), (3, _), (4, _), (5, _), (6, _)]) (pc := 12) h (dk dt_L_walks_0 9 rfl) (Nat.le_of_ble_eq_true rfl) rfl ?_
  refine v_iconst (pc := 14) h (dk dt_L_walks_0 10 rfl) ?_
  refine v_istore (lv' := [(9, _), (8, _), (7, _), (0, _), (1, _), (2, _), (3, _), (4, _), (5, _), (6, _)]) (pc := 15) h (dk dt_L_walks_0 11 rfl) (Nat.le_of_ble_eq_true rfl) rfl ?_
  refine v_iconst (pc := 17) h (dk dt_L_walks_0 12 rfl) ?_
  refine v_istore (lv' := [(10, _), (9, _), (8, _), (7, _), (0, _), (1, _), (2, _), (3, _), (4, _), (5, _), (6, _)]) (pc := 18) h (dk dt_L_walks_0 13 rfl) (Nat.le_of_ble_eq_true rfl) rfl ?_
  refine v_iconst (pc := 20) h (dk dt_L_walks_0 14 rfl) ?_
  refine v_istore (lv' := [(11, _), (10, _), (9, _), (8, _), (7, _), (0, _), (1, _), (2, _), (3, _), (4, _), (5, _), (6, _)]) (pc := 21) h (dk dt_L_walks_0 15 rfl) (Nat.le_of_ble_eq_true rfl) rfl ?_
  refine v_iconst (pc := 23) h (dk dt_L_walks_0 16 rfl) ?_
  refine v_istore (lv' := [(12, _), (11, _), (10, _), (9, _), (8, _), (7, _), (0, _), (1, _), (2, _), (3, _), (4, _), (5, _), (6, _)]) (pc := 24) h (dk dt_L_walks_0 17 rfl) (Nat.le_of_ble_eq_true rfl) rfl ?_
  refine v_iconst (pc := 26) h (dk dt_L_walks_0 18 rfl) ?_
  refine v_istore (lv' := [(13, _), (12, _), (11, _), (10, _), (9, _), (8, _), (7, _), (0, _), (1, _), (2, _), (3, _), (4, _), (5, _), (6, _)]) (pc := 27) h (dk dt_L_walks_0 19 rfl) (Nat.le_of_ble_eq_true rfl) rfl ?_
  refine v_iconst (pc := 29) h (dk dt_L_walks_0 20 rfl) ?_
  refine v_istore (lv' := [(14, _), (13, _), (12, _), (11, _), (10, _), (9, _), (8, _), (7, _), (0, _), (1, _), (2, _), (3, _), (4, _), (5, _), (6, _)]) (pc := 30) h (dk dt_L_walks_0 21 rfl) (Nat.le_of_ble_eq_true rfl) rfl ?_
  exact VV.loc (key _ q7 qf qR) ⟨rfl, rfl, rfl, rfl, rfl, rfl, rfl, rfl, rfl, rfl, rfl, rfl, rfl, rfl, rfl, trivial⟩
end
