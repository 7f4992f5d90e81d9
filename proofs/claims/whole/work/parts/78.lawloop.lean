/-! ===== the law's loop ===== -/
theorem RLm_0 : RLm mu0 := by
  have z : ∀ a, a ∉ [27, 28, 57, 86, 123] → mu0 a = fun _ => 0 := fun a h => by
    simp only [List.mem_cons, List.not_mem_nil, or_false, not_or] at h
    exact mu0_z h.1 h.2.1 h.2.2.1 h.2.2.2.1 h.2.2.2.2
  refine ⟨hOK_no ?_ ?_ ?_ rfl, ?_, ⟨rfl, rfl, rfl, rfl, rfl⟩, ?_, eqH_no rfl rfl⟩
  · unfold okJ
    rw [z 1 (by decide)]
    exact ⟨⟨Int.le_refl _, by decide⟩, fun j hj => absurd (show (j : Int) < 0 from hj) (by omega)⟩
  · unfold okTk
    rw [z 20 (by decide)]
    exact ⟨⟨Int.le_refl _, by decide⟩, fun j hj => absurd (show (j : Int) < 0 from hj) (by omega)⟩
  · exact ⟨⟨by decide, by decide⟩, ⟨by decide, by decide⟩, ⟨by decide, by decide⟩, Or.inl rfl⟩
  · unfold eqJ
    rw [z 124 (by decide), z 125 (by decide), z 126 (by decide), z 127 (by decide), z 128 (by decide), z 129 (by decide), z 130 (by decide), z 131 (by decide), z 132 (by decide), z 3 (by decide), z 5 (by decide), z 7 (by decide), z 9 (by decide), z 11 (by decide), z 13 (by decide), z 15 (by decide), z 17 (by decide), z 19 (by decide), z 1 (by decide)]
    exact ⟨⟨rfl, rfl, rfl, rfl, rfl, rfl, rfl, rfl, rfl⟩, rfl⟩
  · unfold eqT
    rw [z 133 (by decide), z 134 (by decide), z 135 (by decide), z 22 (by decide), z 24 (by decide), z 26 (by decide), z 20 (by decide)]
    exact ⟨rfl, rfl, rfl, rfl⟩
theorem sw_b (x : Int32) : 0 ≤ bnd x.toInt 31 ∧ bnd x.toInt 31 ≤ 31 := by
  have e : bnd x.toInt 31 = (x &&& 31).toInt := by unfold bnd; rw [iI_toInt32]; rfl
  rw [e]
  have h : (x &&& 31).toBitVec.toNat ≤ 31 := by
    rw [Int32.toBitVec_and, BitVec.toNat_and]
    exact Nat.and_le_right
  show 0 ≤ (x &&& 31).toBitVec.toInt ∧ (x &&& 31).toBitVec.toInt ≤ 31
  rw [BitVec.toInt_eq_toNat_of_lt (by omega)]
  omega
section
variable {a : Ax} {B : Nat} {D : va_G} {E : Nat → ClassId} {L b : Nat} {xs : Nat → Int32}
theorem law_loop (h : Ac a B D E RL code 9 room_1) (hX : va_X b L xs (axS a) (axS a).heap) (hbl : b < (axS a).heap.size) (hB : b < B) (hL : L ≤ 3072) (hret : ∀ (m : Mm) (k n : Nat) (lv : List (Nat × Value)), k ≤ 601024 → n ≤ 7293034 → VV a B (SP B D E m) k n 1823 lv [iI 1]) :
    ∀ (d i k n : Nat) (m : Mm), RLm m → i ≤ L → L < i + 6 * d → k ≤ 200 + i → n ≤ 20000 + 3 * i → VV a B (SP B D E m) k n 28 (lvL B b i) [] := by
  intro d
  induction d with
  | zero => intro i k n m _ h1 h2; exact absurd h2 (by omega)
  | succ d ih =>
    intro i k n m hR hiL hd hk hn
    have I : ∀ x : Int32, InR x.toInt := toInt_InR
    have go45 : i + 6 ≤ L → ∀ z : Int, 0 ≤ z ∧ z ≤ 31 → VV a B (SP B D E m) k n 45 (lvL B b i) [iI z] := by
      intro hi z hz
      have go1816 : ∀ m2, RLm m2 → VV a B (SP B D E m2) (k + 3) (n + 18) 1816 (lvL B b i) [] := by
        intro m2 hR2
        refine v_iinc (lv' := [(5, _), (0, _), (1, _), (2, _), (3, _), (4, _)]) (pc := 1816) h (dk dt_L_law_16 39 rfl) rfl (Nat.le_of_ble_eq_true rfl) rfl ?_
        refine v_goto (pc := 1819) h 28 (dk dt_L_law_16 40 rfl) rfl ?_
        exact VV.loc (ih (i + 6) (k + 3) (n + 18) m2 hR2 (by omega) (by omega) (by omega) (by omega)) ⟨rfl, rfl, rfl, rfl, rfl, rfl, trivial⟩
      have hk3 : k + 3 ≤ 601024 := by omega
      have hn3 : n + 18 ≤ 7293034 := by omega
      by_cases z0 : z = 0
      · subst z0; exact v_switchIn (pc := 45) h 172 (dk dt_L_law_0 27 rfl) (by omega) (by omega) (by omega) rfl rfl (law_job h hX hbl hB hL hi hk3 hn3 hR (gl_job h.quiet hR ⟨(I _), (I _)⟩ ⟨(I _), (I _)⟩) go1816)
      by_cases z1 : z = 1
      · subst z1; exact v_switchIn (pc := 45) h 264 (dk dt_L_law_0 27 rfl) (by omega) (by omega) (by omega) rfl rfl (law_after h hX hbl hB hL hi hk3 hn3 hR (gl_after h.quiet hR ⟨(I _), (I _)⟩) go1816)
      by_cases z2 : z = 2
      · subst z2; exact v_switchIn (pc := 45) h 332 (dk dt_L_law_0 27 rfl) (by omega) (by omega) (by omega) rfl rfl (law_lock h hX hbl hB hL hi hk3 hn3 hR (gl_lock h.quiet hR ⟨(I _), (I _)⟩ ⟨(I _), (I _)⟩) go1816)
      by_cases z3 : z = 3
      · subst z3; exact v_switchIn (pc := 45) h 424 (dk dt_L_law_0 27 rfl) (by omega) (by omega) (by omega) rfl rfl (law_turns h hX hbl hB hL hi hk3 hn3 hR (gl_turns h.quiet hR ⟨(I _), (I _)⟩ (I _) (bz_01 _)) go1816)
      by_cases z4 : z = 4
      · subst z4; exact v_switchIn (pc := 45) h 544 (dk dt_L_law_0 27 rfl) (by omega) (by omega) (by omega) rfl rfl (law_clear h hX hbl hB hL hi hk3 hn3 hR (gl_clear h.quiet hR ) go1816)
      by_cases z5 : z = 5
      · subst z5; exact v_switchIn (pc := 45) h 557 (dk dt_L_law_0 27 rfl) (by omega) (by omega) (by omega) rfl rfl (law_run h hX hbl hB hL hi hk3 hn3 hR (gl_run h.quiet hR (I _)) go1816)
      by_cases z6 : z = 6
      · subst z6; exact v_switchIn (pc := 45) h 613 (dk dt_L_law_0 27 rfl) (by omega) (by omega) (by omega) rfl rfl (law_running h hX hbl hB hL hi hk3 hn3 hR (gl_running h.quiet hR (I _)) go1816)
      by_cases z7 : z = 7
      · subst z7; exact v_switchIn (pc := 45) h 669 (dk dt_L_law_0 27 rfl) (by omega) (by omega) (by omega) rfl rfl (law_left h hX hbl hB hL hi hk3 hn3 hR (gl_left h.quiet hR (I _) (I _)) go1816)
      by_cases z8 : z = 8
      · subst z8; exact v_switchIn (pc := 45) h 737 (dk dt_L_law_0 27 rfl) (by omega) (by omega) (by omega) rfl rfl (law_work h hX hbl hB hL hi hk3 hn3 hR (gl_work h.quiet hR (I _)) go1816)
      by_cases z9 : z = 9
      · subst z9; exact v_switchIn (pc := 45) h 793 (dk dt_L_law_0 27 rfl) (by omega) (by omega) (by omega) rfl rfl (law_end h hX hbl hB hL hi hk3 hn3 hR (gl_end h.quiet hR (I _)) go1816)
      by_cases z10 : z = 10
      · subst z10; exact v_switchIn (pc := 45) h 849 (dk dt_L_law_0 27 rfl) (by omega) (by omega) (by omega) rfl rfl (law_sumOfEnds h hX hbl hB hL hi hk3 hn3 hR (gl_sumOfEnds h.quiet hR ) go1816)
      by_cases z11 : z = 11
      · subst z11; exact v_switchIn (pc := 45) h 893 (dk dt_L_law_0 27 rfl) (by omega) (by omega) (by omega) rfl rfl (law_waits h hX hbl hB hL hi hk3 hn3 hR (gl_waits h.quiet hR (I _)) go1816)
      by_cases z12 : z = 12
      · subst z12; exact v_switchIn (pc := 45) h 949 (dk dt_L_law_0 27 rfl) (by omega) (by omega) (by omega) rfl rfl (law_blocked h hX hbl hB hL hi hk3 hn3 hR (gl_blocked h.quiet hR (I _)) go1816)
      by_cases z13 : z = 13
      · subst z13; exact v_switchIn (pc := 45) h 1005 (dk dt_L_law_0 27 rfl) (by omega) (by omega) (by omega) rfl rfl (law_late h hX hbl hB hL hi hk3 hn3 hR (gl_late h.quiet hR (I _)) go1816)
      by_cases z14 : z = 14
      · subst z14; exact v_switchIn (pc := 45) h 1061 (dk dt_L_law_0 27 rfl) (by omega) (by omega) (by omega) rfl rfl (law_slowest h hX hbl hB hL hi hk3 hn3 hR (gl_slowest h.quiet hR (bz_01 _)) go1816)
      by_cases z15 : z = 15
      · subst z15; exact v_switchIn (pc := 45) h 1133 (dk dt_L_law_0 27 rfl) (by omega) (by omega) (by omega) rfl rfl (law_busy h hX hbl hB hL hi hk3 hn3 hR (gl_busy h.quiet hR (I _) (bz_01 _)) go1816)
      by_cases z16 : z = 16
      · subst z16; exact v_switchIn (pc := 45) h 1217 (dk dt_L_law_0 27 rfl) (by omega) (by omega) (by omega) rfl rfl (law_checksum h hX hbl hB hL hi hk3 hn3 hR (gl_checksum h.quiet hR ) go1816)
      by_cases z17 : z = 17
      · subst z17; exact v_switchIn (pc := 45) h 1261 (dk dt_L_law_0 27 rfl) (by omega) (by omega) (by omega) rfl rfl (law_which h hX hbl hB hL hi hk3 hn3 hR (gl_which h.quiet hR ) go1816)
      by_cases z18 : z = 18
      · subst z18; exact v_switchIn (pc := 45) h 1305 (dk dt_L_law_0 27 rfl) (by omega) (by omega) (by omega) rfl rfl (law_best h hX hbl hB hL hi hk3 hn3 hR (gl_best h.quiet hR ) go1816)
      by_cases z19 : z = 19
      · subst z19; exact v_switchIn (pc := 45) h 1318 (dk dt_L_law_0 27 rfl) (by omega) (by omega) (by omega) rfl rfl (law_two h hX hbl hB hL hi hk3 hn3 hR (gl_two h.quiet hR (bz_01 _) (bz_01 _)) go1816)
      by_cases z20 : z = 20
      · subst z20; exact v_switchIn (pc := 45) h 1387 (dk dt_L_law_0 27 rfl) (by omega) (by omega) (by omega) rfl rfl (law_isFeasible h hX hbl hB hL hi hk3 hn3 hR (gl_isFeasible h.quiet hR ) go1816)
      by_cases z21 : z = 21
      · subst z21; exact v_switchIn (pc := 45) h 1438 (dk dt_L_law_0 27 rfl) (by omega) (by omega) (by omega) rfl rfl (law_full h hX hbl hB hL hi hk3 hn3 hR (gl_full h.quiet hR (I _)) go1816)
      by_cases z22 : z = 22
      · subst z22; exact v_switchIn (pc := 45) h 1494 (dk dt_L_law_0 27 rfl) (by omega) (by omega) (by omega) rfl rfl (law_task h hX hbl hB hL hi hk3 hn3 hR (gl_task h.quiet hR ⟨(I _), (I _)⟩ (I _)) go1816)
      by_cases z23 : z = 23
      · subst z23; exact v_switchIn (pc := 45) h 1574 (dk dt_L_law_0 27 rfl) (by omega) (by omega) (by omega) rfl rfl (law_load h hX hbl hB hL hi hk3 hn3 hR (gl_load h.quiet hR (bz_01 _)) go1816)
      by_cases z24 : z = 24
      · subst z24; exact v_switchIn (pc := 45) h 1616 (dk dt_L_law_0 27 rfl) (by omega) (by omega) (by omega) rfl rfl (law_response h hX hbl hB hL hi hk3 hn3 hR (gl_response h.quiet hR (I _)) go1816)
      by_cases z25 : z = 25
      · subst z25; exact v_switchIn (pc := 45) h 1672 (dk dt_L_law_0 27 rfl) (by omega) (by omega) (by omega) rfl rfl (law_meanEnd h hX hbl hB hL hi hk3 hn3 hR (gl_meanEnd h.quiet hR ) go1816)
      by_cases z26 : z = 26
      · subst z26; exact v_switchIn (pc := 45) h 1737 (dk dt_L_law_0 27 rfl) (by omega) (by omega) (by omega) rfl rfl (law_workShare h hX hbl hB hL hi hk3 hn3 hR (gl_workShare h.quiet hR ) go1816)
      by_cases z27 : z = 27
      · subst z27; exact v_switchIn (pc := 45) h 1803 (dk dt_L_law_0 27 rfl) (by omega) (by omega) (by omega) rfl rfl (law_errors h hX hbl hB hL hi hk3 hn3 hR (gl_errors h.quiet hR ) go1816)
      exact v_switchOut (pc := 45) h 1816 (dk dt_L_law_0 27 rfl) (by omega) (Or.inr (by omega)) rfl (VV.widen (by omega) (by omega) (go1816 m hR))
    refine v_iload (pc := 28) h (dk dt_L_law_0 16 rfl) rfl ?_
    refine v_aload_n (pc := 30) h (dk dt_L_law_0 17 rfl) rfl ?_
    refine v_slen (pc := 31) h hX hbl hB (dk dt_L_law_0 18 rfl) ?_
    refine v_bipush (pc := 32) h (dk dt_L_law_0 19 rfl) rfl ?_
    refine v_isub (pc := 34) h (dk dt_L_law_0 20 rfl) ?_
    refine v_icmp_gt (pc := 35) h 1822 (dk dt_L_law_0 21 rfl) rfl (by omega) (fun c35 => ?_) (fun c35 => ?_)
    ·
      refine v_iconst (pc := 1822) h (dk dt_L_law_16 41 rfl) ?_
      exact hret _ _ _ _ (by omega) (by omega)
    ·
      refine v_aload_n (pc := 38) h (dk dt_L_law_0 22 rfl) rfl ?_
      refine v_iload (pc := 39) h (dk dt_L_law_0 23 rfl) rfl ?_
      refine v_sld (pc := 41) h hX hbl hB hL (j := i) ⟨by omega, by omega⟩ (dk dt_L_law_0 24 rfl) ?_
      refine v_bipush (pc := 42) h (dk dt_L_law_0 25 rfl) rfl ?_
      refine v_iand (pc := 44) h (dk dt_L_law_0 26 rfl) ?_
      exact go45 (by omega) _ (sw_b _)
theorem law_all (h : Ac a B D E RL code 9 room_1) (hN : NZ (axS a)) (hX : va_X b L xs (axS a) (axS a).heap) (hbl : b < (axS a).heap.size) (hB : b < B) (hL : L ≤ 3072) (hret : ∀ (m : Mm) (k n : Nat) (lv : List (Nat × Value)), k ≤ 601024 → n ≤ 7293034 → VV a B (SP B D E m) k n 1823 lv [iI 1]) :
    VV a B (GP B D []) 0 0 0 [(0, .ref b)] [] := by
  refine g_new (pc := 0) (o := 0) h ci11 wL_L_8 wN_X11 wI_X11 zf11_ok ⟨Nat.le_of_ble_eq_true rfl, Nat.le_of_ble_eq_true rfl⟩ (dk dt_L_law_0 0 rfl) rfl ?_
  refine v_dup (pc := 3) h (dk dt_L_law_0 1 rfl) rfl ?_
  refine g_call (pc := 4) h hN (cg_11 h.quiet (L := []) rfl) ki_X11 wM_L_97 rfl rfl (Nat.le_of_ble_eq_true rfl) (RM.of rfl) (dk dt_L_law_0 2 rfl) ?_
  refine g_cast (L' := hoL B E) (List.nil_append _) ?_
  refine v_astore_n (lv' := [(1, _), (0, _)]) (pc := 7) h (dk dt_L_law_0 3 rfl) (Nat.le_of_ble_eq_true rfl) rfl ?_
  refine g_new (pc := 8) (o := 125) h ci12 wL_L_98 wN_X12 wI_X12 zf12_ok ⟨Nat.le_of_ble_eq_true rfl, Nat.le_of_ble_eq_true rfl⟩ (dk dt_L_law_0 4 rfl) ho_len ?_
  refine v_dup (pc := 11) h (dk dt_L_law_0 5 rfl) rfl ?_
  refine g_call (pc := 12) h hN (cg_12 h.quiet ho_len) ki_X12 wM_L_100 rfl rfl (Nat.le_of_ble_eq_true rfl) (RM.of rfl) (dk dt_L_law_0 6 rfl) ?_
  refine v_astore_n (lv' := [(2, _), (1, _), (0, _)]) (pc := 15) h (dk dt_L_law_0 7 rfl) (Nat.le_of_ble_eq_true rfl) rfl ?_
  refine v_iconst (pc := 16) h (dk dt_L_law_0 8 rfl) ?_
  have hl2 : (hoL B E ++ moL B E).length = 153 := by rw [List.length_append, ho_len, mo_len]
  refine g_newa (pc := 17) (o := 153) (atype := .long) h (ty := .long) (i := 2) (len := 1) (a0 := (1, .inr (.inl (fun _ => 0)))) rfl rfl (fun _ _ q => q) wA_long rfl rfl (Nat.le_of_ble_eq_true rfl) (Nat.le_of_ble_eq_true rfl) ⟨Nat.le_of_ble_eq_true rfl, Nat.le_of_ble_eq_true rfl⟩ (dk dt_L_law_0 9 rfl) hl2 ?_
  refine v_astore_n (lv' := [(3, _), (2, _), (1, _), (0, _)]) (pc := 19) h (dk dt_L_law_0 10 rfl) (Nat.le_of_ble_eq_true rfl) rfl ?_
  refine v_iconst (pc := 20) h (dk dt_L_law_0 11 rfl) ?_
  refine g_newa (pc := 21) (o := 154) (atype := .double) h (ty := .double) (i := 3) (len := 1) (a0 := (1, .inr (.inr (.inr (.inl (fun _ => 0)))))) rfl rfl (fun _ _ q => q) wA_double rfl rfl (Nat.le_of_ble_eq_true rfl) (Nat.le_of_ble_eq_true rfl) ⟨Nat.le_of_ble_eq_true rfl, Nat.le_of_ble_eq_true rfl⟩ (dk dt_L_law_0 12 rfl) (by rw [List.length_append, hl2]; rfl) ?_
  refine v_astore (lv' := [(4, _), (3, _), (2, _), (1, _), (0, _)]) (pc := 23) h (dk dt_L_law_0 13 rfl) (Nat.le_of_ble_eq_true rfl) rfl ?_
  refine v_iconst (pc := 25) h (dk dt_L_law_0 14 rfl) ?_
  refine v_istore (lv' := [(5, _), (4, _), (3, _), (2, _), (1, _), (0, _)]) (pc := 26) h (dk dt_L_law_0 15 rfl) (Nat.le_of_ble_eq_true rfl) rfl ?_
  exact VV.of (law_loop h hX hbl hB hL hret 513 0 _ _ mu0 RLm_0 (Nat.zero_le _) (by omega) (Nat.le_of_ble_eq_true rfl) (Nat.le_of_ble_eq_true rfl)) (fun H hH => GP_SP hH) ⟨rfl, rfl, rfl, rfl, rfl, rfl, trivial⟩
end
