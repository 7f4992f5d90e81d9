/-! ===== the law: a new house ===== -/
abbrev rm_plays : Room := { frames := 11, cells := 30000, slots := 400000, locals := 242 }
section
variable {a : Ax} {B : Nat} {D : va_G} {E : Nat → ClassId} {n : Nat} {m : Mm} {l : Launch} {μ : Mm} {kc ns : Nat} {P : Pv} {X : Px}
theorem p_head (h : Ac a B D E RL cL_plays 10 rm_plays) (hO : hOK μ) (hn : μ 1 9 = ((0 : Nat) : Int)) (h7 : μ 0 7 = 0) (h20 : μ 20 3 = ((0 : Nat) : Int)) (hkc : kc ≤ 1000 ∧ ns ≤ 200000)
    (next : ∀ m' kc' ns', hOK m' → kc' ≤ kc + 600 → ns' ≤ ns + 3600 → VV a B (SP B D E m') kc' ns' 88 [(7, iI 0), (6, iI 1), (5, .ref (pl B 0)), (0, .ref (pl B 123)), (1, .ref (pl B 124)), (2, .ref (pl B 125)), (3, .ref (pl B 126)), (4, .ref (pl B 127))] []) :
    VV a B (SP B D E μ) kc ns 9 [(5, .ref (pl B 0)), (0, .ref (pl B 123)), (1, .ref (pl B 124)), (2, .ref (pl B 125)), (3, .ref (pl B 126)), (4, .ref (pl B 127))] [] := by
  have hrc : rcM (μ 0 7) 0 = 2 := by unfold rcM; rw [h7, if_neg (by omega), if_pos (by decide)]
  refine v_aload (pc := 9) h (dk dt_L_plays_0 4 rfl) rfl ?_
  refine v_iconst (pc := 11) h (dk dt_L_plays_0 5 rfl) ?_
  refine v_iconst (pc := 12) h (dk dt_L_plays_0 6 rfl) ?_
  refine v_iconst (pc := 13) h (dk dt_L_plays_0 7 rfl) ?_
  refine v_iconst (pc := 14) h (dk dt_L_plays_0 8 rfl) ?_
  refine v_iconst (pc := 15) h (dk dt_L_plays_0 9 rfl) ?_
  refine v_callH (pc := 16) h (d_running h.quiet hO (by omega)) kh_L_done wM_L_84 rfl rfl (Nat.le_of_ble_eq_true rfl) ⟨⟨Nat.le_of_ble_eq_true rfl, Nat.le_of_ble_eq_true rfl⟩, by show kc + 20 ≤ 30000; omega, by show ns + 120 ≤ 400000; omega⟩ (dk dt_L_plays_0 10 rfl) (fun v16 μ16 p16 => ?_)
  rcases p16 with ⟨q, -, -⟩ | ⟨-, hv, rfl⟩
  · rw [hrc] at q; exact absurd q (by decide)
  rw [hrc] at hv
  have hv2 : v16 = some (iI (-13)) := hv
  subst hv2
  refine v_bipush (pc := 19) h (dk dt_L_plays_0 11 rfl) rfl ?_
  refine v_icmp_ne (pc := 21) h 82 (dk dt_L_plays_0 12 rfl) rfl (by omega) (fun c21 => ?_) (fun c21 => ?_)
  ·
    exact absurd c21 (by decide)
  ·
    refine v_aload (pc := 24) h (dk dt_L_plays_0 13 rfl) rfl ?_
    refine v_iconst (pc := 26) h (dk dt_L_plays_0 14 rfl) ?_
    refine v_iconst (pc := 27) h (dk dt_L_plays_0 15 rfl) ?_
    refine v_iconst (pc := 28) h (dk dt_L_plays_0 16 rfl) ?_
    refine v_iconst (pc := 29) h (dk dt_L_plays_0 17 rfl) ?_
    refine v_iconst (pc := 30) h (dk dt_L_plays_0 18 rfl) ?_
    refine v_callH (pc := 31) h (d_run h.quiet hO hn (by omega)) kh_L_done wM_L_84 rfl rfl (Nat.le_of_ble_eq_true rfl) ⟨⟨Nat.le_of_ble_eq_true rfl, Nat.le_of_ble_eq_true rfl⟩, by show kc + 20 + (20) ≤ 30000; omega, by show ns + 120 + (120) ≤ 400000; omega⟩ (dk dt_L_plays_0 19 rfl) (fun v31 μ31 p31 => ?_)
    rcases p31 with ⟨-, rfl, q1, q2, q3⟩ | ⟨q, -, -⟩
    case inr => exact absurd (show rcR1 0 = 0 by decide) q
    have hOr := hOK_run hO hn (r := 0) (by omega) q2 q1 q3
    have hD := okJD hO.J hn
    have hW := hO.W
    have hK := okK_kof (r := 0) (s := μ16 27 0) (c := μ16 27 1) (le := μ16 27 4) (ri := μ16 27 2) (by omega) hW.1 hW.2.1 hW.2.2.2 hW.2.2.1
    obtain ⟨T, hT⟩ := fn_run hD hK (μ16 27 3)
    have hT0 : T = 0 := by rcases Nat.eq_zero_or_pos T with z | z; exact z; exact absurd (fun j hj => absurd hj (by omega)) (hT.2.1 0 z)
    have h470 : μ31 47 0 = 0 := by rw [show (47 : Nat) = 28 + 19 from rfl, (aR_is hD hK q3).2.1, hT.1, (hT.2.2.2.2 T (Nat.le_refl _)).2.2, hT0]; rfl
    have hn31 : μ31 1 9 = ((0 : Nat) : Int) := by rw [q2 1 (by decide) (by omega)]; exact hn
    have h2031 : μ31 20 3 = ((0 : Nat) : Int) := by rw [q2 20 (by decide) (by omega)]; exact h20
    rw [h470]
    refine v_if_ne (pc := 34) h 82 (dk dt_L_plays_0 20 rfl) rfl (by omega) (fun c34 => ?_) (fun c34 => ?_)
    ·
      exact absurd c34 (by decide)
    ·
      refine v_aload (pc := 37) h (dk dt_L_plays_0 21 rfl) rfl ?_
      refine v_callVX (pc := 39) h (c_X11_sumOfEnds (n := 0) h.quiet hOr hn31) kv_X11_sumOfEnds sh0 wM_L_110 rfl rfl (Nat.le_of_ble_eq_true rfl) ⟨⟨Nat.le_of_ble_eq_true rfl, Nat.le_of_ble_eq_true rfl⟩, by show kc + 40 + (1) ≤ 30000; omega, by show ns + 240 + (6) ≤ 400000; omega⟩ (dk dt_L_plays_0 22 rfl) (fun e39 μ39 p39 => ?_) (fun v39 μ39 p39 => ?_)
      ·
        obtain ⟨⟨i, h1, -⟩, -⟩ := p39
        exact absurd h1 (by rw [show rcN (μ31 0 7) = 0 by unfold rcN; rw [q1, if_neg (by decide)]]; omega)
      ·
        obtain ⟨-, rfl, rfl⟩ := p39
        rw [show smF (μ39 44) 0 = 0 from rfl]
        refine v_if_ne (pc := 42) h 82 (dk dt_L_plays_0 23 rfl) rfl (by omega) (fun c42 => ?_) (fun c42 => ?_)
        ·
          exact absurd c42 (by decide)
        ·
          refine v_aload (pc := 45) h (dk dt_L_plays_0 24 rfl) rfl ?_
          refine v_iconst (pc := 47) h (dk dt_L_plays_0 25 rfl) ?_
          refine v_cVi (pc := 48) h (c_X11_load (n := 0) h.quiet hOr h2031 (Or.inl rfl)) kv_X11_load sh0 wM_L_157 rfl rfl (Nat.le_of_ble_eq_true rfl) ⟨⟨Nat.le_of_ble_eq_true rfl, Nat.le_of_ble_eq_true rfl⟩, by show kc + 41 + (0) ≤ 30000; omega, by show ns + 246 + (0) ≤ 400000; omega⟩ rfl rfl (dk dt_L_plays_0 26 rfl) ?_
          rw [show anLd (ldF (μ39 22) (μ39 24) 0) 0 = 0 by simp [anLd, ldF]]
          refine v_lconst (pc := 51) (y := 0) h (dk dt_L_plays_0 27 rfl) rfl ?_
          refine v_lcmp (pc := 52) h (dk dt_L_plays_0 28 rfl) (by omega) (by omega) ?_
          refine v_if_ne (pc := 53) h 82 (dk dt_L_plays_0 29 rfl) rfl (by omega) (fun c53 => ?_) (fun c53 => ?_)
          ·
            exact absurd c53 (by decide)
          ·
            refine v_aload (pc := 56) h (dk dt_L_plays_0 30 rfl) rfl ?_
            refine v_iconst (pc := 58) h (dk dt_L_plays_0 31 rfl) ?_
            refine v_cVi (pc := 59) h (c_X11_load (n := 0) h.quiet hOr h2031 (Or.inr rfl)) kv_X11_load sh0 wM_L_157 rfl rfl (Nat.le_of_ble_eq_true rfl) ⟨⟨Nat.le_of_ble_eq_true rfl, Nat.le_of_ble_eq_true rfl⟩, by show kc + 41 + (0) ≤ 30000; omega, by show ns + 246 + (0) ≤ 400000; omega⟩ rfl rfl (dk dt_L_plays_0 32 rfl) ?_
            rw [show anLd (ldF (μ39 22) (μ39 24) 0) 1 = 1 by simp [anLd, ldF]]
            refine v_lconst (pc := 62) (y := 1) h (dk dt_L_plays_0 33 rfl) rfl ?_
            refine v_lcmp (pc := 63) h (dk dt_L_plays_0 34 rfl) (by omega) (by omega) ?_
            refine v_if_ne (pc := 64) h 82 (dk dt_L_plays_0 35 rfl) rfl (by omega) (fun c64 => ?_) (fun c64 => ?_)
            ·
              exact absurd c64 (by decide)
            ·
              refine v_aload (pc := 67) h (dk dt_L_plays_0 36 rfl) rfl ?_
              refine v_aload_n (pc := 69) h (dk dt_L_plays_0 37 rfl) rfl ?_
              refine v_aload (pc := 70) h (dk dt_L_plays_0 38 rfl) rfl ?_
              refine v_callS (pc := 72) h (c_L_tasks h.quiet hOr h2031) kv_L_tasks wM_L_168 rfl rfl (Nat.le_of_ble_eq_true rfl) ⟨⟨Nat.le_of_ble_eq_true rfl, Nat.le_of_ble_eq_true rfl⟩, by show kc + 41 + (400) ≤ 30000; omega, by show ns + 246 + (2400) ≤ 400000; omega⟩ (dk dt_L_plays_0 39 rfl) (fun v72 μ72 p72 => ?_)
              obtain ⟨rfl, hOt⟩ := p72
              refine v_if_eq (pc := 75) h 82 (dk dt_L_plays_0 40 rfl) rfl (by omega) (fun c75 => ?_) (fun c75 => ?_)
              ·
                exact absurd c75 (by decide)
              ·
                refine v_iconst (pc := 78) h (dk dt_L_plays_0 41 rfl) ?_
                refine v_goto (pc := 79) h 83 (dk dt_L_plays_0 42 rfl) rfl ?_
                refine v_istore (lv' := [(6, _), (5, _), (0, _), (1, _), (2, _), (3, _), (4, _)]) (pc := 83) h (dk dt_L_plays_0 44 rfl) (Nat.le_of_ble_eq_true rfl) rfl ?_
                refine v_iconst (pc := 85) h (dk dt_L_plays_0 45 rfl) ?_
                refine v_istore (lv' := [(7, _), (6, _), (5, _), (0, _), (1, _), (2, _), (3, _), (4, _)]) (pc := 86) h (dk dt_L_plays_0 46 rfl) (Nat.le_of_ble_eq_true rfl) rfl ?_
                exact VV.loc (next _ _ _ hOt (by simp only [rm_L_done, rm_L_tasks, rm_X11_sumOfEnds]; omega) (by simp only [rm_L_done, rm_L_tasks, rm_X11_sumOfEnds]; omega)) ⟨rfl, rfl, rfl, rfl, rfl, rfl, rfl, rfl, trivial⟩
end
