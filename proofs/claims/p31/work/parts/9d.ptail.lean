/-! ===== the law: what is refused ===== -/
section
variable {a : Ax} {B : Nat} {D : va_G} {E : Nat → ClassId} {n : Nat} {m : Mm} {l : Launch} {μ : Mm} {kc ns : Nat} {P : Pv} {X : Px}
theorem p_tail (h : Ac a B D E RL cL_plays 10 rm_plays) (r : Rt a B D E (some .boolean) (fun v m => v = some (iI 1) ∧ hOK m) X 30000 400000) (hO : hOK m) (hkc : kc ≤ 29000 ∧ ns ≤ 390000) {w : Int} (hw : 2 ≤ w ∧ w ≤ 2) :
    VV a B (SP B D E m) kc ns 88 [(7, iI w), (6, iI 1), (5, .ref (pl B 0)), (0, .ref (pl B 123)), (1, .ref (pl B 124)), (2, .ref (pl B 125)), (3, .ref (pl B 126)), (4, .ref (pl B 127))] [] := by
  obtain ⟨n, hn⟩ : ∃ n : Nat, m 1 9 = (n : Int) := ⟨(m 1 9).toNat, by have := hO.J.1; omega⟩
  have hn12 : n ≤ 12 := by have := hO.J.1; omega
  have r0 : rcJob (m 1 9) 100 1 0 1 = 1 := by unfold rcJob; rw [if_pos (by omega)]
  have r1 : rcJob (m 1 9) 0 31 0 1 = 1 := by unfold rcJob; rw [if_pos (by omega)]
  have r2 : rcAft (m 1 9) 99 0 = 1 := by unfold rcAft; rw [hn, if_pos (by omega)]
  have r4 : rcM (m 0 7) (-1) = 1 := by unfold rcM; rw [if_pos (by omega)]
  have hOc : hOK (mup (mup m 1 9 0) 0 7 0) := by
    have same : ∀ a, a ≠ 0 → a ≠ 1 → mup (mup m 1 9 0) 0 7 0 a = m a := fun a h0 h1 => by funext b; rw [mup_nk h0, mup_nk h1]
    have e1 : mup (mup m 1 9 0) 0 7 0 1 9 = 0 := by rw [mup_nk (by decide), mup_eq]
    refine hOK_no ⟨by rw [e1]; omega, fun j hj => by rw [e1] at hj; omega⟩ ?_ ?_ (mup_eq _ _ _ _)
    · unfold okTk
      rw [same 20 (by decide) (by decide), same 22 (by decide) (by decide), same 24 (by decide) (by decide), same 26 (by decide) (by decide)]
      exact hO.T
    · unfold okWy
      rw [same 27 (by decide) (by decide)]
      exact hO.W
  have r5 : rcJ (mup (mup m 1 9 0) 0 7 0 1 9) (mup (mup m 1 9 0) 0 7 0 0 7) 0 = 1 := by unfold rcJ; rw [mup_nk (by decide), mup_eq, if_pos (by omega)]
  have r6 : rcB (mup (mup m 1 9 0) 0 7 0 0 7) (mup (mup m 1 9 0) 0 7 0 49) (mup (mup m 1 9 0) 0 7 0 47 0) 0 = 1 := by unfold rcB; rw [mup_eq, if_pos (by decide)]
  refine v_iload (pc := 88) h (dk dt_L_plays_0 47 rfl) rfl ?_
  refine v_iconst (pc := 90) h (dk dt_L_plays_0 48 rfl) ?_
  refine v_icmp_ge (pc := 91) h 251 (dk dt_L_plays_0 49 rfl) rfl (by omega) (fun c91 => ?_) (fun c91 => ?_)
  ·
    refine v_iload (pc := 251) h (dk dt_L_plays_1 63 rfl) rfl ?_
    refine v_if_eq (pc := 253) h 371 (dk dt_L_plays_2 0 rfl) rfl (by omega) (fun c253 => ?_) (fun c253 => ?_)
    ·
      exact absurd c253 (by decide)
    ·
      refine v_aload (pc := 256) h (dk dt_L_plays_2 1 rfl) rfl ?_
      refine v_iconst (pc := 258) h (dk dt_L_plays_2 2 rfl) ?_
      refine v_bipush (pc := 259) h (dk dt_L_plays_2 3 rfl) rfl ?_
      refine v_iconst (pc := 261) h (dk dt_L_plays_2 4 rfl) ?_
      refine v_iconst (pc := 262) h (dk dt_L_plays_2 5 rfl) ?_
      refine v_iconst (pc := 263) h (dk dt_L_plays_2 6 rfl) ?_
      refine v_callH (pc := 264) h (d_job h.quiet hO (by omega) (by omega)) kh_L_done wM_L_84 rfl rfl (Nat.le_of_ble_eq_true rfl) ⟨⟨Nat.le_of_ble_eq_true rfl, Nat.le_of_ble_eq_true rfl⟩, by show kc + 20 ≤ 30000; omega, by show ns + 120 ≤ 400000; omega⟩ (dk dt_L_plays_2 7 rfl) (fun v264 μ264 p264 => ?_)
      rcases p264 with ⟨q, -⟩ | ⟨-, hv, hm⟩
      · exact absurd q (by rw [r0]; decide)
      rw [r0] at hv
      have hv2 : v264 = some (iI (-12)) := hv
      subst hv2; rw [hm]
      clear hm hv μ264
      refine v_bipush (pc := 267) h (dk dt_L_plays_2 8 rfl) rfl ?_
      refine v_icmp_ne (pc := 269) h 371 (dk dt_L_plays_2 9 rfl) rfl (by omega) (fun c269 => ?_) (fun c269 => ?_)
      ·
        exact absurd c269 (by decide)
      ·
        refine v_aload (pc := 272) h (dk dt_L_plays_2 10 rfl) rfl ?_
        refine v_iconst (pc := 274) h (dk dt_L_plays_2 11 rfl) ?_
        refine v_iconst (pc := 275) h (dk dt_L_plays_2 12 rfl) ?_
        refine v_bipush (pc := 276) h (dk dt_L_plays_2 13 rfl) rfl ?_
        refine v_iconst (pc := 278) h (dk dt_L_plays_2 14 rfl) ?_
        refine v_iconst (pc := 279) h (dk dt_L_plays_2 15 rfl) ?_
        refine v_callH (pc := 280) h (d_job h.quiet hO (by omega) (by omega)) kh_L_done wM_L_84 rfl rfl (Nat.le_of_ble_eq_true rfl) ⟨⟨Nat.le_of_ble_eq_true rfl, Nat.le_of_ble_eq_true rfl⟩, by show kc + 20 + (20) ≤ 30000; omega, by show ns + 120 + (120) ≤ 400000; omega⟩ (dk dt_L_plays_2 16 rfl) (fun v280 μ280 p280 => ?_)
        rcases p280 with ⟨q, -⟩ | ⟨-, hv, hm⟩
        · exact absurd q (by rw [r1]; decide)
        rw [r1] at hv
        have hv2 : v280 = some (iI (-12)) := hv
        subst hv2; rw [hm]
        clear hm hv μ280
        refine v_bipush (pc := 283) h (dk dt_L_plays_2 17 rfl) rfl ?_
        refine v_icmp_ne (pc := 285) h 371 (dk dt_L_plays_2 18 rfl) rfl (by omega) (fun c285 => ?_) (fun c285 => ?_)
        ·
          exact absurd c285 (by decide)
        ·
          refine v_aload (pc := 288) h (dk dt_L_plays_2 19 rfl) rfl ?_
          refine v_iconst (pc := 290) h (dk dt_L_plays_2 20 rfl) ?_
          refine v_bipush (pc := 291) h (dk dt_L_plays_2 21 rfl) rfl ?_
          refine v_iconst (pc := 293) h (dk dt_L_plays_2 22 rfl) ?_
          refine v_iconst (pc := 294) h (dk dt_L_plays_2 23 rfl) ?_
          refine v_iconst (pc := 295) h (dk dt_L_plays_2 24 rfl) ?_
          refine v_callH (pc := 296) h (d_after h.quiet hO (by omega)) kh_L_done wM_L_84 rfl rfl (Nat.le_of_ble_eq_true rfl) ⟨⟨Nat.le_of_ble_eq_true rfl, Nat.le_of_ble_eq_true rfl⟩, by show kc + 40 + (20) ≤ 30000; omega, by show ns + 240 + (120) ≤ 400000; omega⟩ (dk dt_L_plays_2 25 rfl) (fun v296 μ296 p296 => ?_)
          rcases p296 with ⟨q, -⟩ | ⟨-, hv, hm⟩
          · exact absurd q (by rw [r2]; decide)
          rw [r2] at hv
          have hv2 : v296 = some (iI (-11)) := hv
          subst hv2; rw [hm]
          clear hm hv μ296
          refine v_bipush (pc := 299) h (dk dt_L_plays_2 26 rfl) rfl ?_
          refine v_icmp_ne (pc := 301) h 371 (dk dt_L_plays_2 27 rfl) rfl (by omega) (fun c301 => ?_) (fun c301 => ?_)
          ·
            exact absurd c301 (by decide)
          ·
            refine v_aload (pc := 304) h (dk dt_L_plays_2 28 rfl) rfl ?_
            refine v_iconst (pc := 306) h (dk dt_L_plays_2 29 rfl) ?_
            refine v_bipush (pc := 307) h (dk dt_L_plays_2 30 rfl) rfl ?_
            refine v_iconst (pc := 309) h (dk dt_L_plays_2 31 rfl) ?_
            refine v_iconst (pc := 310) h (dk dt_L_plays_2 32 rfl) ?_
            refine v_iconst (pc := 311) h (dk dt_L_plays_2 33 rfl) ?_
            refine v_callH (pc := 312) h (d_run h.quiet hO hn (by omega)) kh_L_done wM_L_84 rfl rfl (Nat.le_of_ble_eq_true rfl) ⟨⟨Nat.le_of_ble_eq_true rfl, Nat.le_of_ble_eq_true rfl⟩, by show kc + 60 + (20) ≤ 30000; omega, by show ns + 360 + (120) ≤ 400000; omega⟩ (dk dt_L_plays_2 34 rfl) (fun v312 μ312 p312 => ?_)
            rcases p312 with ⟨q, -⟩ | ⟨-, hv, hm⟩
            · exact absurd q (by decide)
            have hv2 : v312 = some (iI (-12)) := hv
            subst hv2; rw [hm]
            clear hm hv μ312
            refine v_bipush (pc := 315) h (dk dt_L_plays_2 35 rfl) rfl ?_
            refine v_icmp_ne (pc := 317) h 371 (dk dt_L_plays_2 36 rfl) rfl (by omega) (fun c317 => ?_) (fun c317 => ?_)
            ·
              exact absurd c317 (by decide)
            ·
              refine v_aload (pc := 320) h (dk dt_L_plays_2 37 rfl) rfl ?_
              refine v_iconst (pc := 322) h (dk dt_L_plays_2 38 rfl) ?_
              refine v_iconst (pc := 323) h (dk dt_L_plays_2 39 rfl) ?_
              refine v_iconst (pc := 324) h (dk dt_L_plays_2 40 rfl) ?_
              refine v_iconst (pc := 325) h (dk dt_L_plays_2 41 rfl) ?_
              refine v_iconst (pc := 326) h (dk dt_L_plays_2 42 rfl) ?_
              refine v_callH (pc := 327) h (d_running h.quiet hO (by omega)) kh_L_done wM_L_84 rfl rfl (Nat.le_of_ble_eq_true rfl) ⟨⟨Nat.le_of_ble_eq_true rfl, Nat.le_of_ble_eq_true rfl⟩, by show kc + 80 + (20) ≤ 30000; omega, by show ns + 480 + (120) ≤ 400000; omega⟩ (dk dt_L_plays_2 43 rfl) (fun v327 μ327 p327 => ?_)
              rcases p327 with ⟨q, -⟩ | ⟨-, hv, hm⟩
              · exact absurd q (by rw [r4]; decide)
              rw [r4] at hv
              have hv2 : v327 = some (iI (-12)) := hv
              subst hv2; rw [hm]
              clear hm hv μ327
              refine v_bipush (pc := 330) h (dk dt_L_plays_2 44 rfl) rfl ?_
              refine v_icmp_ne (pc := 332) h 371 (dk dt_L_plays_2 45 rfl) rfl (by omega) (fun c332 => ?_) (fun c332 => ?_)
              ·
                exact absurd c332 (by decide)
              ·
                refine v_aload (pc := 335) h (dk dt_L_plays_2 46 rfl) rfl ?_
                refine v_bipush (pc := 337) h (dk dt_L_plays_2 47 rfl) rfl ?_
                refine v_iconst (pc := 339) h (dk dt_L_plays_2 48 rfl) ?_
                refine v_iconst (pc := 340) h (dk dt_L_plays_2 49 rfl) ?_
                refine v_iconst (pc := 341) h (dk dt_L_plays_2 50 rfl) ?_
                refine v_iconst (pc := 342) h (dk dt_L_plays_2 51 rfl) ?_
                refine v_callH (pc := 343) h (d_full h.quiet hO hn (by omega)) kh_L_done wM_L_84 rfl rfl (Nat.le_of_ble_eq_true rfl) ⟨⟨Nat.le_of_ble_eq_true rfl, Nat.le_of_ble_eq_true rfl⟩, by show kc + 100 + (20) ≤ 30000; omega, by show ns + 600 + (120) ≤ 400000; omega⟩ (dk dt_L_plays_2 52 rfl) (fun v343 μ343 p343 => ?_)
                rcases p343 with ⟨q, -⟩ | ⟨-, hv, hm⟩
                · exact absurd q (by decide)
                have hv2 : v343 = some (iI (-12)) := hv
                subst hv2; rw [hm]
                clear hm hv μ343
                refine v_bipush (pc := 346) h (dk dt_L_plays_2 53 rfl) rfl ?_
                refine v_icmp_ne (pc := 348) h 371 (dk dt_L_plays_2 54 rfl) rfl (by omega) (fun c348 => ?_) (fun c348 => ?_)
                ·
                  exact absurd c348 (by decide)
                ·
                  refine v_aload (pc := 351) h (dk dt_L_plays_2 55 rfl) rfl ?_
                  refine v_bipush (pc := 353) h (dk dt_L_plays_2 56 rfl) rfl ?_
                  refine v_iconst (pc := 355) h (dk dt_L_plays_2 57 rfl) ?_
                  refine v_iconst (pc := 356) h (dk dt_L_plays_2 58 rfl) ?_
                  refine v_iconst (pc := 357) h (dk dt_L_plays_2 59 rfl) ?_
                  refine v_iconst (pc := 358) h (dk dt_L_plays_2 60 rfl) ?_
                  refine v_callH (pc := 359) h (d_turns h.quiet hO (by omega) (by omega)) kh_L_done wM_L_84 rfl rfl (Nat.le_of_ble_eq_true rfl) ⟨⟨Nat.le_of_ble_eq_true rfl, Nat.le_of_ble_eq_true rfl⟩, by show kc + 120 + (20) ≤ 30000; omega, by show ns + 720 + (120) ≤ 400000; omega⟩ (dk dt_L_plays_2 61 rfl) (fun v359 μ359 p359 => ?_)
                  rcases p359 with ⟨q, -⟩ | ⟨-, hv, hm⟩
                  · exact absurd q (by decide)
                  have hv2 : v359 = some (iI (-12)) := hv
                  subst hv2; rw [hm]
                  clear hm hv μ359
                  refine v_bipush (pc := 362) h (dk dt_L_plays_2 62 rfl) rfl ?_
                  refine v_icmp_ne (pc := 364) h 371 (dk dt_L_plays_2 63 rfl) rfl (by omega) (fun c364 => ?_) (fun c364 => ?_)
                  ·
                    exact absurd c364 (by decide)
                  ·
                    refine v_iconst (pc := 367) h (dk dt_L_plays_3 0 rfl) ?_
                    refine v_goto (pc := 368) h 372 (dk dt_L_plays_3 1 rfl) rfl ?_
                    refine v_istore (lv' := [(6, _), (7, _), (5, _), (0, _), (1, _), (2, _), (3, _), (4, _)]) (pc := 372) h (dk dt_L_plays_3 3 rfl) (Nat.le_of_ble_eq_true rfl) rfl ?_
                    refine v_iload (pc := 374) h (dk dt_L_plays_3 4 rfl) rfl ?_
                    refine v_if_eq (pc := 376) h 422 (dk dt_L_plays_3 5 rfl) rfl (by omega) (fun c376 => ?_) (fun c376 => ?_)
                    ·
                      exact absurd c376 (by decide)
                    ·
                      refine v_aload (pc := 379) h (dk dt_L_plays_3 6 rfl) rfl ?_
                      refine v_cVi (pc := 381) h (c_X11_clear h.quiet) kv_X11_clear sh0 wM_L_71 rfl rfl (Nat.le_of_ble_eq_true rfl) ⟨⟨Nat.le_of_ble_eq_true rfl, Nat.le_of_ble_eq_true rfl⟩, by show kc + 140 + (0) ≤ 30000; omega, by show ns + 840 + (0) ≤ 400000; omega⟩ rfl rfl (dk dt_L_plays_3 7 rfl) ?_
                      rw [hn]
                      refine v_if_lt (pc := 384) h 422 (dk dt_L_plays_3 8 rfl) rfl (by omega) (fun c384 => ?_) (fun c384 => ?_)
                      ·
                        exact absurd c384 (by omega)
                      ·
                        refine v_aload (pc := 387) h (dk dt_L_plays_3 9 rfl) rfl ?_
                        refine v_iconst (pc := 389) h (dk dt_L_plays_3 10 rfl) ?_
                        refine v_iconst (pc := 390) h (dk dt_L_plays_3 11 rfl) ?_
                        refine v_iconst (pc := 391) h (dk dt_L_plays_3 12 rfl) ?_
                        refine v_iconst (pc := 392) h (dk dt_L_plays_3 13 rfl) ?_
                        refine v_iconst (pc := 393) h (dk dt_L_plays_3 14 rfl) ?_
                        refine v_callH (pc := 394) h (d_end h.quiet hOc (by omega)) kh_L_done wM_L_84 rfl rfl (Nat.le_of_ble_eq_true rfl) ⟨⟨Nat.le_of_ble_eq_true rfl, Nat.le_of_ble_eq_true rfl⟩, by show kc + 140 + (20) ≤ 30000; omega, by show ns + 840 + (120) ≤ 400000; omega⟩ (dk dt_L_plays_3 15 rfl) (fun v394 μ394 p394 => ?_)
                        rcases p394 with ⟨q, -⟩ | ⟨-, hv, hm⟩
                        · exact absurd q (by rw [r5]; decide)
                        rw [r5] at hv
                        have hv2 : v394 = some (iI (-11)) := hv
                        subst hv2; rw [hm]
                        clear hm hv μ394
                        refine v_bipush (pc := 397) h (dk dt_L_plays_3 16 rfl) rfl ?_
                        refine v_icmp_ne (pc := 399) h 422 (dk dt_L_plays_3 17 rfl) rfl (by omega) (fun c399 => ?_) (fun c399 => ?_)
                        ·
                          exact absurd c399 (by decide)
                        ·
                          refine v_aload (pc := 402) h (dk dt_L_plays_3 18 rfl) rfl ?_
                          refine v_bipush (pc := 404) h (dk dt_L_plays_3 19 rfl) rfl ?_
                          refine v_iconst (pc := 406) h (dk dt_L_plays_3 20 rfl) ?_
                          refine v_iconst (pc := 407) h (dk dt_L_plays_3 21 rfl) ?_
                          refine v_iconst (pc := 408) h (dk dt_L_plays_3 22 rfl) ?_
                          refine v_iconst (pc := 409) h (dk dt_L_plays_3 23 rfl) ?_
                          refine v_callH (pc := 410) h (d_busy h.quiet hOc (by omega)) kh_L_done wM_L_84 rfl rfl (Nat.le_of_ble_eq_true rfl) ⟨⟨Nat.le_of_ble_eq_true rfl, Nat.le_of_ble_eq_true rfl⟩, by show kc + 160 + (20) ≤ 30000; omega, by show ns + 960 + (120) ≤ 400000; omega⟩ (dk dt_L_plays_3 24 rfl) (fun v410 μ410 p410 => ?_)
                          rcases p410 with ⟨q, -⟩ | ⟨-, hv, hm⟩
                          · exact absurd q (by rw [r6]; decide)
                          rw [r6] at hv
                          have hv2 : v410 = some (iI (-13)) := hv
                          subst hv2; rw [hm]
                          clear hm hv μ410
                          refine v_bipush (pc := 413) h (dk dt_L_plays_3 25 rfl) rfl ?_
                          refine v_icmp_ne (pc := 415) h 422 (dk dt_L_plays_3 26 rfl) rfl (by omega) (fun c415 => ?_) (fun c415 => ?_)
                          ·
                            exact absurd c415 (by decide)
                          ·
                            refine v_iconst (pc := 418) h (dk dt_L_plays_3 27 rfl) ?_
                            refine v_goto (pc := 419) h 423 (dk dt_L_plays_3 28 rfl) rfl ?_
                            exact v_zret (pc := 423) h r (dk dt_L_plays_3 30 rfl) (by show kc + 180 ≤ 30000; omega) (by show ns + 1080 ≤ 400000; omega) (by omega) ⟨rfl, hOc⟩
  ·
    exact absurd c91 (by omega)
end
