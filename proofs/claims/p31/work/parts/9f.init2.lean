/-! ===== constructors: by program (geninit.py), 9f.init2 ===== -/
section
variable {l : Launch} {B : Nat} {D : va_G} {E : Nat → ClassId} {L : List va_E} {o : Nat}
def wkL (B : Nat) (E : Nat → ClassId) (o : Nat) : List va_E := ob 10 [.ref (B + (o + 12)), .ref (B + (o + 19)), .ref (B + (o + 1)), .ref (B + 6), .ref (B + 34), .ref (B + (o + 3)), .ref (B + (o + 10)), .ref (B + (o + 22)), iI 0, iI 0, iI 0, iI 0, iI 0, iI (-1), iI 0, iI 0, iI 0, iI (-1)] :: (((((ceF B E z0 (o + 1) (shRow (o + 1) 12) ++ ceF B E z0 (o + 3) (shLevels (o + 3))) ++ ceF B E z0 (o + 10) (shRow (o + 10) 12)) ++ ceF B E z0 (o + 12) (qProg (o + 12))) ++ ceF B E z0 (o + 19) (qCourse (o + 19))) ++ ceF B E z0 (o + 22) (qLocks (o + 22) (o + 12)))
abbrev rg_10 : Room := { frames := 3, cells := 28, slots := 2460, locals := 63 }
theorem cg_10 (hst : l.stackTraces = false) (hL : L.length = o) :
    CtG l B D E yX10_init (.code yX10_init cX10_init 3 none) (rg_10) [.ref (B + o), .ref (B + 6), .ref (B + 34)] (L ++ [ob 10 zf10]) (L ++ wkL B E o) := by
  refine ctG_of (own := RX10) (lv := [(0, _), (1, _), (2, _)]) hst (by decide) rfl rfl rfl (Nat.le_of_ble_eq_true rfl) fun a h r hin hN => ?_
  refine v_aload_n (pc := 0) h (dk dt_X10_init 0 rfl) rfl ?_
  refine g_obj (pc := 1) h wM_X10_3 wO2 wO3 (Nat.le_of_ble_eq_true rfl) ⟨Nat.le_of_ble_eq_true rfl, Nat.le_of_ble_eq_true rfl⟩ (dk dt_X10_init 1 rfl) ?_
  refine v_aload_n (pc := 4) h (dk dt_X10_init 2 rfl) rfl ?_
  have hl11 : (L ++ ob 10 [.null, .null, .null, .null, .null, .null, .null, .null, .int 0, .int 0, .int 0, .int 0, .int 0, .int 0, .int 0, .int 0, .int 0, .int 0] :: []).length = o + 1 := by rw [List.length_append, hL]; rfl
  refine g_new (pc := 5) h ci7 wL_X10_9 wN_X7 wI_X7 zf7_ok ⟨Nat.le_of_ble_eq_true rfl, Nat.le_of_ble_eq_true rfl⟩ (dk dt_X10_init 3 rfl) hl11 ?_
  refine v_dup (pc := 8) h (dk dt_X10_init 4 rfl) rfl ?_
  refine v_bipush (pc := 9) h (dk dt_X10_init 5 rfl) rfl ?_
  refine g_call (pc := 11) h hN (cg_7 h.quiet (o := o + 1) (len := 12) (z := 12) hl11 rfl (Nat.le_of_ble_eq_true rfl)) ki_X7 wM_X10_11 rfl rfl (Nat.le_of_ble_eq_true rfl) (RM.of rfl) (dk dt_X10_init 6 rfl) ?_
  refine g_cast (L' := L ++ ob 10 [.null, .null, .null, .null, .null, .null, .null, .null, .int 0, .int 0, .int 0, .int 0, .int 0, .int 0, .int 0, .int 0, .int 0, .int 0] :: ceF B E z0 (o + 1) (shRow (o + 1) 12)) (List.append_assoc _ _ _) ?_
  refine g_put (pc := 14) h hin ci10 hL (j := 2) (Nat.le_of_ble_eq_true rfl) wF_X10_14 rfl rfl rfl (Nat.le_of_ble_eq_true rfl) (dk dt_X10_init 7 rfl) ?_
  refine v_aload_n (pc := 17) h (dk dt_X10_init 8 rfl) rfl ?_
  have hl22 : (L ++ ob 10 [.null, .null, .ref (B + (o + 1)), .null, .null, .null, .null, .null, .int 0, .int 0, .int 0, .int 0, .int 0, .int 0, .int 0, .int 0, .int 0, .int 0] :: ceF B E z0 (o + 1) (shRow (o + 1) 12)).length = o + 3 := by rw [List.length_append, hL]; rfl
  refine g_new (pc := 18) h ci2 wL_X10_20 wN_X2 wI_X2 zf2_ok ⟨Nat.le_of_ble_eq_true rfl, Nat.le_of_ble_eq_true rfl⟩ (dk dt_X10_init 9 rfl) hl22 ?_
  refine v_dup (pc := 21) h (dk dt_X10_init 10 rfl) rfl ?_
  refine g_callN (pc := 22) h hN (cg_2 h.quiet (o := o + 3) hl22) ki_X2 (host := "Slicehouse") (by decide) rfl rfl (Nat.le_of_ble_eq_true rfl) (RM.of rfl) (dk dt_X10_init 11 rfl) ?_
  refine g_cast (L' := L ++ ob 10 [.null, .null, .ref (B + (o + 1)), .null, .null, .null, .null, .null, .int 0, .int 0, .int 0, .int 0, .int 0, .int 0, .int 0, .int 0, .int 0, .int 0] :: (ceF B E z0 (o + 1) (shRow (o + 1) 12) ++ ceF B E z0 (o + 3) (shLevels (o + 3)))) (List.append_assoc _ _ _) ?_
  refine g_put (pc := 25) h hin ci10 hL (j := 5) (Nat.le_of_ble_eq_true rfl) wF_X10_23 rfl rfl rfl (Nat.le_of_ble_eq_true rfl) (dk dt_X10_init 12 rfl) ?_
  refine v_aload_n (pc := 28) h (dk dt_X10_init 13 rfl) rfl ?_
  have hl35 : (L ++ ob 10 [.null, .null, .ref (B + (o + 1)), .null, .null, .ref (B + (o + 3)), .null, .null, .int 0, .int 0, .int 0, .int 0, .int 0, .int 0, .int 0, .int 0, .int 0, .int 0] :: (ceF B E z0 (o + 1) (shRow (o + 1) 12) ++ ceF B E z0 (o + 3) (shLevels (o + 3)))).length = o + 10 := by rw [List.length_append, hL]; rfl
  refine g_new (pc := 29) h ci7 wL_X10_9 wN_X7 wI_X7 zf7_ok ⟨Nat.le_of_ble_eq_true rfl, Nat.le_of_ble_eq_true rfl⟩ (dk dt_X10_init 14 rfl) hl35 ?_
  refine v_dup (pc := 32) h (dk dt_X10_init 15 rfl) rfl ?_
  refine v_bipush (pc := 33) h (dk dt_X10_init 16 rfl) rfl ?_
  refine g_call (pc := 35) h hN (cg_7 h.quiet (o := o + 10) (len := 12) (z := 12) hl35 rfl (Nat.le_of_ble_eq_true rfl)) ki_X7 wM_X10_11 rfl rfl (Nat.le_of_ble_eq_true rfl) (RM.of rfl) (dk dt_X10_init 17 rfl) ?_
  refine g_cast (L' := L ++ ob 10 [.null, .null, .ref (B + (o + 1)), .null, .null, .ref (B + (o + 3)), .null, .null, .int 0, .int 0, .int 0, .int 0, .int 0, .int 0, .int 0, .int 0, .int 0, .int 0] :: ((ceF B E z0 (o + 1) (shRow (o + 1) 12) ++ ceF B E z0 (o + 3) (shLevels (o + 3))) ++ ceF B E z0 (o + 10) (shRow (o + 10) 12))) (List.append_assoc _ _ _) ?_
  refine g_put (pc := 38) h hin ci10 hL (j := 6) (Nat.le_of_ble_eq_true rfl) wF_X10_27 rfl rfl rfl (Nat.le_of_ble_eq_true rfl) (dk dt_X10_init 18 rfl) ?_
  refine v_aload_n (pc := 41) h (dk dt_X10_init 19 rfl) rfl ?_
  refine v_iconst (pc := 42) h (dk dt_X10_init 20 rfl) ?_
  refine g_put (pc := 43) h hin ci10 hL (j := 8) (Nat.le_of_ble_eq_true rfl) wF_X10_30 rfl rfl rfl (Nat.le_of_ble_eq_true rfl) (dk dt_X10_init 21 rfl) ?_
  refine v_aload_n (pc := 46) h (dk dt_X10_init 22 rfl) rfl ?_
  refine v_iconst (pc := 47) h (dk dt_X10_init 23 rfl) ?_
  refine g_put (pc := 48) h hin ci10 hL (j := 9) (Nat.le_of_ble_eq_true rfl) wF_X10_34 rfl rfl rfl (Nat.le_of_ble_eq_true rfl) (dk dt_X10_init 24 rfl) ?_
  refine v_aload_n (pc := 51) h (dk dt_X10_init 25 rfl) rfl ?_
  refine v_iconst (pc := 52) h (dk dt_X10_init 26 rfl) ?_
  refine g_put (pc := 53) h hin ci10 hL (j := 10) (Nat.le_of_ble_eq_true rfl) wF_X10_37 rfl rfl rfl (Nat.le_of_ble_eq_true rfl) (dk dt_X10_init 27 rfl) ?_
  refine v_aload_n (pc := 56) h (dk dt_X10_init 28 rfl) rfl ?_
  refine v_iconst (pc := 57) h (dk dt_X10_init 29 rfl) ?_
  refine g_put (pc := 58) h hin ci10 hL (j := 11) (Nat.le_of_ble_eq_true rfl) wF_X10_40 rfl rfl rfl (Nat.le_of_ble_eq_true rfl) (dk dt_X10_init 30 rfl) ?_
  refine v_aload_n (pc := 61) h (dk dt_X10_init 31 rfl) rfl ?_
  refine v_iconst (pc := 62) h (dk dt_X10_init 32 rfl) ?_
  refine g_put (pc := 63) h hin ci10 hL (j := 12) (Nat.le_of_ble_eq_true rfl) wF_X10_44 rfl rfl rfl (Nat.le_of_ble_eq_true rfl) (dk dt_X10_init 33 rfl) ?_
  refine v_aload_n (pc := 66) h (dk dt_X10_init 34 rfl) rfl ?_
  refine v_iconst (pc := 67) h (dk dt_X10_init 35 rfl) ?_
  refine g_put (pc := 68) h hin ci10 hL (j := 13) (Nat.le_of_ble_eq_true rfl) wF_X10_47 rfl rfl rfl (Nat.le_of_ble_eq_true rfl) (dk dt_X10_init 36 rfl) ?_
  refine v_aload_n (pc := 71) h (dk dt_X10_init 37 rfl) rfl ?_
  refine v_iconst (pc := 72) h (dk dt_X10_init 38 rfl) ?_
  refine g_put (pc := 73) h hin ci10 hL (j := 14) (Nat.le_of_ble_eq_true rfl) wF_X10_50 rfl rfl rfl (Nat.le_of_ble_eq_true rfl) (dk dt_X10_init 39 rfl) ?_
  refine v_aload_n (pc := 76) h (dk dt_X10_init 40 rfl) rfl ?_
  refine v_iconst (pc := 77) h (dk dt_X10_init 41 rfl) ?_
  refine g_put (pc := 78) h hin ci10 hL (j := 15) (Nat.le_of_ble_eq_true rfl) wF_X10_53 rfl rfl rfl (Nat.le_of_ble_eq_true rfl) (dk dt_X10_init 42 rfl) ?_
  refine v_aload_n (pc := 81) h (dk dt_X10_init 43 rfl) rfl ?_
  refine v_iconst (pc := 82) h (dk dt_X10_init 44 rfl) ?_
  refine g_put (pc := 83) h hin ci10 hL (j := 16) (Nat.le_of_ble_eq_true rfl) wF_X10_56 rfl rfl rfl (Nat.le_of_ble_eq_true rfl) (dk dt_X10_init 45 rfl) ?_
  refine v_aload_n (pc := 86) h (dk dt_X10_init 46 rfl) rfl ?_
  refine v_iconst (pc := 87) h (dk dt_X10_init 47 rfl) ?_
  refine g_put (pc := 88) h hin ci10 hL (j := 17) (Nat.le_of_ble_eq_true rfl) wF_X10_59 rfl rfl rfl (Nat.le_of_ble_eq_true rfl) (dk dt_X10_init 48 rfl) ?_
  refine v_aload_n (pc := 91) h (dk dt_X10_init 49 rfl) rfl ?_
  refine v_aload_n (pc := 92) h (dk dt_X10_init 50 rfl) rfl ?_
  refine g_put (pc := 93) h hin ci10 hL (j := 3) (Nat.le_of_ble_eq_true rfl) wF_X10_62 rfl rfl rfl (Nat.le_of_ble_eq_true rfl) (dk dt_X10_init 51 rfl) ?_
  refine v_aload_n (pc := 96) h (dk dt_X10_init 52 rfl) rfl ?_
  refine v_aload_n (pc := 97) h (dk dt_X10_init 53 rfl) rfl ?_
  refine g_put (pc := 98) h hin ci10 hL (j := 4) (Nat.le_of_ble_eq_true rfl) wF_X10_66 rfl rfl rfl (Nat.le_of_ble_eq_true rfl) (dk dt_X10_init 54 rfl) ?_
  refine v_aload_n (pc := 101) h (dk dt_X10_init 55 rfl) rfl ?_
  have hl107 : (L ++ ob 10 [.null, .null, .ref (B + (o + 1)), .ref (B + 6), .ref (B + 34), .ref (B + (o + 3)), .ref (B + (o + 10)), .null, iI 0, iI 0, iI 0, iI 0, iI 0, iI (-1), iI 0, iI 0, iI 0, iI (-1)] :: ((ceF B E z0 (o + 1) (shRow (o + 1) 12) ++ ceF B E z0 (o + 3) (shLevels (o + 3))) ++ ceF B E z0 (o + 10) (shRow (o + 10) 12))).length = o + 12 := by rw [List.length_append, hL]; rfl
  refine g_new (pc := 102) h ci6 wL_X10_70 wN_X6 wI_X6 zf6_ok ⟨Nat.le_of_ble_eq_true rfl, Nat.le_of_ble_eq_true rfl⟩ (dk dt_X10_init 56 rfl) hl107 ?_
  refine v_dup (pc := 105) h (dk dt_X10_init 57 rfl) rfl ?_
  refine v_aload_n (pc := 106) h (dk dt_X10_init 58 rfl) rfl ?_
  refine g_call (pc := 107) h hN (cg_6 h.quiet (o := o + 12) hl107) ki_X6 wM_X10_72 rfl rfl (Nat.le_of_ble_eq_true rfl) (RM.of rfl) (dk dt_X10_init 59 rfl) ?_
  refine g_cast (L' := L ++ ob 10 [.null, .null, .ref (B + (o + 1)), .ref (B + 6), .ref (B + 34), .ref (B + (o + 3)), .ref (B + (o + 10)), .null, iI 0, iI 0, iI 0, iI 0, iI 0, iI (-1), iI 0, iI 0, iI 0, iI (-1)] :: (((ceF B E z0 (o + 1) (shRow (o + 1) 12) ++ ceF B E z0 (o + 3) (shLevels (o + 3))) ++ ceF B E z0 (o + 10) (shRow (o + 10) 12)) ++ ceF B E z0 (o + 12) (qProg (o + 12)))) (List.append_assoc _ _ _) ?_
  refine g_put (pc := 110) h hin ci10 hL (j := 0) (Nat.le_of_ble_eq_true rfl) wF_X10_75 rfl rfl rfl (Nat.le_of_ble_eq_true rfl) (dk dt_X10_init 60 rfl) ?_
  refine v_aload_n (pc := 113) h (dk dt_X10_init 61 rfl) rfl ?_
  have hl119 : (L ++ ob 10 [.ref (B + (o + 12)), .null, .ref (B + (o + 1)), .ref (B + 6), .ref (B + 34), .ref (B + (o + 3)), .ref (B + (o + 10)), .null, iI 0, iI 0, iI 0, iI 0, iI 0, iI (-1), iI 0, iI 0, iI 0, iI (-1)] :: (((ceF B E z0 (o + 1) (shRow (o + 1) 12) ++ ceF B E z0 (o + 3) (shLevels (o + 3))) ++ ceF B E z0 (o + 10) (shRow (o + 10) 12)) ++ ceF B E z0 (o + 12) (qProg (o + 12)))).length = o + 19 := by rw [List.length_append, hL]; rfl
  refine g_new (pc := 114) h ci0 wL_X10_79 wN_X0 wI_X0 zf0_ok ⟨Nat.le_of_ble_eq_true rfl, Nat.le_of_ble_eq_true rfl⟩ (dk dt_X10_init 62 rfl) hl119 ?_
  refine v_dup (pc := 117) h (dk dt_X10_init 63 rfl) rfl ?_
  refine v_aload_n (pc := 118) h (dk dt_X10_init 64 rfl) rfl ?_
  refine g_call (pc := 119) h hN (cg_0 h.quiet (o := o + 19) hl119) ki_X0 wM_X10_81 rfl rfl (Nat.le_of_ble_eq_true rfl) (RM.of rfl) (dk dt_X10_init 65 rfl) ?_
  refine g_cast (L' := L ++ ob 10 [.ref (B + (o + 12)), .null, .ref (B + (o + 1)), .ref (B + 6), .ref (B + 34), .ref (B + (o + 3)), .ref (B + (o + 10)), .null, iI 0, iI 0, iI 0, iI 0, iI 0, iI (-1), iI 0, iI 0, iI 0, iI (-1)] :: ((((ceF B E z0 (o + 1) (shRow (o + 1) 12) ++ ceF B E z0 (o + 3) (shLevels (o + 3))) ++ ceF B E z0 (o + 10) (shRow (o + 10) 12)) ++ ceF B E z0 (o + 12) (qProg (o + 12))) ++ ceF B E z0 (o + 19) (qCourse (o + 19)))) (List.append_assoc _ _ _) ?_
  refine g_put (pc := 122) h hin ci10 hL (j := 1) (Nat.le_of_ble_eq_true rfl) wF_X10_82 rfl rfl rfl (Nat.le_of_ble_eq_true rfl) (dk dt_X10_init 66 rfl) ?_
  refine v_aload_n (pc := 125) h (dk dt_X10_init 67 rfl) rfl ?_
  have hl135 : (L ++ ob 10 [.ref (B + (o + 12)), .ref (B + (o + 19)), .ref (B + (o + 1)), .ref (B + 6), .ref (B + 34), .ref (B + (o + 3)), .ref (B + (o + 10)), .null, iI 0, iI 0, iI 0, iI 0, iI 0, iI (-1), iI 0, iI 0, iI 0, iI (-1)] :: ((((ceF B E z0 (o + 1) (shRow (o + 1) 12) ++ ceF B E z0 (o + 3) (shLevels (o + 3))) ++ ceF B E z0 (o + 10) (shRow (o + 10) 12)) ++ ceF B E z0 (o + 12) (qProg (o + 12))) ++ ceF B E z0 (o + 19) (qCourse (o + 19)))).length = o + 22 := by rw [List.length_append, hL]; rfl
  refine g_new (pc := 126) h ci4 wL_X10_86 wN_X4 wI_X4 zf4_ok ⟨Nat.le_of_ble_eq_true rfl, Nat.le_of_ble_eq_true rfl⟩ (dk dt_X10_init 68 rfl) hl135 ?_
  refine v_dup (pc := 129) h (dk dt_X10_init 69 rfl) rfl ?_
  refine v_aload_n (pc := 130) h (dk dt_X10_init 70 rfl) rfl ?_
  refine v_aload_n (pc := 131) h (dk dt_X10_init 71 rfl) rfl ?_
  refine g_cast (L' := L ++ ob 10 [.ref (B + (o + 12)), .ref (B + (o + 19)), .ref (B + (o + 1)), .ref (B + 6), .ref (B + 34), .ref (B + (o + 3)), .ref (B + (o + 10)), .null, iI 0, iI 0, iI 0, iI 0, iI 0, iI (-1), iI 0, iI 0, iI 0, iI (-1)] :: (((((ceF B E z0 (o + 1) (shRow (o + 1) 12) ++ ceF B E z0 (o + 3) (shLevels (o + 3))) ++ ceF B E z0 (o + 10) (shRow (o + 10) 12)) ++ ceF B E z0 (o + 12) (qProg (o + 12))) ++ ceF B E z0 (o + 19) (qCourse (o + 19))) ++ [ob 4 zf4])) (List.append_assoc _ _ _) ?_
  refine g_get (pc := 132) h ci10 hL (Nat.le_of_ble_eq_true rfl) (j := 0) wF_X10_75 rfl (dk dt_X10_init 72 rfl) ?_
  refine g_cast (L' := (L ++ ob 10 [.ref (B + (o + 12)), .ref (B + (o + 19)), .ref (B + (o + 1)), .ref (B + 6), .ref (B + 34), .ref (B + (o + 3)), .ref (B + (o + 10)), .null, iI 0, iI 0, iI 0, iI 0, iI 0, iI (-1), iI 0, iI 0, iI 0, iI (-1)] :: ((((ceF B E z0 (o + 1) (shRow (o + 1) 12) ++ ceF B E z0 (o + 3) (shLevels (o + 3))) ++ ceF B E z0 (o + 10) (shRow (o + 10) 12)) ++ ceF B E z0 (o + 12) (qProg (o + 12))) ++ ceF B E z0 (o + 19) (qCourse (o + 19)))) ++ [ob 4 zf4]) (List.append_assoc L (ob 10 [.ref (B + (o + 12)), .ref (B + (o + 19)), .ref (B + (o + 1)), .ref (B + 6), .ref (B + 34), .ref (B + (o + 3)), .ref (B + (o + 10)), .null, iI 0, iI 0, iI 0, iI 0, iI 0, iI (-1), iI 0, iI 0, iI 0, iI (-1)] :: ((((ceF B E z0 (o + 1) (shRow (o + 1) 12) ++ ceF B E z0 (o + 3) (shLevels (o + 3))) ++ ceF B E z0 (o + 10) (shRow (o + 10) 12)) ++ ceF B E z0 (o + 12) (qProg (o + 12))) ++ ceF B E z0 (o + 19) (qCourse (o + 19)))) [ob 4 zf4]).symm ?_
  refine g_call (pc := 135) h hN (cg_4 h.quiet (o := o + 22) (p := o + 12) hl135) ki_X4 wM_X10_88 rfl rfl (Nat.le_of_ble_eq_true rfl) (RM.of rfl) (dk dt_X10_init 73 rfl) ?_
  refine g_cast (L' := L ++ ob 10 [.ref (B + (o + 12)), .ref (B + (o + 19)), .ref (B + (o + 1)), .ref (B + 6), .ref (B + 34), .ref (B + (o + 3)), .ref (B + (o + 10)), .null, iI 0, iI 0, iI 0, iI 0, iI 0, iI (-1), iI 0, iI 0, iI 0, iI (-1)] :: (((((ceF B E z0 (o + 1) (shRow (o + 1) 12) ++ ceF B E z0 (o + 3) (shLevels (o + 3))) ++ ceF B E z0 (o + 10) (shRow (o + 10) 12)) ++ ceF B E z0 (o + 12) (qProg (o + 12))) ++ ceF B E z0 (o + 19) (qCourse (o + 19))) ++ ceF B E z0 (o + 22) (qLocks (o + 22) (o + 12)))) (List.append_assoc _ _ _) ?_
  refine g_put (pc := 138) h hin ci10 hL (j := 7) (Nat.le_of_ble_eq_true rfl) wF_X10_91 rfl rfl rfl (Nat.le_of_ble_eq_true rfl) (dk dt_X10_init 74 rfl) ?_
  exact g_ret (pc := 141) h r (dk dt_X10_init 75 rfl) (Nat.le_of_ble_eq_true rfl) (Nat.le_of_ble_eq_true rfl)
abbrev rg_1 : Room := { frames := 2, cells := 20, slots := 202, locals := 41 }
theorem cg_1 (hst : l.stackTraces = false) (hL : L.length = 6) :
    CtG l B D E yX1_init (.code yX1_init cX1_init 1 none) (rg_1) [.ref (B + 6)] (L ++ [ob 1 zf1]) (L ++ ceF B E z0 6 qJobs) := by
  refine ctG_of (own := RX1) (lv := [(0, _)]) hst (by decide) rfl rfl rfl (Nat.le_of_ble_eq_true rfl) fun a h r hin hN => ?_
  refine v_aload_n (pc := 0) h (dk dt_X1_init 0 rfl) rfl ?_
  refine g_obj (pc := 1) h wM_X1_3 wO2 wO3 (Nat.le_of_ble_eq_true rfl) ⟨Nat.le_of_ble_eq_true rfl, Nat.le_of_ble_eq_true rfl⟩ (dk dt_X1_init 1 rfl) ?_
  refine v_aload_n (pc := 4) h (dk dt_X1_init 2 rfl) rfl ?_
  have hl11 : (L ++ ob 1 [.null, .null, .null, .null, .null, .null, .null, .null, .null, .int 0, .null] :: []).length = 7 := by rw [List.length_append, hL]; rfl
  refine g_new (pc := 5) h ci7 wL_X1_9 wN_X7 wI_X7 zf7_ok ⟨Nat.le_of_ble_eq_true rfl, Nat.le_of_ble_eq_true rfl⟩ (dk dt_X1_init 3 rfl) hl11 ?_
  refine v_dup (pc := 8) h (dk dt_X1_init 4 rfl) rfl ?_
  refine v_bipush (pc := 9) h (dk dt_X1_init 5 rfl) rfl ?_
  refine g_call (pc := 11) h hN (cg_7 h.quiet (o := 7) (len := 12) (z := 12) hl11 rfl (Nat.le_of_ble_eq_true rfl)) ki_X7 wM_X1_11 rfl rfl (Nat.le_of_ble_eq_true rfl) (RM.of rfl) (dk dt_X1_init 6 rfl) ?_
  refine g_cast (L' := L ++ ob 1 [.null, .null, .null, .null, .null, .null, .null, .null, .null, .int 0, .null] :: ceF B E z0 (7) (shRow (7) 12)) (List.append_assoc _ _ _) ?_
  refine g_put (pc := 14) h hin ci1 hL (j := 0) (Nat.le_of_ble_eq_true rfl) wF_X1_14 rfl rfl rfl (Nat.le_of_ble_eq_true rfl) (dk dt_X1_init 7 rfl) ?_
  refine v_aload_n (pc := 17) h (dk dt_X1_init 8 rfl) rfl ?_
  have hl24 : (L ++ ob 1 [.ref (B + (7)), .null, .null, .null, .null, .null, .null, .null, .null, .int 0, .null] :: ceF B E z0 (7) (shRow (7) 12)).length = 9 := by rw [List.length_append, hL]; rfl
  refine g_new (pc := 18) h ci7 wL_X1_9 wN_X7 wI_X7 zf7_ok ⟨Nat.le_of_ble_eq_true rfl, Nat.le_of_ble_eq_true rfl⟩ (dk dt_X1_init 9 rfl) hl24 ?_
  refine v_dup (pc := 21) h (dk dt_X1_init 10 rfl) rfl ?_
  refine v_bipush (pc := 22) h (dk dt_X1_init 11 rfl) rfl ?_
  refine g_call (pc := 24) h hN (cg_7 h.quiet (o := 9) (len := 12) (z := 12) hl24 rfl (Nat.le_of_ble_eq_true rfl)) ki_X7 wM_X1_11 rfl rfl (Nat.le_of_ble_eq_true rfl) (RM.of rfl) (dk dt_X1_init 12 rfl) ?_
  refine g_cast (L' := L ++ ob 1 [.ref (B + (7)), .null, .null, .null, .null, .null, .null, .null, .null, .int 0, .null] :: (ceF B E z0 (7) (shRow (7) 12) ++ ceF B E z0 (9) (shRow (9) 12))) (List.append_assoc _ _ _) ?_
  refine g_put (pc := 27) h hin ci1 hL (j := 1) (Nat.le_of_ble_eq_true rfl) wF_X1_20 rfl rfl rfl (Nat.le_of_ble_eq_true rfl) (dk dt_X1_init 13 rfl) ?_
  refine v_aload_n (pc := 30) h (dk dt_X1_init 14 rfl) rfl ?_
  have hl37 : (L ++ ob 1 [.ref (B + (7)), .ref (B + (9)), .null, .null, .null, .null, .null, .null, .null, .int 0, .null] :: (ceF B E z0 (7) (shRow (7) 12) ++ ceF B E z0 (9) (shRow (9) 12))).length = 11 := by rw [List.length_append, hL]; rfl
  refine g_new (pc := 31) h ci7 wL_X1_9 wN_X7 wI_X7 zf7_ok ⟨Nat.le_of_ble_eq_true rfl, Nat.le_of_ble_eq_true rfl⟩ (dk dt_X1_init 15 rfl) hl37 ?_
  refine v_dup (pc := 34) h (dk dt_X1_init 16 rfl) rfl ?_
  refine v_bipush (pc := 35) h (dk dt_X1_init 17 rfl) rfl ?_
  refine g_call (pc := 37) h hN (cg_7 h.quiet (o := 11) (len := 12) (z := 12) hl37 rfl (Nat.le_of_ble_eq_true rfl)) ki_X7 wM_X1_11 rfl rfl (Nat.le_of_ble_eq_true rfl) (RM.of rfl) (dk dt_X1_init 18 rfl) ?_
  refine g_cast (L' := L ++ ob 1 [.ref (B + (7)), .ref (B + (9)), .null, .null, .null, .null, .null, .null, .null, .int 0, .null] :: ((ceF B E z0 (7) (shRow (7) 12) ++ ceF B E z0 (9) (shRow (9) 12)) ++ ceF B E z0 (11) (shRow (11) 12))) (List.append_assoc _ _ _) ?_
  refine g_put (pc := 40) h hin ci1 hL (j := 2) (Nat.le_of_ble_eq_true rfl) wF_X1_23 rfl rfl rfl (Nat.le_of_ble_eq_true rfl) (dk dt_X1_init 19 rfl) ?_
  refine v_aload_n (pc := 43) h (dk dt_X1_init 20 rfl) rfl ?_
  have hl50 : (L ++ ob 1 [.ref (B + (7)), .ref (B + (9)), .ref (B + (11)), .null, .null, .null, .null, .null, .null, .int 0, .null] :: ((ceF B E z0 (7) (shRow (7) 12) ++ ceF B E z0 (9) (shRow (9) 12)) ++ ceF B E z0 (11) (shRow (11) 12))).length = 13 := by rw [List.length_append, hL]; rfl
  refine g_new (pc := 44) h ci7 wL_X1_9 wN_X7 wI_X7 zf7_ok ⟨Nat.le_of_ble_eq_true rfl, Nat.le_of_ble_eq_true rfl⟩ (dk dt_X1_init 21 rfl) hl50 ?_
  refine v_dup (pc := 47) h (dk dt_X1_init 22 rfl) rfl ?_
  refine v_bipush (pc := 48) h (dk dt_X1_init 23 rfl) rfl ?_
  refine g_call (pc := 50) h hN (cg_7 h.quiet (o := 13) (len := 12) (z := 12) hl50 rfl (Nat.le_of_ble_eq_true rfl)) ki_X7 wM_X1_11 rfl rfl (Nat.le_of_ble_eq_true rfl) (RM.of rfl) (dk dt_X1_init 24 rfl) ?_
  refine g_cast (L' := L ++ ob 1 [.ref (B + (7)), .ref (B + (9)), .ref (B + (11)), .null, .null, .null, .null, .null, .null, .int 0, .null] :: (((ceF B E z0 (7) (shRow (7) 12) ++ ceF B E z0 (9) (shRow (9) 12)) ++ ceF B E z0 (11) (shRow (11) 12)) ++ ceF B E z0 (13) (shRow (13) 12))) (List.append_assoc _ _ _) ?_
  refine g_put (pc := 53) h hin ci1 hL (j := 10) (Nat.le_of_ble_eq_true rfl) wF_X1_26 rfl rfl rfl (Nat.le_of_ble_eq_true rfl) (dk dt_X1_init 25 rfl) ?_
  refine v_aload_n (pc := 56) h (dk dt_X1_init 26 rfl) rfl ?_
  have hl63 : (L ++ ob 1 [.ref (B + (7)), .ref (B + (9)), .ref (B + (11)), .null, .null, .null, .null, .null, .null, .int 0, .ref (B + (13))] :: (((ceF B E z0 (7) (shRow (7) 12) ++ ceF B E z0 (9) (shRow (9) 12)) ++ ceF B E z0 (11) (shRow (11) 12)) ++ ceF B E z0 (13) (shRow (13) 12))).length = 15 := by rw [List.length_append, hL]; rfl
  refine g_new (pc := 57) h ci7 wL_X1_9 wN_X7 wI_X7 zf7_ok ⟨Nat.le_of_ble_eq_true rfl, Nat.le_of_ble_eq_true rfl⟩ (dk dt_X1_init 27 rfl) hl63 ?_
  refine v_dup (pc := 60) h (dk dt_X1_init 28 rfl) rfl ?_
  refine v_bipush (pc := 61) h (dk dt_X1_init 29 rfl) rfl ?_
  refine g_call (pc := 63) h hN (cg_7 h.quiet (o := 15) (len := 12) (z := 12) hl63 rfl (Nat.le_of_ble_eq_true rfl)) ki_X7 wM_X1_11 rfl rfl (Nat.le_of_ble_eq_true rfl) (RM.of rfl) (dk dt_X1_init 30 rfl) ?_
  refine g_cast (L' := L ++ ob 1 [.ref (B + (7)), .ref (B + (9)), .ref (B + (11)), .null, .null, .null, .null, .null, .null, .int 0, .ref (B + (13))] :: ((((ceF B E z0 (7) (shRow (7) 12) ++ ceF B E z0 (9) (shRow (9) 12)) ++ ceF B E z0 (11) (shRow (11) 12)) ++ ceF B E z0 (13) (shRow (13) 12)) ++ ceF B E z0 (15) (shRow (15) 12))) (List.append_assoc _ _ _) ?_
  refine g_put (pc := 66) h hin ci1 hL (j := 3) (Nat.le_of_ble_eq_true rfl) wF_X1_29 rfl rfl rfl (Nat.le_of_ble_eq_true rfl) (dk dt_X1_init 31 rfl) ?_
  refine v_aload_n (pc := 69) h (dk dt_X1_init 32 rfl) rfl ?_
  have hl76 : (L ++ ob 1 [.ref (B + (7)), .ref (B + (9)), .ref (B + (11)), .ref (B + (15)), .null, .null, .null, .null, .null, .int 0, .ref (B + (13))] :: ((((ceF B E z0 (7) (shRow (7) 12) ++ ceF B E z0 (9) (shRow (9) 12)) ++ ceF B E z0 (11) (shRow (11) 12)) ++ ceF B E z0 (13) (shRow (13) 12)) ++ ceF B E z0 (15) (shRow (15) 12))).length = 17 := by rw [List.length_append, hL]; rfl
  refine g_new (pc := 70) h ci7 wL_X1_9 wN_X7 wI_X7 zf7_ok ⟨Nat.le_of_ble_eq_true rfl, Nat.le_of_ble_eq_true rfl⟩ (dk dt_X1_init 33 rfl) hl76 ?_
  refine v_dup (pc := 73) h (dk dt_X1_init 34 rfl) rfl ?_
  refine v_bipush (pc := 74) h (dk dt_X1_init 35 rfl) rfl ?_
  refine g_call (pc := 76) h hN (cg_7 h.quiet (o := 17) (len := 12) (z := 12) hl76 rfl (Nat.le_of_ble_eq_true rfl)) ki_X7 wM_X1_11 rfl rfl (Nat.le_of_ble_eq_true rfl) (RM.of rfl) (dk dt_X1_init 36 rfl) ?_
  refine g_cast (L' := L ++ ob 1 [.ref (B + (7)), .ref (B + (9)), .ref (B + (11)), .ref (B + (15)), .null, .null, .null, .null, .null, .int 0, .ref (B + (13))] :: (((((ceF B E z0 (7) (shRow (7) 12) ++ ceF B E z0 (9) (shRow (9) 12)) ++ ceF B E z0 (11) (shRow (11) 12)) ++ ceF B E z0 (13) (shRow (13) 12)) ++ ceF B E z0 (15) (shRow (15) 12)) ++ ceF B E z0 (17) (shRow (17) 12))) (List.append_assoc _ _ _) ?_
  refine g_put (pc := 79) h hin ci1 hL (j := 4) (Nat.le_of_ble_eq_true rfl) wF_X1_32 rfl rfl rfl (Nat.le_of_ble_eq_true rfl) (dk dt_X1_init 37 rfl) ?_
  refine v_aload_n (pc := 82) h (dk dt_X1_init 38 rfl) rfl ?_
  have hl89 : (L ++ ob 1 [.ref (B + (7)), .ref (B + (9)), .ref (B + (11)), .ref (B + (15)), .ref (B + (17)), .null, .null, .null, .null, .int 0, .ref (B + (13))] :: (((((ceF B E z0 (7) (shRow (7) 12) ++ ceF B E z0 (9) (shRow (9) 12)) ++ ceF B E z0 (11) (shRow (11) 12)) ++ ceF B E z0 (13) (shRow (13) 12)) ++ ceF B E z0 (15) (shRow (15) 12)) ++ ceF B E z0 (17) (shRow (17) 12))).length = 19 := by rw [List.length_append, hL]; rfl
  refine g_new (pc := 83) h ci7 wL_X1_9 wN_X7 wI_X7 zf7_ok ⟨Nat.le_of_ble_eq_true rfl, Nat.le_of_ble_eq_true rfl⟩ (dk dt_X1_init 39 rfl) hl89 ?_
  refine v_dup (pc := 86) h (dk dt_X1_init 40 rfl) rfl ?_
  refine v_bipush (pc := 87) h (dk dt_X1_init 41 rfl) rfl ?_
  refine g_call (pc := 89) h hN (cg_7 h.quiet (o := 19) (len := 12) (z := 12) hl89 rfl (Nat.le_of_ble_eq_true rfl)) ki_X7 wM_X1_11 rfl rfl (Nat.le_of_ble_eq_true rfl) (RM.of rfl) (dk dt_X1_init 42 rfl) ?_
  refine g_cast (L' := L ++ ob 1 [.ref (B + (7)), .ref (B + (9)), .ref (B + (11)), .ref (B + (15)), .ref (B + (17)), .null, .null, .null, .null, .int 0, .ref (B + (13))] :: ((((((ceF B E z0 (7) (shRow (7) 12) ++ ceF B E z0 (9) (shRow (9) 12)) ++ ceF B E z0 (11) (shRow (11) 12)) ++ ceF B E z0 (13) (shRow (13) 12)) ++ ceF B E z0 (15) (shRow (15) 12)) ++ ceF B E z0 (17) (shRow (17) 12)) ++ ceF B E z0 (19) (shRow (19) 12))) (List.append_assoc _ _ _) ?_
  refine g_put (pc := 92) h hin ci1 hL (j := 5) (Nat.le_of_ble_eq_true rfl) wF_X1_35 rfl rfl rfl (Nat.le_of_ble_eq_true rfl) (dk dt_X1_init 43 rfl) ?_
  refine v_aload_n (pc := 95) h (dk dt_X1_init 44 rfl) rfl ?_
  have hl102 : (L ++ ob 1 [.ref (B + (7)), .ref (B + (9)), .ref (B + (11)), .ref (B + (15)), .ref (B + (17)), .ref (B + (19)), .null, .null, .null, .int 0, .ref (B + (13))] :: ((((((ceF B E z0 (7) (shRow (7) 12) ++ ceF B E z0 (9) (shRow (9) 12)) ++ ceF B E z0 (11) (shRow (11) 12)) ++ ceF B E z0 (13) (shRow (13) 12)) ++ ceF B E z0 (15) (shRow (15) 12)) ++ ceF B E z0 (17) (shRow (17) 12)) ++ ceF B E z0 (19) (shRow (19) 12))).length = 21 := by rw [List.length_append, hL]; rfl
  refine g_new (pc := 96) h ci7 wL_X1_9 wN_X7 wI_X7 zf7_ok ⟨Nat.le_of_ble_eq_true rfl, Nat.le_of_ble_eq_true rfl⟩ (dk dt_X1_init 45 rfl) hl102 ?_
  refine v_dup (pc := 99) h (dk dt_X1_init 46 rfl) rfl ?_
  refine v_bipush (pc := 100) h (dk dt_X1_init 47 rfl) rfl ?_
  refine g_call (pc := 102) h hN (cg_7 h.quiet (o := 21) (len := 36) (z := 36) hl102 rfl (Nat.le_of_ble_eq_true rfl)) ki_X7 wM_X1_11 rfl rfl (Nat.le_of_ble_eq_true rfl) (RM.of rfl) (dk dt_X1_init 48 rfl) ?_
  refine g_cast (L' := L ++ ob 1 [.ref (B + (7)), .ref (B + (9)), .ref (B + (11)), .ref (B + (15)), .ref (B + (17)), .ref (B + (19)), .null, .null, .null, .int 0, .ref (B + (13))] :: (((((((ceF B E z0 (7) (shRow (7) 12) ++ ceF B E z0 (9) (shRow (9) 12)) ++ ceF B E z0 (11) (shRow (11) 12)) ++ ceF B E z0 (13) (shRow (13) 12)) ++ ceF B E z0 (15) (shRow (15) 12)) ++ ceF B E z0 (17) (shRow (17) 12)) ++ ceF B E z0 (19) (shRow (19) 12)) ++ ceF B E z0 (21) (shRow (21) 36))) (List.append_assoc _ _ _) ?_
  refine g_put (pc := 105) h hin ci1 hL (j := 6) (Nat.le_of_ble_eq_true rfl) wF_X1_38 rfl rfl rfl (Nat.le_of_ble_eq_true rfl) (dk dt_X1_init 49 rfl) ?_
  refine v_aload_n (pc := 108) h (dk dt_X1_init 50 rfl) rfl ?_
  have hl115 : (L ++ ob 1 [.ref (B + (7)), .ref (B + (9)), .ref (B + (11)), .ref (B + (15)), .ref (B + (17)), .ref (B + (19)), .ref (B + (21)), .null, .null, .int 0, .ref (B + (13))] :: (((((((ceF B E z0 (7) (shRow (7) 12) ++ ceF B E z0 (9) (shRow (9) 12)) ++ ceF B E z0 (11) (shRow (11) 12)) ++ ceF B E z0 (13) (shRow (13) 12)) ++ ceF B E z0 (15) (shRow (15) 12)) ++ ceF B E z0 (17) (shRow (17) 12)) ++ ceF B E z0 (19) (shRow (19) 12)) ++ ceF B E z0 (21) (shRow (21) 36))).length = 23 := by rw [List.length_append, hL]; rfl
  refine g_new (pc := 109) h ci7 wL_X1_9 wN_X7 wI_X7 zf7_ok ⟨Nat.le_of_ble_eq_true rfl, Nat.le_of_ble_eq_true rfl⟩ (dk dt_X1_init 51 rfl) hl115 ?_
  refine v_dup (pc := 112) h (dk dt_X1_init 52 rfl) rfl ?_
  refine v_bipush (pc := 113) h (dk dt_X1_init 53 rfl) rfl ?_
  refine g_call (pc := 115) h hN (cg_7 h.quiet (o := 23) (len := 36) (z := 36) hl115 rfl (Nat.le_of_ble_eq_true rfl)) ki_X7 wM_X1_11 rfl rfl (Nat.le_of_ble_eq_true rfl) (RM.of rfl) (dk dt_X1_init 54 rfl) ?_
  refine g_cast (L' := L ++ ob 1 [.ref (B + (7)), .ref (B + (9)), .ref (B + (11)), .ref (B + (15)), .ref (B + (17)), .ref (B + (19)), .ref (B + (21)), .null, .null, .int 0, .ref (B + (13))] :: ((((((((ceF B E z0 (7) (shRow (7) 12) ++ ceF B E z0 (9) (shRow (9) 12)) ++ ceF B E z0 (11) (shRow (11) 12)) ++ ceF B E z0 (13) (shRow (13) 12)) ++ ceF B E z0 (15) (shRow (15) 12)) ++ ceF B E z0 (17) (shRow (17) 12)) ++ ceF B E z0 (19) (shRow (19) 12)) ++ ceF B E z0 (21) (shRow (21) 36)) ++ ceF B E z0 (23) (shRow (23) 36))) (List.append_assoc _ _ _) ?_
  refine g_put (pc := 118) h hin ci1 hL (j := 7) (Nat.le_of_ble_eq_true rfl) wF_X1_41 rfl rfl rfl (Nat.le_of_ble_eq_true rfl) (dk dt_X1_init 55 rfl) ?_
  refine v_aload_n (pc := 121) h (dk dt_X1_init 56 rfl) rfl ?_
  have hl128 : (L ++ ob 1 [.ref (B + (7)), .ref (B + (9)), .ref (B + (11)), .ref (B + (15)), .ref (B + (17)), .ref (B + (19)), .ref (B + (21)), .ref (B + (23)), .null, .int 0, .ref (B + (13))] :: ((((((((ceF B E z0 (7) (shRow (7) 12) ++ ceF B E z0 (9) (shRow (9) 12)) ++ ceF B E z0 (11) (shRow (11) 12)) ++ ceF B E z0 (13) (shRow (13) 12)) ++ ceF B E z0 (15) (shRow (15) 12)) ++ ceF B E z0 (17) (shRow (17) 12)) ++ ceF B E z0 (19) (shRow (19) 12)) ++ ceF B E z0 (21) (shRow (21) 36)) ++ ceF B E z0 (23) (shRow (23) 36))).length = 25 := by rw [List.length_append, hL]; rfl
  refine g_new (pc := 122) h ci7 wL_X1_9 wN_X7 wI_X7 zf7_ok ⟨Nat.le_of_ble_eq_true rfl, Nat.le_of_ble_eq_true rfl⟩ (dk dt_X1_init 57 rfl) hl128 ?_
  refine v_dup (pc := 125) h (dk dt_X1_init 58 rfl) rfl ?_
  refine v_bipush (pc := 126) h (dk dt_X1_init 59 rfl) rfl ?_
  refine g_call (pc := 128) h hN (cg_7 h.quiet (o := 25) (len := 36) (z := 36) hl128 rfl (Nat.le_of_ble_eq_true rfl)) ki_X7 wM_X1_11 rfl rfl (Nat.le_of_ble_eq_true rfl) (RM.of rfl) (dk dt_X1_init 60 rfl) ?_
  refine g_cast (L' := L ++ ob 1 [.ref (B + (7)), .ref (B + (9)), .ref (B + (11)), .ref (B + (15)), .ref (B + (17)), .ref (B + (19)), .ref (B + (21)), .ref (B + (23)), .null, .int 0, .ref (B + (13))] :: (((((((((ceF B E z0 (7) (shRow (7) 12) ++ ceF B E z0 (9) (shRow (9) 12)) ++ ceF B E z0 (11) (shRow (11) 12)) ++ ceF B E z0 (13) (shRow (13) 12)) ++ ceF B E z0 (15) (shRow (15) 12)) ++ ceF B E z0 (17) (shRow (17) 12)) ++ ceF B E z0 (19) (shRow (19) 12)) ++ ceF B E z0 (21) (shRow (21) 36)) ++ ceF B E z0 (23) (shRow (23) 36)) ++ ceF B E z0 (25) (shRow (25) 36))) (List.append_assoc _ _ _) ?_
  refine g_put (pc := 131) h hin ci1 hL (j := 8) (Nat.le_of_ble_eq_true rfl) wF_X1_44 rfl rfl rfl (Nat.le_of_ble_eq_true rfl) (dk dt_X1_init 61 rfl) ?_
  refine v_aload_n (pc := 134) h (dk dt_X1_init 62 rfl) rfl ?_
  refine v_iconst (pc := 135) h (dk dt_X1_init 63 rfl) ?_
  refine g_put (pc := 136) h hin ci1 hL (j := 9) (Nat.le_of_ble_eq_true rfl) wF_X1_47 rfl rfl rfl (Nat.le_of_ble_eq_true rfl) (dk dt_X1_init 64 rfl) ?_
  exact g_ret (pc := 139) h r (dk dt_X1_init 65 rfl) (Nat.le_of_ble_eq_true rfl) (Nat.le_of_ble_eq_true rfl)
abbrev rg_8 : Room := { frames := 2, cells := 6, slots := 18, locals := 41 }
theorem cg_8 (hst : l.stackTraces = false) (hL : L.length = 27) :
    CtG l B D E yX8_init (.code yX8_init cX8_init 1 none) (rg_8) [.ref (B + 27)] (L ++ [ob 8 zf8]) (L ++ ceF B E z0 27 qTasks) := by
  refine ctG_of (own := RX8) (lv := [(0, _)]) hst (by decide) rfl rfl rfl (Nat.le_of_ble_eq_true rfl) fun a h r hin hN => ?_
  refine v_aload_n (pc := 0) h (dk dt_X8_init 0 rfl) rfl ?_
  refine g_obj (pc := 1) h wM_X8_3 wO2 wO3 (Nat.le_of_ble_eq_true rfl) ⟨Nat.le_of_ble_eq_true rfl, Nat.le_of_ble_eq_true rfl⟩ (dk dt_X8_init 1 rfl) ?_
  refine v_aload_n (pc := 4) h (dk dt_X8_init 2 rfl) rfl ?_
  have hl10 : (L ++ ob 8 [.null, .null, .null, .int 0] :: []).length = 28 := by rw [List.length_append, hL]; rfl
  refine g_new (pc := 5) h ci7 wL_X8_9 wN_X7 wI_X7 zf7_ok ⟨Nat.le_of_ble_eq_true rfl, Nat.le_of_ble_eq_true rfl⟩ (dk dt_X8_init 3 rfl) hl10 ?_
  refine v_dup (pc := 8) h (dk dt_X8_init 4 rfl) rfl ?_
  refine v_iconst (pc := 9) h (dk dt_X8_init 5 rfl) ?_
  refine g_call (pc := 10) h hN (cg_7 h.quiet (o := 28) (len := 5) (z := 5) hl10 rfl (Nat.le_of_ble_eq_true rfl)) ki_X7 wM_X8_11 rfl rfl (Nat.le_of_ble_eq_true rfl) (RM.of rfl) (dk dt_X8_init 6 rfl) ?_
  refine g_cast (L' := L ++ ob 8 [.null, .null, .null, .int 0] :: ceF B E z0 (28) (shRow (28) 5)) (List.append_assoc _ _ _) ?_
  refine g_put (pc := 13) h hin ci8 hL (j := 0) (Nat.le_of_ble_eq_true rfl) wF_X8_14 rfl rfl rfl (Nat.le_of_ble_eq_true rfl) (dk dt_X8_init 7 rfl) ?_
  refine v_aload_n (pc := 16) h (dk dt_X8_init 8 rfl) rfl ?_
  have hl22 : (L ++ ob 8 [.ref (B + (28)), .null, .null, .int 0] :: ceF B E z0 (28) (shRow (28) 5)).length = 30 := by rw [List.length_append, hL]; rfl
  refine g_new (pc := 17) h ci7 wL_X8_9 wN_X7 wI_X7 zf7_ok ⟨Nat.le_of_ble_eq_true rfl, Nat.le_of_ble_eq_true rfl⟩ (dk dt_X8_init 9 rfl) hl22 ?_
  refine v_dup (pc := 20) h (dk dt_X8_init 10 rfl) rfl ?_
  refine v_iconst (pc := 21) h (dk dt_X8_init 11 rfl) ?_
  refine g_call (pc := 22) h hN (cg_7 h.quiet (o := 30) (len := 5) (z := 5) hl22 rfl (Nat.le_of_ble_eq_true rfl)) ki_X7 wM_X8_11 rfl rfl (Nat.le_of_ble_eq_true rfl) (RM.of rfl) (dk dt_X8_init 12 rfl) ?_
  refine g_cast (L' := L ++ ob 8 [.ref (B + (28)), .null, .null, .int 0] :: (ceF B E z0 (28) (shRow (28) 5) ++ ceF B E z0 (30) (shRow (30) 5))) (List.append_assoc _ _ _) ?_
  refine g_put (pc := 25) h hin ci8 hL (j := 1) (Nat.le_of_ble_eq_true rfl) wF_X8_20 rfl rfl rfl (Nat.le_of_ble_eq_true rfl) (dk dt_X8_init 13 rfl) ?_
  refine v_aload_n (pc := 28) h (dk dt_X8_init 14 rfl) rfl ?_
  have hl34 : (L ++ ob 8 [.ref (B + (28)), .ref (B + (30)), .null, .int 0] :: (ceF B E z0 (28) (shRow (28) 5) ++ ceF B E z0 (30) (shRow (30) 5))).length = 32 := by rw [List.length_append, hL]; rfl
  refine g_new (pc := 29) h ci7 wL_X8_9 wN_X7 wI_X7 zf7_ok ⟨Nat.le_of_ble_eq_true rfl, Nat.le_of_ble_eq_true rfl⟩ (dk dt_X8_init 15 rfl) hl34 ?_
  refine v_dup (pc := 32) h (dk dt_X8_init 16 rfl) rfl ?_
  refine v_iconst (pc := 33) h (dk dt_X8_init 17 rfl) ?_
  refine g_call (pc := 34) h hN (cg_7 h.quiet (o := 32) (len := 5) (z := 5) hl34 rfl (Nat.le_of_ble_eq_true rfl)) ki_X7 wM_X8_11 rfl rfl (Nat.le_of_ble_eq_true rfl) (RM.of rfl) (dk dt_X8_init 18 rfl) ?_
  refine g_cast (L' := L ++ ob 8 [.ref (B + (28)), .ref (B + (30)), .null, .int 0] :: ((ceF B E z0 (28) (shRow (28) 5) ++ ceF B E z0 (30) (shRow (30) 5)) ++ ceF B E z0 (32) (shRow (32) 5))) (List.append_assoc _ _ _) ?_
  refine g_put (pc := 37) h hin ci8 hL (j := 2) (Nat.le_of_ble_eq_true rfl) wF_X8_23 rfl rfl rfl (Nat.le_of_ble_eq_true rfl) (dk dt_X8_init 19 rfl) ?_
  refine v_aload_n (pc := 40) h (dk dt_X8_init 20 rfl) rfl ?_
  refine v_iconst (pc := 41) h (dk dt_X8_init 21 rfl) ?_
  refine g_put (pc := 42) h hin ci8 hL (j := 3) (Nat.le_of_ble_eq_true rfl) wF_X8_26 rfl rfl rfl (Nat.le_of_ble_eq_true rfl) (dk dt_X8_init 22 rfl) ?_
  exact g_ret (pc := 45) h r (dk dt_X8_init 23 rfl) (Nat.le_of_ble_eq_true rfl) (Nat.le_of_ble_eq_true rfl)
def wyL : va_E := ob 9 [iI 2, iI 0, iI 20, iI 1, iI 0]
abbrev rg_9 : Room := { frames := 1, cells := 0, slots := 0, locals := 20 }
theorem cg_9 (hst : l.stackTraces = false) (hL : L.length = o) :
    CtG l B D E yX9_init (.code yX9_init cX9_init 1 none) (rg_9) [.ref (B + o)] (L ++ [ob 9 zf9]) (L ++ [wyL]) := by
  refine ctG_of (own := RX9) (lv := [(0, _)]) hst (by decide) rfl rfl rfl (Nat.le_of_ble_eq_true rfl) fun a h r hin hN => ?_
  refine v_aload_n (pc := 0) h (dk dt_X9_init 0 rfl) rfl ?_
  refine g_obj (pc := 1) h wM_X9_1 wO2 wO3 (Nat.le_of_ble_eq_true rfl) ⟨Nat.le_of_ble_eq_true rfl, Nat.le_of_ble_eq_true rfl⟩ (dk dt_X9_init 1 rfl) ?_
  refine v_aload_n (pc := 4) h (dk dt_X9_init 2 rfl) rfl ?_
  refine v_iconst (pc := 5) h (dk dt_X9_init 3 rfl) ?_
  refine g_put (pc := 6) h hin ci9 hL (j := 0) (Nat.le_of_ble_eq_true rfl) wF_X9_7 rfl rfl rfl (Nat.le_of_ble_eq_true rfl) (dk dt_X9_init 4 rfl) ?_
  refine v_aload_n (pc := 9) h (dk dt_X9_init 5 rfl) rfl ?_
  refine v_iconst (pc := 10) h (dk dt_X9_init 6 rfl) ?_
  refine g_put (pc := 11) h hin ci9 hL (j := 1) (Nat.le_of_ble_eq_true rfl) wF_X9_13 rfl rfl rfl (Nat.le_of_ble_eq_true rfl) (dk dt_X9_init 7 rfl) ?_
  refine v_aload_n (pc := 14) h (dk dt_X9_init 8 rfl) rfl ?_
  refine v_bipush (pc := 15) h (dk dt_X9_init 9 rfl) rfl ?_
  refine g_put (pc := 17) h hin ci9 hL (j := 2) (Nat.le_of_ble_eq_true rfl) wF_X9_16 rfl rfl rfl (Nat.le_of_ble_eq_true rfl) (dk dt_X9_init 10 rfl) ?_
  refine v_aload_n (pc := 20) h (dk dt_X9_init 11 rfl) rfl ?_
  refine v_iconst (pc := 21) h (dk dt_X9_init 12 rfl) ?_
  refine g_put (pc := 22) h hin ci9 hL (j := 3) (Nat.le_of_ble_eq_true rfl) wF_X9_19 rfl rfl rfl (Nat.le_of_ble_eq_true rfl) (dk dt_X9_init 13 rfl) ?_
  refine v_aload_n (pc := 25) h (dk dt_X9_init 14 rfl) rfl ?_
  refine v_iconst (pc := 26) h (dk dt_X9_init 15 rfl) ?_
  refine g_put (pc := 27) h hin ci9 hL (j := 4) (Nat.le_of_ble_eq_true rfl) wF_X9_22 rfl rfl rfl (Nat.le_of_ble_eq_true rfl) (dk dt_X9_init 16 rfl) ?_
  exact g_ret (pc := 30) h r (dk dt_X9_init 17 rfl) (Nat.le_of_ble_eq_true rfl) (Nat.le_of_ble_eq_true rfl)
end
