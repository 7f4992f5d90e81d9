/-! ===== constructors: by program (geninit.py), 9g.init3 ===== -/
section
variable {l : Launch} {B : Nat} {D : va_G} {E : Nat → ClassId} {L : List va_E} {o : Nat}
abbrev rg_5 : Room := { frames := 3, cells := 7, slots := 46, locals := 62 }
theorem cg_5 (hst : l.stackTraces = false) (hL : L.length = 122) :
    CtG l B D E yX5_init (.code yX5_init cX5_init 2 none) (rg_5) [.ref (B + 122), .ref (B + 6)] (L ++ [ob 5 zf5]) (L ++ ceF B E z0 122 qPair) := by
  refine ctG_of (own := RX5) (lv := [(0, _), (1, _)]) hst (by decide) rfl rfl rfl (Nat.le_of_ble_eq_true rfl) fun a h r hin hN => ?_
  refine v_aload_n (pc := 0) h (dk dt_X5_init 0 rfl) rfl ?_
  refine g_obj (pc := 1) h wM_X5_3 wO2 wO3 (Nat.le_of_ble_eq_true rfl) ⟨Nat.le_of_ble_eq_true rfl, Nat.le_of_ble_eq_true rfl⟩ (dk dt_X5_init 1 rfl) ?_
  refine v_aload_n (pc := 4) h (dk dt_X5_init 2 rfl) rfl ?_
  refine v_aload_n (pc := 5) h (dk dt_X5_init 3 rfl) rfl ?_
  refine g_put (pc := 6) h hin ci5 hL (j := 1) (Nat.le_of_ble_eq_true rfl) wF_X5_9 rfl rfl rfl (Nat.le_of_ble_eq_true rfl) (dk dt_X5_init 4 rfl) ?_
  refine v_aload_n (pc := 9) h (dk dt_X5_init 5 rfl) rfl ?_
  have hl15 : (L ++ ob 5 [.null, .ref (B + 6)] :: []).length = 123 := by rw [List.length_append, hL]; rfl
  refine g_new (pc := 10) h ci6 wL_X5_15 wN_X6 wI_X6 zf6_ok ⟨Nat.le_of_ble_eq_true rfl, Nat.le_of_ble_eq_true rfl⟩ (dk dt_X5_init 6 rfl) hl15 ?_
  refine v_dup (pc := 13) h (dk dt_X5_init 7 rfl) rfl ?_
  refine v_aload_n (pc := 14) h (dk dt_X5_init 8 rfl) rfl ?_
  refine g_call (pc := 15) h hN (cg_6 h.quiet (o := 123) hl15) ki_X6 wM_X5_17 rfl rfl (Nat.le_of_ble_eq_true rfl) (RM.of rfl) (dk dt_X5_init 9 rfl) ?_
  refine g_cast (L' := L ++ ob 5 [.null, .ref (B + 6)] :: ceF B E z0 (123) (qProg (123))) (List.append_assoc _ _ _) ?_
  refine g_put (pc := 18) h hin ci5 hL (j := 0) (Nat.le_of_ble_eq_true rfl) wF_X5_20 rfl rfl rfl (Nat.le_of_ble_eq_true rfl) (dk dt_X5_init 10 rfl) ?_
  exact g_ret (pc := 21) h r (dk dt_X5_init 11 rfl) (Nat.le_of_ble_eq_true rfl) (Nat.le_of_ble_eq_true rfl)
def hoL (B : Nat) (E : Nat → ClassId) : List va_E := ob 11 [.ref (B + (6)), .ref (B + (27)), .ref (B + (34)), .ref (B + (35)), .ref (B + (64)), .ref (B + (93)), .ref (B + (122)), iI 0] :: ((((((ceF B E z0 (6) (qJobs) ++ ceF B E z0 (27) (qTasks)) ++ [wyL]) ++ wkL B E (35)) ++ wkL B E (64)) ++ wkL B E (93)) ++ ceF B E z0 (122) (qPair))
abbrev rg_11 : Room := { frames := 4, cells := 124, slots := 7722, locals := 85 }
theorem cg_11 (hst : l.stackTraces = false) (hL : L.length = 5) :
    CtG l B D E yX11_init (.code yX11_init cX11_init 1 none) (rg_11) [.ref (B + 5)] (L ++ [ob 11 zf11]) (L ++ hoL B E) := by
  refine ctG_of (own := RX11) (lv := [(0, _)]) hst (by decide) rfl rfl rfl (Nat.le_of_ble_eq_true rfl) fun a h r hin hN => ?_
  refine v_aload_n (pc := 0) h (dk dt_X11_init 0 rfl) rfl ?_
  refine g_obj (pc := 1) h wM_X11_1 wO2 wO3 (Nat.le_of_ble_eq_true rfl) ⟨Nat.le_of_ble_eq_true rfl, Nat.le_of_ble_eq_true rfl⟩ (dk dt_X11_init 1 rfl) ?_
  refine v_aload_n (pc := 4) h (dk dt_X11_init 2 rfl) rfl ?_
  have hl9 : (L ++ ob 11 [.null, .null, .null, .null, .null, .null, .null, .int 0] :: []).length = 6 := by rw [List.length_append, hL]; rfl
  refine g_new (pc := 5) h ci1 wL_X11_7 wN_X1 wI_X1 zf1_ok ⟨Nat.le_of_ble_eq_true rfl, Nat.le_of_ble_eq_true rfl⟩ (dk dt_X11_init 3 rfl) hl9 ?_
  refine v_dup (pc := 8) h (dk dt_X11_init 4 rfl) rfl ?_
  refine g_callN (pc := 9) h hN (cg_1 h.quiet hl9) ki_X1 (host := "Slicehouse") (by decide) rfl rfl (Nat.le_of_ble_eq_true rfl) (RM.of rfl) (dk dt_X11_init 5 rfl) ?_
  refine g_cast (L' := L ++ ob 11 [.null, .null, .null, .null, .null, .null, .null, .int 0] :: ceF B E z0 (6) (qJobs)) (List.append_assoc _ _ _) ?_
  refine g_put (pc := 12) h hin ci11 hL (j := 0) (Nat.le_of_ble_eq_true rfl) wF_X11_10 rfl rfl rfl (Nat.le_of_ble_eq_true rfl) (dk dt_X11_init 6 rfl) ?_
  refine v_aload_n (pc := 15) h (dk dt_X11_init 7 rfl) rfl ?_
  have hl20 : (L ++ ob 11 [.ref (B + (6)), .null, .null, .null, .null, .null, .null, .int 0] :: ceF B E z0 (6) (qJobs)).length = 27 := by rw [List.length_append, hL]; rfl
  refine g_new (pc := 16) h ci8 wL_X11_16 wN_X8 wI_X8 zf8_ok ⟨Nat.le_of_ble_eq_true rfl, Nat.le_of_ble_eq_true rfl⟩ (dk dt_X11_init 8 rfl) hl20 ?_
  refine v_dup (pc := 19) h (dk dt_X11_init 9 rfl) rfl ?_
  refine g_callN (pc := 20) h hN (cg_8 h.quiet hl20) ki_X8 (host := "Slicehouse") (by decide) rfl rfl (Nat.le_of_ble_eq_true rfl) (RM.of rfl) (dk dt_X11_init 10 rfl) ?_
  refine g_cast (L' := L ++ ob 11 [.ref (B + (6)), .null, .null, .null, .null, .null, .null, .int 0] :: (ceF B E z0 (6) (qJobs) ++ ceF B E z0 (27) (qTasks))) (List.append_assoc _ _ _) ?_
  refine g_put (pc := 23) h hin ci11 hL (j := 1) (Nat.le_of_ble_eq_true rfl) wF_X11_19 rfl rfl rfl (Nat.le_of_ble_eq_true rfl) (dk dt_X11_init 11 rfl) ?_
  refine v_aload_n (pc := 26) h (dk dt_X11_init 12 rfl) rfl ?_
  have hl31 : (L ++ ob 11 [.ref (B + (6)), .ref (B + (27)), .null, .null, .null, .null, .null, .int 0] :: (ceF B E z0 (6) (qJobs) ++ ceF B E z0 (27) (qTasks))).length = 34 := by rw [List.length_append, hL]; rfl
  refine g_new (pc := 27) h ci9 wL_X11_23 wN_X9 wI_X9 zf9_ok ⟨Nat.le_of_ble_eq_true rfl, Nat.le_of_ble_eq_true rfl⟩ (dk dt_X11_init 13 rfl) hl31 ?_
  refine v_dup (pc := 30) h (dk dt_X11_init 14 rfl) rfl ?_
  refine g_callN (pc := 31) h hN (cg_9 h.quiet (o := 34) hl31) ki_X9 (host := "Slicehouse") (by decide) rfl rfl (Nat.le_of_ble_eq_true rfl) (RM.of rfl) (dk dt_X11_init 15 rfl) ?_
  refine g_cast (L' := L ++ ob 11 [.ref (B + (6)), .ref (B + (27)), .null, .null, .null, .null, .null, .int 0] :: ((ceF B E z0 (6) (qJobs) ++ ceF B E z0 (27) (qTasks)) ++ [wyL])) (List.append_assoc _ _ _) ?_
  refine g_put (pc := 34) h hin ci11 hL (j := 2) (Nat.le_of_ble_eq_true rfl) wF_X11_26 rfl rfl rfl (Nat.le_of_ble_eq_true rfl) (dk dt_X11_init 16 rfl) ?_
  refine v_aload_n (pc := 37) h (dk dt_X11_init 17 rfl) rfl ?_
  have hl50 : (L ++ ob 11 [.ref (B + (6)), .ref (B + (27)), .ref (B + (34)), .null, .null, .null, .null, .int 0] :: ((ceF B E z0 (6) (qJobs) ++ ceF B E z0 (27) (qTasks)) ++ [wyL])).length = 35 := by rw [List.length_append, hL]; rfl
  refine g_new (pc := 38) h ci10 wL_X11_30 wN_X10 wI_X10 zf10_ok ⟨Nat.le_of_ble_eq_true rfl, Nat.le_of_ble_eq_true rfl⟩ (dk dt_X11_init 18 rfl) hl50 ?_
  refine v_dup (pc := 41) h (dk dt_X11_init 19 rfl) rfl ?_
  refine v_aload_n (pc := 42) h (dk dt_X11_init 20 rfl) rfl ?_
  refine g_cast (L' := L ++ ob 11 [.ref (B + (6)), .ref (B + (27)), .ref (B + (34)), .null, .null, .null, .null, .int 0] :: (((ceF B E z0 (6) (qJobs) ++ ceF B E z0 (27) (qTasks)) ++ [wyL]) ++ [ob 10 zf10])) (List.append_assoc _ _ _) ?_
  refine g_get (pc := 43) h ci11 hL (Nat.le_of_ble_eq_true rfl) (j := 0) wF_X11_10 rfl (dk dt_X11_init 21 rfl) ?_
  refine g_cast (L' := (L ++ ob 11 [.ref (B + (6)), .ref (B + (27)), .ref (B + (34)), .null, .null, .null, .null, .int 0] :: ((ceF B E z0 (6) (qJobs) ++ ceF B E z0 (27) (qTasks)) ++ [wyL])) ++ [ob 10 zf10]) (List.append_assoc L (ob 11 [.ref (B + (6)), .ref (B + (27)), .ref (B + (34)), .null, .null, .null, .null, .int 0] :: ((ceF B E z0 (6) (qJobs) ++ ceF B E z0 (27) (qTasks)) ++ [wyL])) [ob 10 zf10]).symm ?_
  refine v_aload_n (pc := 46) h (dk dt_X11_init 22 rfl) rfl ?_
  refine g_cast (L' := L ++ ob 11 [.ref (B + (6)), .ref (B + (27)), .ref (B + (34)), .null, .null, .null, .null, .int 0] :: (((ceF B E z0 (6) (qJobs) ++ ceF B E z0 (27) (qTasks)) ++ [wyL]) ++ [ob 10 zf10])) (List.append_assoc _ _ _) ?_
  refine g_get (pc := 47) h ci11 hL (Nat.le_of_ble_eq_true rfl) (j := 2) wF_X11_26 rfl (dk dt_X11_init 23 rfl) ?_
  refine g_cast (L' := (L ++ ob 11 [.ref (B + (6)), .ref (B + (27)), .ref (B + (34)), .null, .null, .null, .null, .int 0] :: ((ceF B E z0 (6) (qJobs) ++ ceF B E z0 (27) (qTasks)) ++ [wyL])) ++ [ob 10 zf10]) (List.append_assoc L (ob 11 [.ref (B + (6)), .ref (B + (27)), .ref (B + (34)), .null, .null, .null, .null, .int 0] :: ((ceF B E z0 (6) (qJobs) ++ ceF B E z0 (27) (qTasks)) ++ [wyL])) [ob 10 zf10]).symm ?_
  refine g_call (pc := 50) h hN (cg_10 h.quiet (o := 35) hl50) ki_X10 wM_X11_32 rfl rfl (Nat.le_of_ble_eq_true rfl) (RM.of rfl) (dk dt_X11_init 24 rfl) ?_
  refine g_cast (L' := L ++ ob 11 [.ref (B + (6)), .ref (B + (27)), .ref (B + (34)), .null, .null, .null, .null, .int 0] :: (((ceF B E z0 (6) (qJobs) ++ ceF B E z0 (27) (qTasks)) ++ [wyL]) ++ wkL B E (35))) (List.append_assoc _ _ _) ?_
  refine g_put (pc := 53) h hin ci11 hL (j := 3) (Nat.le_of_ble_eq_true rfl) wF_X11_35 rfl rfl rfl (Nat.le_of_ble_eq_true rfl) (dk dt_X11_init 25 rfl) ?_
  refine v_aload_n (pc := 56) h (dk dt_X11_init 26 rfl) rfl ?_
  have hl69 : (L ++ ob 11 [.ref (B + (6)), .ref (B + (27)), .ref (B + (34)), .ref (B + (35)), .null, .null, .null, .int 0] :: (((ceF B E z0 (6) (qJobs) ++ ceF B E z0 (27) (qTasks)) ++ [wyL]) ++ wkL B E (35))).length = 64 := by rw [List.length_append, hL]; rfl
  refine g_new (pc := 57) h ci10 wL_X11_30 wN_X10 wI_X10 zf10_ok ⟨Nat.le_of_ble_eq_true rfl, Nat.le_of_ble_eq_true rfl⟩ (dk dt_X11_init 27 rfl) hl69 ?_
  refine v_dup (pc := 60) h (dk dt_X11_init 28 rfl) rfl ?_
  refine v_aload_n (pc := 61) h (dk dt_X11_init 29 rfl) rfl ?_
  refine g_cast (L' := L ++ ob 11 [.ref (B + (6)), .ref (B + (27)), .ref (B + (34)), .ref (B + (35)), .null, .null, .null, .int 0] :: ((((ceF B E z0 (6) (qJobs) ++ ceF B E z0 (27) (qTasks)) ++ [wyL]) ++ wkL B E (35)) ++ [ob 10 zf10])) (List.append_assoc _ _ _) ?_
  refine g_get (pc := 62) h ci11 hL (Nat.le_of_ble_eq_true rfl) (j := 0) wF_X11_10 rfl (dk dt_X11_init 30 rfl) ?_
  refine g_cast (L' := (L ++ ob 11 [.ref (B + (6)), .ref (B + (27)), .ref (B + (34)), .ref (B + (35)), .null, .null, .null, .int 0] :: (((ceF B E z0 (6) (qJobs) ++ ceF B E z0 (27) (qTasks)) ++ [wyL]) ++ wkL B E (35))) ++ [ob 10 zf10]) (List.append_assoc L (ob 11 [.ref (B + (6)), .ref (B + (27)), .ref (B + (34)), .ref (B + (35)), .null, .null, .null, .int 0] :: (((ceF B E z0 (6) (qJobs) ++ ceF B E z0 (27) (qTasks)) ++ [wyL]) ++ wkL B E (35))) [ob 10 zf10]).symm ?_
  refine v_aload_n (pc := 65) h (dk dt_X11_init 31 rfl) rfl ?_
  refine g_cast (L' := L ++ ob 11 [.ref (B + (6)), .ref (B + (27)), .ref (B + (34)), .ref (B + (35)), .null, .null, .null, .int 0] :: ((((ceF B E z0 (6) (qJobs) ++ ceF B E z0 (27) (qTasks)) ++ [wyL]) ++ wkL B E (35)) ++ [ob 10 zf10])) (List.append_assoc _ _ _) ?_
  refine g_get (pc := 66) h ci11 hL (Nat.le_of_ble_eq_true rfl) (j := 2) wF_X11_26 rfl (dk dt_X11_init 32 rfl) ?_
  refine g_cast (L' := (L ++ ob 11 [.ref (B + (6)), .ref (B + (27)), .ref (B + (34)), .ref (B + (35)), .null, .null, .null, .int 0] :: (((ceF B E z0 (6) (qJobs) ++ ceF B E z0 (27) (qTasks)) ++ [wyL]) ++ wkL B E (35))) ++ [ob 10 zf10]) (List.append_assoc L (ob 11 [.ref (B + (6)), .ref (B + (27)), .ref (B + (34)), .ref (B + (35)), .null, .null, .null, .int 0] :: (((ceF B E z0 (6) (qJobs) ++ ceF B E z0 (27) (qTasks)) ++ [wyL]) ++ wkL B E (35))) [ob 10 zf10]).symm ?_
  refine g_call (pc := 69) h hN (cg_10 h.quiet (o := 64) hl69) ki_X10 wM_X11_32 rfl rfl (Nat.le_of_ble_eq_true rfl) (RM.of rfl) (dk dt_X11_init 33 rfl) ?_
  refine g_cast (L' := L ++ ob 11 [.ref (B + (6)), .ref (B + (27)), .ref (B + (34)), .ref (B + (35)), .null, .null, .null, .int 0] :: ((((ceF B E z0 (6) (qJobs) ++ ceF B E z0 (27) (qTasks)) ++ [wyL]) ++ wkL B E (35)) ++ wkL B E (64))) (List.append_assoc _ _ _) ?_
  refine g_put (pc := 72) h hin ci11 hL (j := 4) (Nat.le_of_ble_eq_true rfl) wF_X11_39 rfl rfl rfl (Nat.le_of_ble_eq_true rfl) (dk dt_X11_init 34 rfl) ?_
  refine v_aload_n (pc := 75) h (dk dt_X11_init 35 rfl) rfl ?_
  have hl88 : (L ++ ob 11 [.ref (B + (6)), .ref (B + (27)), .ref (B + (34)), .ref (B + (35)), .ref (B + (64)), .null, .null, .int 0] :: ((((ceF B E z0 (6) (qJobs) ++ ceF B E z0 (27) (qTasks)) ++ [wyL]) ++ wkL B E (35)) ++ wkL B E (64))).length = 93 := by rw [List.length_append, hL]; rfl
  refine g_new (pc := 76) h ci10 wL_X11_30 wN_X10 wI_X10 zf10_ok ⟨Nat.le_of_ble_eq_true rfl, Nat.le_of_ble_eq_true rfl⟩ (dk dt_X11_init 36 rfl) hl88 ?_
  refine v_dup (pc := 79) h (dk dt_X11_init 37 rfl) rfl ?_
  refine v_aload_n (pc := 80) h (dk dt_X11_init 38 rfl) rfl ?_
  refine g_cast (L' := L ++ ob 11 [.ref (B + (6)), .ref (B + (27)), .ref (B + (34)), .ref (B + (35)), .ref (B + (64)), .null, .null, .int 0] :: (((((ceF B E z0 (6) (qJobs) ++ ceF B E z0 (27) (qTasks)) ++ [wyL]) ++ wkL B E (35)) ++ wkL B E (64)) ++ [ob 10 zf10])) (List.append_assoc _ _ _) ?_
  refine g_get (pc := 81) h ci11 hL (Nat.le_of_ble_eq_true rfl) (j := 0) wF_X11_10 rfl (dk dt_X11_init 39 rfl) ?_
  refine g_cast (L' := (L ++ ob 11 [.ref (B + (6)), .ref (B + (27)), .ref (B + (34)), .ref (B + (35)), .ref (B + (64)), .null, .null, .int 0] :: ((((ceF B E z0 (6) (qJobs) ++ ceF B E z0 (27) (qTasks)) ++ [wyL]) ++ wkL B E (35)) ++ wkL B E (64))) ++ [ob 10 zf10]) (List.append_assoc L (ob 11 [.ref (B + (6)), .ref (B + (27)), .ref (B + (34)), .ref (B + (35)), .ref (B + (64)), .null, .null, .int 0] :: ((((ceF B E z0 (6) (qJobs) ++ ceF B E z0 (27) (qTasks)) ++ [wyL]) ++ wkL B E (35)) ++ wkL B E (64))) [ob 10 zf10]).symm ?_
  refine v_aload_n (pc := 84) h (dk dt_X11_init 40 rfl) rfl ?_
  refine g_cast (L' := L ++ ob 11 [.ref (B + (6)), .ref (B + (27)), .ref (B + (34)), .ref (B + (35)), .ref (B + (64)), .null, .null, .int 0] :: (((((ceF B E z0 (6) (qJobs) ++ ceF B E z0 (27) (qTasks)) ++ [wyL]) ++ wkL B E (35)) ++ wkL B E (64)) ++ [ob 10 zf10])) (List.append_assoc _ _ _) ?_
  refine g_get (pc := 85) h ci11 hL (Nat.le_of_ble_eq_true rfl) (j := 2) wF_X11_26 rfl (dk dt_X11_init 41 rfl) ?_
  refine g_cast (L' := (L ++ ob 11 [.ref (B + (6)), .ref (B + (27)), .ref (B + (34)), .ref (B + (35)), .ref (B + (64)), .null, .null, .int 0] :: ((((ceF B E z0 (6) (qJobs) ++ ceF B E z0 (27) (qTasks)) ++ [wyL]) ++ wkL B E (35)) ++ wkL B E (64))) ++ [ob 10 zf10]) (List.append_assoc L (ob 11 [.ref (B + (6)), .ref (B + (27)), .ref (B + (34)), .ref (B + (35)), .ref (B + (64)), .null, .null, .int 0] :: ((((ceF B E z0 (6) (qJobs) ++ ceF B E z0 (27) (qTasks)) ++ [wyL]) ++ wkL B E (35)) ++ wkL B E (64))) [ob 10 zf10]).symm ?_
  refine g_call (pc := 88) h hN (cg_10 h.quiet (o := 93) hl88) ki_X10 wM_X11_32 rfl rfl (Nat.le_of_ble_eq_true rfl) (RM.of rfl) (dk dt_X11_init 42 rfl) ?_
  refine g_cast (L' := L ++ ob 11 [.ref (B + (6)), .ref (B + (27)), .ref (B + (34)), .ref (B + (35)), .ref (B + (64)), .null, .null, .int 0] :: (((((ceF B E z0 (6) (qJobs) ++ ceF B E z0 (27) (qTasks)) ++ [wyL]) ++ wkL B E (35)) ++ wkL B E (64)) ++ wkL B E (93))) (List.append_assoc _ _ _) ?_
  refine g_put (pc := 91) h hin ci11 hL (j := 5) (Nat.le_of_ble_eq_true rfl) wF_X11_42 rfl rfl rfl (Nat.le_of_ble_eq_true rfl) (dk dt_X11_init 43 rfl) ?_
  refine v_aload_n (pc := 94) h (dk dt_X11_init 44 rfl) rfl ?_
  have hl103 : (L ++ ob 11 [.ref (B + (6)), .ref (B + (27)), .ref (B + (34)), .ref (B + (35)), .ref (B + (64)), .ref (B + (93)), .null, .int 0] :: (((((ceF B E z0 (6) (qJobs) ++ ceF B E z0 (27) (qTasks)) ++ [wyL]) ++ wkL B E (35)) ++ wkL B E (64)) ++ wkL B E (93))).length = 122 := by rw [List.length_append, hL]; rfl
  refine g_new (pc := 95) h ci5 wL_X11_45 wN_X5 wI_X5 zf5_ok ⟨Nat.le_of_ble_eq_true rfl, Nat.le_of_ble_eq_true rfl⟩ (dk dt_X11_init 45 rfl) hl103 ?_
  refine v_dup (pc := 98) h (dk dt_X11_init 46 rfl) rfl ?_
  refine v_aload_n (pc := 99) h (dk dt_X11_init 47 rfl) rfl ?_
  refine g_cast (L' := L ++ ob 11 [.ref (B + (6)), .ref (B + (27)), .ref (B + (34)), .ref (B + (35)), .ref (B + (64)), .ref (B + (93)), .null, .int 0] :: ((((((ceF B E z0 (6) (qJobs) ++ ceF B E z0 (27) (qTasks)) ++ [wyL]) ++ wkL B E (35)) ++ wkL B E (64)) ++ wkL B E (93)) ++ [ob 5 zf5])) (List.append_assoc _ _ _) ?_
  refine g_get (pc := 100) h ci11 hL (Nat.le_of_ble_eq_true rfl) (j := 0) wF_X11_10 rfl (dk dt_X11_init 48 rfl) ?_
  refine g_cast (L' := (L ++ ob 11 [.ref (B + (6)), .ref (B + (27)), .ref (B + (34)), .ref (B + (35)), .ref (B + (64)), .ref (B + (93)), .null, .int 0] :: (((((ceF B E z0 (6) (qJobs) ++ ceF B E z0 (27) (qTasks)) ++ [wyL]) ++ wkL B E (35)) ++ wkL B E (64)) ++ wkL B E (93))) ++ [ob 5 zf5]) (List.append_assoc L (ob 11 [.ref (B + (6)), .ref (B + (27)), .ref (B + (34)), .ref (B + (35)), .ref (B + (64)), .ref (B + (93)), .null, .int 0] :: (((((ceF B E z0 (6) (qJobs) ++ ceF B E z0 (27) (qTasks)) ++ [wyL]) ++ wkL B E (35)) ++ wkL B E (64)) ++ wkL B E (93))) [ob 5 zf5]).symm ?_
  refine g_call (pc := 103) h hN (cg_5 h.quiet hl103) ki_X5 wM_X11_47 rfl rfl (Nat.le_of_ble_eq_true rfl) (RM.of rfl) (dk dt_X11_init 49 rfl) ?_
  refine g_cast (L' := L ++ ob 11 [.ref (B + (6)), .ref (B + (27)), .ref (B + (34)), .ref (B + (35)), .ref (B + (64)), .ref (B + (93)), .null, .int 0] :: ((((((ceF B E z0 (6) (qJobs) ++ ceF B E z0 (27) (qTasks)) ++ [wyL]) ++ wkL B E (35)) ++ wkL B E (64)) ++ wkL B E (93)) ++ ceF B E z0 (122) (qPair))) (List.append_assoc _ _ _) ?_
  refine g_put (pc := 106) h hin ci11 hL (j := 6) (Nat.le_of_ble_eq_true rfl) wF_X11_50 rfl rfl rfl (Nat.le_of_ble_eq_true rfl) (dk dt_X11_init 50 rfl) ?_
  refine v_aload_n (pc := 109) h (dk dt_X11_init 51 rfl) rfl ?_
  refine v_iconst (pc := 110) h (dk dt_X11_init 52 rfl) ?_
  refine g_put (pc := 111) h hin ci11 hL (j := 7) (Nat.le_of_ble_eq_true rfl) wF_X11_54 rfl rfl rfl (Nat.le_of_ble_eq_true rfl) (dk dt_X11_init 53 rfl) ?_
  exact g_ret (pc := 114) h r (dk dt_X11_init 54 rfl) (Nat.le_of_ble_eq_true rfl) (Nat.le_of_ble_eq_true rfl)
end
