/-! ===== the law's cases: by program (genlaw.py) ===== -/
section
variable {a : Ax} {B : Nat} {D : va_G} {E : Nat → ClassId} {m : Mm} {k n b L i : Nat} {xs : Nat → Int32}
theorem law_slowest (h : Ac a B D E RL code 9 room_1) (hX : va_X b L xs (axS a) (axS a).heap) (hbl : b < (axS a).heap.size) (hB : b < B) (hL : L ≤ 3072) (hi : i + 6 ≤ L) (hk : k + 3 ≤ 601024) (hn : n + 18 ≤ 7293034) (hR : RLm m)
    (hG : LawOK (axL a) B D E yL_slowest (.codeWith yL_slowest cL_slowest 4 (some .int) [(0, 9, 12, 15)]) rm_L_slowest [.ref (pl B 0), iI (bz (xs (i + 1)).toInt), .ref (pl B 151)] yX12_slowest (.code yX12_slowest cX12_slowest 6 (some .int)) rm_X12_slowest [.ref (pl B 123), iI (bz (xs (i + 1)).toInt)] m)
    (q : ∀ m2, RLm m2 → VV a B (SP B D E m2) (k + 3) (n + 18) 1816 (lvL B b i) []) : VV a B (SP B D E m) k n 1061 (lvL B b i) [] := by
  obtain ⟨rc, Q, hrc, hC1, hC2, hC3⟩ := hG
  have goB : rc ≠ 0 → VV a B (SP B D E m) (k + 2) (n + 12) 1080 (lvL B b i) [iI rc] := by
    intro hne
    have hM := hC2 hne
    refine v_istore (lv' := [(6, _), (5, _), (0, _), (1, _), (2, _), (3, _), (4, _)]) (pc := 1080) h (dk dt_L_law_9 44 rfl) (Nat.le_of_ble_eq_true rfl) rfl ?_
    refine v_aload_n (pc := 1082) h (dk dt_L_law_9 45 rfl) rfl ?_
    refine v_aload_n (pc := 1083) h (dk dt_L_law_9 46 rfl) rfl ?_
    refine v_iload (pc := 1084) h (dk dt_L_law_9 47 rfl) rfl ?_
    refine v_iconst (pc := 1086) h (dk dt_L_law_9 48 rfl) ?_
    refine v_iadd (pc := 1087) h (dk dt_L_law_9 49 rfl) ?_
    refine v_sld (pc := 1088) h hX hbl hB hL (j := i + 1) ⟨by omega, by omega⟩ (dk dt_L_law_9 50 rfl) ?_
    refine v_if_eq (pc := 1089) h 1096 (dk dt_L_law_9 51 rfl) rfl (toInt_InR _) (fun c1089 => ?_) (fun c1089 => ?_)
    ·
      rw [bz_t c1089] at hM
      refine v_iconst (pc := 1096) h (dk dt_L_law_9 54 rfl) ?_
      refine v_cV (pc := 1097) h (hM) kv_X12_slowest sh123 wM_L_157 rfl rfl (Nat.le_of_ble_eq_true rfl) ⟨⟨Nat.le_of_ble_eq_true rfl, Nat.le_of_ble_eq_true rfl⟩, by show k + 2 + (0) ≤ 601024; omega, by show n + 12 + (0) ≤ 7293034; omega⟩ rfl rfl (dk dt_L_law_9 55 rfl) (fun v1097 μ1097 p1097 => ?_)
      obtain ⟨rfl, rfl⟩ := p1097
      refine v_istore (lv' := [(7, _), (6, _), (5, _), (0, _), (1, _), (2, _), (3, _), (4, _)]) (pc := 1100) h (dk dt_L_law_9 56 rfl) (Nat.le_of_ble_eq_true rfl) rfl ?_
      refine v_aload_n (pc := 1102) h (dk dt_L_law_9 57 rfl) rfl ?_
      refine v_cVi (pc := 1103) h (c_X12_thrown h.quiet) kv_X12_thrown sh123 wM_L_107 rfl rfl (Nat.le_of_ble_eq_true rfl) ⟨⟨Nat.le_of_ble_eq_true rfl, Nat.le_of_ble_eq_true rfl⟩, by show k + 2 + (0) ≤ 601024; omega, by show n + 12 + (0) ≤ 7293034; omega⟩ rfl rfl (dk dt_L_law_9 58 rfl) ?_
      rw [mup_eq]
      refine v_iload (pc := 1106) h (dk dt_L_law_9 59 rfl) rfl ?_
      refine v_icmp_eqS (pc := 1108) h 1113 (dk dt_L_law_9 60 rfl) rfl ?_
      refine v_iload (pc := 1113) h (dk dt_L_law_9 63 rfl) rfl ?_
      refine v_if_ne (pc := 1115) h 1130 (dk dt_L_law_10 0 rfl) rfl (by omega) (fun c1115 => ?_) (fun c1115 => ?_)
      ·
        refine v_goto (pc := 1130) h 1816 (dk dt_L_law_10 10 rfl) rfl ?_
        exact VV.widen (by show k + 2 ≤ k + 3; omega) (by show n + 12 ≤ n + 18; omega) (VV.loc (q _ (RLm_sf hR sf_14)) ⟨rfl, rfl, rfl, rfl, rfl, rfl, trivial⟩)
      ·
        exact absurd c1115 hne
    ·
      rw [bz_f c1089] at hM
      refine v_iconst (pc := 1092) h (dk dt_L_law_9 52 rfl) ?_
      refine v_goto (pc := 1093) h 1097 (dk dt_L_law_9 53 rfl) rfl ?_
      refine v_cV (pc := 1097) h (hM) kv_X12_slowest sh123 wM_L_157 rfl rfl (Nat.le_of_ble_eq_true rfl) ⟨⟨Nat.le_of_ble_eq_true rfl, Nat.le_of_ble_eq_true rfl⟩, by show k + 2 + (0) ≤ 601024; omega, by show n + 12 + (0) ≤ 7293034; omega⟩ rfl rfl (dk dt_L_law_9 55 rfl) (fun v1097 μ1097 p1097 => ?_)
      obtain ⟨rfl, rfl⟩ := p1097
      refine v_istore (lv' := [(7, _), (6, _), (5, _), (0, _), (1, _), (2, _), (3, _), (4, _)]) (pc := 1100) h (dk dt_L_law_9 56 rfl) (Nat.le_of_ble_eq_true rfl) rfl ?_
      refine v_aload_n (pc := 1102) h (dk dt_L_law_9 57 rfl) rfl ?_
      refine v_cVi (pc := 1103) h (c_X12_thrown h.quiet) kv_X12_thrown sh123 wM_L_107 rfl rfl (Nat.le_of_ble_eq_true rfl) ⟨⟨Nat.le_of_ble_eq_true rfl, Nat.le_of_ble_eq_true rfl⟩, by show k + 2 + (0) ≤ 601024; omega, by show n + 12 + (0) ≤ 7293034; omega⟩ rfl rfl (dk dt_L_law_9 58 rfl) ?_
      rw [mup_eq]
      refine v_iload (pc := 1106) h (dk dt_L_law_9 59 rfl) rfl ?_
      refine v_icmp_eqS (pc := 1108) h 1113 (dk dt_L_law_9 60 rfl) rfl ?_
      refine v_iload (pc := 1113) h (dk dt_L_law_9 63 rfl) rfl ?_
      refine v_if_ne (pc := 1115) h 1130 (dk dt_L_law_10 0 rfl) rfl (by omega) (fun c1115 => ?_) (fun c1115 => ?_)
      ·
        refine v_goto (pc := 1130) h 1816 (dk dt_L_law_10 10 rfl) rfl ?_
        exact VV.widen (by show k + 2 ≤ k + 3; omega) (by show n + 12 ≤ n + 18; omega) (VV.loc (q _ (RLm_sf hR sf_14)) ⟨rfl, rfl, rfl, rfl, rfl, rfl, trivial⟩)
      ·
        exact absurd c1115 hne
  have goA : rc = 0 → ∀ m1, Q m1 → VV a B (SP B D E m1) (k + 2) (n + 12) 1080 (lvL B b i) [iI 0] := by
    intro h0 m1 hq
    obtain ⟨v, hM⟩ := hC3 h0 m1 hq
    refine v_istore (lv' := [(6, _), (5, _), (0, _), (1, _), (2, _), (3, _), (4, _)]) (pc := 1080) h (dk dt_L_law_9 44 rfl) (Nat.le_of_ble_eq_true rfl) rfl ?_
    refine v_aload_n (pc := 1082) h (dk dt_L_law_9 45 rfl) rfl ?_
    refine v_aload_n (pc := 1083) h (dk dt_L_law_9 46 rfl) rfl ?_
    refine v_iload (pc := 1084) h (dk dt_L_law_9 47 rfl) rfl ?_
    refine v_iconst (pc := 1086) h (dk dt_L_law_9 48 rfl) ?_
    refine v_iadd (pc := 1087) h (dk dt_L_law_9 49 rfl) ?_
    refine v_sld (pc := 1088) h hX hbl hB hL (j := i + 1) ⟨by omega, by omega⟩ (dk dt_L_law_9 50 rfl) ?_
    refine v_if_eq (pc := 1089) h 1096 (dk dt_L_law_9 51 rfl) rfl (toInt_InR _) (fun c1089 => ?_) (fun c1089 => ?_)
    ·
      rw [bz_t c1089] at hM
      refine v_iconst (pc := 1096) h (dk dt_L_law_9 54 rfl) ?_
      refine v_cV (pc := 1097) h (hM) kv_X12_slowest sh123 wM_L_157 rfl rfl (Nat.le_of_ble_eq_true rfl) ⟨⟨Nat.le_of_ble_eq_true rfl, Nat.le_of_ble_eq_true rfl⟩, by show k + 2 + (0) ≤ 601024; omega, by show n + 12 + (0) ≤ 7293034; omega⟩ rfl rfl (dk dt_L_law_9 55 rfl) (fun v1097 μ1097 p1097 => ?_)
      obtain ⟨rfl, g14, g15, hR2⟩ := p1097
      refine v_istore (lv' := [(7, _), (6, _), (5, _), (0, _), (1, _), (2, _), (3, _), (4, _)]) (pc := 1100) h (dk dt_L_law_9 56 rfl) (Nat.le_of_ble_eq_true rfl) rfl ?_
      refine v_aload_n (pc := 1102) h (dk dt_L_law_9 57 rfl) rfl ?_
      refine v_cVi (pc := 1103) h (c_X12_thrown h.quiet) kv_X12_thrown sh123 wM_L_107 rfl rfl (Nat.le_of_ble_eq_true rfl) ⟨⟨Nat.le_of_ble_eq_true rfl, Nat.le_of_ble_eq_true rfl⟩, by show k + 2 + (0) ≤ 601024; omega, by show n + 12 + (0) ≤ 7293034; omega⟩ rfl rfl (dk dt_L_law_9 58 rfl) ?_
      rw [g14]
      refine v_iload (pc := 1106) h (dk dt_L_law_9 59 rfl) rfl ?_
      refine v_icmp_eqS (pc := 1108) h 1113 (dk dt_L_law_9 60 rfl) rfl ?_
      refine v_iload (pc := 1113) h (dk dt_L_law_9 63 rfl) rfl ?_
      refine v_if_ne (pc := 1115) h 1130 (dk dt_L_law_10 0 rfl) rfl (by omega) (fun c1115 => ?_) (fun c1115 => ?_)
      ·
        exact absurd rfl c1115
      ·
        refine v_aload_n (pc := 1118) h (dk dt_L_law_10 1 rfl) rfl ?_
        refine v_iconst (pc := 1119) h (dk dt_L_law_10 2 rfl) ?_
        refine v_lald (pc := 1120) h sh151 (Nat.le_of_ble_eq_true rfl) (by omega) (dk dt_L_law_10 3 rfl) ?_
        rw [show (0 : Int).toNat = 0 from rfl, g15]
        refine v_iload (pc := 1121) h (dk dt_L_law_10 4 rfl) rfl ?_
        refine v_i2lw (pc := 1123) h (dk dt_L_law_10 5 rfl) ?_
        refine v_lcmpS (pc := 1124) h (dk dt_L_law_10 6 rfl) ?_
        refine v_if_eq (pc := 1125) h 1130 (dk dt_L_law_10 7 rfl) rfl (by omega) (fun c1125 => ?_) (fun c1125 => ?_)
        ·
          refine v_goto (pc := 1130) h 1816 (dk dt_L_law_10 10 rfl) rfl ?_
          exact VV.widen (by show k + 2 ≤ k + 3; omega) (by show n + 12 ≤ n + 18; omega) (VV.loc (q _ hR2) ⟨rfl, rfl, rfl, rfl, rfl, rfl, trivial⟩)
        ·
          exact absurd rfl c1125
    ·
      rw [bz_f c1089] at hM
      refine v_iconst (pc := 1092) h (dk dt_L_law_9 52 rfl) ?_
      refine v_goto (pc := 1093) h 1097 (dk dt_L_law_9 53 rfl) rfl ?_
      refine v_cV (pc := 1097) h (hM) kv_X12_slowest sh123 wM_L_157 rfl rfl (Nat.le_of_ble_eq_true rfl) ⟨⟨Nat.le_of_ble_eq_true rfl, Nat.le_of_ble_eq_true rfl⟩, by show k + 2 + (0) ≤ 601024; omega, by show n + 12 + (0) ≤ 7293034; omega⟩ rfl rfl (dk dt_L_law_9 55 rfl) (fun v1097 μ1097 p1097 => ?_)
      obtain ⟨rfl, g14, g15, hR2⟩ := p1097
      refine v_istore (lv' := [(7, _), (6, _), (5, _), (0, _), (1, _), (2, _), (3, _), (4, _)]) (pc := 1100) h (dk dt_L_law_9 56 rfl) (Nat.le_of_ble_eq_true rfl) rfl ?_
      refine v_aload_n (pc := 1102) h (dk dt_L_law_9 57 rfl) rfl ?_
      refine v_cVi (pc := 1103) h (c_X12_thrown h.quiet) kv_X12_thrown sh123 wM_L_107 rfl rfl (Nat.le_of_ble_eq_true rfl) ⟨⟨Nat.le_of_ble_eq_true rfl, Nat.le_of_ble_eq_true rfl⟩, by show k + 2 + (0) ≤ 601024; omega, by show n + 12 + (0) ≤ 7293034; omega⟩ rfl rfl (dk dt_L_law_9 58 rfl) ?_
      rw [g14]
      refine v_iload (pc := 1106) h (dk dt_L_law_9 59 rfl) rfl ?_
      refine v_icmp_eqS (pc := 1108) h 1113 (dk dt_L_law_9 60 rfl) rfl ?_
      refine v_iload (pc := 1113) h (dk dt_L_law_9 63 rfl) rfl ?_
      refine v_if_ne (pc := 1115) h 1130 (dk dt_L_law_10 0 rfl) rfl (by omega) (fun c1115 => ?_) (fun c1115 => ?_)
      ·
        exact absurd rfl c1115
      ·
        refine v_aload_n (pc := 1118) h (dk dt_L_law_10 1 rfl) rfl ?_
        refine v_iconst (pc := 1119) h (dk dt_L_law_10 2 rfl) ?_
        refine v_lald (pc := 1120) h sh151 (Nat.le_of_ble_eq_true rfl) (by omega) (dk dt_L_law_10 3 rfl) ?_
        rw [show (0 : Int).toNat = 0 from rfl, g15]
        refine v_iload (pc := 1121) h (dk dt_L_law_10 4 rfl) rfl ?_
        refine v_i2lw (pc := 1123) h (dk dt_L_law_10 5 rfl) ?_
        refine v_lcmpS (pc := 1124) h (dk dt_L_law_10 6 rfl) ?_
        refine v_if_eq (pc := 1125) h 1130 (dk dt_L_law_10 7 rfl) rfl (by omega) (fun c1125 => ?_) (fun c1125 => ?_)
        ·
          refine v_goto (pc := 1130) h 1816 (dk dt_L_law_10 10 rfl) rfl ?_
          exact VV.widen (by show k + 2 ≤ k + 3; omega) (by show n + 12 ≤ n + 18; omega) (VV.loc (q _ hR2) ⟨rfl, rfl, rfl, rfl, rfl, rfl, trivial⟩)
        ·
          exact absurd rfl c1125
  refine v_aload_n (pc := 1061) h (dk dt_L_law_9 32 rfl) rfl ?_
  refine v_aload_n (pc := 1062) h (dk dt_L_law_9 33 rfl) rfl ?_
  refine v_iload (pc := 1063) h (dk dt_L_law_9 34 rfl) rfl ?_
  refine v_iconst (pc := 1065) h (dk dt_L_law_9 35 rfl) ?_
  refine v_iadd (pc := 1066) h (dk dt_L_law_9 36 rfl) ?_
  refine v_sld (pc := 1067) h hX hbl hB hL (j := i + 1) ⟨by omega, by omega⟩ (dk dt_L_law_9 37 rfl) ?_
  refine v_if_eq (pc := 1068) h 1075 (dk dt_L_law_9 38 rfl) rfl (toInt_InR _) (fun c1068 => ?_) (fun c1068 => ?_)
  ·
    rw [bz_t c1068] at hC1
    refine v_iconst (pc := 1075) h (dk dt_L_law_9 41 rfl) ?_
    refine v_aload_n (pc := 1076) h (dk dt_L_law_9 42 rfl) rfl ?_
    refine v_callH (pc := 1077) h (hC1) kh_L_slowest wM_L_154 rfl rfl (Nat.le_of_ble_eq_true rfl) ⟨⟨Nat.le_of_ble_eq_true rfl, Nat.le_of_ble_eq_true rfl⟩, by show k + 2 ≤ 601024; omega, by show n + 12 ≤ 7293034; omega⟩ (dk dt_L_law_9 43 rfl) (fun v1077 μ1077 p1077 => ?_)
    rcases p1077 with ⟨e, rfl, hq⟩ | ⟨e, rfl, rfl⟩
    · exact goA e _ hq
    · exact goB e
  ·
    rw [bz_f c1068] at hC1
    refine v_iconst (pc := 1071) h (dk dt_L_law_9 39 rfl) ?_
    refine v_goto (pc := 1072) h 1076 (dk dt_L_law_9 40 rfl) rfl ?_
    refine v_aload_n (pc := 1076) h (dk dt_L_law_9 42 rfl) rfl ?_
    refine v_callH (pc := 1077) h (hC1) kh_L_slowest wM_L_154 rfl rfl (Nat.le_of_ble_eq_true rfl) ⟨⟨Nat.le_of_ble_eq_true rfl, Nat.le_of_ble_eq_true rfl⟩, by show k + 2 ≤ 601024; omega, by show n + 12 ≤ 7293034; omega⟩ (dk dt_L_law_9 43 rfl) (fun v1077 μ1077 p1077 => ?_)
    rcases p1077 with ⟨e, rfl, hq⟩ | ⟨e, rfl, rfl⟩
    · exact goA e _ hq
    · exact goB e
theorem law_busy (h : Ac a B D E RL code 9 room_1) (hX : va_X b L xs (axS a) (axS a).heap) (hbl : b < (axS a).heap.size) (hB : b < B) (hL : L ≤ 3072) (hi : i + 6 ≤ L) (hk : k + 3 ≤ 601024) (hn : n + 18 ≤ 7293034) (hR : RLm m)
    (hG : LawOK (axL a) B D E yL_busy (.codeWith yL_busy cL_busy 5 (some .int) [(0, 10, 13, 15), (0, 10, 17, 67)]) rm_L_busy [.ref (pl B 0), iI (xs (i + 1)).toInt, iI (bz (xs (i + 2)).toInt), .ref (pl B 151)] yX12_busy (.code yX12_busy cX12_busy 6 (some .int)) rm_X12_busy [.ref (pl B 123), iI (xs (i + 1)).toInt, iI (bz (xs (i + 2)).toInt)] m)
    (q : ∀ m2, RLm m2 → VV a B (SP B D E m2) (k + 3) (n + 18) 1816 (lvL B b i) []) : VV a B (SP B D E m) k n 1133 (lvL B b i) [] := by
  obtain ⟨rc, Q, hrc, hC1, hC2, hC3⟩ := hG
  have goB : rc ≠ 0 → VV a B (SP B D E m) (k + 2) (n + 12) 1158 (lvL B b i) [iI rc] := by
    intro hne
    have hM := hC2 hne
    refine v_istore (lv' := [(6, _), (5, _), (0, _), (1, _), (2, _), (3, _), (4, _)]) (pc := 1158) h (dk dt_L_law_10 28 rfl) (Nat.le_of_ble_eq_true rfl) rfl ?_
    refine v_aload_n (pc := 1160) h (dk dt_L_law_10 29 rfl) rfl ?_
    refine v_aload_n (pc := 1161) h (dk dt_L_law_10 30 rfl) rfl ?_
    refine v_iload (pc := 1162) h (dk dt_L_law_10 31 rfl) rfl ?_
    refine v_iconst (pc := 1164) h (dk dt_L_law_10 32 rfl) ?_
    refine v_iadd (pc := 1165) h (dk dt_L_law_10 33 rfl) ?_
    refine v_sld (pc := 1166) h hX hbl hB hL (j := i + 1) ⟨by omega, by omega⟩ (dk dt_L_law_10 34 rfl) ?_
    refine v_aload_n (pc := 1167) h (dk dt_L_law_10 35 rfl) rfl ?_
    refine v_iload (pc := 1168) h (dk dt_L_law_10 36 rfl) rfl ?_
    refine v_iconst (pc := 1170) h (dk dt_L_law_10 37 rfl) ?_
    refine v_iadd (pc := 1171) h (dk dt_L_law_10 38 rfl) ?_
    refine v_sld (pc := 1172) h hX hbl hB hL (j := i + 2) ⟨by omega, by omega⟩ (dk dt_L_law_10 39 rfl) ?_
    refine v_if_eq (pc := 1173) h 1180 (dk dt_L_law_10 40 rfl) rfl (toInt_InR _) (fun c1173 => ?_) (fun c1173 => ?_)
    ·
      rw [bz_t c1173] at hM
      refine v_iconst (pc := 1180) h (dk dt_L_law_10 43 rfl) ?_
      refine v_cV (pc := 1181) h (hM) kv_X12_busy sh123 wM_L_161 rfl rfl (Nat.le_of_ble_eq_true rfl) ⟨⟨Nat.le_of_ble_eq_true rfl, Nat.le_of_ble_eq_true rfl⟩, by show k + 2 + (0) ≤ 601024; omega, by show n + 12 + (0) ≤ 7293034; omega⟩ rfl rfl (dk dt_L_law_10 44 rfl) (fun v1181 μ1181 p1181 => ?_)
      obtain ⟨rfl, rfl⟩ := p1181
      refine v_istore (lv' := [(7, _), (6, _), (5, _), (0, _), (1, _), (2, _), (3, _), (4, _)]) (pc := 1184) h (dk dt_L_law_10 45 rfl) (Nat.le_of_ble_eq_true rfl) rfl ?_
      refine v_aload_n (pc := 1186) h (dk dt_L_law_10 46 rfl) rfl ?_
      refine v_cVi (pc := 1187) h (c_X12_thrown h.quiet) kv_X12_thrown sh123 wM_L_107 rfl rfl (Nat.le_of_ble_eq_true rfl) ⟨⟨Nat.le_of_ble_eq_true rfl, Nat.le_of_ble_eq_true rfl⟩, by show k + 2 + (0) ≤ 601024; omega, by show n + 12 + (0) ≤ 7293034; omega⟩ rfl rfl (dk dt_L_law_10 47 rfl) ?_
      rw [mup_eq]
      refine v_iload (pc := 1190) h (dk dt_L_law_10 48 rfl) rfl ?_
      refine v_icmp_eqS (pc := 1192) h 1197 (dk dt_L_law_10 49 rfl) rfl ?_
      refine v_iload (pc := 1197) h (dk dt_L_law_10 52 rfl) rfl ?_
      refine v_if_ne (pc := 1199) h 1214 (dk dt_L_law_10 53 rfl) rfl (by omega) (fun c1199 => ?_) (fun c1199 => ?_)
      ·
        refine v_goto (pc := 1214) h 1816 (dk dt_L_law_10 63 rfl) rfl ?_
        exact VV.widen (by show k + 2 ≤ k + 3; omega) (by show n + 12 ≤ n + 18; omega) (VV.loc (q _ (RLm_sf hR sf_14)) ⟨rfl, rfl, rfl, rfl, rfl, rfl, trivial⟩)
      ·
        exact absurd c1199 hne
    ·
      rw [bz_f c1173] at hM
      refine v_iconst (pc := 1176) h (dk dt_L_law_10 41 rfl) ?_
      refine v_goto (pc := 1177) h 1181 (dk dt_L_law_10 42 rfl) rfl ?_
      refine v_cV (pc := 1181) h (hM) kv_X12_busy sh123 wM_L_161 rfl rfl (Nat.le_of_ble_eq_true rfl) ⟨⟨Nat.le_of_ble_eq_true rfl, Nat.le_of_ble_eq_true rfl⟩, by show k + 2 + (0) ≤ 601024; omega, by show n + 12 + (0) ≤ 7293034; omega⟩ rfl rfl (dk dt_L_law_10 44 rfl) (fun v1181 μ1181 p1181 => ?_)
      obtain ⟨rfl, rfl⟩ := p1181
      refine v_istore (lv' := [(7, _), (6, _), (5, _), (0, _), (1, _), (2, _), (3, _), (4, _)]) (pc := 1184) h (dk dt_L_law_10 45 rfl) (Nat.le_of_ble_eq_true rfl) rfl ?_
      refine v_aload_n (pc := 1186) h (dk dt_L_law_10 46 rfl) rfl ?_
      refine v_cVi (pc := 1187) h (c_X12_thrown h.quiet) kv_X12_thrown sh123 wM_L_107 rfl rfl (Nat.le_of_ble_eq_true rfl) ⟨⟨Nat.le_of_ble_eq_true rfl, Nat.le_of_ble_eq_true rfl⟩, by show k + 2 + (0) ≤ 601024; omega, by show n + 12 + (0) ≤ 7293034; omega⟩ rfl rfl (dk dt_L_law_10 47 rfl) ?_
      rw [mup_eq]
      refine v_iload (pc := 1190) h (dk dt_L_law_10 48 rfl) rfl ?_
      refine v_icmp_eqS (pc := 1192) h 1197 (dk dt_L_law_10 49 rfl) rfl ?_
      refine v_iload (pc := 1197) h (dk dt_L_law_10 52 rfl) rfl ?_
      refine v_if_ne (pc := 1199) h 1214 (dk dt_L_law_10 53 rfl) rfl (by omega) (fun c1199 => ?_) (fun c1199 => ?_)
      ·
        refine v_goto (pc := 1214) h 1816 (dk dt_L_law_10 63 rfl) rfl ?_
        exact VV.widen (by show k + 2 ≤ k + 3; omega) (by show n + 12 ≤ n + 18; omega) (VV.loc (q _ (RLm_sf hR sf_14)) ⟨rfl, rfl, rfl, rfl, rfl, rfl, trivial⟩)
      ·
        exact absurd c1199 hne
  have goA : rc = 0 → ∀ m1, Q m1 → VV a B (SP B D E m1) (k + 2) (n + 12) 1158 (lvL B b i) [iI 0] := by
    intro h0 m1 hq
    obtain ⟨v, hM⟩ := hC3 h0 m1 hq
    refine v_istore (lv' := [(6, _), (5, _), (0, _), (1, _), (2, _), (3, _), (4, _)]) (pc := 1158) h (dk dt_L_law_10 28 rfl) (Nat.le_of_ble_eq_true rfl) rfl ?_
    refine v_aload_n (pc := 1160) h (dk dt_L_law_10 29 rfl) rfl ?_
    refine v_aload_n (pc := 1161) h (dk dt_L_law_10 30 rfl) rfl ?_
    refine v_iload (pc := 1162) h (dk dt_L_law_10 31 rfl) rfl ?_
    refine v_iconst (pc := 1164) h (dk dt_L_law_10 32 rfl) ?_
    refine v_iadd (pc := 1165) h (dk dt_L_law_10 33 rfl) ?_
    refine v_sld (pc := 1166) h hX hbl hB hL (j := i + 1) ⟨by omega, by omega⟩ (dk dt_L_law_10 34 rfl) ?_
    refine v_aload_n (pc := 1167) h (dk dt_L_law_10 35 rfl) rfl ?_
    refine v_iload (pc := 1168) h (dk dt_L_law_10 36 rfl) rfl ?_
    refine v_iconst (pc := 1170) h (dk dt_L_law_10 37 rfl) ?_
    refine v_iadd (pc := 1171) h (dk dt_L_law_10 38 rfl) ?_
    refine v_sld (pc := 1172) h hX hbl hB hL (j := i + 2) ⟨by omega, by omega⟩ (dk dt_L_law_10 39 rfl) ?_
    refine v_if_eq (pc := 1173) h 1180 (dk dt_L_law_10 40 rfl) rfl (toInt_InR _) (fun c1173 => ?_) (fun c1173 => ?_)
    ·
      rw [bz_t c1173] at hM
      refine v_iconst (pc := 1180) h (dk dt_L_law_10 43 rfl) ?_
      refine v_cV (pc := 1181) h (hM) kv_X12_busy sh123 wM_L_161 rfl rfl (Nat.le_of_ble_eq_true rfl) ⟨⟨Nat.le_of_ble_eq_true rfl, Nat.le_of_ble_eq_true rfl⟩, by show k + 2 + (0) ≤ 601024; omega, by show n + 12 + (0) ≤ 7293034; omega⟩ rfl rfl (dk dt_L_law_10 44 rfl) (fun v1181 μ1181 p1181 => ?_)
      obtain ⟨rfl, g14, g15, hR2⟩ := p1181
      refine v_istore (lv' := [(7, _), (6, _), (5, _), (0, _), (1, _), (2, _), (3, _), (4, _)]) (pc := 1184) h (dk dt_L_law_10 45 rfl) (Nat.le_of_ble_eq_true rfl) rfl ?_
      refine v_aload_n (pc := 1186) h (dk dt_L_law_10 46 rfl) rfl ?_
      refine v_cVi (pc := 1187) h (c_X12_thrown h.quiet) kv_X12_thrown sh123 wM_L_107 rfl rfl (Nat.le_of_ble_eq_true rfl) ⟨⟨Nat.le_of_ble_eq_true rfl, Nat.le_of_ble_eq_true rfl⟩, by show k + 2 + (0) ≤ 601024; omega, by show n + 12 + (0) ≤ 7293034; omega⟩ rfl rfl (dk dt_L_law_10 47 rfl) ?_
      rw [g14]
      refine v_iload (pc := 1190) h (dk dt_L_law_10 48 rfl) rfl ?_
      refine v_icmp_eqS (pc := 1192) h 1197 (dk dt_L_law_10 49 rfl) rfl ?_
      refine v_iload (pc := 1197) h (dk dt_L_law_10 52 rfl) rfl ?_
      refine v_if_ne (pc := 1199) h 1214 (dk dt_L_law_10 53 rfl) rfl (by omega) (fun c1199 => ?_) (fun c1199 => ?_)
      ·
        exact absurd rfl c1199
      ·
        refine v_aload_n (pc := 1202) h (dk dt_L_law_10 54 rfl) rfl ?_
        refine v_iconst (pc := 1203) h (dk dt_L_law_10 55 rfl) ?_
        refine v_lald (pc := 1204) h sh151 (Nat.le_of_ble_eq_true rfl) (by omega) (dk dt_L_law_10 56 rfl) ?_
        rw [show (0 : Int).toNat = 0 from rfl, g15]
        refine v_iload (pc := 1205) h (dk dt_L_law_10 57 rfl) rfl ?_
        refine v_i2lw (pc := 1207) h (dk dt_L_law_10 58 rfl) ?_
        refine v_lcmpS (pc := 1208) h (dk dt_L_law_10 59 rfl) ?_
        refine v_if_eq (pc := 1209) h 1214 (dk dt_L_law_10 60 rfl) rfl (by omega) (fun c1209 => ?_) (fun c1209 => ?_)
        ·
          refine v_goto (pc := 1214) h 1816 (dk dt_L_law_10 63 rfl) rfl ?_
          exact VV.widen (by show k + 2 ≤ k + 3; omega) (by show n + 12 ≤ n + 18; omega) (VV.loc (q _ hR2) ⟨rfl, rfl, rfl, rfl, rfl, rfl, trivial⟩)
        ·
          exact absurd rfl c1209
    ·
      rw [bz_f c1173] at hM
      refine v_iconst (pc := 1176) h (dk dt_L_law_10 41 rfl) ?_
      refine v_goto (pc := 1177) h 1181 (dk dt_L_law_10 42 rfl) rfl ?_
      refine v_cV (pc := 1181) h (hM) kv_X12_busy sh123 wM_L_161 rfl rfl (Nat.le_of_ble_eq_true rfl) ⟨⟨Nat.le_of_ble_eq_true rfl, Nat.le_of_ble_eq_true rfl⟩, by show k + 2 + (0) ≤ 601024; omega, by show n + 12 + (0) ≤ 7293034; omega⟩ rfl rfl (dk dt_L_law_10 44 rfl) (fun v1181 μ1181 p1181 => ?_)
      obtain ⟨rfl, g14, g15, hR2⟩ := p1181
      refine v_istore (lv' := [(7, _), (6, _), (5, _), (0, _), (1, _), (2, _), (3, _), (4, _)]) (pc := 1184) h (dk dt_L_law_10 45 rfl) (Nat.le_of_ble_eq_true rfl) rfl ?_
      refine v_aload_n (pc := 1186) h (dk dt_L_law_10 46 rfl) rfl ?_
      refine v_cVi (pc := 1187) h (c_X12_thrown h.quiet) kv_X12_thrown sh123 wM_L_107 rfl rfl (Nat.le_of_ble_eq_true rfl) ⟨⟨Nat.le_of_ble_eq_true rfl, Nat.le_of_ble_eq_true rfl⟩, by show k + 2 + (0) ≤ 601024; omega, by show n + 12 + (0) ≤ 7293034; omega⟩ rfl rfl (dk dt_L_law_10 47 rfl) ?_
      rw [g14]
      refine v_iload (pc := 1190) h (dk dt_L_law_10 48 rfl) rfl ?_
      refine v_icmp_eqS (pc := 1192) h 1197 (dk dt_L_law_10 49 rfl) rfl ?_
      refine v_iload (pc := 1197) h (dk dt_L_law_10 52 rfl) rfl ?_
      refine v_if_ne (pc := 1199) h 1214 (dk dt_L_law_10 53 rfl) rfl (by omega) (fun c1199 => ?_) (fun c1199 => ?_)
      ·
        exact absurd rfl c1199
      ·
        refine v_aload_n (pc := 1202) h (dk dt_L_law_10 54 rfl) rfl ?_
        refine v_iconst (pc := 1203) h (dk dt_L_law_10 55 rfl) ?_
        refine v_lald (pc := 1204) h sh151 (Nat.le_of_ble_eq_true rfl) (by omega) (dk dt_L_law_10 56 rfl) ?_
        rw [show (0 : Int).toNat = 0 from rfl, g15]
        refine v_iload (pc := 1205) h (dk dt_L_law_10 57 rfl) rfl ?_
        refine v_i2lw (pc := 1207) h (dk dt_L_law_10 58 rfl) ?_
        refine v_lcmpS (pc := 1208) h (dk dt_L_law_10 59 rfl) ?_
        refine v_if_eq (pc := 1209) h 1214 (dk dt_L_law_10 60 rfl) rfl (by omega) (fun c1209 => ?_) (fun c1209 => ?_)
        ·
          refine v_goto (pc := 1214) h 1816 (dk dt_L_law_10 63 rfl) rfl ?_
          exact VV.widen (by show k + 2 ≤ k + 3; omega) (by show n + 12 ≤ n + 18; omega) (VV.loc (q _ hR2) ⟨rfl, rfl, rfl, rfl, rfl, rfl, trivial⟩)
        ·
          exact absurd rfl c1209
  refine v_aload_n (pc := 1133) h (dk dt_L_law_10 11 rfl) rfl ?_
  refine v_aload_n (pc := 1134) h (dk dt_L_law_10 12 rfl) rfl ?_
  refine v_iload (pc := 1135) h (dk dt_L_law_10 13 rfl) rfl ?_
  refine v_iconst (pc := 1137) h (dk dt_L_law_10 14 rfl) ?_
  refine v_iadd (pc := 1138) h (dk dt_L_law_10 15 rfl) ?_
  refine v_sld (pc := 1139) h hX hbl hB hL (j := i + 1) ⟨by omega, by omega⟩ (dk dt_L_law_10 16 rfl) ?_
  refine v_aload_n (pc := 1140) h (dk dt_L_law_10 17 rfl) rfl ?_
  refine v_iload (pc := 1141) h (dk dt_L_law_10 18 rfl) rfl ?_
  refine v_iconst (pc := 1143) h (dk dt_L_law_10 19 rfl) ?_
  refine v_iadd (pc := 1144) h (dk dt_L_law_10 20 rfl) ?_
  refine v_sld (pc := 1145) h hX hbl hB hL (j := i + 2) ⟨by omega, by omega⟩ (dk dt_L_law_10 21 rfl) ?_
  refine v_if_eq (pc := 1146) h 1153 (dk dt_L_law_10 22 rfl) rfl (toInt_InR _) (fun c1146 => ?_) (fun c1146 => ?_)
  ·
    rw [bz_t c1146] at hC1
    refine v_iconst (pc := 1153) h (dk dt_L_law_10 25 rfl) ?_
    refine v_aload_n (pc := 1154) h (dk dt_L_law_10 26 rfl) rfl ?_
    refine v_callH (pc := 1155) h (hC1) kh_L_busy wM_L_158 rfl rfl (Nat.le_of_ble_eq_true rfl) ⟨⟨Nat.le_of_ble_eq_true rfl, Nat.le_of_ble_eq_true rfl⟩, by show k + 2 ≤ 601024; omega, by show n + 12 ≤ 7293034; omega⟩ (dk dt_L_law_10 27 rfl) (fun v1155 μ1155 p1155 => ?_)
    rcases p1155 with ⟨e, rfl, hq⟩ | ⟨e, rfl, rfl⟩
    · exact goA e _ hq
    · exact goB e
  ·
    rw [bz_f c1146] at hC1
    refine v_iconst (pc := 1149) h (dk dt_L_law_10 23 rfl) ?_
    refine v_goto (pc := 1150) h 1154 (dk dt_L_law_10 24 rfl) rfl ?_
    refine v_aload_n (pc := 1154) h (dk dt_L_law_10 26 rfl) rfl ?_
    refine v_callH (pc := 1155) h (hC1) kh_L_busy wM_L_158 rfl rfl (Nat.le_of_ble_eq_true rfl) ⟨⟨Nat.le_of_ble_eq_true rfl, Nat.le_of_ble_eq_true rfl⟩, by show k + 2 ≤ 601024; omega, by show n + 12 ≤ 7293034; omega⟩ (dk dt_L_law_10 27 rfl) (fun v1155 μ1155 p1155 => ?_)
    rcases p1155 with ⟨e, rfl, hq⟩ | ⟨e, rfl, rfl⟩
    · exact goA e _ hq
    · exact goB e
theorem law_checksum (h : Ac a B D E RL code 9 room_1) (hX : va_X b L xs (axS a) (axS a).heap) (hbl : b < (axS a).heap.size) (hB : b < B) (hL : L ≤ 3072) (hi : i + 6 ≤ L) (hk : k + 3 ≤ 601024) (hn : n + 18 ≤ 7293034) (hR : RLm m)
    (hG : LawOK (axL a) B D E yL_checksum (.codeWith yL_checksum cL_checksum 3 (some .int) [(0, 8, 11, 15)]) rm_L_checksum [.ref (pl B 0), .ref (pl B 151)] yX12_checksum (.code yX12_checksum cX12_checksum 3 (some .int)) rm_X12_checksum [.ref (pl B 123)] m)
    (q : ∀ m2, RLm m2 → VV a B (SP B D E m2) (k + 3) (n + 18) 1816 (lvL B b i) []) : VV a B (SP B D E m) k n 1217 (lvL B b i) [] := by
  obtain ⟨rc, Q, hrc, hC1, hC2, hC3⟩ := hG
  have goB : rc ≠ 0 → VV a B (SP B D E m) (k + 1) (n + 6) 1222 (lvL B b i) [iI rc] := by
    intro hne
    have hM := hC2 hne
    refine v_istore (lv' := [(6, _), (5, _), (0, _), (1, _), (2, _), (3, _), (4, _)]) (pc := 1222) h (dk dt_L_law_11 3 rfl) (Nat.le_of_ble_eq_true rfl) rfl ?_
    refine v_aload_n (pc := 1224) h (dk dt_L_law_11 4 rfl) rfl ?_
    refine v_cV (pc := 1225) h (hM) kv_X12_checksum sh123 wM_L_164 rfl rfl (Nat.le_of_ble_eq_true rfl) ⟨⟨Nat.le_of_ble_eq_true rfl, Nat.le_of_ble_eq_true rfl⟩, by show k + 1 + (0) ≤ 601024; omega, by show n + 6 + (0) ≤ 7293034; omega⟩ rfl rfl (dk dt_L_law_11 5 rfl) (fun v1225 μ1225 p1225 => ?_)
    obtain ⟨rfl, rfl⟩ := p1225
    refine v_istore (lv' := [(7, _), (6, _), (5, _), (0, _), (1, _), (2, _), (3, _), (4, _)]) (pc := 1228) h (dk dt_L_law_11 6 rfl) (Nat.le_of_ble_eq_true rfl) rfl ?_
    refine v_aload_n (pc := 1230) h (dk dt_L_law_11 7 rfl) rfl ?_
    refine v_cVi (pc := 1231) h (c_X12_thrown h.quiet) kv_X12_thrown sh123 wM_L_107 rfl rfl (Nat.le_of_ble_eq_true rfl) ⟨⟨Nat.le_of_ble_eq_true rfl, Nat.le_of_ble_eq_true rfl⟩, by show k + 1 + (0) ≤ 601024; omega, by show n + 6 + (0) ≤ 7293034; omega⟩ rfl rfl (dk dt_L_law_11 8 rfl) ?_
    rw [mup_eq]
    refine v_iload (pc := 1234) h (dk dt_L_law_11 9 rfl) rfl ?_
    refine v_icmp_eqS (pc := 1236) h 1241 (dk dt_L_law_11 10 rfl) rfl ?_
    refine v_iload (pc := 1241) h (dk dt_L_law_11 13 rfl) rfl ?_
    refine v_if_ne (pc := 1243) h 1258 (dk dt_L_law_11 14 rfl) rfl (by omega) (fun c1243 => ?_) (fun c1243 => ?_)
    ·
      refine v_goto (pc := 1258) h 1816 (dk dt_L_law_11 24 rfl) rfl ?_
      exact VV.widen (by show k + 1 ≤ k + 3; omega) (by show n + 6 ≤ n + 18; omega) (VV.loc (q _ (RLm_sf hR sf_14)) ⟨rfl, rfl, rfl, rfl, rfl, rfl, trivial⟩)
    ·
      exact absurd c1243 hne
  have goA : rc = 0 → ∀ m1, Q m1 → VV a B (SP B D E m1) (k + 1) (n + 6) 1222 (lvL B b i) [iI 0] := by
    intro h0 m1 hq
    obtain ⟨v, hM⟩ := hC3 h0 m1 hq
    refine v_istore (lv' := [(6, _), (5, _), (0, _), (1, _), (2, _), (3, _), (4, _)]) (pc := 1222) h (dk dt_L_law_11 3 rfl) (Nat.le_of_ble_eq_true rfl) rfl ?_
    refine v_aload_n (pc := 1224) h (dk dt_L_law_11 4 rfl) rfl ?_
    refine v_cV (pc := 1225) h (hM) kv_X12_checksum sh123 wM_L_164 rfl rfl (Nat.le_of_ble_eq_true rfl) ⟨⟨Nat.le_of_ble_eq_true rfl, Nat.le_of_ble_eq_true rfl⟩, by show k + 1 + (0) ≤ 601024; omega, by show n + 6 + (0) ≤ 7293034; omega⟩ rfl rfl (dk dt_L_law_11 5 rfl) (fun v1225 μ1225 p1225 => ?_)
    obtain ⟨rfl, g14, g15, hR2⟩ := p1225
    refine v_istore (lv' := [(7, _), (6, _), (5, _), (0, _), (1, _), (2, _), (3, _), (4, _)]) (pc := 1228) h (dk dt_L_law_11 6 rfl) (Nat.le_of_ble_eq_true rfl) rfl ?_
    refine v_aload_n (pc := 1230) h (dk dt_L_law_11 7 rfl) rfl ?_
    refine v_cVi (pc := 1231) h (c_X12_thrown h.quiet) kv_X12_thrown sh123 wM_L_107 rfl rfl (Nat.le_of_ble_eq_true rfl) ⟨⟨Nat.le_of_ble_eq_true rfl, Nat.le_of_ble_eq_true rfl⟩, by show k + 1 + (0) ≤ 601024; omega, by show n + 6 + (0) ≤ 7293034; omega⟩ rfl rfl (dk dt_L_law_11 8 rfl) ?_
    rw [g14]
    refine v_iload (pc := 1234) h (dk dt_L_law_11 9 rfl) rfl ?_
    refine v_icmp_eqS (pc := 1236) h 1241 (dk dt_L_law_11 10 rfl) rfl ?_
    refine v_iload (pc := 1241) h (dk dt_L_law_11 13 rfl) rfl ?_
    refine v_if_ne (pc := 1243) h 1258 (dk dt_L_law_11 14 rfl) rfl (by omega) (fun c1243 => ?_) (fun c1243 => ?_)
    ·
      exact absurd rfl c1243
    ·
      refine v_aload_n (pc := 1246) h (dk dt_L_law_11 15 rfl) rfl ?_
      refine v_iconst (pc := 1247) h (dk dt_L_law_11 16 rfl) ?_
      refine v_lald (pc := 1248) h sh151 (Nat.le_of_ble_eq_true rfl) (by omega) (dk dt_L_law_11 17 rfl) ?_
      rw [show (0 : Int).toNat = 0 from rfl, g15]
      refine v_iload (pc := 1249) h (dk dt_L_law_11 18 rfl) rfl ?_
      refine v_i2lw (pc := 1251) h (dk dt_L_law_11 19 rfl) ?_
      refine v_lcmpS (pc := 1252) h (dk dt_L_law_11 20 rfl) ?_
      refine v_if_eq (pc := 1253) h 1258 (dk dt_L_law_11 21 rfl) rfl (by omega) (fun c1253 => ?_) (fun c1253 => ?_)
      ·
        refine v_goto (pc := 1258) h 1816 (dk dt_L_law_11 24 rfl) rfl ?_
        exact VV.widen (by show k + 1 ≤ k + 3; omega) (by show n + 6 ≤ n + 18; omega) (VV.loc (q _ hR2) ⟨rfl, rfl, rfl, rfl, rfl, rfl, trivial⟩)
      ·
        exact absurd rfl c1253
  refine v_aload_n (pc := 1217) h (dk dt_L_law_11 0 rfl) rfl ?_
  refine v_aload_n (pc := 1218) h (dk dt_L_law_11 1 rfl) rfl ?_
  refine v_callH (pc := 1219) h (hC1) kh_L_checksum wM_L_162 rfl rfl (Nat.le_of_ble_eq_true rfl) ⟨⟨Nat.le_of_ble_eq_true rfl, Nat.le_of_ble_eq_true rfl⟩, by show k + 1 ≤ 601024; omega, by show n + 6 ≤ 7293034; omega⟩ (dk dt_L_law_11 2 rfl) (fun v1219 μ1219 p1219 => ?_)
  rcases p1219 with ⟨e, rfl, hq⟩ | ⟨e, rfl, rfl⟩
  · exact goA e _ hq
  · exact goB e
theorem law_which (h : Ac a B D E RL code 9 room_1) (hX : va_X b L xs (axS a) (axS a).heap) (hbl : b < (axS a).heap.size) (hB : b < B) (hL : L ≤ 3072) (hi : i + 6 ≤ L) (hk : k + 3 ≤ 601024) (hn : n + 18 ≤ 7293034) (hR : RLm m)
    (hG : LawOK (axL a) B D E yL_which (.codeWith yL_which cL_which 3 (some .int) [(0, 8, 11, 15)]) rm_L_which [.ref (pl B 0), .ref (pl B 151)] yX12_which (.code yX12_which cX12_which 3 (some .int)) rm_X12_which [.ref (pl B 123)] m)
    (q : ∀ m2, RLm m2 → VV a B (SP B D E m2) (k + 3) (n + 18) 1816 (lvL B b i) []) : VV a B (SP B D E m) k n 1261 (lvL B b i) [] := by
  obtain ⟨rc, Q, hrc, hC1, hC2, hC3⟩ := hG
  have goB : rc ≠ 0 → VV a B (SP B D E m) (k + 1) (n + 6) 1266 (lvL B b i) [iI rc] := by
    intro hne
    have hM := hC2 hne
    refine v_istore (lv' := [(6, _), (5, _), (0, _), (1, _), (2, _), (3, _), (4, _)]) (pc := 1266) h (dk dt_L_law_11 28 rfl) (Nat.le_of_ble_eq_true rfl) rfl ?_
    refine v_aload_n (pc := 1268) h (dk dt_L_law_11 29 rfl) rfl ?_
    refine v_cV (pc := 1269) h (hM) kv_X12_which sh123 wM_L_167 rfl rfl (Nat.le_of_ble_eq_true rfl) ⟨⟨Nat.le_of_ble_eq_true rfl, Nat.le_of_ble_eq_true rfl⟩, by show k + 1 + (0) ≤ 601024; omega, by show n + 6 + (0) ≤ 7293034; omega⟩ rfl rfl (dk dt_L_law_11 30 rfl) (fun v1269 μ1269 p1269 => ?_)
    obtain ⟨rfl, rfl⟩ := p1269
    refine v_istore (lv' := [(7, _), (6, _), (5, _), (0, _), (1, _), (2, _), (3, _), (4, _)]) (pc := 1272) h (dk dt_L_law_11 31 rfl) (Nat.le_of_ble_eq_true rfl) rfl ?_
    refine v_aload_n (pc := 1274) h (dk dt_L_law_11 32 rfl) rfl ?_
    refine v_cVi (pc := 1275) h (c_X12_thrown h.quiet) kv_X12_thrown sh123 wM_L_107 rfl rfl (Nat.le_of_ble_eq_true rfl) ⟨⟨Nat.le_of_ble_eq_true rfl, Nat.le_of_ble_eq_true rfl⟩, by show k + 1 + (0) ≤ 601024; omega, by show n + 6 + (0) ≤ 7293034; omega⟩ rfl rfl (dk dt_L_law_11 33 rfl) ?_
    rw [mup_eq]
    refine v_iload (pc := 1278) h (dk dt_L_law_11 34 rfl) rfl ?_
    refine v_icmp_eqS (pc := 1280) h 1285 (dk dt_L_law_11 35 rfl) rfl ?_
    refine v_iload (pc := 1285) h (dk dt_L_law_11 38 rfl) rfl ?_
    refine v_if_ne (pc := 1287) h 1302 (dk dt_L_law_11 39 rfl) rfl (by omega) (fun c1287 => ?_) (fun c1287 => ?_)
    ·
      refine v_goto (pc := 1302) h 1816 (dk dt_L_law_11 49 rfl) rfl ?_
      exact VV.widen (by show k + 1 ≤ k + 3; omega) (by show n + 6 ≤ n + 18; omega) (VV.loc (q _ (RLm_sf hR sf_14)) ⟨rfl, rfl, rfl, rfl, rfl, rfl, trivial⟩)
    ·
      exact absurd c1287 hne
  have goA : rc = 0 → ∀ m1, Q m1 → VV a B (SP B D E m1) (k + 1) (n + 6) 1266 (lvL B b i) [iI 0] := by
    intro h0 m1 hq
    obtain ⟨v, hM⟩ := hC3 h0 m1 hq
    refine v_istore (lv' := [(6, _), (5, _), (0, _), (1, _), (2, _), (3, _), (4, _)]) (pc := 1266) h (dk dt_L_law_11 28 rfl) (Nat.le_of_ble_eq_true rfl) rfl ?_
    refine v_aload_n (pc := 1268) h (dk dt_L_law_11 29 rfl) rfl ?_
    refine v_cV (pc := 1269) h (hM) kv_X12_which sh123 wM_L_167 rfl rfl (Nat.le_of_ble_eq_true rfl) ⟨⟨Nat.le_of_ble_eq_true rfl, Nat.le_of_ble_eq_true rfl⟩, by show k + 1 + (0) ≤ 601024; omega, by show n + 6 + (0) ≤ 7293034; omega⟩ rfl rfl (dk dt_L_law_11 30 rfl) (fun v1269 μ1269 p1269 => ?_)
    obtain ⟨rfl, g14, g15, hR2⟩ := p1269
    refine v_istore (lv' := [(7, _), (6, _), (5, _), (0, _), (1, _), (2, _), (3, _), (4, _)]) (pc := 1272) h (dk dt_L_law_11 31 rfl) (Nat.le_of_ble_eq_true rfl) rfl ?_
    refine v_aload_n (pc := 1274) h (dk dt_L_law_11 32 rfl) rfl ?_
    refine v_cVi (pc := 1275) h (c_X12_thrown h.quiet) kv_X12_thrown sh123 wM_L_107 rfl rfl (Nat.le_of_ble_eq_true rfl) ⟨⟨Nat.le_of_ble_eq_true rfl, Nat.le_of_ble_eq_true rfl⟩, by show k + 1 + (0) ≤ 601024; omega, by show n + 6 + (0) ≤ 7293034; omega⟩ rfl rfl (dk dt_L_law_11 33 rfl) ?_
    rw [g14]
    refine v_iload (pc := 1278) h (dk dt_L_law_11 34 rfl) rfl ?_
    refine v_icmp_eqS (pc := 1280) h 1285 (dk dt_L_law_11 35 rfl) rfl ?_
    refine v_iload (pc := 1285) h (dk dt_L_law_11 38 rfl) rfl ?_
    refine v_if_ne (pc := 1287) h 1302 (dk dt_L_law_11 39 rfl) rfl (by omega) (fun c1287 => ?_) (fun c1287 => ?_)
    ·
      exact absurd rfl c1287
    ·
      refine v_aload_n (pc := 1290) h (dk dt_L_law_11 40 rfl) rfl ?_
      refine v_iconst (pc := 1291) h (dk dt_L_law_11 41 rfl) ?_
      refine v_lald (pc := 1292) h sh151 (Nat.le_of_ble_eq_true rfl) (by omega) (dk dt_L_law_11 42 rfl) ?_
      rw [show (0 : Int).toNat = 0 from rfl, g15]
      refine v_iload (pc := 1293) h (dk dt_L_law_11 43 rfl) rfl ?_
      refine v_i2lw (pc := 1295) h (dk dt_L_law_11 44 rfl) ?_
      refine v_lcmpS (pc := 1296) h (dk dt_L_law_11 45 rfl) ?_
      refine v_if_eq (pc := 1297) h 1302 (dk dt_L_law_11 46 rfl) rfl (by omega) (fun c1297 => ?_) (fun c1297 => ?_)
      ·
        refine v_goto (pc := 1302) h 1816 (dk dt_L_law_11 49 rfl) rfl ?_
        exact VV.widen (by show k + 1 ≤ k + 3; omega) (by show n + 6 ≤ n + 18; omega) (VV.loc (q _ hR2) ⟨rfl, rfl, rfl, rfl, rfl, rfl, trivial⟩)
      ·
        exact absurd rfl c1297
  refine v_aload_n (pc := 1261) h (dk dt_L_law_11 25 rfl) rfl ?_
  refine v_aload_n (pc := 1262) h (dk dt_L_law_11 26 rfl) rfl ?_
  refine v_callH (pc := 1263) h (hC1) kh_L_which wM_L_165 rfl rfl (Nat.le_of_ble_eq_true rfl) ⟨⟨Nat.le_of_ble_eq_true rfl, Nat.le_of_ble_eq_true rfl⟩, by show k + 1 ≤ 601024; omega, by show n + 6 ≤ 7293034; omega⟩ (dk dt_L_law_11 27 rfl) (fun v1263 μ1263 p1263 => ?_)
  rcases p1263 with ⟨e, rfl, hq⟩ | ⟨e, rfl, rfl⟩
  · exact goA e _ hq
  · exact goB e
theorem law_best (h : Ac a B D E RL code 9 room_1) (hX : va_X b L xs (axS a) (axS a).heap) (hbl : b < (axS a).heap.size) (hB : b < B) (hL : L ≤ 3072) (hi : i + 6 ≤ L) (hk : k + 3 ≤ 601024) (hn : n + 18 ≤ 7293034) (hR : RLm m)
    (hG : LawEq (axL a) B D E yX11_best (.code yX11_best cX11_best 5 (some .int)) rm_X11_best [.ref (pl B 0)] yX12_best (.code yX12_best cX12_best 5 (some .int)) rm_X12_best [.ref (pl B 123)] m (fun v => iI v))
    (q : ∀ m2, RLm m2 → VV a B (SP B D E m2) (k + 3) (n + 18) 1816 (lvL B b i) []) : VV a B (SP B D E m) k n 1305 (lvL B b i) [] := by
  obtain ⟨v, Q, hC1, hC2⟩ := hG
  refine v_aload_n (pc := 1305) h (dk dt_L_law_11 50 rfl) rfl ?_
  refine v_cV (pc := 1306) h (hC1) kv_X11_best sh0 wM_L_168 rfl rfl (Nat.le_of_ble_eq_true rfl) ⟨⟨Nat.le_of_ble_eq_true rfl, Nat.le_of_ble_eq_true rfl⟩, by show k + 0 ≤ 601024; omega, by show n + 0 ≤ 7293034; omega⟩ rfl rfl (dk dt_L_law_11 51 rfl) (fun v1306 μ1306 p1306 => ?_)
  obtain ⟨rfl, hq⟩ := p1306
  refine v_aload_n (pc := 1309) h (dk dt_L_law_11 52 rfl) rfl ?_
  refine v_cV (pc := 1310) h (hC2 _ hq) kv_X12_best sh123 wM_L_171 rfl rfl (Nat.le_of_ble_eq_true rfl) ⟨⟨Nat.le_of_ble_eq_true rfl, Nat.le_of_ble_eq_true rfl⟩, by show k + 0 ≤ 601024; omega, by show n + 0 ≤ 7293034; omega⟩ rfl rfl (dk dt_L_law_11 53 rfl) (fun v1310 μ1310 p1310 => ?_)
  obtain ⟨rfl, hR2⟩ := p1310
  refine v_icmp_eqS (pc := 1313) h 1816 (dk dt_L_law_11 54 rfl) rfl ?_
  exact VV.widen (by show k + 0 ≤ k + 3; omega) (by show n + 0 ≤ n + 18; omega) (VV.loc (q _ hR2) ⟨rfl, rfl, rfl, rfl, rfl, rfl, trivial⟩)
theorem law_two (h : Ac a B D E RL code 9 room_1) (hX : va_X b L xs (axS a) (axS a).heap) (hbl : b < (axS a).heap.size) (hB : b < B) (hL : L ≤ 3072) (hi : i + 6 ≤ L) (hk : k + 3 ≤ 601024) (hn : n + 18 ≤ 7293034) (hR : RLm m)
    (hG : LawEq (axL a) B D E yX11_two (.code yX11_two cX11_two 3 (some .int)) rm_X11_two [.ref (pl B 0), iI (bz (xs (i + 1)).toInt), iI (bz (xs (i + 2)).toInt)] yX12_two (.code yX12_two cX12_two 8 (some .int)) rm_X12_two [.ref (pl B 123), iI (bz (xs (i + 1)).toInt), iI (bz (xs (i + 2)).toInt)] m (fun v => iI v))
    (q : ∀ m2, RLm m2 → VV a B (SP B D E m2) (k + 3) (n + 18) 1816 (lvL B b i) []) : VV a B (SP B D E m) k n 1318 (lvL B b i) [] := by
  obtain ⟨v, Q, hC1, hC2⟩ := hG
  refine v_aload_n (pc := 1318) h (dk dt_L_law_11 57 rfl) rfl ?_
  refine v_aload_n (pc := 1319) h (dk dt_L_law_11 58 rfl) rfl ?_
  refine v_iload (pc := 1320) h (dk dt_L_law_11 59 rfl) rfl ?_
  refine v_iconst (pc := 1322) h (dk dt_L_law_11 60 rfl) ?_
  refine v_iadd (pc := 1323) h (dk dt_L_law_11 61 rfl) ?_
  refine v_sld (pc := 1324) h hX hbl hB hL (j := i + 1) ⟨by omega, by omega⟩ (dk dt_L_law_11 62 rfl) ?_
  refine v_if_eq (pc := 1325) h 1332 (dk dt_L_law_11 63 rfl) rfl (toInt_InR _) (fun c1325 => ?_) (fun c1325 => ?_)
  ·
    rw [bz_t c1325] at hC1
    refine v_iconst (pc := 1332) h (dk dt_L_law_12 2 rfl) ?_
    refine v_aload_n (pc := 1333) h (dk dt_L_law_12 3 rfl) rfl ?_
    refine v_iload (pc := 1334) h (dk dt_L_law_12 4 rfl) rfl ?_
    refine v_iconst (pc := 1336) h (dk dt_L_law_12 5 rfl) ?_
    refine v_iadd (pc := 1337) h (dk dt_L_law_12 6 rfl) ?_
    refine v_sld (pc := 1338) h hX hbl hB hL (j := i + 2) ⟨by omega, by omega⟩ (dk dt_L_law_12 7 rfl) ?_
    refine v_if_eq (pc := 1339) h 1346 (dk dt_L_law_12 8 rfl) rfl (toInt_InR _) (fun c1339 => ?_) (fun c1339 => ?_)
    ·
      rw [bz_t c1339] at hC1
      refine v_iconst (pc := 1346) h (dk dt_L_law_12 11 rfl) ?_
      refine v_cV (pc := 1347) h (hC1) kv_X11_two sh0 wM_L_172 rfl rfl (Nat.le_of_ble_eq_true rfl) ⟨⟨Nat.le_of_ble_eq_true rfl, Nat.le_of_ble_eq_true rfl⟩, by show k + 0 ≤ 601024; omega, by show n + 0 ≤ 7293034; omega⟩ rfl rfl (dk dt_L_law_12 12 rfl) (fun v1347 μ1347 p1347 => ?_)
      obtain ⟨rfl, hq⟩ := p1347
      refine v_aload_n (pc := 1350) h (dk dt_L_law_12 13 rfl) rfl ?_
      refine v_aload_n (pc := 1351) h (dk dt_L_law_12 14 rfl) rfl ?_
      refine v_iload (pc := 1352) h (dk dt_L_law_12 15 rfl) rfl ?_
      refine v_iconst (pc := 1354) h (dk dt_L_law_12 16 rfl) ?_
      refine v_iadd (pc := 1355) h (dk dt_L_law_12 17 rfl) ?_
      refine v_sld (pc := 1356) h hX hbl hB hL (j := i + 1) ⟨by omega, by omega⟩ (dk dt_L_law_12 18 rfl) ?_
      refine v_if_eq (pc := 1357) h 1364 (dk dt_L_law_12 19 rfl) rfl (toInt_InR _) (fun c1357 => ?_) (fun c1357 => ?_)
      ·
        rw [bz_t c1357] at hC2
        refine v_iconst (pc := 1364) h (dk dt_L_law_12 22 rfl) ?_
        refine v_aload_n (pc := 1365) h (dk dt_L_law_12 23 rfl) rfl ?_
        refine v_iload (pc := 1366) h (dk dt_L_law_12 24 rfl) rfl ?_
        refine v_iconst (pc := 1368) h (dk dt_L_law_12 25 rfl) ?_
        refine v_iadd (pc := 1369) h (dk dt_L_law_12 26 rfl) ?_
        refine v_sld (pc := 1370) h hX hbl hB hL (j := i + 2) ⟨by omega, by omega⟩ (dk dt_L_law_12 27 rfl) ?_
        refine v_if_eq (pc := 1371) h 1378 (dk dt_L_law_12 28 rfl) rfl (toInt_InR _) (fun c1371 => ?_) (fun c1371 => ?_)
        ·
          rw [bz_t c1371] at hC2
          refine v_iconst (pc := 1378) h (dk dt_L_law_12 31 rfl) ?_
          refine v_cV (pc := 1379) h (hC2 _ hq) kv_X12_two sh123 wM_L_176 rfl rfl (Nat.le_of_ble_eq_true rfl) ⟨⟨Nat.le_of_ble_eq_true rfl, Nat.le_of_ble_eq_true rfl⟩, by show k + 0 ≤ 601024; omega, by show n + 0 ≤ 7293034; omega⟩ rfl rfl (dk dt_L_law_12 32 rfl) (fun v1379 μ1379 p1379 => ?_)
          obtain ⟨rfl, hR2⟩ := p1379
          refine v_icmp_eqS (pc := 1382) h 1816 (dk dt_L_law_12 33 rfl) rfl ?_
          exact VV.widen (by show k + 0 ≤ k + 3; omega) (by show n + 0 ≤ n + 18; omega) (VV.loc (q _ hR2) ⟨rfl, rfl, rfl, rfl, rfl, rfl, trivial⟩)
        ·
          rw [bz_f c1371] at hC2
          refine v_iconst (pc := 1374) h (dk dt_L_law_12 29 rfl) ?_
          refine v_goto (pc := 1375) h 1379 (dk dt_L_law_12 30 rfl) rfl ?_
          refine v_cV (pc := 1379) h (hC2 _ hq) kv_X12_two sh123 wM_L_176 rfl rfl (Nat.le_of_ble_eq_true rfl) ⟨⟨Nat.le_of_ble_eq_true rfl, Nat.le_of_ble_eq_true rfl⟩, by show k + 0 ≤ 601024; omega, by show n + 0 ≤ 7293034; omega⟩ rfl rfl (dk dt_L_law_12 32 rfl) (fun v1379 μ1379 p1379 => ?_)
          obtain ⟨rfl, hR2⟩ := p1379
          refine v_icmp_eqS (pc := 1382) h 1816 (dk dt_L_law_12 33 rfl) rfl ?_
          exact VV.widen (by show k + 0 ≤ k + 3; omega) (by show n + 0 ≤ n + 18; omega) (VV.loc (q _ hR2) ⟨rfl, rfl, rfl, rfl, rfl, rfl, trivial⟩)
      ·
        rw [bz_f c1357] at hC2
        refine v_iconst (pc := 1360) h (dk dt_L_law_12 20 rfl) ?_
        refine v_goto (pc := 1361) h 1365 (dk dt_L_law_12 21 rfl) rfl ?_
        refine v_aload_n (pc := 1365) h (dk dt_L_law_12 23 rfl) rfl ?_
        refine v_iload (pc := 1366) h (dk dt_L_law_12 24 rfl) rfl ?_
        refine v_iconst (pc := 1368) h (dk dt_L_law_12 25 rfl) ?_
        refine v_iadd (pc := 1369) h (dk dt_L_law_12 26 rfl) ?_
        refine v_sld (pc := 1370) h hX hbl hB hL (j := i + 2) ⟨by omega, by omega⟩ (dk dt_L_law_12 27 rfl) ?_
        refine v_if_eq (pc := 1371) h 1378 (dk dt_L_law_12 28 rfl) rfl (toInt_InR _) (fun c1371 => ?_) (fun c1371 => ?_)
        ·
          rw [bz_t c1371] at hC2
          refine v_iconst (pc := 1378) h (dk dt_L_law_12 31 rfl) ?_
          refine v_cV (pc := 1379) h (hC2 _ hq) kv_X12_two sh123 wM_L_176 rfl rfl (Nat.le_of_ble_eq_true rfl) ⟨⟨Nat.le_of_ble_eq_true rfl, Nat.le_of_ble_eq_true rfl⟩, by show k + 0 ≤ 601024; omega, by show n + 0 ≤ 7293034; omega⟩ rfl rfl (dk dt_L_law_12 32 rfl) (fun v1379 μ1379 p1379 => ?_)
          obtain ⟨rfl, hR2⟩ := p1379
          refine v_icmp_eqS (pc := 1382) h 1816 (dk dt_L_law_12 33 rfl) rfl ?_
          exact VV.widen (by show k + 0 ≤ k + 3; omega) (by show n + 0 ≤ n + 18; omega) (VV.loc (q _ hR2) ⟨rfl, rfl, rfl, rfl, rfl, rfl, trivial⟩)
        ·
          rw [bz_f c1371] at hC2
          refine v_iconst (pc := 1374) h (dk dt_L_law_12 29 rfl) ?_
          refine v_goto (pc := 1375) h 1379 (dk dt_L_law_12 30 rfl) rfl ?_
          refine v_cV (pc := 1379) h (hC2 _ hq) kv_X12_two sh123 wM_L_176 rfl rfl (Nat.le_of_ble_eq_true rfl) ⟨⟨Nat.le_of_ble_eq_true rfl, Nat.le_of_ble_eq_true rfl⟩, by show k + 0 ≤ 601024; omega, by show n + 0 ≤ 7293034; omega⟩ rfl rfl (dk dt_L_law_12 32 rfl) (fun v1379 μ1379 p1379 => ?_)
          obtain ⟨rfl, hR2⟩ := p1379
          refine v_icmp_eqS (pc := 1382) h 1816 (dk dt_L_law_12 33 rfl) rfl ?_
          exact VV.widen (by show k + 0 ≤ k + 3; omega) (by show n + 0 ≤ n + 18; omega) (VV.loc (q _ hR2) ⟨rfl, rfl, rfl, rfl, rfl, rfl, trivial⟩)
    ·
      rw [bz_f c1339] at hC1
      refine v_iconst (pc := 1342) h (dk dt_L_law_12 9 rfl) ?_
      refine v_goto (pc := 1343) h 1347 (dk dt_L_law_12 10 rfl) rfl ?_
      refine v_cV (pc := 1347) h (hC1) kv_X11_two sh0 wM_L_172 rfl rfl (Nat.le_of_ble_eq_true rfl) ⟨⟨Nat.le_of_ble_eq_true rfl, Nat.le_of_ble_eq_true rfl⟩, by show k + 0 ≤ 601024; omega, by show n + 0 ≤ 7293034; omega⟩ rfl rfl (dk dt_L_law_12 12 rfl) (fun v1347 μ1347 p1347 => ?_)
      obtain ⟨rfl, hq⟩ := p1347
      refine v_aload_n (pc := 1350) h (dk dt_L_law_12 13 rfl) rfl ?_
      refine v_aload_n (pc := 1351) h (dk dt_L_law_12 14 rfl) rfl ?_
      refine v_iload (pc := 1352) h (dk dt_L_law_12 15 rfl) rfl ?_
      refine v_iconst (pc := 1354) h (dk dt_L_law_12 16 rfl) ?_
      refine v_iadd (pc := 1355) h (dk dt_L_law_12 17 rfl) ?_
      refine v_sld (pc := 1356) h hX hbl hB hL (j := i + 1) ⟨by omega, by omega⟩ (dk dt_L_law_12 18 rfl) ?_
      refine v_if_eq (pc := 1357) h 1364 (dk dt_L_law_12 19 rfl) rfl (toInt_InR _) (fun c1357 => ?_) (fun c1357 => ?_)
      ·
        rw [bz_t c1357] at hC2
        refine v_iconst (pc := 1364) h (dk dt_L_law_12 22 rfl) ?_
        refine v_aload_n (pc := 1365) h (dk dt_L_law_12 23 rfl) rfl ?_
        refine v_iload (pc := 1366) h (dk dt_L_law_12 24 rfl) rfl ?_
        refine v_iconst (pc := 1368) h (dk dt_L_law_12 25 rfl) ?_
        refine v_iadd (pc := 1369) h (dk dt_L_law_12 26 rfl) ?_
        refine v_sld (pc := 1370) h hX hbl hB hL (j := i + 2) ⟨by omega, by omega⟩ (dk dt_L_law_12 27 rfl) ?_
        refine v_if_eq (pc := 1371) h 1378 (dk dt_L_law_12 28 rfl) rfl (toInt_InR _) (fun c1371 => ?_) (fun c1371 => ?_)
        ·
          rw [bz_t c1371] at hC2
          refine v_iconst (pc := 1378) h (dk dt_L_law_12 31 rfl) ?_
          refine v_cV (pc := 1379) h (hC2 _ hq) kv_X12_two sh123 wM_L_176 rfl rfl (Nat.le_of_ble_eq_true rfl) ⟨⟨Nat.le_of_ble_eq_true rfl, Nat.le_of_ble_eq_true rfl⟩, by show k + 0 ≤ 601024; omega, by show n + 0 ≤ 7293034; omega⟩ rfl rfl (dk dt_L_law_12 32 rfl) (fun v1379 μ1379 p1379 => ?_)
          obtain ⟨rfl, hR2⟩ := p1379
          refine v_icmp_eqS (pc := 1382) h 1816 (dk dt_L_law_12 33 rfl) rfl ?_
          exact VV.widen (by show k + 0 ≤ k + 3; omega) (by show n + 0 ≤ n + 18; omega) (VV.loc (q _ hR2) ⟨rfl, rfl, rfl, rfl, rfl, rfl, trivial⟩)
        ·
          rw [bz_f c1371] at hC2
          refine v_iconst (pc := 1374) h (dk dt_L_law_12 29 rfl) ?_
          refine v_goto (pc := 1375) h 1379 (dk dt_L_law_12 30 rfl) rfl ?_
          refine v_cV (pc := 1379) h (hC2 _ hq) kv_X12_two sh123 wM_L_176 rfl rfl (Nat.le_of_ble_eq_true rfl) ⟨⟨Nat.le_of_ble_eq_true rfl, Nat.le_of_ble_eq_true rfl⟩, by show k + 0 ≤ 601024; omega, by show n + 0 ≤ 7293034; omega⟩ rfl rfl (dk dt_L_law_12 32 rfl) (fun v1379 μ1379 p1379 => ?_)
          obtain ⟨rfl, hR2⟩ := p1379
          refine v_icmp_eqS (pc := 1382) h 1816 (dk dt_L_law_12 33 rfl) rfl ?_
          exact VV.widen (by show k + 0 ≤ k + 3; omega) (by show n + 0 ≤ n + 18; omega) (VV.loc (q _ hR2) ⟨rfl, rfl, rfl, rfl, rfl, rfl, trivial⟩)
      ·
        rw [bz_f c1357] at hC2
        refine v_iconst (pc := 1360) h (dk dt_L_law_12 20 rfl) ?_
        refine v_goto (pc := 1361) h 1365 (dk dt_L_law_12 21 rfl) rfl ?_
        refine v_aload_n (pc := 1365) h (dk dt_L_law_12 23 rfl) rfl ?_
        refine v_iload (pc := 1366) h (dk dt_L_law_12 24 rfl) rfl ?_
        refine v_iconst (pc := 1368) h (dk dt_L_law_12 25 rfl) ?_
        refine v_iadd (pc := 1369) h (dk dt_L_law_12 26 rfl) ?_
        refine v_sld (pc := 1370) h hX hbl hB hL (j := i + 2) ⟨by omega, by omega⟩ (dk dt_L_law_12 27 rfl) ?_
        refine v_if_eq (pc := 1371) h 1378 (dk dt_L_law_12 28 rfl) rfl (toInt_InR _) (fun c1371 => ?_) (fun c1371 => ?_)
        ·
          rw [bz_t c1371] at hC2
          refine v_iconst (pc := 1378) h (dk dt_L_law_12 31 rfl) ?_
          refine v_cV (pc := 1379) h (hC2 _ hq) kv_X12_two sh123 wM_L_176 rfl rfl (Nat.le_of_ble_eq_true rfl) ⟨⟨Nat.le_of_ble_eq_true rfl, Nat.le_of_ble_eq_true rfl⟩, by show k + 0 ≤ 601024; omega, by show n + 0 ≤ 7293034; omega⟩ rfl rfl (dk dt_L_law_12 32 rfl) (fun v1379 μ1379 p1379 => ?_)
          obtain ⟨rfl, hR2⟩ := p1379
          refine v_icmp_eqS (pc := 1382) h 1816 (dk dt_L_law_12 33 rfl) rfl ?_
          exact VV.widen (by show k + 0 ≤ k + 3; omega) (by show n + 0 ≤ n + 18; omega) (VV.loc (q _ hR2) ⟨rfl, rfl, rfl, rfl, rfl, rfl, trivial⟩)
        ·
          rw [bz_f c1371] at hC2
          refine v_iconst (pc := 1374) h (dk dt_L_law_12 29 rfl) ?_
          refine v_goto (pc := 1375) h 1379 (dk dt_L_law_12 30 rfl) rfl ?_
          refine v_cV (pc := 1379) h (hC2 _ hq) kv_X12_two sh123 wM_L_176 rfl rfl (Nat.le_of_ble_eq_true rfl) ⟨⟨Nat.le_of_ble_eq_true rfl, Nat.le_of_ble_eq_true rfl⟩, by show k + 0 ≤ 601024; omega, by show n + 0 ≤ 7293034; omega⟩ rfl rfl (dk dt_L_law_12 32 rfl) (fun v1379 μ1379 p1379 => ?_)
          obtain ⟨rfl, hR2⟩ := p1379
          refine v_icmp_eqS (pc := 1382) h 1816 (dk dt_L_law_12 33 rfl) rfl ?_
          exact VV.widen (by show k + 0 ≤ k + 3; omega) (by show n + 0 ≤ n + 18; omega) (VV.loc (q _ hR2) ⟨rfl, rfl, rfl, rfl, rfl, rfl, trivial⟩)
  ·
    rw [bz_f c1325] at hC1
    refine v_iconst (pc := 1328) h (dk dt_L_law_12 0 rfl) ?_
    refine v_goto (pc := 1329) h 1333 (dk dt_L_law_12 1 rfl) rfl ?_
    refine v_aload_n (pc := 1333) h (dk dt_L_law_12 3 rfl) rfl ?_
    refine v_iload (pc := 1334) h (dk dt_L_law_12 4 rfl) rfl ?_
    refine v_iconst (pc := 1336) h (dk dt_L_law_12 5 rfl) ?_
    refine v_iadd (pc := 1337) h (dk dt_L_law_12 6 rfl) ?_
    refine v_sld (pc := 1338) h hX hbl hB hL (j := i + 2) ⟨by omega, by omega⟩ (dk dt_L_law_12 7 rfl) ?_
    refine v_if_eq (pc := 1339) h 1346 (dk dt_L_law_12 8 rfl) rfl (toInt_InR _) (fun c1339 => ?_) (fun c1339 => ?_)
    ·
      rw [bz_t c1339] at hC1
      refine v_iconst (pc := 1346) h (dk dt_L_law_12 11 rfl) ?_
      refine v_cV (pc := 1347) h (hC1) kv_X11_two sh0 wM_L_172 rfl rfl (Nat.le_of_ble_eq_true rfl) ⟨⟨Nat.le_of_ble_eq_true rfl, Nat.le_of_ble_eq_true rfl⟩, by show k + 0 ≤ 601024; omega, by show n + 0 ≤ 7293034; omega⟩ rfl rfl (dk dt_L_law_12 12 rfl) (fun v1347 μ1347 p1347 => ?_)
      obtain ⟨rfl, hq⟩ := p1347
      refine v_aload_n (pc := 1350) h (dk dt_L_law_12 13 rfl) rfl ?_
      refine v_aload_n (pc := 1351) h (dk dt_L_law_12 14 rfl) rfl ?_
      refine v_iload (pc := 1352) h (dk dt_L_law_12 15 rfl) rfl ?_
      refine v_iconst (pc := 1354) h (dk dt_L_law_12 16 rfl) ?_
      refine v_iadd (pc := 1355) h (dk dt_L_law_12 17 rfl) ?_
      refine v_sld (pc := 1356) h hX hbl hB hL (j := i + 1) ⟨by omega, by omega⟩ (dk dt_L_law_12 18 rfl) ?_
      refine v_if_eq (pc := 1357) h 1364 (dk dt_L_law_12 19 rfl) rfl (toInt_InR _) (fun c1357 => ?_) (fun c1357 => ?_)
      ·
        rw [bz_t c1357] at hC2
        refine v_iconst (pc := 1364) h (dk dt_L_law_12 22 rfl) ?_
        refine v_aload_n (pc := 1365) h (dk dt_L_law_12 23 rfl) rfl ?_
        refine v_iload (pc := 1366) h (dk dt_L_law_12 24 rfl) rfl ?_
        refine v_iconst (pc := 1368) h (dk dt_L_law_12 25 rfl) ?_
        refine v_iadd (pc := 1369) h (dk dt_L_law_12 26 rfl) ?_
        refine v_sld (pc := 1370) h hX hbl hB hL (j := i + 2) ⟨by omega, by omega⟩ (dk dt_L_law_12 27 rfl) ?_
        refine v_if_eq (pc := 1371) h 1378 (dk dt_L_law_12 28 rfl) rfl (toInt_InR _) (fun c1371 => ?_) (fun c1371 => ?_)
        ·
          rw [bz_t c1371] at hC2
          refine v_iconst (pc := 1378) h (dk dt_L_law_12 31 rfl) ?_
          refine v_cV (pc := 1379) h (hC2 _ hq) kv_X12_two sh123 wM_L_176 rfl rfl (Nat.le_of_ble_eq_true rfl) ⟨⟨Nat.le_of_ble_eq_true rfl, Nat.le_of_ble_eq_true rfl⟩, by show k + 0 ≤ 601024; omega, by show n + 0 ≤ 7293034; omega⟩ rfl rfl (dk dt_L_law_12 32 rfl) (fun v1379 μ1379 p1379 => ?_)
          obtain ⟨rfl, hR2⟩ := p1379
          refine v_icmp_eqS (pc := 1382) h 1816 (dk dt_L_law_12 33 rfl) rfl ?_
          exact VV.widen (by show k + 0 ≤ k + 3; omega) (by show n + 0 ≤ n + 18; omega) (VV.loc (q _ hR2) ⟨rfl, rfl, rfl, rfl, rfl, rfl, trivial⟩)
        ·
          rw [bz_f c1371] at hC2
          refine v_iconst (pc := 1374) h (dk dt_L_law_12 29 rfl) ?_
          refine v_goto (pc := 1375) h 1379 (dk dt_L_law_12 30 rfl) rfl ?_
          refine v_cV (pc := 1379) h (hC2 _ hq) kv_X12_two sh123 wM_L_176 rfl rfl (Nat.le_of_ble_eq_true rfl) ⟨⟨Nat.le_of_ble_eq_true rfl, Nat.le_of_ble_eq_true rfl⟩, by show k + 0 ≤ 601024; omega, by show n + 0 ≤ 7293034; omega⟩ rfl rfl (dk dt_L_law_12 32 rfl) (fun v1379 μ1379 p1379 => ?_)
          obtain ⟨rfl, hR2⟩ := p1379
          refine v_icmp_eqS (pc := 1382) h 1816 (dk dt_L_law_12 33 rfl) rfl ?_
          exact VV.widen (by show k + 0 ≤ k + 3; omega) (by show n + 0 ≤ n + 18; omega) (VV.loc (q _ hR2) ⟨rfl, rfl, rfl, rfl, rfl, rfl, trivial⟩)
      ·
        rw [bz_f c1357] at hC2
        refine v_iconst (pc := 1360) h (dk dt_L_law_12 20 rfl) ?_
        refine v_goto (pc := 1361) h 1365 (dk dt_L_law_12 21 rfl) rfl ?_
        refine v_aload_n (pc := 1365) h (dk dt_L_law_12 23 rfl) rfl ?_
        refine v_iload (pc := 1366) h (dk dt_L_law_12 24 rfl) rfl ?_
        refine v_iconst (pc := 1368) h (dk dt_L_law_12 25 rfl) ?_
        refine v_iadd (pc := 1369) h (dk dt_L_law_12 26 rfl) ?_
        refine v_sld (pc := 1370) h hX hbl hB hL (j := i + 2) ⟨by omega, by omega⟩ (dk dt_L_law_12 27 rfl) ?_
        refine v_if_eq (pc := 1371) h 1378 (dk dt_L_law_12 28 rfl) rfl (toInt_InR _) (fun c1371 => ?_) (fun c1371 => ?_)
        ·
          rw [bz_t c1371] at hC2
          refine v_iconst (pc := 1378) h (dk dt_L_law_12 31 rfl) ?_
          refine v_cV (pc := 1379) h (hC2 _ hq) kv_X12_two sh123 wM_L_176 rfl rfl (Nat.le_of_ble_eq_true rfl) ⟨⟨Nat.le_of_ble_eq_true rfl, Nat.le_of_ble_eq_true rfl⟩, by show k + 0 ≤ 601024; omega, by show n + 0 ≤ 7293034; omega⟩ rfl rfl (dk dt_L_law_12 32 rfl) (fun v1379 μ1379 p1379 => ?_)
          obtain ⟨rfl, hR2⟩ := p1379
          refine v_icmp_eqS (pc := 1382) h 1816 (dk dt_L_law_12 33 rfl) rfl ?_
          exact VV.widen (by show k + 0 ≤ k + 3; omega) (by show n + 0 ≤ n + 18; omega) (VV.loc (q _ hR2) ⟨rfl, rfl, rfl, rfl, rfl, rfl, trivial⟩)
        ·
          rw [bz_f c1371] at hC2
          refine v_iconst (pc := 1374) h (dk dt_L_law_12 29 rfl) ?_
          refine v_goto (pc := 1375) h 1379 (dk dt_L_law_12 30 rfl) rfl ?_
          refine v_cV (pc := 1379) h (hC2 _ hq) kv_X12_two sh123 wM_L_176 rfl rfl (Nat.le_of_ble_eq_true rfl) ⟨⟨Nat.le_of_ble_eq_true rfl, Nat.le_of_ble_eq_true rfl⟩, by show k + 0 ≤ 601024; omega, by show n + 0 ≤ 7293034; omega⟩ rfl rfl (dk dt_L_law_12 32 rfl) (fun v1379 μ1379 p1379 => ?_)
          obtain ⟨rfl, hR2⟩ := p1379
          refine v_icmp_eqS (pc := 1382) h 1816 (dk dt_L_law_12 33 rfl) rfl ?_
          exact VV.widen (by show k + 0 ≤ k + 3; omega) (by show n + 0 ≤ n + 18; omega) (VV.loc (q _ hR2) ⟨rfl, rfl, rfl, rfl, rfl, rfl, trivial⟩)
    ·
      rw [bz_f c1339] at hC1
      refine v_iconst (pc := 1342) h (dk dt_L_law_12 9 rfl) ?_
      refine v_goto (pc := 1343) h 1347 (dk dt_L_law_12 10 rfl) rfl ?_
      refine v_cV (pc := 1347) h (hC1) kv_X11_two sh0 wM_L_172 rfl rfl (Nat.le_of_ble_eq_true rfl) ⟨⟨Nat.le_of_ble_eq_true rfl, Nat.le_of_ble_eq_true rfl⟩, by show k + 0 ≤ 601024; omega, by show n + 0 ≤ 7293034; omega⟩ rfl rfl (dk dt_L_law_12 12 rfl) (fun v1347 μ1347 p1347 => ?_)
      obtain ⟨rfl, hq⟩ := p1347
      refine v_aload_n (pc := 1350) h (dk dt_L_law_12 13 rfl) rfl ?_
      refine v_aload_n (pc := 1351) h (dk dt_L_law_12 14 rfl) rfl ?_
      refine v_iload (pc := 1352) h (dk dt_L_law_12 15 rfl) rfl ?_
      refine v_iconst (pc := 1354) h (dk dt_L_law_12 16 rfl) ?_
      refine v_iadd (pc := 1355) h (dk dt_L_law_12 17 rfl) ?_
      refine v_sld (pc := 1356) h hX hbl hB hL (j := i + 1) ⟨by omega, by omega⟩ (dk dt_L_law_12 18 rfl) ?_
      refine v_if_eq (pc := 1357) h 1364 (dk dt_L_law_12 19 rfl) rfl (toInt_InR _) (fun c1357 => ?_) (fun c1357 => ?_)
      ·
        rw [bz_t c1357] at hC2
        refine v_iconst (pc := 1364) h (dk dt_L_law_12 22 rfl) ?_
        refine v_aload_n (pc := 1365) h (dk dt_L_law_12 23 rfl) rfl ?_
        refine v_iload (pc := 1366) h (dk dt_L_law_12 24 rfl) rfl ?_
        refine v_iconst (pc := 1368) h (dk dt_L_law_12 25 rfl) ?_
        refine v_iadd (pc := 1369) h (dk dt_L_law_12 26 rfl) ?_
        refine v_sld (pc := 1370) h hX hbl hB hL (j := i + 2) ⟨by omega, by omega⟩ (dk dt_L_law_12 27 rfl) ?_
        refine v_if_eq (pc := 1371) h 1378 (dk dt_L_law_12 28 rfl) rfl (toInt_InR _) (fun c1371 => ?_) (fun c1371 => ?_)
        ·
          rw [bz_t c1371] at hC2
          refine v_iconst (pc := 1378) h (dk dt_L_law_12 31 rfl) ?_
          refine v_cV (pc := 1379) h (hC2 _ hq) kv_X12_two sh123 wM_L_176 rfl rfl (Nat.le_of_ble_eq_true rfl) ⟨⟨Nat.le_of_ble_eq_true rfl, Nat.le_of_ble_eq_true rfl⟩, by show k + 0 ≤ 601024; omega, by show n + 0 ≤ 7293034; omega⟩ rfl rfl (dk dt_L_law_12 32 rfl) (fun v1379 μ1379 p1379 => ?_)
          obtain ⟨rfl, hR2⟩ := p1379
          refine v_icmp_eqS (pc := 1382) h 1816 (dk dt_L_law_12 33 rfl) rfl ?_
          exact VV.widen (by show k + 0 ≤ k + 3; omega) (by show n + 0 ≤ n + 18; omega) (VV.loc (q _ hR2) ⟨rfl, rfl, rfl, rfl, rfl, rfl, trivial⟩)
        ·
          rw [bz_f c1371] at hC2
          refine v_iconst (pc := 1374) h (dk dt_L_law_12 29 rfl) ?_
          refine v_goto (pc := 1375) h 1379 (dk dt_L_law_12 30 rfl) rfl ?_
          refine v_cV (pc := 1379) h (hC2 _ hq) kv_X12_two sh123 wM_L_176 rfl rfl (Nat.le_of_ble_eq_true rfl) ⟨⟨Nat.le_of_ble_eq_true rfl, Nat.le_of_ble_eq_true rfl⟩, by show k + 0 ≤ 601024; omega, by show n + 0 ≤ 7293034; omega⟩ rfl rfl (dk dt_L_law_12 32 rfl) (fun v1379 μ1379 p1379 => ?_)
          obtain ⟨rfl, hR2⟩ := p1379
          refine v_icmp_eqS (pc := 1382) h 1816 (dk dt_L_law_12 33 rfl) rfl ?_
          exact VV.widen (by show k + 0 ≤ k + 3; omega) (by show n + 0 ≤ n + 18; omega) (VV.loc (q _ hR2) ⟨rfl, rfl, rfl, rfl, rfl, rfl, trivial⟩)
      ·
        rw [bz_f c1357] at hC2
        refine v_iconst (pc := 1360) h (dk dt_L_law_12 20 rfl) ?_
        refine v_goto (pc := 1361) h 1365 (dk dt_L_law_12 21 rfl) rfl ?_
        refine v_aload_n (pc := 1365) h (dk dt_L_law_12 23 rfl) rfl ?_
        refine v_iload (pc := 1366) h (dk dt_L_law_12 24 rfl) rfl ?_
        refine v_iconst (pc := 1368) h (dk dt_L_law_12 25 rfl) ?_
        refine v_iadd (pc := 1369) h (dk dt_L_law_12 26 rfl) ?_
        refine v_sld (pc := 1370) h hX hbl hB hL (j := i + 2) ⟨by omega, by omega⟩ (dk dt_L_law_12 27 rfl) ?_
        refine v_if_eq (pc := 1371) h 1378 (dk dt_L_law_12 28 rfl) rfl (toInt_InR _) (fun c1371 => ?_) (fun c1371 => ?_)
        ·
          rw [bz_t c1371] at hC2
          refine v_iconst (pc := 1378) h (dk dt_L_law_12 31 rfl) ?_
          refine v_cV (pc := 1379) h (hC2 _ hq) kv_X12_two sh123 wM_L_176 rfl rfl (Nat.le_of_ble_eq_true rfl) ⟨⟨Nat.le_of_ble_eq_true rfl, Nat.le_of_ble_eq_true rfl⟩, by show k + 0 ≤ 601024; omega, by show n + 0 ≤ 7293034; omega⟩ rfl rfl (dk dt_L_law_12 32 rfl) (fun v1379 μ1379 p1379 => ?_)
          obtain ⟨rfl, hR2⟩ := p1379
          refine v_icmp_eqS (pc := 1382) h 1816 (dk dt_L_law_12 33 rfl) rfl ?_
          exact VV.widen (by show k + 0 ≤ k + 3; omega) (by show n + 0 ≤ n + 18; omega) (VV.loc (q _ hR2) ⟨rfl, rfl, rfl, rfl, rfl, rfl, trivial⟩)
        ·
          rw [bz_f c1371] at hC2
          refine v_iconst (pc := 1374) h (dk dt_L_law_12 29 rfl) ?_
          refine v_goto (pc := 1375) h 1379 (dk dt_L_law_12 30 rfl) rfl ?_
          refine v_cV (pc := 1379) h (hC2 _ hq) kv_X12_two sh123 wM_L_176 rfl rfl (Nat.le_of_ble_eq_true rfl) ⟨⟨Nat.le_of_ble_eq_true rfl, Nat.le_of_ble_eq_true rfl⟩, by show k + 0 ≤ 601024; omega, by show n + 0 ≤ 7293034; omega⟩ rfl rfl (dk dt_L_law_12 32 rfl) (fun v1379 μ1379 p1379 => ?_)
          obtain ⟨rfl, hR2⟩ := p1379
          refine v_icmp_eqS (pc := 1382) h 1816 (dk dt_L_law_12 33 rfl) rfl ?_
          exact VV.widen (by show k + 0 ≤ k + 3; omega) (by show n + 0 ≤ n + 18; omega) (VV.loc (q _ hR2) ⟨rfl, rfl, rfl, rfl, rfl, rfl, trivial⟩)
theorem law_isFeasible (h : Ac a B D E RL code 9 room_1) (hX : va_X b L xs (axS a) (axS a).heap) (hbl : b < (axS a).heap.size) (hB : b < B) (hL : L ≤ 3072) (hi : i + 6 ≤ L) (hk : k + 3 ≤ 601024) (hn : n + 18 ≤ 7293034) (hR : RLm m)
    (hG : LawZ (axL a) B D E yL_isFeasible (.codeWith yL_isFeasible cL_isFeasible 3 (some .int) [(0, 15, 18, 15)]) rm_L_isFeasible [.ref (pl B 0), .ref (pl B 151)] yX12_isFeasible (.code yX12_isFeasible cX12_isFeasible 1 (some .boolean)) rm_X12_isFeasible [.ref (pl B 123)] m)
    (q : ∀ m2, RLm m2 → VV a B (SP B D E m2) (k + 3) (n + 18) 1816 (lvL B b i) []) : VV a B (SP B D E m) k n 1387 (lvL B b i) [] := by
  obtain ⟨rc, Q, hrc, hC1, hC2, hC3⟩ := hG
  have goB : rc ≠ 0 → VV a B (SP B D E m) (k + 1) (n + 6) 1392 (lvL B b i) [iI rc] := by
    intro hne
    have hM := hC2 hne
    refine v_istore (lv' := [(6, _), (5, _), (0, _), (1, _), (2, _), (3, _), (4, _)]) (pc := 1392) h (dk dt_L_law_12 39 rfl) (Nat.le_of_ble_eq_true rfl) rfl ?_
    refine v_aload_n (pc := 1394) h (dk dt_L_law_12 40 rfl) rfl ?_
    refine v_cV (pc := 1395) h (hM) kv_X12_isFeasible sh123 wM_L_179 rfl rfl (Nat.le_of_ble_eq_true rfl) ⟨⟨Nat.le_of_ble_eq_true rfl, Nat.le_of_ble_eq_true rfl⟩, by show k + 1 + (0) ≤ 601024; omega, by show n + 6 + (0) ≤ 7293034; omega⟩ rfl rfl (dk dt_L_law_12 41 rfl) (fun v1395 μ1395 p1395 => ?_)
    obtain ⟨rfl, rfl⟩ := p1395
    refine v_istore (lv' := [(7, _), (6, _), (5, _), (0, _), (1, _), (2, _), (3, _), (4, _)]) (pc := 1398) h (dk dt_L_law_12 42 rfl) (Nat.le_of_ble_eq_true rfl) rfl ?_
    refine v_aload_n (pc := 1400) h (dk dt_L_law_12 43 rfl) rfl ?_
    refine v_cVi (pc := 1401) h (c_X12_thrown h.quiet) kv_X12_thrown sh123 wM_L_107 rfl rfl (Nat.le_of_ble_eq_true rfl) ⟨⟨Nat.le_of_ble_eq_true rfl, Nat.le_of_ble_eq_true rfl⟩, by show k + 1 + (0) ≤ 601024; omega, by show n + 6 + (0) ≤ 7293034; omega⟩ rfl rfl (dk dt_L_law_12 44 rfl) ?_
    rw [mup_eq]
    refine v_iload (pc := 1404) h (dk dt_L_law_12 45 rfl) rfl ?_
    refine v_icmp_eqS (pc := 1406) h 1411 (dk dt_L_law_12 46 rfl) rfl ?_
    refine v_iload (pc := 1411) h (dk dt_L_law_12 49 rfl) rfl ?_
    refine v_if_ne (pc := 1413) h 1435 (dk dt_L_law_12 50 rfl) rfl (by omega) (fun c1413 => ?_) (fun c1413 => ?_)
    ·
      refine v_goto (pc := 1435) h 1816 (dk dt_L_law_12 63 rfl) rfl ?_
      exact VV.widen (by show k + 1 ≤ k + 3; omega) (by show n + 6 ≤ n + 18; omega) (VV.loc (q _ (RLm_sf hR sf_14)) ⟨rfl, rfl, rfl, rfl, rfl, rfl, trivial⟩)
    ·
      exact absurd c1413 hne
  have goA : rc = 0 → ∀ m1, Q m1 → VV a B (SP B D E m1) (k + 1) (n + 6) 1392 (lvL B b i) [iI 0] := by
    intro h0 m1 hq
    obtain ⟨v, hv, hM⟩ := hC3 h0 m1 hq
    refine v_istore (lv' := [(6, _), (5, _), (0, _), (1, _), (2, _), (3, _), (4, _)]) (pc := 1392) h (dk dt_L_law_12 39 rfl) (Nat.le_of_ble_eq_true rfl) rfl ?_
    refine v_aload_n (pc := 1394) h (dk dt_L_law_12 40 rfl) rfl ?_
    refine v_cV (pc := 1395) h (hM) kv_X12_isFeasible sh123 wM_L_179 rfl rfl (Nat.le_of_ble_eq_true rfl) ⟨⟨Nat.le_of_ble_eq_true rfl, Nat.le_of_ble_eq_true rfl⟩, by show k + 1 + (0) ≤ 601024; omega, by show n + 6 + (0) ≤ 7293034; omega⟩ rfl rfl (dk dt_L_law_12 41 rfl) (fun v1395 μ1395 p1395 => ?_)
    obtain ⟨rfl, g14, g15, hR2⟩ := p1395
    refine v_istore (lv' := [(7, _), (6, _), (5, _), (0, _), (1, _), (2, _), (3, _), (4, _)]) (pc := 1398) h (dk dt_L_law_12 42 rfl) (Nat.le_of_ble_eq_true rfl) rfl ?_
    refine v_aload_n (pc := 1400) h (dk dt_L_law_12 43 rfl) rfl ?_
    refine v_cVi (pc := 1401) h (c_X12_thrown h.quiet) kv_X12_thrown sh123 wM_L_107 rfl rfl (Nat.le_of_ble_eq_true rfl) ⟨⟨Nat.le_of_ble_eq_true rfl, Nat.le_of_ble_eq_true rfl⟩, by show k + 1 + (0) ≤ 601024; omega, by show n + 6 + (0) ≤ 7293034; omega⟩ rfl rfl (dk dt_L_law_12 44 rfl) ?_
    rw [g14]
    refine v_iload (pc := 1404) h (dk dt_L_law_12 45 rfl) rfl ?_
    refine v_icmp_eqS (pc := 1406) h 1411 (dk dt_L_law_12 46 rfl) rfl ?_
    refine v_iload (pc := 1411) h (dk dt_L_law_12 49 rfl) rfl ?_
    refine v_if_ne (pc := 1413) h 1435 (dk dt_L_law_12 50 rfl) rfl (by omega) (fun c1413 => ?_) (fun c1413 => ?_)
    ·
      exact absurd rfl c1413
    ·
      refine v_aload_n (pc := 1416) h (dk dt_L_law_12 51 rfl) rfl ?_
      refine v_iconst (pc := 1417) h (dk dt_L_law_12 52 rfl) ?_
      refine v_lald (pc := 1418) h sh151 (Nat.le_of_ble_eq_true rfl) (by omega) (dk dt_L_law_12 53 rfl) ?_
      rw [show (0 : Int).toNat = 0 from rfl, g15]
      refine v_iload (pc := 1419) h (dk dt_L_law_12 54 rfl) rfl ?_
      refine v_if_eq (pc := 1421) h 1428 (dk dt_L_law_12 55 rfl) rfl (by omega) (fun c1421 => ?_) (fun c1421 => ?_)
      ·
        subst c1421
        refine v_lconst (pc := 1428) (y := 0) h (dk dt_L_law_12 58 rfl) rfl ?_
        refine v_lcmpS (pc := 1429) h (dk dt_L_law_12 59 rfl) ?_
        refine v_if_eq (pc := 1430) h 1435 (dk dt_L_law_12 60 rfl) rfl (by omega) (fun c1430 => ?_) (fun c1430 => ?_)
        ·
          refine v_goto (pc := 1435) h 1816 (dk dt_L_law_12 63 rfl) rfl ?_
          exact VV.widen (by show k + 1 ≤ k + 3; omega) (by show n + 6 ≤ n + 18; omega) (VV.loc (q _ hR2) ⟨rfl, rfl, rfl, rfl, rfl, rfl, trivial⟩)
        ·
          exact absurd rfl c1430
      ·
        have ev : v = 1 := by omega
        subst ev
        refine v_lconst (pc := 1424) (y := 1) h (dk dt_L_law_12 56 rfl) rfl ?_
        refine v_goto (pc := 1425) h 1429 (dk dt_L_law_12 57 rfl) rfl ?_
        refine v_lcmpS (pc := 1429) h (dk dt_L_law_12 59 rfl) ?_
        refine v_if_eq (pc := 1430) h 1435 (dk dt_L_law_12 60 rfl) rfl (by omega) (fun c1430 => ?_) (fun c1430 => ?_)
        ·
          refine v_goto (pc := 1435) h 1816 (dk dt_L_law_12 63 rfl) rfl ?_
          exact VV.widen (by show k + 1 ≤ k + 3; omega) (by show n + 6 ≤ n + 18; omega) (VV.loc (q _ hR2) ⟨rfl, rfl, rfl, rfl, rfl, rfl, trivial⟩)
        ·
          exact absurd rfl c1430
  refine v_aload_n (pc := 1387) h (dk dt_L_law_12 36 rfl) rfl ?_
  refine v_aload_n (pc := 1388) h (dk dt_L_law_12 37 rfl) rfl ?_
  refine v_callH (pc := 1389) h (hC1) kh_L_isFeasible wM_L_177 rfl rfl (Nat.le_of_ble_eq_true rfl) ⟨⟨Nat.le_of_ble_eq_true rfl, Nat.le_of_ble_eq_true rfl⟩, by show k + 1 ≤ 601024; omega, by show n + 6 ≤ 7293034; omega⟩ (dk dt_L_law_12 38 rfl) (fun v1389 μ1389 p1389 => ?_)
  rcases p1389 with ⟨e, rfl, hq⟩ | ⟨e, rfl, rfl⟩
  · exact goA e _ hq
  · exact goB e
theorem law_full (h : Ac a B D E RL code 9 room_1) (hX : va_X b L xs (axS a) (axS a).heap) (hbl : b < (axS a).heap.size) (hB : b < B) (hL : L ≤ 3072) (hi : i + 6 ≤ L) (hk : k + 3 ≤ 601024) (hn : n + 18 ≤ 7293034) (hR : RLm m)
    (hG : LawOK (axL a) B D E yL_full (.codeWith yL_full cL_full 4 (some .int) [(0, 9, 12, 13)]) rm_L_full [.ref (pl B 0), iI (xs (i + 1)).toInt, .ref (pl B 151)] yX12_full (.code yX12_full cX12_full 2 (some .int)) rm_X12_full [.ref (pl B 123), iI (xs (i + 1)).toInt] m)
    (q : ∀ m2, RLm m2 → VV a B (SP B D E m2) (k + 3) (n + 18) 1816 (lvL B b i) []) : VV a B (SP B D E m) k n 1438 (lvL B b i) [] := by
  obtain ⟨rc, Q, hrc, hC1, hC2, hC3⟩ := hG
  have goB : rc ≠ 0 → VV a B (SP B D E m) (k + 1) (n + 6) 1449 (lvL B b i) [iI rc] := by
    intro hne
    have hM := hC2 hne
    refine v_istore (lv' := [(6, _), (5, _), (0, _), (1, _), (2, _), (3, _), (4, _)]) (pc := 1449) h (dk dt_L_law_13 8 rfl) (Nat.le_of_ble_eq_true rfl) rfl ?_
    refine v_aload_n (pc := 1451) h (dk dt_L_law_13 9 rfl) rfl ?_
    refine v_aload_n (pc := 1452) h (dk dt_L_law_13 10 rfl) rfl ?_
    refine v_iload (pc := 1453) h (dk dt_L_law_13 11 rfl) rfl ?_
    refine v_iconst (pc := 1455) h (dk dt_L_law_13 12 rfl) ?_
    refine v_iadd (pc := 1456) h (dk dt_L_law_13 13 rfl) ?_
    refine v_sld (pc := 1457) h hX hbl hB hL (j := i + 1) ⟨by omega, by omega⟩ (dk dt_L_law_13 14 rfl) ?_
    refine v_cV (pc := 1458) h (hM) kv_X12_full sh123 wM_L_182 rfl rfl (Nat.le_of_ble_eq_true rfl) ⟨⟨Nat.le_of_ble_eq_true rfl, Nat.le_of_ble_eq_true rfl⟩, by show k + 1 + (0) ≤ 601024; omega, by show n + 6 + (0) ≤ 7293034; omega⟩ rfl rfl (dk dt_L_law_13 15 rfl) (fun v1458 μ1458 p1458 => ?_)
    obtain ⟨rfl, rfl⟩ := p1458
    refine v_istore (lv' := [(7, _), (6, _), (5, _), (0, _), (1, _), (2, _), (3, _), (4, _)]) (pc := 1461) h (dk dt_L_law_13 16 rfl) (Nat.le_of_ble_eq_true rfl) rfl ?_
    refine v_aload_n (pc := 1463) h (dk dt_L_law_13 17 rfl) rfl ?_
    refine v_cVi (pc := 1464) h (c_X12_thrown h.quiet) kv_X12_thrown sh123 wM_L_107 rfl rfl (Nat.le_of_ble_eq_true rfl) ⟨⟨Nat.le_of_ble_eq_true rfl, Nat.le_of_ble_eq_true rfl⟩, by show k + 1 + (0) ≤ 601024; omega, by show n + 6 + (0) ≤ 7293034; omega⟩ rfl rfl (dk dt_L_law_13 18 rfl) ?_
    rw [mup_eq]
    refine v_iload (pc := 1467) h (dk dt_L_law_13 19 rfl) rfl ?_
    refine v_icmp_eqS (pc := 1469) h 1474 (dk dt_L_law_13 20 rfl) rfl ?_
    refine v_iload (pc := 1474) h (dk dt_L_law_13 23 rfl) rfl ?_
    refine v_if_ne (pc := 1476) h 1491 (dk dt_L_law_13 24 rfl) rfl (by omega) (fun c1476 => ?_) (fun c1476 => ?_)
    ·
      refine v_goto (pc := 1491) h 1816 (dk dt_L_law_13 34 rfl) rfl ?_
      exact VV.widen (by show k + 1 ≤ k + 3; omega) (by show n + 6 ≤ n + 18; omega) (VV.loc (q _ (RLm_sf hR sf_14)) ⟨rfl, rfl, rfl, rfl, rfl, rfl, trivial⟩)
    ·
      exact absurd c1476 hne
  have goA : rc = 0 → ∀ m1, Q m1 → VV a B (SP B D E m1) (k + 1) (n + 6) 1449 (lvL B b i) [iI 0] := by
    intro h0 m1 hq
    obtain ⟨v, hM⟩ := hC3 h0 m1 hq
    refine v_istore (lv' := [(6, _), (5, _), (0, _), (1, _), (2, _), (3, _), (4, _)]) (pc := 1449) h (dk dt_L_law_13 8 rfl) (Nat.le_of_ble_eq_true rfl) rfl ?_
    refine v_aload_n (pc := 1451) h (dk dt_L_law_13 9 rfl) rfl ?_
    refine v_aload_n (pc := 1452) h (dk dt_L_law_13 10 rfl) rfl ?_
    refine v_iload (pc := 1453) h (dk dt_L_law_13 11 rfl) rfl ?_
    refine v_iconst (pc := 1455) h (dk dt_L_law_13 12 rfl) ?_
    refine v_iadd (pc := 1456) h (dk dt_L_law_13 13 rfl) ?_
    refine v_sld (pc := 1457) h hX hbl hB hL (j := i + 1) ⟨by omega, by omega⟩ (dk dt_L_law_13 14 rfl) ?_
    refine v_cV (pc := 1458) h (hM) kv_X12_full sh123 wM_L_182 rfl rfl (Nat.le_of_ble_eq_true rfl) ⟨⟨Nat.le_of_ble_eq_true rfl, Nat.le_of_ble_eq_true rfl⟩, by show k + 1 + (0) ≤ 601024; omega, by show n + 6 + (0) ≤ 7293034; omega⟩ rfl rfl (dk dt_L_law_13 15 rfl) (fun v1458 μ1458 p1458 => ?_)
    obtain ⟨rfl, g14, g15, hR2⟩ := p1458
    refine v_istore (lv' := [(7, _), (6, _), (5, _), (0, _), (1, _), (2, _), (3, _), (4, _)]) (pc := 1461) h (dk dt_L_law_13 16 rfl) (Nat.le_of_ble_eq_true rfl) rfl ?_
    refine v_aload_n (pc := 1463) h (dk dt_L_law_13 17 rfl) rfl ?_
    refine v_cVi (pc := 1464) h (c_X12_thrown h.quiet) kv_X12_thrown sh123 wM_L_107 rfl rfl (Nat.le_of_ble_eq_true rfl) ⟨⟨Nat.le_of_ble_eq_true rfl, Nat.le_of_ble_eq_true rfl⟩, by show k + 1 + (0) ≤ 601024; omega, by show n + 6 + (0) ≤ 7293034; omega⟩ rfl rfl (dk dt_L_law_13 18 rfl) ?_
    rw [g14]
    refine v_iload (pc := 1467) h (dk dt_L_law_13 19 rfl) rfl ?_
    refine v_icmp_eqS (pc := 1469) h 1474 (dk dt_L_law_13 20 rfl) rfl ?_
    refine v_iload (pc := 1474) h (dk dt_L_law_13 23 rfl) rfl ?_
    refine v_if_ne (pc := 1476) h 1491 (dk dt_L_law_13 24 rfl) rfl (by omega) (fun c1476 => ?_) (fun c1476 => ?_)
    ·
      exact absurd rfl c1476
    ·
      refine v_aload_n (pc := 1479) h (dk dt_L_law_13 25 rfl) rfl ?_
      refine v_iconst (pc := 1480) h (dk dt_L_law_13 26 rfl) ?_
      refine v_lald (pc := 1481) h sh151 (Nat.le_of_ble_eq_true rfl) (by omega) (dk dt_L_law_13 27 rfl) ?_
      rw [show (0 : Int).toNat = 0 from rfl, g15]
      refine v_iload (pc := 1482) h (dk dt_L_law_13 28 rfl) rfl ?_
      refine v_i2lw (pc := 1484) h (dk dt_L_law_13 29 rfl) ?_
      refine v_lcmpS (pc := 1485) h (dk dt_L_law_13 30 rfl) ?_
      refine v_if_eq (pc := 1486) h 1491 (dk dt_L_law_13 31 rfl) rfl (by omega) (fun c1486 => ?_) (fun c1486 => ?_)
      ·
        refine v_goto (pc := 1491) h 1816 (dk dt_L_law_13 34 rfl) rfl ?_
        exact VV.widen (by show k + 1 ≤ k + 3; omega) (by show n + 6 ≤ n + 18; omega) (VV.loc (q _ hR2) ⟨rfl, rfl, rfl, rfl, rfl, rfl, trivial⟩)
      ·
        exact absurd rfl c1486
  refine v_aload_n (pc := 1438) h (dk dt_L_law_13 0 rfl) rfl ?_
  refine v_aload_n (pc := 1439) h (dk dt_L_law_13 1 rfl) rfl ?_
  refine v_iload (pc := 1440) h (dk dt_L_law_13 2 rfl) rfl ?_
  refine v_iconst (pc := 1442) h (dk dt_L_law_13 3 rfl) ?_
  refine v_iadd (pc := 1443) h (dk dt_L_law_13 4 rfl) ?_
  refine v_sld (pc := 1444) h hX hbl hB hL (j := i + 1) ⟨by omega, by omega⟩ (dk dt_L_law_13 5 rfl) ?_
  refine v_aload_n (pc := 1445) h (dk dt_L_law_13 6 rfl) rfl ?_
  refine v_callH (pc := 1446) h (hC1) kh_L_full wM_L_180 rfl rfl (Nat.le_of_ble_eq_true rfl) ⟨⟨Nat.le_of_ble_eq_true rfl, Nat.le_of_ble_eq_true rfl⟩, by show k + 1 ≤ 601024; omega, by show n + 6 ≤ 7293034; omega⟩ (dk dt_L_law_13 7 rfl) (fun v1446 μ1446 p1446 => ?_)
  rcases p1446 with ⟨e, rfl, hq⟩ | ⟨e, rfl, rfl⟩
  · exact goA e _ hq
  · exact goB e
theorem law_task (h : Ac a B D E RL code 9 room_1) (hX : va_X b L xs (axS a) (axS a).heap) (hbl : b < (axS a).heap.size) (hB : b < B) (hL : L ≤ 3072) (hi : i + 6 ≤ L) (hk : k + 3 ≤ 601024) (hn : n + 18 ≤ 7293034) (hR : RLm m)
    (hG : LawOK (axL a) B D E yL_task (.codeWith yL_task cL_task 6 (some .int) [(0, 12, 15, 13), (0, 12, 19, 15)]) rm_L_task [.ref (pl B 0), iI (xs (i + 1)).toInt, iI (xs (i + 2)).toInt, iI (xs (i + 3)).toInt, .ref (pl B 151)] yX12_task (.code yX12_task cX12_task 4 (some .int)) rm_X12_task [.ref (pl B 123), iI (xs (i + 1)).toInt, iI (xs (i + 2)).toInt, iI (xs (i + 3)).toInt] m)
    (q : ∀ m2, RLm m2 → VV a B (SP B D E m2) (k + 3) (n + 18) 1816 (lvL B b i) []) : VV a B (SP B D E m) k n 1494 (lvL B b i) [] := by
  obtain ⟨rc, Q, hrc, hC1, hC2, hC3⟩ := hG
  have goB : rc ≠ 0 → VV a B (SP B D E m) (k + 1) (n + 6) 1517 (lvL B b i) [iI rc] := by
    intro hne
    have hM := hC2 hne
    refine v_istore (lv' := [(6, _), (5, _), (0, _), (1, _), (2, _), (3, _), (4, _)]) (pc := 1517) h (dk dt_L_law_13 53 rfl) (Nat.le_of_ble_eq_true rfl) rfl ?_
    refine v_aload_n (pc := 1519) h (dk dt_L_law_13 54 rfl) rfl ?_
    refine v_aload_n (pc := 1520) h (dk dt_L_law_13 55 rfl) rfl ?_
    refine v_iload (pc := 1521) h (dk dt_L_law_13 56 rfl) rfl ?_
    refine v_iconst (pc := 1523) h (dk dt_L_law_13 57 rfl) ?_
    refine v_iadd (pc := 1524) h (dk dt_L_law_13 58 rfl) ?_
    refine v_sld (pc := 1525) h hX hbl hB hL (j := i + 1) ⟨by omega, by omega⟩ (dk dt_L_law_13 59 rfl) ?_
    refine v_aload_n (pc := 1526) h (dk dt_L_law_13 60 rfl) rfl ?_
    refine v_iload (pc := 1527) h (dk dt_L_law_13 61 rfl) rfl ?_
    refine v_iconst (pc := 1529) h (dk dt_L_law_13 62 rfl) ?_
    refine v_iadd (pc := 1530) h (dk dt_L_law_13 63 rfl) ?_
    refine v_sld (pc := 1531) h hX hbl hB hL (j := i + 2) ⟨by omega, by omega⟩ (dk dt_L_law_14 0 rfl) ?_
    refine v_aload_n (pc := 1532) h (dk dt_L_law_14 1 rfl) rfl ?_
    refine v_iload (pc := 1533) h (dk dt_L_law_14 2 rfl) rfl ?_
    refine v_iconst (pc := 1535) h (dk dt_L_law_14 3 rfl) ?_
    refine v_iadd (pc := 1536) h (dk dt_L_law_14 4 rfl) ?_
    refine v_sld (pc := 1537) h hX hbl hB hL (j := i + 3) ⟨by omega, by omega⟩ (dk dt_L_law_14 5 rfl) ?_
    refine v_cV (pc := 1538) h (hM) kv_X12_task sh123 wM_L_186 rfl rfl (Nat.le_of_ble_eq_true rfl) ⟨⟨Nat.le_of_ble_eq_true rfl, Nat.le_of_ble_eq_true rfl⟩, by show k + 1 + (0) ≤ 601024; omega, by show n + 6 + (0) ≤ 7293034; omega⟩ rfl rfl (dk dt_L_law_14 6 rfl) (fun v1538 μ1538 p1538 => ?_)
    obtain ⟨rfl, rfl⟩ := p1538
    refine v_istore (lv' := [(7, _), (6, _), (5, _), (0, _), (1, _), (2, _), (3, _), (4, _)]) (pc := 1541) h (dk dt_L_law_14 7 rfl) (Nat.le_of_ble_eq_true rfl) rfl ?_
    refine v_aload_n (pc := 1543) h (dk dt_L_law_14 8 rfl) rfl ?_
    refine v_cVi (pc := 1544) h (c_X12_thrown h.quiet) kv_X12_thrown sh123 wM_L_107 rfl rfl (Nat.le_of_ble_eq_true rfl) ⟨⟨Nat.le_of_ble_eq_true rfl, Nat.le_of_ble_eq_true rfl⟩, by show k + 1 + (0) ≤ 601024; omega, by show n + 6 + (0) ≤ 7293034; omega⟩ rfl rfl (dk dt_L_law_14 9 rfl) ?_
    rw [mup_eq]
    refine v_iload (pc := 1547) h (dk dt_L_law_14 10 rfl) rfl ?_
    refine v_icmp_eqS (pc := 1549) h 1554 (dk dt_L_law_14 11 rfl) rfl ?_
    refine v_iload (pc := 1554) h (dk dt_L_law_14 14 rfl) rfl ?_
    refine v_if_ne (pc := 1556) h 1571 (dk dt_L_law_14 15 rfl) rfl (by omega) (fun c1556 => ?_) (fun c1556 => ?_)
    ·
      refine v_goto (pc := 1571) h 1816 (dk dt_L_law_14 25 rfl) rfl ?_
      exact VV.widen (by show k + 1 ≤ k + 3; omega) (by show n + 6 ≤ n + 18; omega) (VV.loc (q _ (RLm_sf hR sf_14)) ⟨rfl, rfl, rfl, rfl, rfl, rfl, trivial⟩)
    ·
      exact absurd c1556 hne
  have goA : rc = 0 → ∀ m1, Q m1 → VV a B (SP B D E m1) (k + 1) (n + 6) 1517 (lvL B b i) [iI 0] := by
    intro h0 m1 hq
    obtain ⟨v, hM⟩ := hC3 h0 m1 hq
    refine v_istore (lv' := [(6, _), (5, _), (0, _), (1, _), (2, _), (3, _), (4, _)]) (pc := 1517) h (dk dt_L_law_13 53 rfl) (Nat.le_of_ble_eq_true rfl) rfl ?_
    refine v_aload_n (pc := 1519) h (dk dt_L_law_13 54 rfl) rfl ?_
    refine v_aload_n (pc := 1520) h (dk dt_L_law_13 55 rfl) rfl ?_
    refine v_iload (pc := 1521) h (dk dt_L_law_13 56 rfl) rfl ?_
    refine v_iconst (pc := 1523) h (dk dt_L_law_13 57 rfl) ?_
    refine v_iadd (pc := 1524) h (dk dt_L_law_13 58 rfl) ?_
    refine v_sld (pc := 1525) h hX hbl hB hL (j := i + 1) ⟨by omega, by omega⟩ (dk dt_L_law_13 59 rfl) ?_
    refine v_aload_n (pc := 1526) h (dk dt_L_law_13 60 rfl) rfl ?_
    refine v_iload (pc := 1527) h (dk dt_L_law_13 61 rfl) rfl ?_
    refine v_iconst (pc := 1529) h (dk dt_L_law_13 62 rfl) ?_
    refine v_iadd (pc := 1530) h (dk dt_L_law_13 63 rfl) ?_
    refine v_sld (pc := 1531) h hX hbl hB hL (j := i + 2) ⟨by omega, by omega⟩ (dk dt_L_law_14 0 rfl) ?_
    refine v_aload_n (pc := 1532) h (dk dt_L_law_14 1 rfl) rfl ?_
    refine v_iload (pc := 1533) h (dk dt_L_law_14 2 rfl) rfl ?_
    refine v_iconst (pc := 1535) h (dk dt_L_law_14 3 rfl) ?_
    refine v_iadd (pc := 1536) h (dk dt_L_law_14 4 rfl) ?_
    refine v_sld (pc := 1537) h hX hbl hB hL (j := i + 3) ⟨by omega, by omega⟩ (dk dt_L_law_14 5 rfl) ?_
    refine v_cV (pc := 1538) h (hM) kv_X12_task sh123 wM_L_186 rfl rfl (Nat.le_of_ble_eq_true rfl) ⟨⟨Nat.le_of_ble_eq_true rfl, Nat.le_of_ble_eq_true rfl⟩, by show k + 1 + (0) ≤ 601024; omega, by show n + 6 + (0) ≤ 7293034; omega⟩ rfl rfl (dk dt_L_law_14 6 rfl) (fun v1538 μ1538 p1538 => ?_)
    obtain ⟨rfl, g14, g15, hR2⟩ := p1538
    refine v_istore (lv' := [(7, _), (6, _), (5, _), (0, _), (1, _), (2, _), (3, _), (4, _)]) (pc := 1541) h (dk dt_L_law_14 7 rfl) (Nat.le_of_ble_eq_true rfl) rfl ?_
    refine v_aload_n (pc := 1543) h (dk dt_L_law_14 8 rfl) rfl ?_
    refine v_cVi (pc := 1544) h (c_X12_thrown h.quiet) kv_X12_thrown sh123 wM_L_107 rfl rfl (Nat.le_of_ble_eq_true rfl) ⟨⟨Nat.le_of_ble_eq_true rfl, Nat.le_of_ble_eq_true rfl⟩, by show k + 1 + (0) ≤ 601024; omega, by show n + 6 + (0) ≤ 7293034; omega⟩ rfl rfl (dk dt_L_law_14 9 rfl) ?_
    rw [g14]
    refine v_iload (pc := 1547) h (dk dt_L_law_14 10 rfl) rfl ?_
    refine v_icmp_eqS (pc := 1549) h 1554 (dk dt_L_law_14 11 rfl) rfl ?_
    refine v_iload (pc := 1554) h (dk dt_L_law_14 14 rfl) rfl ?_
    refine v_if_ne (pc := 1556) h 1571 (dk dt_L_law_14 15 rfl) rfl (by omega) (fun c1556 => ?_) (fun c1556 => ?_)
    ·
      exact absurd rfl c1556
    ·
      refine v_aload_n (pc := 1559) h (dk dt_L_law_14 16 rfl) rfl ?_
      refine v_iconst (pc := 1560) h (dk dt_L_law_14 17 rfl) ?_
      refine v_lald (pc := 1561) h sh151 (Nat.le_of_ble_eq_true rfl) (by omega) (dk dt_L_law_14 18 rfl) ?_
      rw [show (0 : Int).toNat = 0 from rfl, g15]
      refine v_iload (pc := 1562) h (dk dt_L_law_14 19 rfl) rfl ?_
      refine v_i2lw (pc := 1564) h (dk dt_L_law_14 20 rfl) ?_
      refine v_lcmpS (pc := 1565) h (dk dt_L_law_14 21 rfl) ?_
      refine v_if_eq (pc := 1566) h 1571 (dk dt_L_law_14 22 rfl) rfl (by omega) (fun c1566 => ?_) (fun c1566 => ?_)
      ·
        refine v_goto (pc := 1571) h 1816 (dk dt_L_law_14 25 rfl) rfl ?_
        exact VV.widen (by show k + 1 ≤ k + 3; omega) (by show n + 6 ≤ n + 18; omega) (VV.loc (q _ hR2) ⟨rfl, rfl, rfl, rfl, rfl, rfl, trivial⟩)
      ·
        exact absurd rfl c1566
  refine v_aload_n (pc := 1494) h (dk dt_L_law_13 35 rfl) rfl ?_
  refine v_aload_n (pc := 1495) h (dk dt_L_law_13 36 rfl) rfl ?_
  refine v_iload (pc := 1496) h (dk dt_L_law_13 37 rfl) rfl ?_
  refine v_iconst (pc := 1498) h (dk dt_L_law_13 38 rfl) ?_
  refine v_iadd (pc := 1499) h (dk dt_L_law_13 39 rfl) ?_
  refine v_sld (pc := 1500) h hX hbl hB hL (j := i + 1) ⟨by omega, by omega⟩ (dk dt_L_law_13 40 rfl) ?_
  refine v_aload_n (pc := 1501) h (dk dt_L_law_13 41 rfl) rfl ?_
  refine v_iload (pc := 1502) h (dk dt_L_law_13 42 rfl) rfl ?_
  refine v_iconst (pc := 1504) h (dk dt_L_law_13 43 rfl) ?_
  refine v_iadd (pc := 1505) h (dk dt_L_law_13 44 rfl) ?_
  refine v_sld (pc := 1506) h hX hbl hB hL (j := i + 2) ⟨by omega, by omega⟩ (dk dt_L_law_13 45 rfl) ?_
  refine v_aload_n (pc := 1507) h (dk dt_L_law_13 46 rfl) rfl ?_
  refine v_iload (pc := 1508) h (dk dt_L_law_13 47 rfl) rfl ?_
  refine v_iconst (pc := 1510) h (dk dt_L_law_13 48 rfl) ?_
  refine v_iadd (pc := 1511) h (dk dt_L_law_13 49 rfl) ?_
  refine v_sld (pc := 1512) h hX hbl hB hL (j := i + 3) ⟨by omega, by omega⟩ (dk dt_L_law_13 50 rfl) ?_
  refine v_aload_n (pc := 1513) h (dk dt_L_law_13 51 rfl) rfl ?_
  refine v_callH (pc := 1514) h (hC1) kh_L_task wM_L_183 rfl rfl (Nat.le_of_ble_eq_true rfl) ⟨⟨Nat.le_of_ble_eq_true rfl, Nat.le_of_ble_eq_true rfl⟩, by show k + 1 ≤ 601024; omega, by show n + 6 ≤ 7293034; omega⟩ (dk dt_L_law_13 52 rfl) (fun v1514 μ1514 p1514 => ?_)
  rcases p1514 with ⟨e, rfl, hq⟩ | ⟨e, rfl, rfl⟩
  · exact goA e _ hq
  · exact goB e
theorem law_load (h : Ac a B D E RL code 9 room_1) (hX : va_X b L xs (axS a) (axS a).heap) (hbl : b < (axS a).heap.size) (hB : b < B) (hL : L ≤ 3072) (hi : i + 6 ≤ L) (hk : k + 3 ≤ 601024) (hn : n + 18 ≤ 7293034) (hR : RLm m)
    (hG : LawEq (axL a) B D E yX11_load (.code yX11_load cX11_load 8 (some .long)) rm_X11_load [.ref (pl B 0), iI (bz (xs (i + 1)).toInt)] yX12_load (.code yX12_load cX12_load 8 (some .long)) rm_X12_load [.ref (pl B 123), iI (bz (xs (i + 1)).toInt)] m (fun v => iL v))
    (q : ∀ m2, RLm m2 → VV a B (SP B D E m2) (k + 3) (n + 18) 1816 (lvL B b i) []) : VV a B (SP B D E m) k n 1574 (lvL B b i) [] := by
  obtain ⟨v, Q, hC1, hC2⟩ := hG
  refine v_aload_n (pc := 1574) h (dk dt_L_law_14 26 rfl) rfl ?_
  refine v_aload_n (pc := 1575) h (dk dt_L_law_14 27 rfl) rfl ?_
  refine v_iload (pc := 1576) h (dk dt_L_law_14 28 rfl) rfl ?_
  refine v_iconst (pc := 1578) h (dk dt_L_law_14 29 rfl) ?_
  refine v_iadd (pc := 1579) h (dk dt_L_law_14 30 rfl) ?_
  refine v_sld (pc := 1580) h hX hbl hB hL (j := i + 1) ⟨by omega, by omega⟩ (dk dt_L_law_14 31 rfl) ?_
  refine v_if_eq (pc := 1581) h 1588 (dk dt_L_law_14 32 rfl) rfl (toInt_InR _) (fun c1581 => ?_) (fun c1581 => ?_)
  ·
    rw [bz_t c1581] at hC1
    refine v_iconst (pc := 1588) h (dk dt_L_law_14 35 rfl) ?_
    refine v_cV (pc := 1589) h (hC1) kv_X11_load sh0 wM_L_187 rfl rfl (Nat.le_of_ble_eq_true rfl) ⟨⟨Nat.le_of_ble_eq_true rfl, Nat.le_of_ble_eq_true rfl⟩, by show k + 0 ≤ 601024; omega, by show n + 0 ≤ 7293034; omega⟩ rfl rfl (dk dt_L_law_14 36 rfl) (fun v1589 μ1589 p1589 => ?_)
    obtain ⟨rfl, hq⟩ := p1589
    refine v_aload_n (pc := 1592) h (dk dt_L_law_14 37 rfl) rfl ?_
    refine v_aload_n (pc := 1593) h (dk dt_L_law_14 38 rfl) rfl ?_
    refine v_iload (pc := 1594) h (dk dt_L_law_14 39 rfl) rfl ?_
    refine v_iconst (pc := 1596) h (dk dt_L_law_14 40 rfl) ?_
    refine v_iadd (pc := 1597) h (dk dt_L_law_14 41 rfl) ?_
    refine v_sld (pc := 1598) h hX hbl hB hL (j := i + 1) ⟨by omega, by omega⟩ (dk dt_L_law_14 42 rfl) ?_
    refine v_if_eq (pc := 1599) h 1606 (dk dt_L_law_14 43 rfl) rfl (toInt_InR _) (fun c1599 => ?_) (fun c1599 => ?_)
    ·
      rw [bz_t c1599] at hC2
      refine v_iconst (pc := 1606) h (dk dt_L_law_14 46 rfl) ?_
      refine v_cV (pc := 1607) h (hC2 _ hq) kv_X12_load sh123 wM_L_191 rfl rfl (Nat.le_of_ble_eq_true rfl) ⟨⟨Nat.le_of_ble_eq_true rfl, Nat.le_of_ble_eq_true rfl⟩, by show k + 0 ≤ 601024; omega, by show n + 0 ≤ 7293034; omega⟩ rfl rfl (dk dt_L_law_14 47 rfl) (fun v1607 μ1607 p1607 => ?_)
      obtain ⟨rfl, hR2⟩ := p1607
      refine v_lcmpS (pc := 1610) h (dk dt_L_law_14 48 rfl) ?_
      refine v_if_eq (pc := 1611) h 1816 (dk dt_L_law_14 49 rfl) rfl (by omega) (fun c1611 => ?_) (fun c1611 => ?_)
      ·
        exact VV.widen (by show k + 0 ≤ k + 3; omega) (by show n + 0 ≤ n + 18; omega) (VV.loc (q _ hR2) ⟨rfl, rfl, rfl, rfl, rfl, rfl, trivial⟩)
      ·
        exact absurd rfl c1611
    ·
      rw [bz_f c1599] at hC2
      refine v_iconst (pc := 1602) h (dk dt_L_law_14 44 rfl) ?_
      refine v_goto (pc := 1603) h 1607 (dk dt_L_law_14 45 rfl) rfl ?_
      refine v_cV (pc := 1607) h (hC2 _ hq) kv_X12_load sh123 wM_L_191 rfl rfl (Nat.le_of_ble_eq_true rfl) ⟨⟨Nat.le_of_ble_eq_true rfl, Nat.le_of_ble_eq_true rfl⟩, by show k + 0 ≤ 601024; omega, by show n + 0 ≤ 7293034; omega⟩ rfl rfl (dk dt_L_law_14 47 rfl) (fun v1607 μ1607 p1607 => ?_)
      obtain ⟨rfl, hR2⟩ := p1607
      refine v_lcmpS (pc := 1610) h (dk dt_L_law_14 48 rfl) ?_
      refine v_if_eq (pc := 1611) h 1816 (dk dt_L_law_14 49 rfl) rfl (by omega) (fun c1611 => ?_) (fun c1611 => ?_)
      ·
        exact VV.widen (by show k + 0 ≤ k + 3; omega) (by show n + 0 ≤ n + 18; omega) (VV.loc (q _ hR2) ⟨rfl, rfl, rfl, rfl, rfl, rfl, trivial⟩)
      ·
        exact absurd rfl c1611
  ·
    rw [bz_f c1581] at hC1
    refine v_iconst (pc := 1584) h (dk dt_L_law_14 33 rfl) ?_
    refine v_goto (pc := 1585) h 1589 (dk dt_L_law_14 34 rfl) rfl ?_
    refine v_cV (pc := 1589) h (hC1) kv_X11_load sh0 wM_L_187 rfl rfl (Nat.le_of_ble_eq_true rfl) ⟨⟨Nat.le_of_ble_eq_true rfl, Nat.le_of_ble_eq_true rfl⟩, by show k + 0 ≤ 601024; omega, by show n + 0 ≤ 7293034; omega⟩ rfl rfl (dk dt_L_law_14 36 rfl) (fun v1589 μ1589 p1589 => ?_)
    obtain ⟨rfl, hq⟩ := p1589
    refine v_aload_n (pc := 1592) h (dk dt_L_law_14 37 rfl) rfl ?_
    refine v_aload_n (pc := 1593) h (dk dt_L_law_14 38 rfl) rfl ?_
    refine v_iload (pc := 1594) h (dk dt_L_law_14 39 rfl) rfl ?_
    refine v_iconst (pc := 1596) h (dk dt_L_law_14 40 rfl) ?_
    refine v_iadd (pc := 1597) h (dk dt_L_law_14 41 rfl) ?_
    refine v_sld (pc := 1598) h hX hbl hB hL (j := i + 1) ⟨by omega, by omega⟩ (dk dt_L_law_14 42 rfl) ?_
    refine v_if_eq (pc := 1599) h 1606 (dk dt_L_law_14 43 rfl) rfl (toInt_InR _) (fun c1599 => ?_) (fun c1599 => ?_)
    ·
      rw [bz_t c1599] at hC2
      refine v_iconst (pc := 1606) h (dk dt_L_law_14 46 rfl) ?_
      refine v_cV (pc := 1607) h (hC2 _ hq) kv_X12_load sh123 wM_L_191 rfl rfl (Nat.le_of_ble_eq_true rfl) ⟨⟨Nat.le_of_ble_eq_true rfl, Nat.le_of_ble_eq_true rfl⟩, by show k + 0 ≤ 601024; omega, by show n + 0 ≤ 7293034; omega⟩ rfl rfl (dk dt_L_law_14 47 rfl) (fun v1607 μ1607 p1607 => ?_)
      obtain ⟨rfl, hR2⟩ := p1607
      refine v_lcmpS (pc := 1610) h (dk dt_L_law_14 48 rfl) ?_
      refine v_if_eq (pc := 1611) h 1816 (dk dt_L_law_14 49 rfl) rfl (by omega) (fun c1611 => ?_) (fun c1611 => ?_)
      ·
        exact VV.widen (by show k + 0 ≤ k + 3; omega) (by show n + 0 ≤ n + 18; omega) (VV.loc (q _ hR2) ⟨rfl, rfl, rfl, rfl, rfl, rfl, trivial⟩)
      ·
        exact absurd rfl c1611
    ·
      rw [bz_f c1599] at hC2
      refine v_iconst (pc := 1602) h (dk dt_L_law_14 44 rfl) ?_
      refine v_goto (pc := 1603) h 1607 (dk dt_L_law_14 45 rfl) rfl ?_
      refine v_cV (pc := 1607) h (hC2 _ hq) kv_X12_load sh123 wM_L_191 rfl rfl (Nat.le_of_ble_eq_true rfl) ⟨⟨Nat.le_of_ble_eq_true rfl, Nat.le_of_ble_eq_true rfl⟩, by show k + 0 ≤ 601024; omega, by show n + 0 ≤ 7293034; omega⟩ rfl rfl (dk dt_L_law_14 47 rfl) (fun v1607 μ1607 p1607 => ?_)
      obtain ⟨rfl, hR2⟩ := p1607
      refine v_lcmpS (pc := 1610) h (dk dt_L_law_14 48 rfl) ?_
      refine v_if_eq (pc := 1611) h 1816 (dk dt_L_law_14 49 rfl) rfl (by omega) (fun c1611 => ?_) (fun c1611 => ?_)
      ·
        exact VV.widen (by show k + 0 ≤ k + 3; omega) (by show n + 0 ≤ n + 18; omega) (VV.loc (q _ hR2) ⟨rfl, rfl, rfl, rfl, rfl, rfl, trivial⟩)
      ·
        exact absurd rfl c1611
theorem law_response (h : Ac a B D E RL code 9 room_1) (hX : va_X b L xs (axS a) (axS a).heap) (hbl : b < (axS a).heap.size) (hB : b < B) (hL : L ≤ 3072) (hi : i + 6 ≤ L) (hk : k + 3 ≤ 601024) (hn : n + 18 ≤ 7293034) (hR : RLm m)
    (hG : LawOK (axL a) B D E yL_response (.codeWith yL_response cL_response 4 (some .int) [(0, 9, 12, 21)]) rm_L_response [.ref (pl B 0), iI (xs (i + 1)).toInt, .ref (pl B 151)] yX12_response (.code yX12_response cX12_response 6 (some .int)) rm_X12_response [.ref (pl B 123), iI (xs (i + 1)).toInt] m)
    (q : ∀ m2, RLm m2 → VV a B (SP B D E m2) (k + 3) (n + 18) 1816 (lvL B b i) []) : VV a B (SP B D E m) k n 1616 (lvL B b i) [] := by
  obtain ⟨rc, Q, hrc, hC1, hC2, hC3⟩ := hG
  have goB : rc ≠ 0 → VV a B (SP B D E m) (k + 1) (n + 6) 1627 (lvL B b i) [iI rc] := by
    intro hne
    have hM := hC2 hne
    refine v_istore (lv' := [(6, _), (5, _), (0, _), (1, _), (2, _), (3, _), (4, _)]) (pc := 1627) h (dk dt_L_law_14 60 rfl) (Nat.le_of_ble_eq_true rfl) rfl ?_
    refine v_aload_n (pc := 1629) h (dk dt_L_law_14 61 rfl) rfl ?_
    refine v_aload_n (pc := 1630) h (dk dt_L_law_14 62 rfl) rfl ?_
    refine v_iload (pc := 1631) h (dk dt_L_law_14 63 rfl) rfl ?_
    refine v_iconst (pc := 1633) h (dk dt_L_law_15 0 rfl) ?_
    refine v_iadd (pc := 1634) h (dk dt_L_law_15 1 rfl) ?_
    refine v_sld (pc := 1635) h hX hbl hB hL (j := i + 1) ⟨by omega, by omega⟩ (dk dt_L_law_15 2 rfl) ?_
    refine v_cV (pc := 1636) h (hM) kv_X12_response sh123 wM_L_194 rfl rfl (Nat.le_of_ble_eq_true rfl) ⟨⟨Nat.le_of_ble_eq_true rfl, Nat.le_of_ble_eq_true rfl⟩, by show k + 1 + (0) ≤ 601024; omega, by show n + 6 + (0) ≤ 7293034; omega⟩ rfl rfl (dk dt_L_law_15 3 rfl) (fun v1636 μ1636 p1636 => ?_)
    obtain ⟨rfl, rfl⟩ := p1636
    refine v_istore (lv' := [(7, _), (6, _), (5, _), (0, _), (1, _), (2, _), (3, _), (4, _)]) (pc := 1639) h (dk dt_L_law_15 4 rfl) (Nat.le_of_ble_eq_true rfl) rfl ?_
    refine v_aload_n (pc := 1641) h (dk dt_L_law_15 5 rfl) rfl ?_
    refine v_cVi (pc := 1642) h (c_X12_thrown h.quiet) kv_X12_thrown sh123 wM_L_107 rfl rfl (Nat.le_of_ble_eq_true rfl) ⟨⟨Nat.le_of_ble_eq_true rfl, Nat.le_of_ble_eq_true rfl⟩, by show k + 1 + (0) ≤ 601024; omega, by show n + 6 + (0) ≤ 7293034; omega⟩ rfl rfl (dk dt_L_law_15 6 rfl) ?_
    rw [mup_eq]
    refine v_iload (pc := 1645) h (dk dt_L_law_15 7 rfl) rfl ?_
    refine v_icmp_eqS (pc := 1647) h 1652 (dk dt_L_law_15 8 rfl) rfl ?_
    refine v_iload (pc := 1652) h (dk dt_L_law_15 11 rfl) rfl ?_
    refine v_if_ne (pc := 1654) h 1669 (dk dt_L_law_15 12 rfl) rfl (by omega) (fun c1654 => ?_) (fun c1654 => ?_)
    ·
      refine v_goto (pc := 1669) h 1816 (dk dt_L_law_15 22 rfl) rfl ?_
      exact VV.widen (by show k + 1 ≤ k + 3; omega) (by show n + 6 ≤ n + 18; omega) (VV.loc (q _ (RLm_sf hR sf_14)) ⟨rfl, rfl, rfl, rfl, rfl, rfl, trivial⟩)
    ·
      exact absurd c1654 hne
  have goA : rc = 0 → ∀ m1, Q m1 → VV a B (SP B D E m1) (k + 1) (n + 6) 1627 (lvL B b i) [iI 0] := by
    intro h0 m1 hq
    obtain ⟨v, hM⟩ := hC3 h0 m1 hq
    refine v_istore (lv' := [(6, _), (5, _), (0, _), (1, _), (2, _), (3, _), (4, _)]) (pc := 1627) h (dk dt_L_law_14 60 rfl) (Nat.le_of_ble_eq_true rfl) rfl ?_
    refine v_aload_n (pc := 1629) h (dk dt_L_law_14 61 rfl) rfl ?_
    refine v_aload_n (pc := 1630) h (dk dt_L_law_14 62 rfl) rfl ?_
    refine v_iload (pc := 1631) h (dk dt_L_law_14 63 rfl) rfl ?_
    refine v_iconst (pc := 1633) h (dk dt_L_law_15 0 rfl) ?_
    refine v_iadd (pc := 1634) h (dk dt_L_law_15 1 rfl) ?_
    refine v_sld (pc := 1635) h hX hbl hB hL (j := i + 1) ⟨by omega, by omega⟩ (dk dt_L_law_15 2 rfl) ?_
    refine v_cV (pc := 1636) h (hM) kv_X12_response sh123 wM_L_194 rfl rfl (Nat.le_of_ble_eq_true rfl) ⟨⟨Nat.le_of_ble_eq_true rfl, Nat.le_of_ble_eq_true rfl⟩, by show k + 1 + (0) ≤ 601024; omega, by show n + 6 + (0) ≤ 7293034; omega⟩ rfl rfl (dk dt_L_law_15 3 rfl) (fun v1636 μ1636 p1636 => ?_)
    obtain ⟨rfl, g14, g15, hR2⟩ := p1636
    refine v_istore (lv' := [(7, _), (6, _), (5, _), (0, _), (1, _), (2, _), (3, _), (4, _)]) (pc := 1639) h (dk dt_L_law_15 4 rfl) (Nat.le_of_ble_eq_true rfl) rfl ?_
    refine v_aload_n (pc := 1641) h (dk dt_L_law_15 5 rfl) rfl ?_
    refine v_cVi (pc := 1642) h (c_X12_thrown h.quiet) kv_X12_thrown sh123 wM_L_107 rfl rfl (Nat.le_of_ble_eq_true rfl) ⟨⟨Nat.le_of_ble_eq_true rfl, Nat.le_of_ble_eq_true rfl⟩, by show k + 1 + (0) ≤ 601024; omega, by show n + 6 + (0) ≤ 7293034; omega⟩ rfl rfl (dk dt_L_law_15 6 rfl) ?_
    rw [g14]
    refine v_iload (pc := 1645) h (dk dt_L_law_15 7 rfl) rfl ?_
    refine v_icmp_eqS (pc := 1647) h 1652 (dk dt_L_law_15 8 rfl) rfl ?_
    refine v_iload (pc := 1652) h (dk dt_L_law_15 11 rfl) rfl ?_
    refine v_if_ne (pc := 1654) h 1669 (dk dt_L_law_15 12 rfl) rfl (by omega) (fun c1654 => ?_) (fun c1654 => ?_)
    ·
      exact absurd rfl c1654
    ·
      refine v_aload_n (pc := 1657) h (dk dt_L_law_15 13 rfl) rfl ?_
      refine v_iconst (pc := 1658) h (dk dt_L_law_15 14 rfl) ?_
      refine v_lald (pc := 1659) h sh151 (Nat.le_of_ble_eq_true rfl) (by omega) (dk dt_L_law_15 15 rfl) ?_
      rw [show (0 : Int).toNat = 0 from rfl, g15]
      refine v_iload (pc := 1660) h (dk dt_L_law_15 16 rfl) rfl ?_
      refine v_i2lw (pc := 1662) h (dk dt_L_law_15 17 rfl) ?_
      refine v_lcmpS (pc := 1663) h (dk dt_L_law_15 18 rfl) ?_
      refine v_if_eq (pc := 1664) h 1669 (dk dt_L_law_15 19 rfl) rfl (by omega) (fun c1664 => ?_) (fun c1664 => ?_)
      ·
        refine v_goto (pc := 1669) h 1816 (dk dt_L_law_15 22 rfl) rfl ?_
        exact VV.widen (by show k + 1 ≤ k + 3; omega) (by show n + 6 ≤ n + 18; omega) (VV.loc (q _ hR2) ⟨rfl, rfl, rfl, rfl, rfl, rfl, trivial⟩)
      ·
        exact absurd rfl c1664
  refine v_aload_n (pc := 1616) h (dk dt_L_law_14 52 rfl) rfl ?_
  refine v_aload_n (pc := 1617) h (dk dt_L_law_14 53 rfl) rfl ?_
  refine v_iload (pc := 1618) h (dk dt_L_law_14 54 rfl) rfl ?_
  refine v_iconst (pc := 1620) h (dk dt_L_law_14 55 rfl) ?_
  refine v_iadd (pc := 1621) h (dk dt_L_law_14 56 rfl) ?_
  refine v_sld (pc := 1622) h hX hbl hB hL (j := i + 1) ⟨by omega, by omega⟩ (dk dt_L_law_14 57 rfl) ?_
  refine v_aload_n (pc := 1623) h (dk dt_L_law_14 58 rfl) rfl ?_
  refine v_callH (pc := 1624) h (hC1) kh_L_response wM_L_192 rfl rfl (Nat.le_of_ble_eq_true rfl) ⟨⟨Nat.le_of_ble_eq_true rfl, Nat.le_of_ble_eq_true rfl⟩, by show k + 1 ≤ 601024; omega, by show n + 6 ≤ 7293034; omega⟩ (dk dt_L_law_14 59 rfl) (fun v1624 μ1624 p1624 => ?_)
  rcases p1624 with ⟨e, rfl, hq⟩ | ⟨e, rfl, rfl⟩
  · exact goA e _ hq
  · exact goB e
theorem law_meanEnd (h : Ac a B D E RL code 9 room_1) (hX : va_X b L xs (axS a) (axS a).heap) (hbl : b < (axS a).heap.size) (hB : b < B) (hL : L ≤ 3072) (hi : i + 6 ≤ L) (hk : k + 3 ≤ 601024) (hn : n + 18 ≤ 7293034) (hR : RLm m)
    (hG : LawD (axL a) B D E yL_meanEnd (.codeWith yL_meanEnd cL_meanEnd 3 (some .int) [(0, 7, 10, 15)]) rm_L_meanEnd [.ref (pl B 0), .ref (pl B 152)] yX12_meanEnd (.code yX12_meanEnd cX12_meanEnd 1 (some .double)) rm_X12_meanEnd [.ref (pl B 123)] m)
    (q : ∀ m2, RLm m2 → VV a B (SP B D E m2) (k + 3) (n + 18) 1816 (lvL B b i) []) : VV a B (SP B D E m) k n 1672 (lvL B b i) [] := by
  obtain ⟨rc, Q, hrc, hC1, hC2, hC3⟩ := hG
  have goB : rc ≠ 0 → VV a B (SP B D E m) (k + 1) (n + 6) 1678 (lvL B b i) [iI rc] := by
    intro hne
    have hM := hC2 hne
    refine v_istore (lv' := [(6, _), (5, _), (0, _), (1, _), (2, _), (3, _), (4, _)]) (pc := 1678) h (dk dt_L_law_15 26 rfl) (Nat.le_of_ble_eq_true rfl) rfl ?_
    refine v_aload_n (pc := 1680) h (dk dt_L_law_15 27 rfl) rfl ?_
    refine v_cV (pc := 1681) h (hM) kv_X12_meanEnd sh123 wM_L_198 rfl rfl (Nat.le_of_ble_eq_true rfl) ⟨⟨Nat.le_of_ble_eq_true rfl, Nat.le_of_ble_eq_true rfl⟩, by show k + 1 + (0) ≤ 601024; omega, by show n + 6 + (0) ≤ 7293034; omega⟩ rfl rfl (dk dt_L_law_15 28 rfl) (fun v1681 μ1681 p1681 => ?_)
    obtain ⟨⟨z, rfl⟩, rfl⟩ := p1681
    refine v_dstore (lv' := [(7, _), (6, _), (5, _), (0, _), (1, _), (2, _), (3, _), (4, _)]) (pc := 1684) h (dk dt_L_law_15 29 rfl) (Nat.le_of_ble_eq_true rfl) rfl ?_
    refine v_aload_n (pc := 1686) h (dk dt_L_law_15 30 rfl) rfl ?_
    refine v_cVi (pc := 1687) h (c_X12_thrown h.quiet) kv_X12_thrown sh123 wM_L_107 rfl rfl (Nat.le_of_ble_eq_true rfl) ⟨⟨Nat.le_of_ble_eq_true rfl, Nat.le_of_ble_eq_true rfl⟩, by show k + 1 + (0) ≤ 601024; omega, by show n + 6 + (0) ≤ 7293034; omega⟩ rfl rfl (dk dt_L_law_15 31 rfl) ?_
    rw [mup_eq]
    refine v_iload (pc := 1690) h (dk dt_L_law_15 32 rfl) rfl ?_
    refine v_icmp_eqS (pc := 1692) h 1697 (dk dt_L_law_15 33 rfl) rfl ?_
    refine v_iload (pc := 1697) h (dk dt_L_law_15 36 rfl) rfl ?_
    refine v_if_ne (pc := 1699) h 1734 (dk dt_L_law_15 37 rfl) rfl (by omega) (fun c1699 => ?_) (fun c1699 => ?_)
    ·
      refine v_goto (pc := 1734) h 1816 (dk dt_L_law_15 58 rfl) rfl ?_
      exact VV.widen (by show k + 1 ≤ k + 3; omega) (by show n + 6 ≤ n + 18; omega) (VV.loc (q _ (RLm_sf hR sf_14)) ⟨rfl, rfl, rfl, rfl, rfl, rfl, trivial⟩)
    ·
      exact absurd c1699 hne
  have goA : rc = 0 → ∀ m1, Q m1 → VV a B (SP B D E m1) (k + 1) (n + 6) 1678 (lvL B b i) [iI 0] := by
    intro h0 m1 hq
    obtain ⟨z, hz, hM⟩ := hC3 h0 m1 hq
    refine v_istore (lv' := [(6, _), (5, _), (0, _), (1, _), (2, _), (3, _), (4, _)]) (pc := 1678) h (dk dt_L_law_15 26 rfl) (Nat.le_of_ble_eq_true rfl) rfl ?_
    refine v_aload_n (pc := 1680) h (dk dt_L_law_15 27 rfl) rfl ?_
    refine v_cV (pc := 1681) h (hM) kv_X12_meanEnd sh123 wM_L_198 rfl rfl (Nat.le_of_ble_eq_true rfl) ⟨⟨Nat.le_of_ble_eq_true rfl, Nat.le_of_ble_eq_true rfl⟩, by show k + 1 + (0) ≤ 601024; omega, by show n + 6 + (0) ≤ 7293034; omega⟩ rfl rfl (dk dt_L_law_15 28 rfl) (fun v1681 μ1681 p1681 => ?_)
    obtain ⟨rfl, g14, g15, hR2⟩ := p1681
    refine v_dstore (lv' := [(7, _), (6, _), (5, _), (0, _), (1, _), (2, _), (3, _), (4, _)]) (pc := 1684) h (dk dt_L_law_15 29 rfl) (Nat.le_of_ble_eq_true rfl) rfl ?_
    refine v_aload_n (pc := 1686) h (dk dt_L_law_15 30 rfl) rfl ?_
    refine v_cVi (pc := 1687) h (c_X12_thrown h.quiet) kv_X12_thrown sh123 wM_L_107 rfl rfl (Nat.le_of_ble_eq_true rfl) ⟨⟨Nat.le_of_ble_eq_true rfl, Nat.le_of_ble_eq_true rfl⟩, by show k + 1 + (0) ≤ 601024; omega, by show n + 6 + (0) ≤ 7293034; omega⟩ rfl rfl (dk dt_L_law_15 31 rfl) ?_
    rw [g14]
    refine v_iload (pc := 1690) h (dk dt_L_law_15 32 rfl) rfl ?_
    refine v_icmp_eqS (pc := 1692) h 1697 (dk dt_L_law_15 33 rfl) rfl ?_
    refine v_iload (pc := 1697) h (dk dt_L_law_15 36 rfl) rfl ?_
    refine v_if_ne (pc := 1699) h 1734 (dk dt_L_law_15 37 rfl) rfl (by omega) (fun c1699 => ?_) (fun c1699 => ?_)
    ·
      exact absurd rfl c1699
    ·
      refine v_aload (pc := 1702) h (dk dt_L_law_15 38 rfl) rfl ?_
      refine v_iconst (pc := 1704) h (dk dt_L_law_15 39 rfl) ?_
      refine v_dald (pc := 1705) h sh152 (Nat.le_of_ble_eq_true rfl) (by omega) (dk dt_L_law_15 40 rfl) ?_
      rw [show (0 : Int).toNat = 0 from rfl, g15]
      refine v_dload (pc := 1706) h (dk dt_L_law_15 41 rfl) rfl ?_
      refine v_dcmp (pc := 1708) h rfl hz (dk dt_L_law_15 42 rfl) ?_
      refine v_if_eq (pc := 1709) h 1734 (dk dt_L_law_15 43 rfl) rfl (by omega) (fun c1709 => ?_) (fun c1709 => ?_)
      ·
        refine v_goto (pc := 1734) h 1816 (dk dt_L_law_15 58 rfl) rfl ?_
        exact VV.widen (by show k + 1 ≤ k + 3; omega) (by show n + 6 ≤ n + 18; omega) (VV.loc (q _ hR2) ⟨rfl, rfl, rfl, rfl, rfl, rfl, trivial⟩)
      ·
        exact absurd rfl c1709
  refine v_aload_n (pc := 1672) h (dk dt_L_law_15 23 rfl) rfl ?_
  refine v_aload (pc := 1673) h (dk dt_L_law_15 24 rfl) rfl ?_
  refine v_callH (pc := 1675) h (hC1) kh_L_meanEnd wM_L_195 rfl rfl (Nat.le_of_ble_eq_true rfl) ⟨⟨Nat.le_of_ble_eq_true rfl, Nat.le_of_ble_eq_true rfl⟩, by show k + 1 ≤ 601024; omega, by show n + 6 ≤ 7293034; omega⟩ (dk dt_L_law_15 25 rfl) (fun v1675 μ1675 p1675 => ?_)
  rcases p1675 with ⟨e, rfl, hq⟩ | ⟨e, rfl, rfl⟩
  · exact goA e _ hq
  · exact goB e
theorem law_workShare (h : Ac a B D E RL code 9 room_1) (hX : va_X b L xs (axS a) (axS a).heap) (hbl : b < (axS a).heap.size) (hB : b < B) (hL : L ≤ 3072) (hi : i + 6 ≤ L) (hk : k + 3 ≤ 601024) (hn : n + 18 ≤ 7293034) (hR : RLm m)
    (hG : LawF (axL a) B D E yL_workShare (.codeWith yL_workShare cL_workShare 3 (some .int) [(0, 8, 11, 15)]) rm_L_workShare [.ref (pl B 0), .ref (pl B 152)] yX12_workShare (.code yX12_workShare cX12_workShare 3 (some .float)) rm_X12_workShare [.ref (pl B 123)] m)
    (q : ∀ m2, RLm m2 → VV a B (SP B D E m2) (k + 3) (n + 18) 1816 (lvL B b i) []) : VV a B (SP B D E m) k n 1737 (lvL B b i) [] := by
  obtain ⟨rc, Q, hrc, hC1, hC2, hC3⟩ := hG
  have goB : rc ≠ 0 → VV a B (SP B D E m) (k + 1) (n + 6) 1743 (lvL B b i) [iI rc] := by
    intro hne
    have hM := hC2 hne
    refine v_istore (lv' := [(6, _), (5, _), (0, _), (1, _), (2, _), (3, _), (4, _)]) (pc := 1743) h (dk dt_L_law_15 62 rfl) (Nat.le_of_ble_eq_true rfl) rfl ?_
    refine v_aload_n (pc := 1745) h (dk dt_L_law_15 63 rfl) rfl ?_
    refine v_cV (pc := 1746) h (hM) kv_X12_workShare sh123 wM_L_201 rfl rfl (Nat.le_of_ble_eq_true rfl) ⟨⟨Nat.le_of_ble_eq_true rfl, Nat.le_of_ble_eq_true rfl⟩, by show k + 1 + (0) ≤ 601024; omega, by show n + 6 + (0) ≤ 7293034; omega⟩ rfl rfl (dk dt_L_law_16 0 rfl) (fun v1746 μ1746 p1746 => ?_)
    obtain ⟨⟨z, rfl⟩, rfl⟩ := p1746
    refine v_fstore (lv' := [(7, _), (6, _), (5, _), (0, _), (1, _), (2, _), (3, _), (4, _)]) (pc := 1749) h (dk dt_L_law_16 1 rfl) (Nat.le_of_ble_eq_true rfl) rfl ?_
    refine v_aload_n (pc := 1751) h (dk dt_L_law_16 2 rfl) rfl ?_
    refine v_cVi (pc := 1752) h (c_X12_thrown h.quiet) kv_X12_thrown sh123 wM_L_107 rfl rfl (Nat.le_of_ble_eq_true rfl) ⟨⟨Nat.le_of_ble_eq_true rfl, Nat.le_of_ble_eq_true rfl⟩, by show k + 1 + (0) ≤ 601024; omega, by show n + 6 + (0) ≤ 7293034; omega⟩ rfl rfl (dk dt_L_law_16 3 rfl) ?_
    rw [mup_eq]
    refine v_iload (pc := 1755) h (dk dt_L_law_16 4 rfl) rfl ?_
    refine v_icmp_eqS (pc := 1757) h 1762 (dk dt_L_law_16 5 rfl) rfl ?_
    refine v_iload (pc := 1762) h (dk dt_L_law_16 8 rfl) rfl ?_
    refine v_if_ne (pc := 1764) h 1800 (dk dt_L_law_16 9 rfl) rfl (by omega) (fun c1764 => ?_) (fun c1764 => ?_)
    ·
      refine v_goto (pc := 1800) h 1816 (dk dt_L_law_16 31 rfl) rfl ?_
      exact VV.widen (by show k + 1 ≤ k + 3; omega) (by show n + 6 ≤ n + 18; omega) (VV.loc (q _ (RLm_sf hR sf_14)) ⟨rfl, rfl, rfl, rfl, rfl, rfl, trivial⟩)
    ·
      exact absurd c1764 hne
  have goA : rc = 0 → ∀ m1, Q m1 → VV a B (SP B D E m1) (k + 1) (n + 6) 1743 (lvL B b i) [iI 0] := by
    intro h0 m1 hq
    obtain ⟨z, hz, hM⟩ := hC3 h0 m1 hq
    refine v_istore (lv' := [(6, _), (5, _), (0, _), (1, _), (2, _), (3, _), (4, _)]) (pc := 1743) h (dk dt_L_law_15 62 rfl) (Nat.le_of_ble_eq_true rfl) rfl ?_
    refine v_aload_n (pc := 1745) h (dk dt_L_law_15 63 rfl) rfl ?_
    refine v_cV (pc := 1746) h (hM) kv_X12_workShare sh123 wM_L_201 rfl rfl (Nat.le_of_ble_eq_true rfl) ⟨⟨Nat.le_of_ble_eq_true rfl, Nat.le_of_ble_eq_true rfl⟩, by show k + 1 + (0) ≤ 601024; omega, by show n + 6 + (0) ≤ 7293034; omega⟩ rfl rfl (dk dt_L_law_16 0 rfl) (fun v1746 μ1746 p1746 => ?_)
    obtain ⟨rfl, g14, g15, hR2⟩ := p1746
    refine v_fstore (lv' := [(7, _), (6, _), (5, _), (0, _), (1, _), (2, _), (3, _), (4, _)]) (pc := 1749) h (dk dt_L_law_16 1 rfl) (Nat.le_of_ble_eq_true rfl) rfl ?_
    refine v_aload_n (pc := 1751) h (dk dt_L_law_16 2 rfl) rfl ?_
    refine v_cVi (pc := 1752) h (c_X12_thrown h.quiet) kv_X12_thrown sh123 wM_L_107 rfl rfl (Nat.le_of_ble_eq_true rfl) ⟨⟨Nat.le_of_ble_eq_true rfl, Nat.le_of_ble_eq_true rfl⟩, by show k + 1 + (0) ≤ 601024; omega, by show n + 6 + (0) ≤ 7293034; omega⟩ rfl rfl (dk dt_L_law_16 3 rfl) ?_
    rw [g14]
    refine v_iload (pc := 1755) h (dk dt_L_law_16 4 rfl) rfl ?_
    refine v_icmp_eqS (pc := 1757) h 1762 (dk dt_L_law_16 5 rfl) rfl ?_
    refine v_iload (pc := 1762) h (dk dt_L_law_16 8 rfl) rfl ?_
    refine v_if_ne (pc := 1764) h 1800 (dk dt_L_law_16 9 rfl) rfl (by omega) (fun c1764 => ?_) (fun c1764 => ?_)
    ·
      exact absurd rfl c1764
    ·
      refine v_aload (pc := 1767) h (dk dt_L_law_16 10 rfl) rfl ?_
      refine v_iconst (pc := 1769) h (dk dt_L_law_16 11 rfl) ?_
      refine v_dald (pc := 1770) h sh152 (Nat.le_of_ble_eq_true rfl) (by omega) (dk dt_L_law_16 12 rfl) ?_
      rw [show (0 : Int).toNat = 0 from rfl, g15]
      refine v_fload (pc := 1771) h (dk dt_L_law_16 13 rfl) rfl ?_
      refine v_f2d (pc := 1773) h (dk dt_L_law_16 14 rfl) (f2d_is hz).1 ?_
      refine v_dcmp (pc := 1774) h rfl (f2d_is hz).2 (dk dt_L_law_16 15 rfl) ?_
      refine v_if_eq (pc := 1775) h 1800 (dk dt_L_law_16 16 rfl) rfl (by omega) (fun c1775 => ?_) (fun c1775 => ?_)
      ·
        refine v_goto (pc := 1800) h 1816 (dk dt_L_law_16 31 rfl) rfl ?_
        exact VV.widen (by show k + 1 ≤ k + 3; omega) (by show n + 6 ≤ n + 18; omega) (VV.loc (q _ hR2) ⟨rfl, rfl, rfl, rfl, rfl, rfl, trivial⟩)
      ·
        exact absurd rfl c1775
  refine v_aload_n (pc := 1737) h (dk dt_L_law_15 59 rfl) rfl ?_
  refine v_aload (pc := 1738) h (dk dt_L_law_15 60 rfl) rfl ?_
  refine v_callH (pc := 1740) h (hC1) kh_L_workShare wM_L_199 rfl rfl (Nat.le_of_ble_eq_true rfl) ⟨⟨Nat.le_of_ble_eq_true rfl, Nat.le_of_ble_eq_true rfl⟩, by show k + 1 ≤ 601024; omega, by show n + 6 ≤ 7293034; omega⟩ (dk dt_L_law_15 61 rfl) (fun v1740 μ1740 p1740 => ?_)
  rcases p1740 with ⟨e, rfl, hq⟩ | ⟨e, rfl, rfl⟩
  · exact goA e _ hq
  · exact goB e
theorem law_errors (h : Ac a B D E RL code 9 room_1) (hX : va_X b L xs (axS a) (axS a).heap) (hbl : b < (axS a).heap.size) (hB : b < B) (hL : L ≤ 3072) (hi : i + 6 ≤ L) (hk : k + 3 ≤ 601024) (hn : n + 18 ≤ 7293034) (hR : RLm m)
    (hG : LawEq (axL a) B D E yX11_errors (.code yX11_errors cX11_errors 3 (some .int)) rm_X11_errors [.ref (pl B 0)] yX12_errors (.code yX12_errors cX12_errors 9 (some .int)) rm_X12_errors [.ref (pl B 123)] m (fun v => iI v))
    (q : ∀ m2, RLm m2 → VV a B (SP B D E m2) (k + 3) (n + 18) 1816 (lvL B b i) []) : VV a B (SP B D E m) k n 1803 (lvL B b i) [] := by
  obtain ⟨v, Q, hC1, hC2⟩ := hG
  refine v_aload_n (pc := 1803) h (dk dt_L_law_16 32 rfl) rfl ?_
  refine v_callV (pc := 1804) h (hC1) kv_X11_errors sh0 wM_L_202 rfl rfl (Nat.le_of_ble_eq_true rfl) ⟨⟨Nat.le_of_ble_eq_true rfl, Nat.le_of_ble_eq_true rfl⟩, by show k + 1 ≤ 601024; omega, by show n + 6 ≤ 7293034; omega⟩ (dk dt_L_law_16 33 rfl) (fun v1804 μ1804 p1804 => ?_)
  obtain ⟨rfl, hq⟩ := p1804
  refine v_aload_n (pc := 1807) h (dk dt_L_law_16 34 rfl) rfl ?_
  refine v_cV (pc := 1808) h (hC2 _ hq) kv_X12_errors sh123 wM_L_205 rfl rfl (Nat.le_of_ble_eq_true rfl) ⟨⟨Nat.le_of_ble_eq_true rfl, Nat.le_of_ble_eq_true rfl⟩, by show k + 1 + (0) ≤ 601024; omega, by show n + 6 + (0) ≤ 7293034; omega⟩ rfl rfl (dk dt_L_law_16 35 rfl) (fun v1808 μ1808 p1808 => ?_)
  obtain ⟨rfl, hR2⟩ := p1808
  refine v_icmp_eqS (pc := 1811) h 1816 (dk dt_L_law_16 36 rfl) rfl ?_
  exact VV.widen (by show k + 1 ≤ k + 3; omega) (by show n + 6 ≤ n + 18; omega) (VV.loc (q _ hR2) ⟨rfl, rfl, rfl, rfl, rfl, rfl, trivial⟩)
end
