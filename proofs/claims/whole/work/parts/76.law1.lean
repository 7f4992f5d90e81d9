/-! ===== the law's cases: by program (genlaw.py) ===== -/
section
variable {a : Ax} {B : Nat} {D : va_G} {E : Nat → ClassId} {m : Mm} {k n b L i : Nat} {xs : Nat → Int32}
theorem law_job (h : Ac a B D E RL code 9 room_1) (hX : va_X b L xs (axS a) (axS a).heap) (hbl : b < (axS a).heap.size) (hB : b < B) (hL : L ≤ 3072) (hi : i + 6 ≤ L) (hk : k + 3 ≤ 601024) (hn : n + 18 ≤ 7293034) (hR : RLm m)
    (hG : LawOK (axL a) B D E yL_job (.codeWith yL_job cL_job 7 (some .int) [(0, 14, 17, 13), (0, 14, 21, 15)]) rm_L_job [.ref (pl B 0), iI (xs (i + 1)).toInt, iI (xs (i + 2)).toInt, iI (xs (i + 3)).toInt, iI (xs (i + 4)).toInt, .ref (pl B 151)] yX12_job (.code yX12_job cX12_job 5 (some .int)) rm_X12_job [.ref (pl B 123), iI (xs (i + 1)).toInt, iI (xs (i + 2)).toInt, iI (xs (i + 3)).toInt, iI (xs (i + 4)).toInt] m)
    (q : ∀ m2, RLm m2 → VV a B (SP B D E m2) (k + 3) (n + 18) 1816 (lvL B b i) []) : VV a B (SP B D E m) k n 172 (lvL B b i) [] := by
  obtain ⟨rc, Q, hrc, hC1, hC2, hC3⟩ := hG
  have goB : rc ≠ 0 → VV a B (SP B D E m) (k + 1) (n + 6) 201 (lvL B b i) [iI rc] := by
    intro hne
    have hM := hC2 hne
    refine v_istore (lv' := [(6, _), (5, _), (0, _), (1, _), (2, _), (3, _), (4, _)]) (pc := 201) h (dk dt_L_law_0 51 rfl) (Nat.le_of_ble_eq_true rfl) rfl ?_
    refine v_aload_n (pc := 203) h (dk dt_L_law_0 52 rfl) rfl ?_
    refine v_aload_n (pc := 204) h (dk dt_L_law_0 53 rfl) rfl ?_
    refine v_iload (pc := 205) h (dk dt_L_law_0 54 rfl) rfl ?_
    refine v_iconst (pc := 207) h (dk dt_L_law_0 55 rfl) ?_
    refine v_iadd (pc := 208) h (dk dt_L_law_0 56 rfl) ?_
    refine v_sld (pc := 209) h hX hbl hB hL (j := i + 1) ⟨by omega, by omega⟩ (dk dt_L_law_0 57 rfl) ?_
    refine v_aload_n (pc := 210) h (dk dt_L_law_0 58 rfl) rfl ?_
    refine v_iload (pc := 211) h (dk dt_L_law_0 59 rfl) rfl ?_
    refine v_iconst (pc := 213) h (dk dt_L_law_0 60 rfl) ?_
    refine v_iadd (pc := 214) h (dk dt_L_law_0 61 rfl) ?_
    refine v_sld (pc := 215) h hX hbl hB hL (j := i + 2) ⟨by omega, by omega⟩ (dk dt_L_law_0 62 rfl) ?_
    refine v_aload_n (pc := 216) h (dk dt_L_law_0 63 rfl) rfl ?_
    refine v_iload (pc := 217) h (dk dt_L_law_1 0 rfl) rfl ?_
    refine v_iconst (pc := 219) h (dk dt_L_law_1 1 rfl) ?_
    refine v_iadd (pc := 220) h (dk dt_L_law_1 2 rfl) ?_
    refine v_sld (pc := 221) h hX hbl hB hL (j := i + 3) ⟨by omega, by omega⟩ (dk dt_L_law_1 3 rfl) ?_
    refine v_aload_n (pc := 222) h (dk dt_L_law_1 4 rfl) rfl ?_
    refine v_iload (pc := 223) h (dk dt_L_law_1 5 rfl) rfl ?_
    refine v_iconst (pc := 225) h (dk dt_L_law_1 6 rfl) ?_
    refine v_iadd (pc := 226) h (dk dt_L_law_1 7 rfl) ?_
    refine v_sld (pc := 227) h hX hbl hB hL (j := i + 4) ⟨by omega, by omega⟩ (dk dt_L_law_1 8 rfl) ?_
    refine v_cV (pc := 228) h (hM) kv_X12_job sh123 wM_L_106 rfl rfl (Nat.le_of_ble_eq_true rfl) ⟨⟨Nat.le_of_ble_eq_true rfl, Nat.le_of_ble_eq_true rfl⟩, by show k + 1 + (0) ≤ 601024; omega, by show n + 6 + (0) ≤ 7293034; omega⟩ rfl rfl (dk dt_L_law_1 9 rfl) (fun v228 μ228 p228 => ?_)
    obtain ⟨rfl, rfl⟩ := p228
    refine v_istore (lv' := [(7, _), (6, _), (5, _), (0, _), (1, _), (2, _), (3, _), (4, _)]) (pc := 231) h (dk dt_L_law_1 10 rfl) (Nat.le_of_ble_eq_true rfl) rfl ?_
    refine v_aload_n (pc := 233) h (dk dt_L_law_1 11 rfl) rfl ?_
    refine v_cVi (pc := 234) h (c_X12_thrown h.quiet) kv_X12_thrown sh123 wM_L_107 rfl rfl (Nat.le_of_ble_eq_true rfl) ⟨⟨Nat.le_of_ble_eq_true rfl, Nat.le_of_ble_eq_true rfl⟩, by show k + 1 + (0) ≤ 601024; omega, by show n + 6 + (0) ≤ 7293034; omega⟩ rfl rfl (dk dt_L_law_1 12 rfl) ?_
    rw [mup_eq]
    refine v_iload (pc := 237) h (dk dt_L_law_1 13 rfl) rfl ?_
    refine v_icmp_eqS (pc := 239) h 244 (dk dt_L_law_1 14 rfl) rfl ?_
    refine v_iload (pc := 244) h (dk dt_L_law_1 17 rfl) rfl ?_
    refine v_if_ne (pc := 246) h 261 (dk dt_L_law_1 18 rfl) rfl (by omega) (fun c246 => ?_) (fun c246 => ?_)
    ·
      refine v_goto (pc := 261) h 1816 (dk dt_L_law_1 28 rfl) rfl ?_
      exact VV.widen (by show k + 1 ≤ k + 3; omega) (by show n + 6 ≤ n + 18; omega) (VV.loc (q _ (RLm_sf hR sf_14)) ⟨rfl, rfl, rfl, rfl, rfl, rfl, trivial⟩)
    ·
      exact absurd c246 hne
  have goA : rc = 0 → ∀ m1, Q m1 → VV a B (SP B D E m1) (k + 1) (n + 6) 201 (lvL B b i) [iI 0] := by
    intro h0 m1 hq
    obtain ⟨v, hM⟩ := hC3 h0 m1 hq
    refine v_istore (lv' := [(6, _), (5, _), (0, _), (1, _), (2, _), (3, _), (4, _)]) (pc := 201) h (dk dt_L_law_0 51 rfl) (Nat.le_of_ble_eq_true rfl) rfl ?_
    refine v_aload_n (pc := 203) h (dk dt_L_law_0 52 rfl) rfl ?_
    refine v_aload_n (pc := 204) h (dk dt_L_law_0 53 rfl) rfl ?_
    refine v_iload (pc := 205) h (dk dt_L_law_0 54 rfl) rfl ?_
    refine v_iconst (pc := 207) h (dk dt_L_law_0 55 rfl) ?_
    refine v_iadd (pc := 208) h (dk dt_L_law_0 56 rfl) ?_
    refine v_sld (pc := 209) h hX hbl hB hL (j := i + 1) ⟨by omega, by omega⟩ (dk dt_L_law_0 57 rfl) ?_
    refine v_aload_n (pc := 210) h (dk dt_L_law_0 58 rfl) rfl ?_
    refine v_iload (pc := 211) h (dk dt_L_law_0 59 rfl) rfl ?_
    refine v_iconst (pc := 213) h (dk dt_L_law_0 60 rfl) ?_
    refine v_iadd (pc := 214) h (dk dt_L_law_0 61 rfl) ?_
    refine v_sld (pc := 215) h hX hbl hB hL (j := i + 2) ⟨by omega, by omega⟩ (dk dt_L_law_0 62 rfl) ?_
    refine v_aload_n (pc := 216) h (dk dt_L_law_0 63 rfl) rfl ?_
    refine v_iload (pc := 217) h (dk dt_L_law_1 0 rfl) rfl ?_
    refine v_iconst (pc := 219) h (dk dt_L_law_1 1 rfl) ?_
    refine v_iadd (pc := 220) h (dk dt_L_law_1 2 rfl) ?_
    refine v_sld (pc := 221) h hX hbl hB hL (j := i + 3) ⟨by omega, by omega⟩ (dk dt_L_law_1 3 rfl) ?_
    refine v_aload_n (pc := 222) h (dk dt_L_law_1 4 rfl) rfl ?_
    refine v_iload (pc := 223) h (dk dt_L_law_1 5 rfl) rfl ?_
    refine v_iconst (pc := 225) h (dk dt_L_law_1 6 rfl) ?_
    refine v_iadd (pc := 226) h (dk dt_L_law_1 7 rfl) ?_
    refine v_sld (pc := 227) h hX hbl hB hL (j := i + 4) ⟨by omega, by omega⟩ (dk dt_L_law_1 8 rfl) ?_
    refine v_cV (pc := 228) h (hM) kv_X12_job sh123 wM_L_106 rfl rfl (Nat.le_of_ble_eq_true rfl) ⟨⟨Nat.le_of_ble_eq_true rfl, Nat.le_of_ble_eq_true rfl⟩, by show k + 1 + (0) ≤ 601024; omega, by show n + 6 + (0) ≤ 7293034; omega⟩ rfl rfl (dk dt_L_law_1 9 rfl) (fun v228 μ228 p228 => ?_)
    obtain ⟨rfl, g14, g15, hR2⟩ := p228
    refine v_istore (lv' := [(7, _), (6, _), (5, _), (0, _), (1, _), (2, _), (3, _), (4, _)]) (pc := 231) h (dk dt_L_law_1 10 rfl) (Nat.le_of_ble_eq_true rfl) rfl ?_
    refine v_aload_n (pc := 233) h (dk dt_L_law_1 11 rfl) rfl ?_
    refine v_cVi (pc := 234) h (c_X12_thrown h.quiet) kv_X12_thrown sh123 wM_L_107 rfl rfl (Nat.le_of_ble_eq_true rfl) ⟨⟨Nat.le_of_ble_eq_true rfl, Nat.le_of_ble_eq_true rfl⟩, by show k + 1 + (0) ≤ 601024; omega, by show n + 6 + (0) ≤ 7293034; omega⟩ rfl rfl (dk dt_L_law_1 12 rfl) ?_
    rw [g14]
    refine v_iload (pc := 237) h (dk dt_L_law_1 13 rfl) rfl ?_
    refine v_icmp_eqS (pc := 239) h 244 (dk dt_L_law_1 14 rfl) rfl ?_
    refine v_iload (pc := 244) h (dk dt_L_law_1 17 rfl) rfl ?_
    refine v_if_ne (pc := 246) h 261 (dk dt_L_law_1 18 rfl) rfl (by omega) (fun c246 => ?_) (fun c246 => ?_)
    ·
      exact absurd rfl c246
    ·
      refine v_aload_n (pc := 249) h (dk dt_L_law_1 19 rfl) rfl ?_
      refine v_iconst (pc := 250) h (dk dt_L_law_1 20 rfl) ?_
      refine v_lald (pc := 251) h sh151 (Nat.le_of_ble_eq_true rfl) (by omega) (dk dt_L_law_1 21 rfl) ?_
      rw [show (0 : Int).toNat = 0 from rfl, g15]
      refine v_iload (pc := 252) h (dk dt_L_law_1 22 rfl) rfl ?_
      refine v_i2lw (pc := 254) h (dk dt_L_law_1 23 rfl) ?_
      refine v_lcmpS (pc := 255) h (dk dt_L_law_1 24 rfl) ?_
      refine v_if_eq (pc := 256) h 261 (dk dt_L_law_1 25 rfl) rfl (by omega) (fun c256 => ?_) (fun c256 => ?_)
      ·
        refine v_goto (pc := 261) h 1816 (dk dt_L_law_1 28 rfl) rfl ?_
        exact VV.widen (by show k + 1 ≤ k + 3; omega) (by show n + 6 ≤ n + 18; omega) (VV.loc (q _ hR2) ⟨rfl, rfl, rfl, rfl, rfl, rfl, trivial⟩)
      ·
        exact absurd rfl c256
  refine v_aload_n (pc := 172) h (dk dt_L_law_0 28 rfl) rfl ?_
  refine v_aload_n (pc := 173) h (dk dt_L_law_0 29 rfl) rfl ?_
  refine v_iload (pc := 174) h (dk dt_L_law_0 30 rfl) rfl ?_
  refine v_iconst (pc := 176) h (dk dt_L_law_0 31 rfl) ?_
  refine v_iadd (pc := 177) h (dk dt_L_law_0 32 rfl) ?_
  refine v_sld (pc := 178) h hX hbl hB hL (j := i + 1) ⟨by omega, by omega⟩ (dk dt_L_law_0 33 rfl) ?_
  refine v_aload_n (pc := 179) h (dk dt_L_law_0 34 rfl) rfl ?_
  refine v_iload (pc := 180) h (dk dt_L_law_0 35 rfl) rfl ?_
  refine v_iconst (pc := 182) h (dk dt_L_law_0 36 rfl) ?_
  refine v_iadd (pc := 183) h (dk dt_L_law_0 37 rfl) ?_
  refine v_sld (pc := 184) h hX hbl hB hL (j := i + 2) ⟨by omega, by omega⟩ (dk dt_L_law_0 38 rfl) ?_
  refine v_aload_n (pc := 185) h (dk dt_L_law_0 39 rfl) rfl ?_
  refine v_iload (pc := 186) h (dk dt_L_law_0 40 rfl) rfl ?_
  refine v_iconst (pc := 188) h (dk dt_L_law_0 41 rfl) ?_
  refine v_iadd (pc := 189) h (dk dt_L_law_0 42 rfl) ?_
  refine v_sld (pc := 190) h hX hbl hB hL (j := i + 3) ⟨by omega, by omega⟩ (dk dt_L_law_0 43 rfl) ?_
  refine v_aload_n (pc := 191) h (dk dt_L_law_0 44 rfl) rfl ?_
  refine v_iload (pc := 192) h (dk dt_L_law_0 45 rfl) rfl ?_
  refine v_iconst (pc := 194) h (dk dt_L_law_0 46 rfl) ?_
  refine v_iadd (pc := 195) h (dk dt_L_law_0 47 rfl) ?_
  refine v_sld (pc := 196) h hX hbl hB hL (j := i + 4) ⟨by omega, by omega⟩ (dk dt_L_law_0 48 rfl) ?_
  refine v_aload_n (pc := 197) h (dk dt_L_law_0 49 rfl) rfl ?_
  refine v_callH (pc := 198) h (hC1) kh_L_job wM_L_101 rfl rfl (Nat.le_of_ble_eq_true rfl) ⟨⟨Nat.le_of_ble_eq_true rfl, Nat.le_of_ble_eq_true rfl⟩, by show k + 1 ≤ 601024; omega, by show n + 6 ≤ 7293034; omega⟩ (dk dt_L_law_0 50 rfl) (fun v198 μ198 p198 => ?_)
  rcases p198 with ⟨e, rfl, hq⟩ | ⟨e, rfl, rfl⟩
  · exact goA e _ hq
  · exact goB e
theorem law_after (h : Ac a B D E RL code 9 room_1) (hX : va_X b L xs (axS a) (axS a).heap) (hbl : b < (axS a).heap.size) (hB : b < B) (hL : L ≤ 3072) (hi : i + 6 ≤ L) (hk : k + 3 ≤ 601024) (hn : n + 18 ≤ 7293034) (hR : RLm m)
    (hG : LawOK (axL a) B D E yL_after (.codeWith yL_after cL_after 5 (some .int) [(0, 10, 13, 21), (0, 10, 17, 13)]) rm_L_after [.ref (pl B 0), iI (xs (i + 1)).toInt, iI (xs (i + 2)).toInt, .ref (pl B 151)] yX12_after (.code yX12_after cX12_after 3 (some .int)) rm_X12_after [.ref (pl B 123), iI (xs (i + 1)).toInt, iI (xs (i + 2)).toInt] m)
    (q : ∀ m2, RLm m2 → VV a B (SP B D E m2) (k + 3) (n + 18) 1816 (lvL B b i) []) : VV a B (SP B D E m) k n 264 (lvL B b i) [] := by
  obtain ⟨rc, Q, hrc, hC1, hC2, hC3⟩ := hG
  have goB : rc ≠ 0 → VV a B (SP B D E m) (k + 3) (n + 18) 281 (lvL B b i) [iI rc] := by
    intro hne
    have hM := hC2 hne
    refine v_istore (lv' := [(6, _), (5, _), (0, _), (1, _), (2, _), (3, _), (4, _)]) (pc := 281) h (dk dt_L_law_1 42 rfl) (Nat.le_of_ble_eq_true rfl) rfl ?_
    refine v_aload_n (pc := 283) h (dk dt_L_law_1 43 rfl) rfl ?_
    refine v_aload_n (pc := 284) h (dk dt_L_law_1 44 rfl) rfl ?_
    refine v_iload (pc := 285) h (dk dt_L_law_1 45 rfl) rfl ?_
    refine v_iconst (pc := 287) h (dk dt_L_law_1 46 rfl) ?_
    refine v_iadd (pc := 288) h (dk dt_L_law_1 47 rfl) ?_
    refine v_sld (pc := 289) h hX hbl hB hL (j := i + 1) ⟨by omega, by omega⟩ (dk dt_L_law_1 48 rfl) ?_
    refine v_aload_n (pc := 290) h (dk dt_L_law_1 49 rfl) rfl ?_
    refine v_iload (pc := 291) h (dk dt_L_law_1 50 rfl) rfl ?_
    refine v_iconst (pc := 293) h (dk dt_L_law_1 51 rfl) ?_
    refine v_iadd (pc := 294) h (dk dt_L_law_1 52 rfl) ?_
    refine v_sld (pc := 295) h hX hbl hB hL (j := i + 2) ⟨by omega, by omega⟩ (dk dt_L_law_1 53 rfl) ?_
    refine v_cV (pc := 296) h (hM) kv_X12_after sh123 wM_L_113 rfl rfl (Nat.le_of_ble_eq_true rfl) ⟨⟨Nat.le_of_ble_eq_true rfl, Nat.le_of_ble_eq_true rfl⟩, by show k + 3 + (0) ≤ 601024; omega, by show n + 18 + (0) ≤ 7293034; omega⟩ rfl rfl (dk dt_L_law_1 54 rfl) (fun v296 μ296 p296 => ?_)
    obtain ⟨rfl, rfl⟩ := p296
    refine v_istore (lv' := [(7, _), (6, _), (5, _), (0, _), (1, _), (2, _), (3, _), (4, _)]) (pc := 299) h (dk dt_L_law_1 55 rfl) (Nat.le_of_ble_eq_true rfl) rfl ?_
    refine v_aload_n (pc := 301) h (dk dt_L_law_1 56 rfl) rfl ?_
    refine v_cVi (pc := 302) h (c_X12_thrown h.quiet) kv_X12_thrown sh123 wM_L_107 rfl rfl (Nat.le_of_ble_eq_true rfl) ⟨⟨Nat.le_of_ble_eq_true rfl, Nat.le_of_ble_eq_true rfl⟩, by show k + 3 + (0) ≤ 601024; omega, by show n + 18 + (0) ≤ 7293034; omega⟩ rfl rfl (dk dt_L_law_1 57 rfl) ?_
    rw [mup_eq]
    refine v_iload (pc := 305) h (dk dt_L_law_1 58 rfl) rfl ?_
    refine v_icmp_eqS (pc := 307) h 312 (dk dt_L_law_1 59 rfl) rfl ?_
    refine v_iload (pc := 312) h (dk dt_L_law_1 62 rfl) rfl ?_
    refine v_if_ne (pc := 314) h 329 (dk dt_L_law_1 63 rfl) rfl (by omega) (fun c314 => ?_) (fun c314 => ?_)
    ·
      refine v_goto (pc := 329) h 1816 (dk dt_L_law_2 9 rfl) rfl ?_
      exact VV.widen (by show k + 3 ≤ k + 3; omega) (by show n + 18 ≤ n + 18; omega) (VV.loc (q _ (RLm_sf hR sf_14)) ⟨rfl, rfl, rfl, rfl, rfl, rfl, trivial⟩)
    ·
      exact absurd c314 hne
  have goA : rc = 0 → ∀ m1, Q m1 → VV a B (SP B D E m1) (k + 3) (n + 18) 281 (lvL B b i) [iI 0] := by
    intro h0 m1 hq
    obtain ⟨v, hM⟩ := hC3 h0 m1 hq
    refine v_istore (lv' := [(6, _), (5, _), (0, _), (1, _), (2, _), (3, _), (4, _)]) (pc := 281) h (dk dt_L_law_1 42 rfl) (Nat.le_of_ble_eq_true rfl) rfl ?_
    refine v_aload_n (pc := 283) h (dk dt_L_law_1 43 rfl) rfl ?_
    refine v_aload_n (pc := 284) h (dk dt_L_law_1 44 rfl) rfl ?_
    refine v_iload (pc := 285) h (dk dt_L_law_1 45 rfl) rfl ?_
    refine v_iconst (pc := 287) h (dk dt_L_law_1 46 rfl) ?_
    refine v_iadd (pc := 288) h (dk dt_L_law_1 47 rfl) ?_
    refine v_sld (pc := 289) h hX hbl hB hL (j := i + 1) ⟨by omega, by omega⟩ (dk dt_L_law_1 48 rfl) ?_
    refine v_aload_n (pc := 290) h (dk dt_L_law_1 49 rfl) rfl ?_
    refine v_iload (pc := 291) h (dk dt_L_law_1 50 rfl) rfl ?_
    refine v_iconst (pc := 293) h (dk dt_L_law_1 51 rfl) ?_
    refine v_iadd (pc := 294) h (dk dt_L_law_1 52 rfl) ?_
    refine v_sld (pc := 295) h hX hbl hB hL (j := i + 2) ⟨by omega, by omega⟩ (dk dt_L_law_1 53 rfl) ?_
    refine v_cV (pc := 296) h (hM) kv_X12_after sh123 wM_L_113 rfl rfl (Nat.le_of_ble_eq_true rfl) ⟨⟨Nat.le_of_ble_eq_true rfl, Nat.le_of_ble_eq_true rfl⟩, by show k + 3 + (0) ≤ 601024; omega, by show n + 18 + (0) ≤ 7293034; omega⟩ rfl rfl (dk dt_L_law_1 54 rfl) (fun v296 μ296 p296 => ?_)
    obtain ⟨rfl, g14, g15, hR2⟩ := p296
    refine v_istore (lv' := [(7, _), (6, _), (5, _), (0, _), (1, _), (2, _), (3, _), (4, _)]) (pc := 299) h (dk dt_L_law_1 55 rfl) (Nat.le_of_ble_eq_true rfl) rfl ?_
    refine v_aload_n (pc := 301) h (dk dt_L_law_1 56 rfl) rfl ?_
    refine v_cVi (pc := 302) h (c_X12_thrown h.quiet) kv_X12_thrown sh123 wM_L_107 rfl rfl (Nat.le_of_ble_eq_true rfl) ⟨⟨Nat.le_of_ble_eq_true rfl, Nat.le_of_ble_eq_true rfl⟩, by show k + 3 + (0) ≤ 601024; omega, by show n + 18 + (0) ≤ 7293034; omega⟩ rfl rfl (dk dt_L_law_1 57 rfl) ?_
    rw [g14]
    refine v_iload (pc := 305) h (dk dt_L_law_1 58 rfl) rfl ?_
    refine v_icmp_eqS (pc := 307) h 312 (dk dt_L_law_1 59 rfl) rfl ?_
    refine v_iload (pc := 312) h (dk dt_L_law_1 62 rfl) rfl ?_
    refine v_if_ne (pc := 314) h 329 (dk dt_L_law_1 63 rfl) rfl (by omega) (fun c314 => ?_) (fun c314 => ?_)
    ·
      exact absurd rfl c314
    ·
      refine v_aload_n (pc := 317) h (dk dt_L_law_2 0 rfl) rfl ?_
      refine v_iconst (pc := 318) h (dk dt_L_law_2 1 rfl) ?_
      refine v_lald (pc := 319) h sh151 (Nat.le_of_ble_eq_true rfl) (by omega) (dk dt_L_law_2 2 rfl) ?_
      rw [show (0 : Int).toNat = 0 from rfl, g15]
      refine v_iload (pc := 320) h (dk dt_L_law_2 3 rfl) rfl ?_
      refine v_i2lw (pc := 322) h (dk dt_L_law_2 4 rfl) ?_
      refine v_lcmpS (pc := 323) h (dk dt_L_law_2 5 rfl) ?_
      refine v_if_eq (pc := 324) h 329 (dk dt_L_law_2 6 rfl) rfl (by omega) (fun c324 => ?_) (fun c324 => ?_)
      ·
        refine v_goto (pc := 329) h 1816 (dk dt_L_law_2 9 rfl) rfl ?_
        exact VV.widen (by show k + 3 ≤ k + 3; omega) (by show n + 18 ≤ n + 18; omega) (VV.loc (q _ hR2) ⟨rfl, rfl, rfl, rfl, rfl, rfl, trivial⟩)
      ·
        exact absurd rfl c324
  refine v_aload_n (pc := 264) h (dk dt_L_law_1 29 rfl) rfl ?_
  refine v_aload_n (pc := 265) h (dk dt_L_law_1 30 rfl) rfl ?_
  refine v_iload (pc := 266) h (dk dt_L_law_1 31 rfl) rfl ?_
  refine v_iconst (pc := 268) h (dk dt_L_law_1 32 rfl) ?_
  refine v_iadd (pc := 269) h (dk dt_L_law_1 33 rfl) ?_
  refine v_sld (pc := 270) h hX hbl hB hL (j := i + 1) ⟨by omega, by omega⟩ (dk dt_L_law_1 34 rfl) ?_
  refine v_aload_n (pc := 271) h (dk dt_L_law_1 35 rfl) rfl ?_
  refine v_iload (pc := 272) h (dk dt_L_law_1 36 rfl) rfl ?_
  refine v_iconst (pc := 274) h (dk dt_L_law_1 37 rfl) ?_
  refine v_iadd (pc := 275) h (dk dt_L_law_1 38 rfl) ?_
  refine v_sld (pc := 276) h hX hbl hB hL (j := i + 2) ⟨by omega, by omega⟩ (dk dt_L_law_1 39 rfl) ?_
  refine v_aload_n (pc := 277) h (dk dt_L_law_1 40 rfl) rfl ?_
  refine v_callH (pc := 278) h (hC1) kh_L_after wM_L_110 rfl rfl (Nat.le_of_ble_eq_true rfl) ⟨⟨Nat.le_of_ble_eq_true rfl, Nat.le_of_ble_eq_true rfl⟩, by show k + 3 ≤ 601024; omega, by show n + 18 ≤ 7293034; omega⟩ (dk dt_L_law_1 41 rfl) (fun v278 μ278 p278 => ?_)
  rcases p278 with ⟨e, rfl, hq⟩ | ⟨e, rfl, rfl⟩
  · exact goA e _ hq
  · exact goB e
theorem law_lock (h : Ac a B D E RL code 9 room_1) (hX : va_X b L xs (axS a) (axS a).heap) (hbl : b < (axS a).heap.size) (hB : b < B) (hL : L ≤ 3072) (hi : i + 6 ≤ L) (hk : k + 3 ≤ 601024) (hn : n + 18 ≤ 7293034) (hR : RLm m)
    (hG : LawOK (axL a) B D E yL_lock (.codeWith yL_lock cL_lock 7 (some .int) [(0, 14, 17, 21), (0, 14, 21, 13), (0, 14, 25, 15)]) rm_L_lock [.ref (pl B 0), iI (xs (i + 1)).toInt, iI (xs (i + 2)).toInt, iI (xs (i + 3)).toInt, iI (xs (i + 4)).toInt, .ref (pl B 151)] yX12_lock (.code yX12_lock cX12_lock 7 (some .int)) rm_X12_lock [.ref (pl B 123), iI (xs (i + 1)).toInt, iI (xs (i + 2)).toInt, iI (xs (i + 3)).toInt, iI (xs (i + 4)).toInt] m)
    (q : ∀ m2, RLm m2 → VV a B (SP B D E m2) (k + 3) (n + 18) 1816 (lvL B b i) []) : VV a B (SP B D E m) k n 332 (lvL B b i) [] := by
  obtain ⟨rc, Q, hrc, hC1, hC2, hC3⟩ := hG
  have goB : rc ≠ 0 → VV a B (SP B D E m) (k + 2) (n + 12) 361 (lvL B b i) [iI rc] := by
    intro hne
    have hM := hC2 hne
    refine v_istore (lv' := [(6, _), (5, _), (0, _), (1, _), (2, _), (3, _), (4, _)]) (pc := 361) h (dk dt_L_law_2 33 rfl) (Nat.le_of_ble_eq_true rfl) rfl ?_
    refine v_aload_n (pc := 363) h (dk dt_L_law_2 34 rfl) rfl ?_
    refine v_aload_n (pc := 364) h (dk dt_L_law_2 35 rfl) rfl ?_
    refine v_iload (pc := 365) h (dk dt_L_law_2 36 rfl) rfl ?_
    refine v_iconst (pc := 367) h (dk dt_L_law_2 37 rfl) ?_
    refine v_iadd (pc := 368) h (dk dt_L_law_2 38 rfl) ?_
    refine v_sld (pc := 369) h hX hbl hB hL (j := i + 1) ⟨by omega, by omega⟩ (dk dt_L_law_2 39 rfl) ?_
    refine v_aload_n (pc := 370) h (dk dt_L_law_2 40 rfl) rfl ?_
    refine v_iload (pc := 371) h (dk dt_L_law_2 41 rfl) rfl ?_
    refine v_iconst (pc := 373) h (dk dt_L_law_2 42 rfl) ?_
    refine v_iadd (pc := 374) h (dk dt_L_law_2 43 rfl) ?_
    refine v_sld (pc := 375) h hX hbl hB hL (j := i + 2) ⟨by omega, by omega⟩ (dk dt_L_law_2 44 rfl) ?_
    refine v_aload_n (pc := 376) h (dk dt_L_law_2 45 rfl) rfl ?_
    refine v_iload (pc := 377) h (dk dt_L_law_2 46 rfl) rfl ?_
    refine v_iconst (pc := 379) h (dk dt_L_law_2 47 rfl) ?_
    refine v_iadd (pc := 380) h (dk dt_L_law_2 48 rfl) ?_
    refine v_sld (pc := 381) h hX hbl hB hL (j := i + 3) ⟨by omega, by omega⟩ (dk dt_L_law_2 49 rfl) ?_
    refine v_aload_n (pc := 382) h (dk dt_L_law_2 50 rfl) rfl ?_
    refine v_iload (pc := 383) h (dk dt_L_law_2 51 rfl) rfl ?_
    refine v_iconst (pc := 385) h (dk dt_L_law_2 52 rfl) ?_
    refine v_iadd (pc := 386) h (dk dt_L_law_2 53 rfl) ?_
    refine v_sld (pc := 387) h hX hbl hB hL (j := i + 4) ⟨by omega, by omega⟩ (dk dt_L_law_2 54 rfl) ?_
    refine v_cV (pc := 388) h (hM) kv_X12_lock sh123 wM_L_116 rfl rfl (Nat.le_of_ble_eq_true rfl) ⟨⟨Nat.le_of_ble_eq_true rfl, Nat.le_of_ble_eq_true rfl⟩, by show k + 2 + (0) ≤ 601024; omega, by show n + 12 + (0) ≤ 7293034; omega⟩ rfl rfl (dk dt_L_law_2 55 rfl) (fun v388 μ388 p388 => ?_)
    obtain ⟨rfl, rfl⟩ := p388
    refine v_istore (lv' := [(7, _), (6, _), (5, _), (0, _), (1, _), (2, _), (3, _), (4, _)]) (pc := 391) h (dk dt_L_law_2 56 rfl) (Nat.le_of_ble_eq_true rfl) rfl ?_
    refine v_aload_n (pc := 393) h (dk dt_L_law_2 57 rfl) rfl ?_
    refine v_cVi (pc := 394) h (c_X12_thrown h.quiet) kv_X12_thrown sh123 wM_L_107 rfl rfl (Nat.le_of_ble_eq_true rfl) ⟨⟨Nat.le_of_ble_eq_true rfl, Nat.le_of_ble_eq_true rfl⟩, by show k + 2 + (0) ≤ 601024; omega, by show n + 12 + (0) ≤ 7293034; omega⟩ rfl rfl (dk dt_L_law_2 58 rfl) ?_
    rw [mup_eq]
    refine v_iload (pc := 397) h (dk dt_L_law_2 59 rfl) rfl ?_
    refine v_icmp_eqS (pc := 399) h 404 (dk dt_L_law_2 60 rfl) rfl ?_
    refine v_iload (pc := 404) h (dk dt_L_law_2 63 rfl) rfl ?_
    refine v_if_ne (pc := 406) h 421 (dk dt_L_law_3 0 rfl) rfl (by omega) (fun c406 => ?_) (fun c406 => ?_)
    ·
      refine v_goto (pc := 421) h 1816 (dk dt_L_law_3 10 rfl) rfl ?_
      exact VV.widen (by show k + 2 ≤ k + 3; omega) (by show n + 12 ≤ n + 18; omega) (VV.loc (q _ (RLm_sf hR sf_14)) ⟨rfl, rfl, rfl, rfl, rfl, rfl, trivial⟩)
    ·
      exact absurd c406 hne
  have goA : rc = 0 → ∀ m1, Q m1 → VV a B (SP B D E m1) (k + 2) (n + 12) 361 (lvL B b i) [iI 0] := by
    intro h0 m1 hq
    obtain ⟨v, hM⟩ := hC3 h0 m1 hq
    refine v_istore (lv' := [(6, _), (5, _), (0, _), (1, _), (2, _), (3, _), (4, _)]) (pc := 361) h (dk dt_L_law_2 33 rfl) (Nat.le_of_ble_eq_true rfl) rfl ?_
    refine v_aload_n (pc := 363) h (dk dt_L_law_2 34 rfl) rfl ?_
    refine v_aload_n (pc := 364) h (dk dt_L_law_2 35 rfl) rfl ?_
    refine v_iload (pc := 365) h (dk dt_L_law_2 36 rfl) rfl ?_
    refine v_iconst (pc := 367) h (dk dt_L_law_2 37 rfl) ?_
    refine v_iadd (pc := 368) h (dk dt_L_law_2 38 rfl) ?_
    refine v_sld (pc := 369) h hX hbl hB hL (j := i + 1) ⟨by omega, by omega⟩ (dk dt_L_law_2 39 rfl) ?_
    refine v_aload_n (pc := 370) h (dk dt_L_law_2 40 rfl) rfl ?_
    refine v_iload (pc := 371) h (dk dt_L_law_2 41 rfl) rfl ?_
    refine v_iconst (pc := 373) h (dk dt_L_law_2 42 rfl) ?_
    refine v_iadd (pc := 374) h (dk dt_L_law_2 43 rfl) ?_
    refine v_sld (pc := 375) h hX hbl hB hL (j := i + 2) ⟨by omega, by omega⟩ (dk dt_L_law_2 44 rfl) ?_
    refine v_aload_n (pc := 376) h (dk dt_L_law_2 45 rfl) rfl ?_
    refine v_iload (pc := 377) h (dk dt_L_law_2 46 rfl) rfl ?_
    refine v_iconst (pc := 379) h (dk dt_L_law_2 47 rfl) ?_
    refine v_iadd (pc := 380) h (dk dt_L_law_2 48 rfl) ?_
    refine v_sld (pc := 381) h hX hbl hB hL (j := i + 3) ⟨by omega, by omega⟩ (dk dt_L_law_2 49 rfl) ?_
    refine v_aload_n (pc := 382) h (dk dt_L_law_2 50 rfl) rfl ?_
    refine v_iload (pc := 383) h (dk dt_L_law_2 51 rfl) rfl ?_
    refine v_iconst (pc := 385) h (dk dt_L_law_2 52 rfl) ?_
    refine v_iadd (pc := 386) h (dk dt_L_law_2 53 rfl) ?_
    refine v_sld (pc := 387) h hX hbl hB hL (j := i + 4) ⟨by omega, by omega⟩ (dk dt_L_law_2 54 rfl) ?_
    refine v_cV (pc := 388) h (hM) kv_X12_lock sh123 wM_L_116 rfl rfl (Nat.le_of_ble_eq_true rfl) ⟨⟨Nat.le_of_ble_eq_true rfl, Nat.le_of_ble_eq_true rfl⟩, by show k + 2 + (0) ≤ 601024; omega, by show n + 12 + (0) ≤ 7293034; omega⟩ rfl rfl (dk dt_L_law_2 55 rfl) (fun v388 μ388 p388 => ?_)
    obtain ⟨rfl, g14, g15, hR2⟩ := p388
    refine v_istore (lv' := [(7, _), (6, _), (5, _), (0, _), (1, _), (2, _), (3, _), (4, _)]) (pc := 391) h (dk dt_L_law_2 56 rfl) (Nat.le_of_ble_eq_true rfl) rfl ?_
    refine v_aload_n (pc := 393) h (dk dt_L_law_2 57 rfl) rfl ?_
    refine v_cVi (pc := 394) h (c_X12_thrown h.quiet) kv_X12_thrown sh123 wM_L_107 rfl rfl (Nat.le_of_ble_eq_true rfl) ⟨⟨Nat.le_of_ble_eq_true rfl, Nat.le_of_ble_eq_true rfl⟩, by show k + 2 + (0) ≤ 601024; omega, by show n + 12 + (0) ≤ 7293034; omega⟩ rfl rfl (dk dt_L_law_2 58 rfl) ?_
    rw [g14]
    refine v_iload (pc := 397) h (dk dt_L_law_2 59 rfl) rfl ?_
    refine v_icmp_eqS (pc := 399) h 404 (dk dt_L_law_2 60 rfl) rfl ?_
    refine v_iload (pc := 404) h (dk dt_L_law_2 63 rfl) rfl ?_
    refine v_if_ne (pc := 406) h 421 (dk dt_L_law_3 0 rfl) rfl (by omega) (fun c406 => ?_) (fun c406 => ?_)
    ·
      exact absurd rfl c406
    ·
      refine v_aload_n (pc := 409) h (dk dt_L_law_3 1 rfl) rfl ?_
      refine v_iconst (pc := 410) h (dk dt_L_law_3 2 rfl) ?_
      refine v_lald (pc := 411) h sh151 (Nat.le_of_ble_eq_true rfl) (by omega) (dk dt_L_law_3 3 rfl) ?_
      rw [show (0 : Int).toNat = 0 from rfl, g15]
      refine v_iload (pc := 412) h (dk dt_L_law_3 4 rfl) rfl ?_
      refine v_i2lw (pc := 414) h (dk dt_L_law_3 5 rfl) ?_
      refine v_lcmpS (pc := 415) h (dk dt_L_law_3 6 rfl) ?_
      refine v_if_eq (pc := 416) h 421 (dk dt_L_law_3 7 rfl) rfl (by omega) (fun c416 => ?_) (fun c416 => ?_)
      ·
        refine v_goto (pc := 421) h 1816 (dk dt_L_law_3 10 rfl) rfl ?_
        exact VV.widen (by show k + 2 ≤ k + 3; omega) (by show n + 12 ≤ n + 18; omega) (VV.loc (q _ hR2) ⟨rfl, rfl, rfl, rfl, rfl, rfl, trivial⟩)
      ·
        exact absurd rfl c416
  refine v_aload_n (pc := 332) h (dk dt_L_law_2 10 rfl) rfl ?_
  refine v_aload_n (pc := 333) h (dk dt_L_law_2 11 rfl) rfl ?_
  refine v_iload (pc := 334) h (dk dt_L_law_2 12 rfl) rfl ?_
  refine v_iconst (pc := 336) h (dk dt_L_law_2 13 rfl) ?_
  refine v_iadd (pc := 337) h (dk dt_L_law_2 14 rfl) ?_
  refine v_sld (pc := 338) h hX hbl hB hL (j := i + 1) ⟨by omega, by omega⟩ (dk dt_L_law_2 15 rfl) ?_
  refine v_aload_n (pc := 339) h (dk dt_L_law_2 16 rfl) rfl ?_
  refine v_iload (pc := 340) h (dk dt_L_law_2 17 rfl) rfl ?_
  refine v_iconst (pc := 342) h (dk dt_L_law_2 18 rfl) ?_
  refine v_iadd (pc := 343) h (dk dt_L_law_2 19 rfl) ?_
  refine v_sld (pc := 344) h hX hbl hB hL (j := i + 2) ⟨by omega, by omega⟩ (dk dt_L_law_2 20 rfl) ?_
  refine v_aload_n (pc := 345) h (dk dt_L_law_2 21 rfl) rfl ?_
  refine v_iload (pc := 346) h (dk dt_L_law_2 22 rfl) rfl ?_
  refine v_iconst (pc := 348) h (dk dt_L_law_2 23 rfl) ?_
  refine v_iadd (pc := 349) h (dk dt_L_law_2 24 rfl) ?_
  refine v_sld (pc := 350) h hX hbl hB hL (j := i + 3) ⟨by omega, by omega⟩ (dk dt_L_law_2 25 rfl) ?_
  refine v_aload_n (pc := 351) h (dk dt_L_law_2 26 rfl) rfl ?_
  refine v_iload (pc := 352) h (dk dt_L_law_2 27 rfl) rfl ?_
  refine v_iconst (pc := 354) h (dk dt_L_law_2 28 rfl) ?_
  refine v_iadd (pc := 355) h (dk dt_L_law_2 29 rfl) ?_
  refine v_sld (pc := 356) h hX hbl hB hL (j := i + 4) ⟨by omega, by omega⟩ (dk dt_L_law_2 30 rfl) ?_
  refine v_aload_n (pc := 357) h (dk dt_L_law_2 31 rfl) rfl ?_
  refine v_callH (pc := 358) h (hC1) kh_L_lock wM_L_114 rfl rfl (Nat.le_of_ble_eq_true rfl) ⟨⟨Nat.le_of_ble_eq_true rfl, Nat.le_of_ble_eq_true rfl⟩, by show k + 2 ≤ 601024; omega, by show n + 12 ≤ 7293034; omega⟩ (dk dt_L_law_2 32 rfl) (fun v358 μ358 p358 => ?_)
  rcases p358 with ⟨e, rfl, hq⟩ | ⟨e, rfl, rfl⟩
  · exact goA e _ hq
  · exact goB e
theorem law_turns (h : Ac a B D E RL code 9 room_1) (hX : va_X b L xs (axS a) (axS a).heap) (hbl : b < (axS a).heap.size) (hB : b < B) (hL : L ≤ 3072) (hi : i + 6 ≤ L) (hk : k + 3 ≤ 601024) (hn : n + 18 ≤ 7293034) (hR : RLm m)
    (hG : LawOK (axL a) B D E yL_turns (.codeWith yL_turns cL_turns 8 (some .int) [(0, 16, 19, 13)]) rm_L_turns [.ref (pl B 0), iI (xs (i + 1)).toInt, iI (xs (i + 2)).toInt, iI (xs (i + 3)).toInt, iI (xs (i + 4)).toInt, iI (bz (xs (i + 5)).toInt), .ref (pl B 151)] yX12_turns (.code yX12_turns cX12_turns 7 (some .int)) rm_X12_turns [.ref (pl B 123), iI (xs (i + 1)).toInt, iI (xs (i + 2)).toInt, iI (xs (i + 3)).toInt, iI (xs (i + 4)).toInt, iI (bz (xs (i + 5)).toInt)] m)
    (q : ∀ m2, RLm m2 → VV a B (SP B D E m2) (k + 3) (n + 18) 1816 (lvL B b i) []) : VV a B (SP B D E m) k n 424 (lvL B b i) [] := by
  obtain ⟨rc, Q, hrc, hC1, hC2, hC3⟩ := hG
  have goB : rc ≠ 0 → VV a B (SP B D E m) (k + 1) (n + 6) 467 (lvL B b i) [iI rc] := by
    intro hne
    have hM := hC2 hne
    refine v_istore (lv' := [(6, _), (5, _), (0, _), (1, _), (2, _), (3, _), (4, _)]) (pc := 467) h (dk dt_L_law_3 43 rfl) (Nat.le_of_ble_eq_true rfl) rfl ?_
    refine v_aload_n (pc := 469) h (dk dt_L_law_3 44 rfl) rfl ?_
    refine v_aload_n (pc := 470) h (dk dt_L_law_3 45 rfl) rfl ?_
    refine v_iload (pc := 471) h (dk dt_L_law_3 46 rfl) rfl ?_
    refine v_iconst (pc := 473) h (dk dt_L_law_3 47 rfl) ?_
    refine v_iadd (pc := 474) h (dk dt_L_law_3 48 rfl) ?_
    refine v_sld (pc := 475) h hX hbl hB hL (j := i + 1) ⟨by omega, by omega⟩ (dk dt_L_law_3 49 rfl) ?_
    refine v_aload_n (pc := 476) h (dk dt_L_law_3 50 rfl) rfl ?_
    refine v_iload (pc := 477) h (dk dt_L_law_3 51 rfl) rfl ?_
    refine v_iconst (pc := 479) h (dk dt_L_law_3 52 rfl) ?_
    refine v_iadd (pc := 480) h (dk dt_L_law_3 53 rfl) ?_
    refine v_sld (pc := 481) h hX hbl hB hL (j := i + 2) ⟨by omega, by omega⟩ (dk dt_L_law_3 54 rfl) ?_
    refine v_aload_n (pc := 482) h (dk dt_L_law_3 55 rfl) rfl ?_
    refine v_iload (pc := 483) h (dk dt_L_law_3 56 rfl) rfl ?_
    refine v_iconst (pc := 485) h (dk dt_L_law_3 57 rfl) ?_
    refine v_iadd (pc := 486) h (dk dt_L_law_3 58 rfl) ?_
    refine v_sld (pc := 487) h hX hbl hB hL (j := i + 3) ⟨by omega, by omega⟩ (dk dt_L_law_3 59 rfl) ?_
    refine v_aload_n (pc := 488) h (dk dt_L_law_3 60 rfl) rfl ?_
    refine v_iload (pc := 489) h (dk dt_L_law_3 61 rfl) rfl ?_
    refine v_iconst (pc := 491) h (dk dt_L_law_3 62 rfl) ?_
    refine v_iadd (pc := 492) h (dk dt_L_law_3 63 rfl) ?_
    refine v_sld (pc := 493) h hX hbl hB hL (j := i + 4) ⟨by omega, by omega⟩ (dk dt_L_law_4 0 rfl) ?_
    refine v_aload_n (pc := 494) h (dk dt_L_law_4 1 rfl) rfl ?_
    refine v_iload (pc := 495) h (dk dt_L_law_4 2 rfl) rfl ?_
    refine v_iconst (pc := 497) h (dk dt_L_law_4 3 rfl) ?_
    refine v_iadd (pc := 498) h (dk dt_L_law_4 4 rfl) ?_
    refine v_sld (pc := 499) h hX hbl hB hL (j := i + 5) ⟨by omega, by omega⟩ (dk dt_L_law_4 5 rfl) ?_
    refine v_if_eq (pc := 500) h 507 (dk dt_L_law_4 6 rfl) rfl (toInt_InR _) (fun c500 => ?_) (fun c500 => ?_)
    ·
      rw [bz_t c500] at hM
      refine v_iconst (pc := 507) h (dk dt_L_law_4 9 rfl) ?_
      refine v_cV (pc := 508) h (hM) kv_X12_turns sh123 wM_L_120 rfl rfl (Nat.le_of_ble_eq_true rfl) ⟨⟨Nat.le_of_ble_eq_true rfl, Nat.le_of_ble_eq_true rfl⟩, by show k + 1 + (0) ≤ 601024; omega, by show n + 6 + (0) ≤ 7293034; omega⟩ rfl rfl (dk dt_L_law_4 10 rfl) (fun v508 μ508 p508 => ?_)
      obtain ⟨rfl, rfl⟩ := p508
      refine v_istore (lv' := [(7, _), (6, _), (5, _), (0, _), (1, _), (2, _), (3, _), (4, _)]) (pc := 511) h (dk dt_L_law_4 11 rfl) (Nat.le_of_ble_eq_true rfl) rfl ?_
      refine v_aload_n (pc := 513) h (dk dt_L_law_4 12 rfl) rfl ?_
      refine v_cVi (pc := 514) h (c_X12_thrown h.quiet) kv_X12_thrown sh123 wM_L_107 rfl rfl (Nat.le_of_ble_eq_true rfl) ⟨⟨Nat.le_of_ble_eq_true rfl, Nat.le_of_ble_eq_true rfl⟩, by show k + 1 + (0) ≤ 601024; omega, by show n + 6 + (0) ≤ 7293034; omega⟩ rfl rfl (dk dt_L_law_4 13 rfl) ?_
      rw [mup_eq]
      refine v_iload (pc := 517) h (dk dt_L_law_4 14 rfl) rfl ?_
      refine v_icmp_eqS (pc := 519) h 524 (dk dt_L_law_4 15 rfl) rfl ?_
      refine v_iload (pc := 524) h (dk dt_L_law_4 18 rfl) rfl ?_
      refine v_if_ne (pc := 526) h 541 (dk dt_L_law_4 19 rfl) rfl (by omega) (fun c526 => ?_) (fun c526 => ?_)
      ·
        refine v_goto (pc := 541) h 1816 (dk dt_L_law_4 29 rfl) rfl ?_
        exact VV.widen (by show k + 1 ≤ k + 3; omega) (by show n + 6 ≤ n + 18; omega) (VV.loc (q _ (RLm_sf hR sf_14)) ⟨rfl, rfl, rfl, rfl, rfl, rfl, trivial⟩)
      ·
        exact absurd c526 hne
    ·
      rw [bz_f c500] at hM
      refine v_iconst (pc := 503) h (dk dt_L_law_4 7 rfl) ?_
      refine v_goto (pc := 504) h 508 (dk dt_L_law_4 8 rfl) rfl ?_
      refine v_cV (pc := 508) h (hM) kv_X12_turns sh123 wM_L_120 rfl rfl (Nat.le_of_ble_eq_true rfl) ⟨⟨Nat.le_of_ble_eq_true rfl, Nat.le_of_ble_eq_true rfl⟩, by show k + 1 + (0) ≤ 601024; omega, by show n + 6 + (0) ≤ 7293034; omega⟩ rfl rfl (dk dt_L_law_4 10 rfl) (fun v508 μ508 p508 => ?_)
      obtain ⟨rfl, rfl⟩ := p508
      refine v_istore (lv' := [(7, _), (6, _), (5, _), (0, _), (1, _), (2, _), (3, _), (4, _)]) (pc := 511) h (dk dt_L_law_4 11 rfl) (Nat.le_of_ble_eq_true rfl) rfl ?_
      refine v_aload_n (pc := 513) h (dk dt_L_law_4 12 rfl) rfl ?_
      refine v_cVi (pc := 514) h (c_X12_thrown h.quiet) kv_X12_thrown sh123 wM_L_107 rfl rfl (Nat.le_of_ble_eq_true rfl) ⟨⟨Nat.le_of_ble_eq_true rfl, Nat.le_of_ble_eq_true rfl⟩, by show k + 1 + (0) ≤ 601024; omega, by show n + 6 + (0) ≤ 7293034; omega⟩ rfl rfl (dk dt_L_law_4 13 rfl) ?_
      rw [mup_eq]
      refine v_iload (pc := 517) h (dk dt_L_law_4 14 rfl) rfl ?_
      refine v_icmp_eqS (pc := 519) h 524 (dk dt_L_law_4 15 rfl) rfl ?_
      refine v_iload (pc := 524) h (dk dt_L_law_4 18 rfl) rfl ?_
      refine v_if_ne (pc := 526) h 541 (dk dt_L_law_4 19 rfl) rfl (by omega) (fun c526 => ?_) (fun c526 => ?_)
      ·
        refine v_goto (pc := 541) h 1816 (dk dt_L_law_4 29 rfl) rfl ?_
        exact VV.widen (by show k + 1 ≤ k + 3; omega) (by show n + 6 ≤ n + 18; omega) (VV.loc (q _ (RLm_sf hR sf_14)) ⟨rfl, rfl, rfl, rfl, rfl, rfl, trivial⟩)
      ·
        exact absurd c526 hne
  have goA : rc = 0 → ∀ m1, Q m1 → VV a B (SP B D E m1) (k + 1) (n + 6) 467 (lvL B b i) [iI 0] := by
    intro h0 m1 hq
    obtain ⟨v, hM⟩ := hC3 h0 m1 hq
    refine v_istore (lv' := [(6, _), (5, _), (0, _), (1, _), (2, _), (3, _), (4, _)]) (pc := 467) h (dk dt_L_law_3 43 rfl) (Nat.le_of_ble_eq_true rfl) rfl ?_
    refine v_aload_n (pc := 469) h (dk dt_L_law_3 44 rfl) rfl ?_
    refine v_aload_n (pc := 470) h (dk dt_L_law_3 45 rfl) rfl ?_
    refine v_iload (pc := 471) h (dk dt_L_law_3 46 rfl) rfl ?_
    refine v_iconst (pc := 473) h (dk dt_L_law_3 47 rfl) ?_
    refine v_iadd (pc := 474) h (dk dt_L_law_3 48 rfl) ?_
    refine v_sld (pc := 475) h hX hbl hB hL (j := i + 1) ⟨by omega, by omega⟩ (dk dt_L_law_3 49 rfl) ?_
    refine v_aload_n (pc := 476) h (dk dt_L_law_3 50 rfl) rfl ?_
    refine v_iload (pc := 477) h (dk dt_L_law_3 51 rfl) rfl ?_
    refine v_iconst (pc := 479) h (dk dt_L_law_3 52 rfl) ?_
    refine v_iadd (pc := 480) h (dk dt_L_law_3 53 rfl) ?_
    refine v_sld (pc := 481) h hX hbl hB hL (j := i + 2) ⟨by omega, by omega⟩ (dk dt_L_law_3 54 rfl) ?_
    refine v_aload_n (pc := 482) h (dk dt_L_law_3 55 rfl) rfl ?_
    refine v_iload (pc := 483) h (dk dt_L_law_3 56 rfl) rfl ?_
    refine v_iconst (pc := 485) h (dk dt_L_law_3 57 rfl) ?_
    refine v_iadd (pc := 486) h (dk dt_L_law_3 58 rfl) ?_
    refine v_sld (pc := 487) h hX hbl hB hL (j := i + 3) ⟨by omega, by omega⟩ (dk dt_L_law_3 59 rfl) ?_
    refine v_aload_n (pc := 488) h (dk dt_L_law_3 60 rfl) rfl ?_
    refine v_iload (pc := 489) h (dk dt_L_law_3 61 rfl) rfl ?_
    refine v_iconst (pc := 491) h (dk dt_L_law_3 62 rfl) ?_
    refine v_iadd (pc := 492) h (dk dt_L_law_3 63 rfl) ?_
    refine v_sld (pc := 493) h hX hbl hB hL (j := i + 4) ⟨by omega, by omega⟩ (dk dt_L_law_4 0 rfl) ?_
    refine v_aload_n (pc := 494) h (dk dt_L_law_4 1 rfl) rfl ?_
    refine v_iload (pc := 495) h (dk dt_L_law_4 2 rfl) rfl ?_
    refine v_iconst (pc := 497) h (dk dt_L_law_4 3 rfl) ?_
    refine v_iadd (pc := 498) h (dk dt_L_law_4 4 rfl) ?_
    refine v_sld (pc := 499) h hX hbl hB hL (j := i + 5) ⟨by omega, by omega⟩ (dk dt_L_law_4 5 rfl) ?_
    refine v_if_eq (pc := 500) h 507 (dk dt_L_law_4 6 rfl) rfl (toInt_InR _) (fun c500 => ?_) (fun c500 => ?_)
    ·
      rw [bz_t c500] at hM
      refine v_iconst (pc := 507) h (dk dt_L_law_4 9 rfl) ?_
      refine v_cV (pc := 508) h (hM) kv_X12_turns sh123 wM_L_120 rfl rfl (Nat.le_of_ble_eq_true rfl) ⟨⟨Nat.le_of_ble_eq_true rfl, Nat.le_of_ble_eq_true rfl⟩, by show k + 1 + (0) ≤ 601024; omega, by show n + 6 + (0) ≤ 7293034; omega⟩ rfl rfl (dk dt_L_law_4 10 rfl) (fun v508 μ508 p508 => ?_)
      obtain ⟨rfl, g14, g15, hR2⟩ := p508
      refine v_istore (lv' := [(7, _), (6, _), (5, _), (0, _), (1, _), (2, _), (3, _), (4, _)]) (pc := 511) h (dk dt_L_law_4 11 rfl) (Nat.le_of_ble_eq_true rfl) rfl ?_
      refine v_aload_n (pc := 513) h (dk dt_L_law_4 12 rfl) rfl ?_
      refine v_cVi (pc := 514) h (c_X12_thrown h.quiet) kv_X12_thrown sh123 wM_L_107 rfl rfl (Nat.le_of_ble_eq_true rfl) ⟨⟨Nat.le_of_ble_eq_true rfl, Nat.le_of_ble_eq_true rfl⟩, by show k + 1 + (0) ≤ 601024; omega, by show n + 6 + (0) ≤ 7293034; omega⟩ rfl rfl (dk dt_L_law_4 13 rfl) ?_
      rw [g14]
      refine v_iload (pc := 517) h (dk dt_L_law_4 14 rfl) rfl ?_
      refine v_icmp_eqS (pc := 519) h 524 (dk dt_L_law_4 15 rfl) rfl ?_
      refine v_iload (pc := 524) h (dk dt_L_law_4 18 rfl) rfl ?_
      refine v_if_ne (pc := 526) h 541 (dk dt_L_law_4 19 rfl) rfl (by omega) (fun c526 => ?_) (fun c526 => ?_)
      ·
        exact absurd rfl c526
      ·
        refine v_aload_n (pc := 529) h (dk dt_L_law_4 20 rfl) rfl ?_
        refine v_iconst (pc := 530) h (dk dt_L_law_4 21 rfl) ?_
        refine v_lald (pc := 531) h sh151 (Nat.le_of_ble_eq_true rfl) (by omega) (dk dt_L_law_4 22 rfl) ?_
        rw [show (0 : Int).toNat = 0 from rfl, g15]
        refine v_iload (pc := 532) h (dk dt_L_law_4 23 rfl) rfl ?_
        refine v_i2lw (pc := 534) h (dk dt_L_law_4 24 rfl) ?_
        refine v_lcmpS (pc := 535) h (dk dt_L_law_4 25 rfl) ?_
        refine v_if_eq (pc := 536) h 541 (dk dt_L_law_4 26 rfl) rfl (by omega) (fun c536 => ?_) (fun c536 => ?_)
        ·
          refine v_goto (pc := 541) h 1816 (dk dt_L_law_4 29 rfl) rfl ?_
          exact VV.widen (by show k + 1 ≤ k + 3; omega) (by show n + 6 ≤ n + 18; omega) (VV.loc (q _ hR2) ⟨rfl, rfl, rfl, rfl, rfl, rfl, trivial⟩)
        ·
          exact absurd rfl c536
    ·
      rw [bz_f c500] at hM
      refine v_iconst (pc := 503) h (dk dt_L_law_4 7 rfl) ?_
      refine v_goto (pc := 504) h 508 (dk dt_L_law_4 8 rfl) rfl ?_
      refine v_cV (pc := 508) h (hM) kv_X12_turns sh123 wM_L_120 rfl rfl (Nat.le_of_ble_eq_true rfl) ⟨⟨Nat.le_of_ble_eq_true rfl, Nat.le_of_ble_eq_true rfl⟩, by show k + 1 + (0) ≤ 601024; omega, by show n + 6 + (0) ≤ 7293034; omega⟩ rfl rfl (dk dt_L_law_4 10 rfl) (fun v508 μ508 p508 => ?_)
      obtain ⟨rfl, g14, g15, hR2⟩ := p508
      refine v_istore (lv' := [(7, _), (6, _), (5, _), (0, _), (1, _), (2, _), (3, _), (4, _)]) (pc := 511) h (dk dt_L_law_4 11 rfl) (Nat.le_of_ble_eq_true rfl) rfl ?_
      refine v_aload_n (pc := 513) h (dk dt_L_law_4 12 rfl) rfl ?_
      refine v_cVi (pc := 514) h (c_X12_thrown h.quiet) kv_X12_thrown sh123 wM_L_107 rfl rfl (Nat.le_of_ble_eq_true rfl) ⟨⟨Nat.le_of_ble_eq_true rfl, Nat.le_of_ble_eq_true rfl⟩, by show k + 1 + (0) ≤ 601024; omega, by show n + 6 + (0) ≤ 7293034; omega⟩ rfl rfl (dk dt_L_law_4 13 rfl) ?_
      rw [g14]
      refine v_iload (pc := 517) h (dk dt_L_law_4 14 rfl) rfl ?_
      refine v_icmp_eqS (pc := 519) h 524 (dk dt_L_law_4 15 rfl) rfl ?_
      refine v_iload (pc := 524) h (dk dt_L_law_4 18 rfl) rfl ?_
      refine v_if_ne (pc := 526) h 541 (dk dt_L_law_4 19 rfl) rfl (by omega) (fun c526 => ?_) (fun c526 => ?_)
      ·
        exact absurd rfl c526
      ·
        refine v_aload_n (pc := 529) h (dk dt_L_law_4 20 rfl) rfl ?_
        refine v_iconst (pc := 530) h (dk dt_L_law_4 21 rfl) ?_
        refine v_lald (pc := 531) h sh151 (Nat.le_of_ble_eq_true rfl) (by omega) (dk dt_L_law_4 22 rfl) ?_
        rw [show (0 : Int).toNat = 0 from rfl, g15]
        refine v_iload (pc := 532) h (dk dt_L_law_4 23 rfl) rfl ?_
        refine v_i2lw (pc := 534) h (dk dt_L_law_4 24 rfl) ?_
        refine v_lcmpS (pc := 535) h (dk dt_L_law_4 25 rfl) ?_
        refine v_if_eq (pc := 536) h 541 (dk dt_L_law_4 26 rfl) rfl (by omega) (fun c536 => ?_) (fun c536 => ?_)
        ·
          refine v_goto (pc := 541) h 1816 (dk dt_L_law_4 29 rfl) rfl ?_
          exact VV.widen (by show k + 1 ≤ k + 3; omega) (by show n + 6 ≤ n + 18; omega) (VV.loc (q _ hR2) ⟨rfl, rfl, rfl, rfl, rfl, rfl, trivial⟩)
        ·
          exact absurd rfl c536
  refine v_aload_n (pc := 424) h (dk dt_L_law_3 11 rfl) rfl ?_
  refine v_aload_n (pc := 425) h (dk dt_L_law_3 12 rfl) rfl ?_
  refine v_iload (pc := 426) h (dk dt_L_law_3 13 rfl) rfl ?_
  refine v_iconst (pc := 428) h (dk dt_L_law_3 14 rfl) ?_
  refine v_iadd (pc := 429) h (dk dt_L_law_3 15 rfl) ?_
  refine v_sld (pc := 430) h hX hbl hB hL (j := i + 1) ⟨by omega, by omega⟩ (dk dt_L_law_3 16 rfl) ?_
  refine v_aload_n (pc := 431) h (dk dt_L_law_3 17 rfl) rfl ?_
  refine v_iload (pc := 432) h (dk dt_L_law_3 18 rfl) rfl ?_
  refine v_iconst (pc := 434) h (dk dt_L_law_3 19 rfl) ?_
  refine v_iadd (pc := 435) h (dk dt_L_law_3 20 rfl) ?_
  refine v_sld (pc := 436) h hX hbl hB hL (j := i + 2) ⟨by omega, by omega⟩ (dk dt_L_law_3 21 rfl) ?_
  refine v_aload_n (pc := 437) h (dk dt_L_law_3 22 rfl) rfl ?_
  refine v_iload (pc := 438) h (dk dt_L_law_3 23 rfl) rfl ?_
  refine v_iconst (pc := 440) h (dk dt_L_law_3 24 rfl) ?_
  refine v_iadd (pc := 441) h (dk dt_L_law_3 25 rfl) ?_
  refine v_sld (pc := 442) h hX hbl hB hL (j := i + 3) ⟨by omega, by omega⟩ (dk dt_L_law_3 26 rfl) ?_
  refine v_aload_n (pc := 443) h (dk dt_L_law_3 27 rfl) rfl ?_
  refine v_iload (pc := 444) h (dk dt_L_law_3 28 rfl) rfl ?_
  refine v_iconst (pc := 446) h (dk dt_L_law_3 29 rfl) ?_
  refine v_iadd (pc := 447) h (dk dt_L_law_3 30 rfl) ?_
  refine v_sld (pc := 448) h hX hbl hB hL (j := i + 4) ⟨by omega, by omega⟩ (dk dt_L_law_3 31 rfl) ?_
  refine v_aload_n (pc := 449) h (dk dt_L_law_3 32 rfl) rfl ?_
  refine v_iload (pc := 450) h (dk dt_L_law_3 33 rfl) rfl ?_
  refine v_iconst (pc := 452) h (dk dt_L_law_3 34 rfl) ?_
  refine v_iadd (pc := 453) h (dk dt_L_law_3 35 rfl) ?_
  refine v_sld (pc := 454) h hX hbl hB hL (j := i + 5) ⟨by omega, by omega⟩ (dk dt_L_law_3 36 rfl) ?_
  refine v_if_eq (pc := 455) h 462 (dk dt_L_law_3 37 rfl) rfl (toInt_InR _) (fun c455 => ?_) (fun c455 => ?_)
  ·
    rw [bz_t c455] at hC1
    refine v_iconst (pc := 462) h (dk dt_L_law_3 40 rfl) ?_
    refine v_aload_n (pc := 463) h (dk dt_L_law_3 41 rfl) rfl ?_
    refine v_callH (pc := 464) h (hC1) kh_L_turns wM_L_117 rfl rfl (Nat.le_of_ble_eq_true rfl) ⟨⟨Nat.le_of_ble_eq_true rfl, Nat.le_of_ble_eq_true rfl⟩, by show k + 1 ≤ 601024; omega, by show n + 6 ≤ 7293034; omega⟩ (dk dt_L_law_3 42 rfl) (fun v464 μ464 p464 => ?_)
    rcases p464 with ⟨e, rfl, hq⟩ | ⟨e, rfl, rfl⟩
    · exact goA e _ hq
    · exact goB e
  ·
    rw [bz_f c455] at hC1
    refine v_iconst (pc := 458) h (dk dt_L_law_3 38 rfl) ?_
    refine v_goto (pc := 459) h 463 (dk dt_L_law_3 39 rfl) rfl ?_
    refine v_aload_n (pc := 463) h (dk dt_L_law_3 41 rfl) rfl ?_
    refine v_callH (pc := 464) h (hC1) kh_L_turns wM_L_117 rfl rfl (Nat.le_of_ble_eq_true rfl) ⟨⟨Nat.le_of_ble_eq_true rfl, Nat.le_of_ble_eq_true rfl⟩, by show k + 1 ≤ 601024; omega, by show n + 6 ≤ 7293034; omega⟩ (dk dt_L_law_3 42 rfl) (fun v464 μ464 p464 => ?_)
    rcases p464 with ⟨e, rfl, hq⟩ | ⟨e, rfl, rfl⟩
    · exact goA e _ hq
    · exact goB e
theorem law_clear (h : Ac a B D E RL code 9 room_1) (hX : va_X b L xs (axS a) (axS a).heap) (hbl : b < (axS a).heap.size) (hB : b < B) (hL : L ≤ 3072) (hi : i + 6 ≤ L) (hk : k + 3 ≤ 601024) (hn : n + 18 ≤ 7293034) (hR : RLm m)
    (hG : LawEq (axL a) B D E yX11_clear (.code yX11_clear cX11_clear 2 (some .int)) rm_X11_clear [.ref (pl B 0)] yX12_clear (.code yX12_clear cX12_clear 2 (some .int)) rm_X12_clear [.ref (pl B 123)] m (fun v => iI v))
    (q : ∀ m2, RLm m2 → VV a B (SP B D E m2) (k + 3) (n + 18) 1816 (lvL B b i) []) : VV a B (SP B D E m) k n 544 (lvL B b i) [] := by
  obtain ⟨v, Q, hC1, hC2⟩ := hG
  refine v_aload_n (pc := 544) h (dk dt_L_law_4 30 rfl) rfl ?_
  refine v_cV (pc := 545) h (hC1) kv_X11_clear sh0 wM_L_121 rfl rfl (Nat.le_of_ble_eq_true rfl) ⟨⟨Nat.le_of_ble_eq_true rfl, Nat.le_of_ble_eq_true rfl⟩, by show k + 0 ≤ 601024; omega, by show n + 0 ≤ 7293034; omega⟩ rfl rfl (dk dt_L_law_4 31 rfl) (fun v545 μ545 p545 => ?_)
  obtain ⟨rfl, hq⟩ := p545
  refine v_aload_n (pc := 548) h (dk dt_L_law_4 32 rfl) rfl ?_
  refine v_cV (pc := 549) h (hC2 _ hq) kv_X12_clear sh123 wM_L_124 rfl rfl (Nat.le_of_ble_eq_true rfl) ⟨⟨Nat.le_of_ble_eq_true rfl, Nat.le_of_ble_eq_true rfl⟩, by show k + 0 ≤ 601024; omega, by show n + 0 ≤ 7293034; omega⟩ rfl rfl (dk dt_L_law_4 33 rfl) (fun v549 μ549 p549 => ?_)
  obtain ⟨rfl, hR2⟩ := p549
  refine v_icmp_eqS (pc := 552) h 1816 (dk dt_L_law_4 34 rfl) rfl ?_
  exact VV.widen (by show k + 0 ≤ k + 3; omega) (by show n + 0 ≤ n + 18; omega) (VV.loc (q _ hR2) ⟨rfl, rfl, rfl, rfl, rfl, rfl, trivial⟩)
theorem law_run (h : Ac a B D E RL code 9 room_1) (hX : va_X b L xs (axS a) (axS a).heap) (hbl : b < (axS a).heap.size) (hB : b < B) (hL : L ≤ 3072) (hi : i + 6 ≤ L) (hk : k + 3 ≤ 601024) (hn : n + 18 ≤ 7293034) (hR : RLm m)
    (hG : LawOK (axL a) B D E yL_run (.codeWith yL_run cL_run 4 (some .int) [(0, 9, 12, 13)]) rm_L_run [.ref (pl B 0), iI (xs (i + 1)).toInt, .ref (pl B 151)] yX12_run (.code yX12_run cX12_run 3 (some .int)) rm_X12_run [.ref (pl B 123), iI (xs (i + 1)).toInt] m)
    (q : ∀ m2, RLm m2 → VV a B (SP B D E m2) (k + 3) (n + 18) 1816 (lvL B b i) []) : VV a B (SP B D E m) k n 557 (lvL B b i) [] := by
  obtain ⟨rc, Q, hrc, hC1, hC2, hC3⟩ := hG
  have goB : rc ≠ 0 → VV a B (SP B D E m) (k + 1) (n + 6) 568 (lvL B b i) [iI rc] := by
    intro hne
    have hM := hC2 hne
    refine v_istore (lv' := [(6, _), (5, _), (0, _), (1, _), (2, _), (3, _), (4, _)]) (pc := 568) h (dk dt_L_law_4 45 rfl) (Nat.le_of_ble_eq_true rfl) rfl ?_
    refine v_aload_n (pc := 570) h (dk dt_L_law_4 46 rfl) rfl ?_
    refine v_aload_n (pc := 571) h (dk dt_L_law_4 47 rfl) rfl ?_
    refine v_iload (pc := 572) h (dk dt_L_law_4 48 rfl) rfl ?_
    refine v_iconst (pc := 574) h (dk dt_L_law_4 49 rfl) ?_
    refine v_iadd (pc := 575) h (dk dt_L_law_4 50 rfl) ?_
    refine v_sld (pc := 576) h hX hbl hB hL (j := i + 1) ⟨by omega, by omega⟩ (dk dt_L_law_4 51 rfl) ?_
    refine v_cV (pc := 577) h (hM) kv_X12_run sh123 wM_L_128 rfl rfl (Nat.le_of_ble_eq_true rfl) ⟨⟨Nat.le_of_ble_eq_true rfl, Nat.le_of_ble_eq_true rfl⟩, by show k + 1 + (0) ≤ 601024; omega, by show n + 6 + (0) ≤ 7293034; omega⟩ rfl rfl (dk dt_L_law_4 52 rfl) (fun v577 μ577 p577 => ?_)
    obtain ⟨rfl, rfl⟩ := p577
    refine v_istore (lv' := [(7, _), (6, _), (5, _), (0, _), (1, _), (2, _), (3, _), (4, _)]) (pc := 580) h (dk dt_L_law_4 53 rfl) (Nat.le_of_ble_eq_true rfl) rfl ?_
    refine v_aload_n (pc := 582) h (dk dt_L_law_4 54 rfl) rfl ?_
    refine v_cVi (pc := 583) h (c_X12_thrown h.quiet) kv_X12_thrown sh123 wM_L_107 rfl rfl (Nat.le_of_ble_eq_true rfl) ⟨⟨Nat.le_of_ble_eq_true rfl, Nat.le_of_ble_eq_true rfl⟩, by show k + 1 + (0) ≤ 601024; omega, by show n + 6 + (0) ≤ 7293034; omega⟩ rfl rfl (dk dt_L_law_4 55 rfl) ?_
    rw [mup_eq]
    refine v_iload (pc := 586) h (dk dt_L_law_4 56 rfl) rfl ?_
    refine v_icmp_eqS (pc := 588) h 593 (dk dt_L_law_4 57 rfl) rfl ?_
    refine v_iload (pc := 593) h (dk dt_L_law_4 60 rfl) rfl ?_
    refine v_if_ne (pc := 595) h 610 (dk dt_L_law_4 61 rfl) rfl (by omega) (fun c595 => ?_) (fun c595 => ?_)
    ·
      refine v_goto (pc := 610) h 1816 (dk dt_L_law_5 7 rfl) rfl ?_
      exact VV.widen (by show k + 1 ≤ k + 3; omega) (by show n + 6 ≤ n + 18; omega) (VV.loc (q _ (RLm_sf hR sf_14)) ⟨rfl, rfl, rfl, rfl, rfl, rfl, trivial⟩)
    ·
      exact absurd c595 hne
  have goA : rc = 0 → ∀ m1, Q m1 → VV a B (SP B D E m1) (k + 1) (n + 6) 568 (lvL B b i) [iI 0] := by
    intro h0 m1 hq
    obtain ⟨v, hM⟩ := hC3 h0 m1 hq
    refine v_istore (lv' := [(6, _), (5, _), (0, _), (1, _), (2, _), (3, _), (4, _)]) (pc := 568) h (dk dt_L_law_4 45 rfl) (Nat.le_of_ble_eq_true rfl) rfl ?_
    refine v_aload_n (pc := 570) h (dk dt_L_law_4 46 rfl) rfl ?_
    refine v_aload_n (pc := 571) h (dk dt_L_law_4 47 rfl) rfl ?_
    refine v_iload (pc := 572) h (dk dt_L_law_4 48 rfl) rfl ?_
    refine v_iconst (pc := 574) h (dk dt_L_law_4 49 rfl) ?_
    refine v_iadd (pc := 575) h (dk dt_L_law_4 50 rfl) ?_
    refine v_sld (pc := 576) h hX hbl hB hL (j := i + 1) ⟨by omega, by omega⟩ (dk dt_L_law_4 51 rfl) ?_
    refine v_cV (pc := 577) h (hM) kv_X12_run sh123 wM_L_128 rfl rfl (Nat.le_of_ble_eq_true rfl) ⟨⟨Nat.le_of_ble_eq_true rfl, Nat.le_of_ble_eq_true rfl⟩, by show k + 1 + (0) ≤ 601024; omega, by show n + 6 + (0) ≤ 7293034; omega⟩ rfl rfl (dk dt_L_law_4 52 rfl) (fun v577 μ577 p577 => ?_)
    obtain ⟨rfl, g14, g15, hR2⟩ := p577
    refine v_istore (lv' := [(7, _), (6, _), (5, _), (0, _), (1, _), (2, _), (3, _), (4, _)]) (pc := 580) h (dk dt_L_law_4 53 rfl) (Nat.le_of_ble_eq_true rfl) rfl ?_
    refine v_aload_n (pc := 582) h (dk dt_L_law_4 54 rfl) rfl ?_
    refine v_cVi (pc := 583) h (c_X12_thrown h.quiet) kv_X12_thrown sh123 wM_L_107 rfl rfl (Nat.le_of_ble_eq_true rfl) ⟨⟨Nat.le_of_ble_eq_true rfl, Nat.le_of_ble_eq_true rfl⟩, by show k + 1 + (0) ≤ 601024; omega, by show n + 6 + (0) ≤ 7293034; omega⟩ rfl rfl (dk dt_L_law_4 55 rfl) ?_
    rw [g14]
    refine v_iload (pc := 586) h (dk dt_L_law_4 56 rfl) rfl ?_
    refine v_icmp_eqS (pc := 588) h 593 (dk dt_L_law_4 57 rfl) rfl ?_
    refine v_iload (pc := 593) h (dk dt_L_law_4 60 rfl) rfl ?_
    refine v_if_ne (pc := 595) h 610 (dk dt_L_law_4 61 rfl) rfl (by omega) (fun c595 => ?_) (fun c595 => ?_)
    ·
      exact absurd rfl c595
    ·
      refine v_aload_n (pc := 598) h (dk dt_L_law_4 62 rfl) rfl ?_
      refine v_iconst (pc := 599) h (dk dt_L_law_4 63 rfl) ?_
      refine v_lald (pc := 600) h sh151 (Nat.le_of_ble_eq_true rfl) (by omega) (dk dt_L_law_5 0 rfl) ?_
      rw [show (0 : Int).toNat = 0 from rfl, g15]
      refine v_iload (pc := 601) h (dk dt_L_law_5 1 rfl) rfl ?_
      refine v_i2lw (pc := 603) h (dk dt_L_law_5 2 rfl) ?_
      refine v_lcmpS (pc := 604) h (dk dt_L_law_5 3 rfl) ?_
      refine v_if_eq (pc := 605) h 610 (dk dt_L_law_5 4 rfl) rfl (by omega) (fun c605 => ?_) (fun c605 => ?_)
      ·
        refine v_goto (pc := 610) h 1816 (dk dt_L_law_5 7 rfl) rfl ?_
        exact VV.widen (by show k + 1 ≤ k + 3; omega) (by show n + 6 ≤ n + 18; omega) (VV.loc (q _ hR2) ⟨rfl, rfl, rfl, rfl, rfl, rfl, trivial⟩)
      ·
        exact absurd rfl c605
  refine v_aload_n (pc := 557) h (dk dt_L_law_4 37 rfl) rfl ?_
  refine v_aload_n (pc := 558) h (dk dt_L_law_4 38 rfl) rfl ?_
  refine v_iload (pc := 559) h (dk dt_L_law_4 39 rfl) rfl ?_
  refine v_iconst (pc := 561) h (dk dt_L_law_4 40 rfl) ?_
  refine v_iadd (pc := 562) h (dk dt_L_law_4 41 rfl) ?_
  refine v_sld (pc := 563) h hX hbl hB hL (j := i + 1) ⟨by omega, by omega⟩ (dk dt_L_law_4 42 rfl) ?_
  refine v_aload_n (pc := 564) h (dk dt_L_law_4 43 rfl) rfl ?_
  refine v_callH (pc := 565) h (hC1) kh_L_run wM_L_125 rfl rfl (Nat.le_of_ble_eq_true rfl) ⟨⟨Nat.le_of_ble_eq_true rfl, Nat.le_of_ble_eq_true rfl⟩, by show k + 1 ≤ 601024; omega, by show n + 6 ≤ 7293034; omega⟩ (dk dt_L_law_4 44 rfl) (fun v565 μ565 p565 => ?_)
  rcases p565 with ⟨e, rfl, hq⟩ | ⟨e, rfl, rfl⟩
  · exact goA e _ hq
  · exact goB e
theorem law_running (h : Ac a B D E RL code 9 room_1) (hX : va_X b L xs (axS a) (axS a).heap) (hbl : b < (axS a).heap.size) (hB : b < B) (hL : L ≤ 3072) (hi : i + 6 ≤ L) (hk : k + 3 ≤ 601024) (hn : n + 18 ≤ 7293034) (hR : RLm m)
    (hG : LawOK (axL a) B D E yL_running (.codeWith yL_running cL_running 4 (some .int) [(0, 9, 12, 13), (0, 9, 15, 15)]) rm_L_running [.ref (pl B 0), iI (xs (i + 1)).toInt, .ref (pl B 151)] yX12_running (.code yX12_running cX12_running 2 (some .int)) rm_X12_running [.ref (pl B 123), iI (xs (i + 1)).toInt] m)
    (q : ∀ m2, RLm m2 → VV a B (SP B D E m2) (k + 3) (n + 18) 1816 (lvL B b i) []) : VV a B (SP B D E m) k n 613 (lvL B b i) [] := by
  obtain ⟨rc, Q, hrc, hC1, hC2, hC3⟩ := hG
  have goB : rc ≠ 0 → VV a B (SP B D E m) (k + 2) (n + 12) 624 (lvL B b i) [iI rc] := by
    intro hne
    have hM := hC2 hne
    refine v_istore (lv' := [(6, _), (5, _), (0, _), (1, _), (2, _), (3, _), (4, _)]) (pc := 624) h (dk dt_L_law_5 16 rfl) (Nat.le_of_ble_eq_true rfl) rfl ?_
    refine v_aload_n (pc := 626) h (dk dt_L_law_5 17 rfl) rfl ?_
    refine v_aload_n (pc := 627) h (dk dt_L_law_5 18 rfl) rfl ?_
    refine v_iload (pc := 628) h (dk dt_L_law_5 19 rfl) rfl ?_
    refine v_iconst (pc := 630) h (dk dt_L_law_5 20 rfl) ?_
    refine v_iadd (pc := 631) h (dk dt_L_law_5 21 rfl) ?_
    refine v_sld (pc := 632) h hX hbl hB hL (j := i + 1) ⟨by omega, by omega⟩ (dk dt_L_law_5 22 rfl) ?_
    refine v_cV (pc := 633) h (hM) kv_X12_running sh123 wM_L_131 rfl rfl (Nat.le_of_ble_eq_true rfl) ⟨⟨Nat.le_of_ble_eq_true rfl, Nat.le_of_ble_eq_true rfl⟩, by show k + 2 + (0) ≤ 601024; omega, by show n + 12 + (0) ≤ 7293034; omega⟩ rfl rfl (dk dt_L_law_5 23 rfl) (fun v633 μ633 p633 => ?_)
    obtain ⟨rfl, rfl⟩ := p633
    refine v_istore (lv' := [(7, _), (6, _), (5, _), (0, _), (1, _), (2, _), (3, _), (4, _)]) (pc := 636) h (dk dt_L_law_5 24 rfl) (Nat.le_of_ble_eq_true rfl) rfl ?_
    refine v_aload_n (pc := 638) h (dk dt_L_law_5 25 rfl) rfl ?_
    refine v_cVi (pc := 639) h (c_X12_thrown h.quiet) kv_X12_thrown sh123 wM_L_107 rfl rfl (Nat.le_of_ble_eq_true rfl) ⟨⟨Nat.le_of_ble_eq_true rfl, Nat.le_of_ble_eq_true rfl⟩, by show k + 2 + (0) ≤ 601024; omega, by show n + 12 + (0) ≤ 7293034; omega⟩ rfl rfl (dk dt_L_law_5 26 rfl) ?_
    rw [mup_eq]
    refine v_iload (pc := 642) h (dk dt_L_law_5 27 rfl) rfl ?_
    refine v_icmp_eqS (pc := 644) h 649 (dk dt_L_law_5 28 rfl) rfl ?_
    refine v_iload (pc := 649) h (dk dt_L_law_5 31 rfl) rfl ?_
    refine v_if_ne (pc := 651) h 666 (dk dt_L_law_5 32 rfl) rfl (by omega) (fun c651 => ?_) (fun c651 => ?_)
    ·
      refine v_goto (pc := 666) h 1816 (dk dt_L_law_5 42 rfl) rfl ?_
      exact VV.widen (by show k + 2 ≤ k + 3; omega) (by show n + 12 ≤ n + 18; omega) (VV.loc (q _ (RLm_sf hR sf_14)) ⟨rfl, rfl, rfl, rfl, rfl, rfl, trivial⟩)
    ·
      exact absurd c651 hne
  have goA : rc = 0 → ∀ m1, Q m1 → VV a B (SP B D E m1) (k + 2) (n + 12) 624 (lvL B b i) [iI 0] := by
    intro h0 m1 hq
    obtain ⟨v, hM⟩ := hC3 h0 m1 hq
    refine v_istore (lv' := [(6, _), (5, _), (0, _), (1, _), (2, _), (3, _), (4, _)]) (pc := 624) h (dk dt_L_law_5 16 rfl) (Nat.le_of_ble_eq_true rfl) rfl ?_
    refine v_aload_n (pc := 626) h (dk dt_L_law_5 17 rfl) rfl ?_
    refine v_aload_n (pc := 627) h (dk dt_L_law_5 18 rfl) rfl ?_
    refine v_iload (pc := 628) h (dk dt_L_law_5 19 rfl) rfl ?_
    refine v_iconst (pc := 630) h (dk dt_L_law_5 20 rfl) ?_
    refine v_iadd (pc := 631) h (dk dt_L_law_5 21 rfl) ?_
    refine v_sld (pc := 632) h hX hbl hB hL (j := i + 1) ⟨by omega, by omega⟩ (dk dt_L_law_5 22 rfl) ?_
    refine v_cV (pc := 633) h (hM) kv_X12_running sh123 wM_L_131 rfl rfl (Nat.le_of_ble_eq_true rfl) ⟨⟨Nat.le_of_ble_eq_true rfl, Nat.le_of_ble_eq_true rfl⟩, by show k + 2 + (0) ≤ 601024; omega, by show n + 12 + (0) ≤ 7293034; omega⟩ rfl rfl (dk dt_L_law_5 23 rfl) (fun v633 μ633 p633 => ?_)
    obtain ⟨rfl, g14, g15, hR2⟩ := p633
    refine v_istore (lv' := [(7, _), (6, _), (5, _), (0, _), (1, _), (2, _), (3, _), (4, _)]) (pc := 636) h (dk dt_L_law_5 24 rfl) (Nat.le_of_ble_eq_true rfl) rfl ?_
    refine v_aload_n (pc := 638) h (dk dt_L_law_5 25 rfl) rfl ?_
    refine v_cVi (pc := 639) h (c_X12_thrown h.quiet) kv_X12_thrown sh123 wM_L_107 rfl rfl (Nat.le_of_ble_eq_true rfl) ⟨⟨Nat.le_of_ble_eq_true rfl, Nat.le_of_ble_eq_true rfl⟩, by show k + 2 + (0) ≤ 601024; omega, by show n + 12 + (0) ≤ 7293034; omega⟩ rfl rfl (dk dt_L_law_5 26 rfl) ?_
    rw [g14]
    refine v_iload (pc := 642) h (dk dt_L_law_5 27 rfl) rfl ?_
    refine v_icmp_eqS (pc := 644) h 649 (dk dt_L_law_5 28 rfl) rfl ?_
    refine v_iload (pc := 649) h (dk dt_L_law_5 31 rfl) rfl ?_
    refine v_if_ne (pc := 651) h 666 (dk dt_L_law_5 32 rfl) rfl (by omega) (fun c651 => ?_) (fun c651 => ?_)
    ·
      exact absurd rfl c651
    ·
      refine v_aload_n (pc := 654) h (dk dt_L_law_5 33 rfl) rfl ?_
      refine v_iconst (pc := 655) h (dk dt_L_law_5 34 rfl) ?_
      refine v_lald (pc := 656) h sh151 (Nat.le_of_ble_eq_true rfl) (by omega) (dk dt_L_law_5 35 rfl) ?_
      rw [show (0 : Int).toNat = 0 from rfl, g15]
      refine v_iload (pc := 657) h (dk dt_L_law_5 36 rfl) rfl ?_
      refine v_i2lw (pc := 659) h (dk dt_L_law_5 37 rfl) ?_
      refine v_lcmpS (pc := 660) h (dk dt_L_law_5 38 rfl) ?_
      refine v_if_eq (pc := 661) h 666 (dk dt_L_law_5 39 rfl) rfl (by omega) (fun c661 => ?_) (fun c661 => ?_)
      ·
        refine v_goto (pc := 666) h 1816 (dk dt_L_law_5 42 rfl) rfl ?_
        exact VV.widen (by show k + 2 ≤ k + 3; omega) (by show n + 12 ≤ n + 18; omega) (VV.loc (q _ hR2) ⟨rfl, rfl, rfl, rfl, rfl, rfl, trivial⟩)
      ·
        exact absurd rfl c661
  refine v_aload_n (pc := 613) h (dk dt_L_law_5 8 rfl) rfl ?_
  refine v_aload_n (pc := 614) h (dk dt_L_law_5 9 rfl) rfl ?_
  refine v_iload (pc := 615) h (dk dt_L_law_5 10 rfl) rfl ?_
  refine v_iconst (pc := 617) h (dk dt_L_law_5 11 rfl) ?_
  refine v_iadd (pc := 618) h (dk dt_L_law_5 12 rfl) ?_
  refine v_sld (pc := 619) h hX hbl hB hL (j := i + 1) ⟨by omega, by omega⟩ (dk dt_L_law_5 13 rfl) ?_
  refine v_aload_n (pc := 620) h (dk dt_L_law_5 14 rfl) rfl ?_
  refine v_callH (pc := 621) h (hC1) kh_L_running wM_L_129 rfl rfl (Nat.le_of_ble_eq_true rfl) ⟨⟨Nat.le_of_ble_eq_true rfl, Nat.le_of_ble_eq_true rfl⟩, by show k + 2 ≤ 601024; omega, by show n + 12 ≤ 7293034; omega⟩ (dk dt_L_law_5 15 rfl) (fun v621 μ621 p621 => ?_)
  rcases p621 with ⟨e, rfl, hq⟩ | ⟨e, rfl, rfl⟩
  · exact goA e _ hq
  · exact goB e
theorem law_left (h : Ac a B D E RL code 9 room_1) (hX : va_X b L xs (axS a) (axS a).heap) (hbl : b < (axS a).heap.size) (hB : b < B) (hL : L ≤ 3072) (hi : i + 6 ≤ L) (hk : k + 3 ≤ 601024) (hn : n + 18 ≤ 7293034) (hR : RLm m)
    (hG : LawOK (axL a) B D E yL_left (.codeWith yL_left cL_left 5 (some .int) [(0, 10, 13, 21), (0, 10, 17, 13), (0, 10, 21, 15)]) rm_L_left [.ref (pl B 0), iI (xs (i + 1)).toInt, iI (xs (i + 2)).toInt, .ref (pl B 151)] yX12_left (.code yX12_left cX12_left 3 (some .int)) rm_X12_left [.ref (pl B 123), iI (xs (i + 1)).toInt, iI (xs (i + 2)).toInt] m)
    (q : ∀ m2, RLm m2 → VV a B (SP B D E m2) (k + 3) (n + 18) 1816 (lvL B b i) []) : VV a B (SP B D E m) k n 669 (lvL B b i) [] := by
  obtain ⟨rc, Q, hrc, hC1, hC2, hC3⟩ := hG
  have goB : rc ≠ 0 → VV a B (SP B D E m) (k + 3) (n + 18) 686 (lvL B b i) [iI rc] := by
    intro hne
    have hM := hC2 hne
    refine v_istore (lv' := [(6, _), (5, _), (0, _), (1, _), (2, _), (3, _), (4, _)]) (pc := 686) h (dk dt_L_law_5 56 rfl) (Nat.le_of_ble_eq_true rfl) rfl ?_
    refine v_aload_n (pc := 688) h (dk dt_L_law_5 57 rfl) rfl ?_
    refine v_aload_n (pc := 689) h (dk dt_L_law_5 58 rfl) rfl ?_
    refine v_iload (pc := 690) h (dk dt_L_law_5 59 rfl) rfl ?_
    refine v_iconst (pc := 692) h (dk dt_L_law_5 60 rfl) ?_
    refine v_iadd (pc := 693) h (dk dt_L_law_5 61 rfl) ?_
    refine v_sld (pc := 694) h hX hbl hB hL (j := i + 1) ⟨by omega, by omega⟩ (dk dt_L_law_5 62 rfl) ?_
    refine v_aload_n (pc := 695) h (dk dt_L_law_5 63 rfl) rfl ?_
    refine v_iload (pc := 696) h (dk dt_L_law_6 0 rfl) rfl ?_
    refine v_iconst (pc := 698) h (dk dt_L_law_6 1 rfl) ?_
    refine v_iadd (pc := 699) h (dk dt_L_law_6 2 rfl) ?_
    refine v_sld (pc := 700) h hX hbl hB hL (j := i + 2) ⟨by omega, by omega⟩ (dk dt_L_law_6 3 rfl) ?_
    refine v_cV (pc := 701) h (hM) kv_X12_left sh123 wM_L_134 rfl rfl (Nat.le_of_ble_eq_true rfl) ⟨⟨Nat.le_of_ble_eq_true rfl, Nat.le_of_ble_eq_true rfl⟩, by show k + 3 + (0) ≤ 601024; omega, by show n + 18 + (0) ≤ 7293034; omega⟩ rfl rfl (dk dt_L_law_6 4 rfl) (fun v701 μ701 p701 => ?_)
    obtain ⟨rfl, rfl⟩ := p701
    refine v_istore (lv' := [(7, _), (6, _), (5, _), (0, _), (1, _), (2, _), (3, _), (4, _)]) (pc := 704) h (dk dt_L_law_6 5 rfl) (Nat.le_of_ble_eq_true rfl) rfl ?_
    refine v_aload_n (pc := 706) h (dk dt_L_law_6 6 rfl) rfl ?_
    refine v_cVi (pc := 707) h (c_X12_thrown h.quiet) kv_X12_thrown sh123 wM_L_107 rfl rfl (Nat.le_of_ble_eq_true rfl) ⟨⟨Nat.le_of_ble_eq_true rfl, Nat.le_of_ble_eq_true rfl⟩, by show k + 3 + (0) ≤ 601024; omega, by show n + 18 + (0) ≤ 7293034; omega⟩ rfl rfl (dk dt_L_law_6 7 rfl) ?_
    rw [mup_eq]
    refine v_iload (pc := 710) h (dk dt_L_law_6 8 rfl) rfl ?_
    refine v_icmp_eqS (pc := 712) h 717 (dk dt_L_law_6 9 rfl) rfl ?_
    refine v_iload (pc := 717) h (dk dt_L_law_6 12 rfl) rfl ?_
    refine v_if_ne (pc := 719) h 734 (dk dt_L_law_6 13 rfl) rfl (by omega) (fun c719 => ?_) (fun c719 => ?_)
    ·
      refine v_goto (pc := 734) h 1816 (dk dt_L_law_6 23 rfl) rfl ?_
      exact VV.widen (by show k + 3 ≤ k + 3; omega) (by show n + 18 ≤ n + 18; omega) (VV.loc (q _ (RLm_sf hR sf_14)) ⟨rfl, rfl, rfl, rfl, rfl, rfl, trivial⟩)
    ·
      exact absurd c719 hne
  have goA : rc = 0 → ∀ m1, Q m1 → VV a B (SP B D E m1) (k + 3) (n + 18) 686 (lvL B b i) [iI 0] := by
    intro h0 m1 hq
    obtain ⟨v, hM⟩ := hC3 h0 m1 hq
    refine v_istore (lv' := [(6, _), (5, _), (0, _), (1, _), (2, _), (3, _), (4, _)]) (pc := 686) h (dk dt_L_law_5 56 rfl) (Nat.le_of_ble_eq_true rfl) rfl ?_
    refine v_aload_n (pc := 688) h (dk dt_L_law_5 57 rfl) rfl ?_
    refine v_aload_n (pc := 689) h (dk dt_L_law_5 58 rfl) rfl ?_
    refine v_iload (pc := 690) h (dk dt_L_law_5 59 rfl) rfl ?_
    refine v_iconst (pc := 692) h (dk dt_L_law_5 60 rfl) ?_
    refine v_iadd (pc := 693) h (dk dt_L_law_5 61 rfl) ?_
    refine v_sld (pc := 694) h hX hbl hB hL (j := i + 1) ⟨by omega, by omega⟩ (dk dt_L_law_5 62 rfl) ?_
    refine v_aload_n (pc := 695) h (dk dt_L_law_5 63 rfl) rfl ?_
    refine v_iload (pc := 696) h (dk dt_L_law_6 0 rfl) rfl ?_
    refine v_iconst (pc := 698) h (dk dt_L_law_6 1 rfl) ?_
    refine v_iadd (pc := 699) h (dk dt_L_law_6 2 rfl) ?_
    refine v_sld (pc := 700) h hX hbl hB hL (j := i + 2) ⟨by omega, by omega⟩ (dk dt_L_law_6 3 rfl) ?_
    refine v_cV (pc := 701) h (hM) kv_X12_left sh123 wM_L_134 rfl rfl (Nat.le_of_ble_eq_true rfl) ⟨⟨Nat.le_of_ble_eq_true rfl, Nat.le_of_ble_eq_true rfl⟩, by show k + 3 + (0) ≤ 601024; omega, by show n + 18 + (0) ≤ 7293034; omega⟩ rfl rfl (dk dt_L_law_6 4 rfl) (fun v701 μ701 p701 => ?_)
    obtain ⟨rfl, g14, g15, hR2⟩ := p701
    refine v_istore (lv' := [(7, _), (6, _), (5, _), (0, _), (1, _), (2, _), (3, _), (4, _)]) (pc := 704) h (dk dt_L_law_6 5 rfl) (Nat.le_of_ble_eq_true rfl) rfl ?_
    refine v_aload_n (pc := 706) h (dk dt_L_law_6 6 rfl) rfl ?_
    refine v_cVi (pc := 707) h (c_X12_thrown h.quiet) kv_X12_thrown sh123 wM_L_107 rfl rfl (Nat.le_of_ble_eq_true rfl) ⟨⟨Nat.le_of_ble_eq_true rfl, Nat.le_of_ble_eq_true rfl⟩, by show k + 3 + (0) ≤ 601024; omega, by show n + 18 + (0) ≤ 7293034; omega⟩ rfl rfl (dk dt_L_law_6 7 rfl) ?_
    rw [g14]
    refine v_iload (pc := 710) h (dk dt_L_law_6 8 rfl) rfl ?_
    refine v_icmp_eqS (pc := 712) h 717 (dk dt_L_law_6 9 rfl) rfl ?_
    refine v_iload (pc := 717) h (dk dt_L_law_6 12 rfl) rfl ?_
    refine v_if_ne (pc := 719) h 734 (dk dt_L_law_6 13 rfl) rfl (by omega) (fun c719 => ?_) (fun c719 => ?_)
    ·
      exact absurd rfl c719
    ·
      refine v_aload_n (pc := 722) h (dk dt_L_law_6 14 rfl) rfl ?_
      refine v_iconst (pc := 723) h (dk dt_L_law_6 15 rfl) ?_
      refine v_lald (pc := 724) h sh151 (Nat.le_of_ble_eq_true rfl) (by omega) (dk dt_L_law_6 16 rfl) ?_
      rw [show (0 : Int).toNat = 0 from rfl, g15]
      refine v_iload (pc := 725) h (dk dt_L_law_6 17 rfl) rfl ?_
      refine v_i2lw (pc := 727) h (dk dt_L_law_6 18 rfl) ?_
      refine v_lcmpS (pc := 728) h (dk dt_L_law_6 19 rfl) ?_
      refine v_if_eq (pc := 729) h 734 (dk dt_L_law_6 20 rfl) rfl (by omega) (fun c729 => ?_) (fun c729 => ?_)
      ·
        refine v_goto (pc := 734) h 1816 (dk dt_L_law_6 23 rfl) rfl ?_
        exact VV.widen (by show k + 3 ≤ k + 3; omega) (by show n + 18 ≤ n + 18; omega) (VV.loc (q _ hR2) ⟨rfl, rfl, rfl, rfl, rfl, rfl, trivial⟩)
      ·
        exact absurd rfl c729
  refine v_aload_n (pc := 669) h (dk dt_L_law_5 43 rfl) rfl ?_
  refine v_aload_n (pc := 670) h (dk dt_L_law_5 44 rfl) rfl ?_
  refine v_iload (pc := 671) h (dk dt_L_law_5 45 rfl) rfl ?_
  refine v_iconst (pc := 673) h (dk dt_L_law_5 46 rfl) ?_
  refine v_iadd (pc := 674) h (dk dt_L_law_5 47 rfl) ?_
  refine v_sld (pc := 675) h hX hbl hB hL (j := i + 1) ⟨by omega, by omega⟩ (dk dt_L_law_5 48 rfl) ?_
  refine v_aload_n (pc := 676) h (dk dt_L_law_5 49 rfl) rfl ?_
  refine v_iload (pc := 677) h (dk dt_L_law_5 50 rfl) rfl ?_
  refine v_iconst (pc := 679) h (dk dt_L_law_5 51 rfl) ?_
  refine v_iadd (pc := 680) h (dk dt_L_law_5 52 rfl) ?_
  refine v_sld (pc := 681) h hX hbl hB hL (j := i + 2) ⟨by omega, by omega⟩ (dk dt_L_law_5 53 rfl) ?_
  refine v_aload_n (pc := 682) h (dk dt_L_law_5 54 rfl) rfl ?_
  refine v_callH (pc := 683) h (hC1) kh_L_left wM_L_132 rfl rfl (Nat.le_of_ble_eq_true rfl) ⟨⟨Nat.le_of_ble_eq_true rfl, Nat.le_of_ble_eq_true rfl⟩, by show k + 3 ≤ 601024; omega, by show n + 18 ≤ 7293034; omega⟩ (dk dt_L_law_5 55 rfl) (fun v683 μ683 p683 => ?_)
  rcases p683 with ⟨e, rfl, hq⟩ | ⟨e, rfl, rfl⟩
  · exact goA e _ hq
  · exact goB e
theorem law_work (h : Ac a B D E RL code 9 room_1) (hX : va_X b L xs (axS a) (axS a).heap) (hbl : b < (axS a).heap.size) (hB : b < B) (hL : L ≤ 3072) (hi : i + 6 ≤ L) (hk : k + 3 ≤ 601024) (hn : n + 18 ≤ 7293034) (hR : RLm m)
    (hG : LawOK (axL a) B D E yL_work (.codeWith yL_work cL_work 4 (some .int) [(0, 9, 12, 13), (0, 9, 15, 15)]) rm_L_work [.ref (pl B 0), iI (xs (i + 1)).toInt, .ref (pl B 151)] yX12_work (.code yX12_work cX12_work 4 (some .int)) rm_X12_work [.ref (pl B 123), iI (xs (i + 1)).toInt] m)
    (q : ∀ m2, RLm m2 → VV a B (SP B D E m2) (k + 3) (n + 18) 1816 (lvL B b i) []) : VV a B (SP B D E m) k n 737 (lvL B b i) [] := by
  obtain ⟨rc, Q, hrc, hC1, hC2, hC3⟩ := hG
  have goB : rc ≠ 0 → VV a B (SP B D E m) (k + 2) (n + 12) 748 (lvL B b i) [iI rc] := by
    intro hne
    have hM := hC2 hne
    refine v_istore (lv' := [(6, _), (5, _), (0, _), (1, _), (2, _), (3, _), (4, _)]) (pc := 748) h (dk dt_L_law_6 32 rfl) (Nat.le_of_ble_eq_true rfl) rfl ?_
    refine v_aload_n (pc := 750) h (dk dt_L_law_6 33 rfl) rfl ?_
    refine v_aload_n (pc := 751) h (dk dt_L_law_6 34 rfl) rfl ?_
    refine v_iload (pc := 752) h (dk dt_L_law_6 35 rfl) rfl ?_
    refine v_iconst (pc := 754) h (dk dt_L_law_6 36 rfl) ?_
    refine v_iadd (pc := 755) h (dk dt_L_law_6 37 rfl) ?_
    refine v_sld (pc := 756) h hX hbl hB hL (j := i + 1) ⟨by omega, by omega⟩ (dk dt_L_law_6 38 rfl) ?_
    refine v_cV (pc := 757) h (hM) kv_X12_work sh123 wM_L_137 rfl rfl (Nat.le_of_ble_eq_true rfl) ⟨⟨Nat.le_of_ble_eq_true rfl, Nat.le_of_ble_eq_true rfl⟩, by show k + 2 + (0) ≤ 601024; omega, by show n + 12 + (0) ≤ 7293034; omega⟩ rfl rfl (dk dt_L_law_6 39 rfl) (fun v757 μ757 p757 => ?_)
    obtain ⟨rfl, rfl⟩ := p757
    refine v_istore (lv' := [(7, _), (6, _), (5, _), (0, _), (1, _), (2, _), (3, _), (4, _)]) (pc := 760) h (dk dt_L_law_6 40 rfl) (Nat.le_of_ble_eq_true rfl) rfl ?_
    refine v_aload_n (pc := 762) h (dk dt_L_law_6 41 rfl) rfl ?_
    refine v_cVi (pc := 763) h (c_X12_thrown h.quiet) kv_X12_thrown sh123 wM_L_107 rfl rfl (Nat.le_of_ble_eq_true rfl) ⟨⟨Nat.le_of_ble_eq_true rfl, Nat.le_of_ble_eq_true rfl⟩, by show k + 2 + (0) ≤ 601024; omega, by show n + 12 + (0) ≤ 7293034; omega⟩ rfl rfl (dk dt_L_law_6 42 rfl) ?_
    rw [mup_eq]
    refine v_iload (pc := 766) h (dk dt_L_law_6 43 rfl) rfl ?_
    refine v_icmp_eqS (pc := 768) h 773 (dk dt_L_law_6 44 rfl) rfl ?_
    refine v_iload (pc := 773) h (dk dt_L_law_6 47 rfl) rfl ?_
    refine v_if_ne (pc := 775) h 790 (dk dt_L_law_6 48 rfl) rfl (by omega) (fun c775 => ?_) (fun c775 => ?_)
    ·
      refine v_goto (pc := 790) h 1816 (dk dt_L_law_6 58 rfl) rfl ?_
      exact VV.widen (by show k + 2 ≤ k + 3; omega) (by show n + 12 ≤ n + 18; omega) (VV.loc (q _ (RLm_sf hR sf_14)) ⟨rfl, rfl, rfl, rfl, rfl, rfl, trivial⟩)
    ·
      exact absurd c775 hne
  have goA : rc = 0 → ∀ m1, Q m1 → VV a B (SP B D E m1) (k + 2) (n + 12) 748 (lvL B b i) [iI 0] := by
    intro h0 m1 hq
    obtain ⟨v, hM⟩ := hC3 h0 m1 hq
    refine v_istore (lv' := [(6, _), (5, _), (0, _), (1, _), (2, _), (3, _), (4, _)]) (pc := 748) h (dk dt_L_law_6 32 rfl) (Nat.le_of_ble_eq_true rfl) rfl ?_
    refine v_aload_n (pc := 750) h (dk dt_L_law_6 33 rfl) rfl ?_
    refine v_aload_n (pc := 751) h (dk dt_L_law_6 34 rfl) rfl ?_
    refine v_iload (pc := 752) h (dk dt_L_law_6 35 rfl) rfl ?_
    refine v_iconst (pc := 754) h (dk dt_L_law_6 36 rfl) ?_
    refine v_iadd (pc := 755) h (dk dt_L_law_6 37 rfl) ?_
    refine v_sld (pc := 756) h hX hbl hB hL (j := i + 1) ⟨by omega, by omega⟩ (dk dt_L_law_6 38 rfl) ?_
    refine v_cV (pc := 757) h (hM) kv_X12_work sh123 wM_L_137 rfl rfl (Nat.le_of_ble_eq_true rfl) ⟨⟨Nat.le_of_ble_eq_true rfl, Nat.le_of_ble_eq_true rfl⟩, by show k + 2 + (0) ≤ 601024; omega, by show n + 12 + (0) ≤ 7293034; omega⟩ rfl rfl (dk dt_L_law_6 39 rfl) (fun v757 μ757 p757 => ?_)
    obtain ⟨rfl, g14, g15, hR2⟩ := p757
    refine v_istore (lv' := [(7, _), (6, _), (5, _), (0, _), (1, _), (2, _), (3, _), (4, _)]) (pc := 760) h (dk dt_L_law_6 40 rfl) (Nat.le_of_ble_eq_true rfl) rfl ?_
    refine v_aload_n (pc := 762) h (dk dt_L_law_6 41 rfl) rfl ?_
    refine v_cVi (pc := 763) h (c_X12_thrown h.quiet) kv_X12_thrown sh123 wM_L_107 rfl rfl (Nat.le_of_ble_eq_true rfl) ⟨⟨Nat.le_of_ble_eq_true rfl, Nat.le_of_ble_eq_true rfl⟩, by show k + 2 + (0) ≤ 601024; omega, by show n + 12 + (0) ≤ 7293034; omega⟩ rfl rfl (dk dt_L_law_6 42 rfl) ?_
    rw [g14]
    refine v_iload (pc := 766) h (dk dt_L_law_6 43 rfl) rfl ?_
    refine v_icmp_eqS (pc := 768) h 773 (dk dt_L_law_6 44 rfl) rfl ?_
    refine v_iload (pc := 773) h (dk dt_L_law_6 47 rfl) rfl ?_
    refine v_if_ne (pc := 775) h 790 (dk dt_L_law_6 48 rfl) rfl (by omega) (fun c775 => ?_) (fun c775 => ?_)
    ·
      exact absurd rfl c775
    ·
      refine v_aload_n (pc := 778) h (dk dt_L_law_6 49 rfl) rfl ?_
      refine v_iconst (pc := 779) h (dk dt_L_law_6 50 rfl) ?_
      refine v_lald (pc := 780) h sh151 (Nat.le_of_ble_eq_true rfl) (by omega) (dk dt_L_law_6 51 rfl) ?_
      rw [show (0 : Int).toNat = 0 from rfl, g15]
      refine v_iload (pc := 781) h (dk dt_L_law_6 52 rfl) rfl ?_
      refine v_i2lw (pc := 783) h (dk dt_L_law_6 53 rfl) ?_
      refine v_lcmpS (pc := 784) h (dk dt_L_law_6 54 rfl) ?_
      refine v_if_eq (pc := 785) h 790 (dk dt_L_law_6 55 rfl) rfl (by omega) (fun c785 => ?_) (fun c785 => ?_)
      ·
        refine v_goto (pc := 790) h 1816 (dk dt_L_law_6 58 rfl) rfl ?_
        exact VV.widen (by show k + 2 ≤ k + 3; omega) (by show n + 12 ≤ n + 18; omega) (VV.loc (q _ hR2) ⟨rfl, rfl, rfl, rfl, rfl, rfl, trivial⟩)
      ·
        exact absurd rfl c785
  refine v_aload_n (pc := 737) h (dk dt_L_law_6 24 rfl) rfl ?_
  refine v_aload_n (pc := 738) h (dk dt_L_law_6 25 rfl) rfl ?_
  refine v_iload (pc := 739) h (dk dt_L_law_6 26 rfl) rfl ?_
  refine v_iconst (pc := 741) h (dk dt_L_law_6 27 rfl) ?_
  refine v_iadd (pc := 742) h (dk dt_L_law_6 28 rfl) ?_
  refine v_sld (pc := 743) h hX hbl hB hL (j := i + 1) ⟨by omega, by omega⟩ (dk dt_L_law_6 29 rfl) ?_
  refine v_aload_n (pc := 744) h (dk dt_L_law_6 30 rfl) rfl ?_
  refine v_callH (pc := 745) h (hC1) kh_L_work wM_L_135 rfl rfl (Nat.le_of_ble_eq_true rfl) ⟨⟨Nat.le_of_ble_eq_true rfl, Nat.le_of_ble_eq_true rfl⟩, by show k + 2 ≤ 601024; omega, by show n + 12 ≤ 7293034; omega⟩ (dk dt_L_law_6 31 rfl) (fun v745 μ745 p745 => ?_)
  rcases p745 with ⟨e, rfl, hq⟩ | ⟨e, rfl, rfl⟩
  · exact goA e _ hq
  · exact goB e
theorem law_end (h : Ac a B D E RL code 9 room_1) (hX : va_X b L xs (axS a) (axS a).heap) (hbl : b < (axS a).heap.size) (hB : b < B) (hL : L ≤ 3072) (hi : i + 6 ≤ L) (hk : k + 3 ≤ 601024) (hn : n + 18 ≤ 7293034) (hR : RLm m)
    (hG : LawOK (axL a) B D E yL_end (.codeWith yL_end cL_end 4 (some .int) [(0, 9, 12, 21), (0, 9, 15, 15)]) rm_L_end [.ref (pl B 0), iI (xs (i + 1)).toInt, .ref (pl B 151)] yX12_end (.code yX12_end cX12_end 2 (some .int)) rm_X12_end [.ref (pl B 123), iI (xs (i + 1)).toInt] m)
    (q : ∀ m2, RLm m2 → VV a B (SP B D E m2) (k + 3) (n + 18) 1816 (lvL B b i) []) : VV a B (SP B D E m) k n 793 (lvL B b i) [] := by
  obtain ⟨rc, Q, hrc, hC1, hC2, hC3⟩ := hG
  have goB : rc ≠ 0 → VV a B (SP B D E m) (k + 2) (n + 12) 804 (lvL B b i) [iI rc] := by
    intro hne
    have hM := hC2 hne
    refine v_istore (lv' := [(6, _), (5, _), (0, _), (1, _), (2, _), (3, _), (4, _)]) (pc := 804) h (dk dt_L_law_7 3 rfl) (Nat.le_of_ble_eq_true rfl) rfl ?_
    refine v_aload_n (pc := 806) h (dk dt_L_law_7 4 rfl) rfl ?_
    refine v_aload_n (pc := 807) h (dk dt_L_law_7 5 rfl) rfl ?_
    refine v_iload (pc := 808) h (dk dt_L_law_7 6 rfl) rfl ?_
    refine v_iconst (pc := 810) h (dk dt_L_law_7 7 rfl) ?_
    refine v_iadd (pc := 811) h (dk dt_L_law_7 8 rfl) ?_
    refine v_sld (pc := 812) h hX hbl hB hL (j := i + 1) ⟨by omega, by omega⟩ (dk dt_L_law_7 9 rfl) ?_
    refine v_cV (pc := 813) h (hM) kv_X12_end sh123 wM_L_140 rfl rfl (Nat.le_of_ble_eq_true rfl) ⟨⟨Nat.le_of_ble_eq_true rfl, Nat.le_of_ble_eq_true rfl⟩, by show k + 2 + (0) ≤ 601024; omega, by show n + 12 + (0) ≤ 7293034; omega⟩ rfl rfl (dk dt_L_law_7 10 rfl) (fun v813 μ813 p813 => ?_)
    obtain ⟨rfl, rfl⟩ := p813
    refine v_istore (lv' := [(7, _), (6, _), (5, _), (0, _), (1, _), (2, _), (3, _), (4, _)]) (pc := 816) h (dk dt_L_law_7 11 rfl) (Nat.le_of_ble_eq_true rfl) rfl ?_
    refine v_aload_n (pc := 818) h (dk dt_L_law_7 12 rfl) rfl ?_
    refine v_cVi (pc := 819) h (c_X12_thrown h.quiet) kv_X12_thrown sh123 wM_L_107 rfl rfl (Nat.le_of_ble_eq_true rfl) ⟨⟨Nat.le_of_ble_eq_true rfl, Nat.le_of_ble_eq_true rfl⟩, by show k + 2 + (0) ≤ 601024; omega, by show n + 12 + (0) ≤ 7293034; omega⟩ rfl rfl (dk dt_L_law_7 13 rfl) ?_
    rw [mup_eq]
    refine v_iload (pc := 822) h (dk dt_L_law_7 14 rfl) rfl ?_
    refine v_icmp_eqS (pc := 824) h 829 (dk dt_L_law_7 15 rfl) rfl ?_
    refine v_iload (pc := 829) h (dk dt_L_law_7 18 rfl) rfl ?_
    refine v_if_ne (pc := 831) h 846 (dk dt_L_law_7 19 rfl) rfl (by omega) (fun c831 => ?_) (fun c831 => ?_)
    ·
      refine v_goto (pc := 846) h 1816 (dk dt_L_law_7 29 rfl) rfl ?_
      exact VV.widen (by show k + 2 ≤ k + 3; omega) (by show n + 12 ≤ n + 18; omega) (VV.loc (q _ (RLm_sf hR sf_14)) ⟨rfl, rfl, rfl, rfl, rfl, rfl, trivial⟩)
    ·
      exact absurd c831 hne
  have goA : rc = 0 → ∀ m1, Q m1 → VV a B (SP B D E m1) (k + 2) (n + 12) 804 (lvL B b i) [iI 0] := by
    intro h0 m1 hq
    obtain ⟨v, hM⟩ := hC3 h0 m1 hq
    refine v_istore (lv' := [(6, _), (5, _), (0, _), (1, _), (2, _), (3, _), (4, _)]) (pc := 804) h (dk dt_L_law_7 3 rfl) (Nat.le_of_ble_eq_true rfl) rfl ?_
    refine v_aload_n (pc := 806) h (dk dt_L_law_7 4 rfl) rfl ?_
    refine v_aload_n (pc := 807) h (dk dt_L_law_7 5 rfl) rfl ?_
    refine v_iload (pc := 808) h (dk dt_L_law_7 6 rfl) rfl ?_
    refine v_iconst (pc := 810) h (dk dt_L_law_7 7 rfl) ?_
    refine v_iadd (pc := 811) h (dk dt_L_law_7 8 rfl) ?_
    refine v_sld (pc := 812) h hX hbl hB hL (j := i + 1) ⟨by omega, by omega⟩ (dk dt_L_law_7 9 rfl) ?_
    refine v_cV (pc := 813) h (hM) kv_X12_end sh123 wM_L_140 rfl rfl (Nat.le_of_ble_eq_true rfl) ⟨⟨Nat.le_of_ble_eq_true rfl, Nat.le_of_ble_eq_true rfl⟩, by show k + 2 + (0) ≤ 601024; omega, by show n + 12 + (0) ≤ 7293034; omega⟩ rfl rfl (dk dt_L_law_7 10 rfl) (fun v813 μ813 p813 => ?_)
    obtain ⟨rfl, g14, g15, hR2⟩ := p813
    refine v_istore (lv' := [(7, _), (6, _), (5, _), (0, _), (1, _), (2, _), (3, _), (4, _)]) (pc := 816) h (dk dt_L_law_7 11 rfl) (Nat.le_of_ble_eq_true rfl) rfl ?_
    refine v_aload_n (pc := 818) h (dk dt_L_law_7 12 rfl) rfl ?_
    refine v_cVi (pc := 819) h (c_X12_thrown h.quiet) kv_X12_thrown sh123 wM_L_107 rfl rfl (Nat.le_of_ble_eq_true rfl) ⟨⟨Nat.le_of_ble_eq_true rfl, Nat.le_of_ble_eq_true rfl⟩, by show k + 2 + (0) ≤ 601024; omega, by show n + 12 + (0) ≤ 7293034; omega⟩ rfl rfl (dk dt_L_law_7 13 rfl) ?_
    rw [g14]
    refine v_iload (pc := 822) h (dk dt_L_law_7 14 rfl) rfl ?_
    refine v_icmp_eqS (pc := 824) h 829 (dk dt_L_law_7 15 rfl) rfl ?_
    refine v_iload (pc := 829) h (dk dt_L_law_7 18 rfl) rfl ?_
    refine v_if_ne (pc := 831) h 846 (dk dt_L_law_7 19 rfl) rfl (by omega) (fun c831 => ?_) (fun c831 => ?_)
    ·
      exact absurd rfl c831
    ·
      refine v_aload_n (pc := 834) h (dk dt_L_law_7 20 rfl) rfl ?_
      refine v_iconst (pc := 835) h (dk dt_L_law_7 21 rfl) ?_
      refine v_lald (pc := 836) h sh151 (Nat.le_of_ble_eq_true rfl) (by omega) (dk dt_L_law_7 22 rfl) ?_
      rw [show (0 : Int).toNat = 0 from rfl, g15]
      refine v_iload (pc := 837) h (dk dt_L_law_7 23 rfl) rfl ?_
      refine v_i2lw (pc := 839) h (dk dt_L_law_7 24 rfl) ?_
      refine v_lcmpS (pc := 840) h (dk dt_L_law_7 25 rfl) ?_
      refine v_if_eq (pc := 841) h 846 (dk dt_L_law_7 26 rfl) rfl (by omega) (fun c841 => ?_) (fun c841 => ?_)
      ·
        refine v_goto (pc := 846) h 1816 (dk dt_L_law_7 29 rfl) rfl ?_
        exact VV.widen (by show k + 2 ≤ k + 3; omega) (by show n + 12 ≤ n + 18; omega) (VV.loc (q _ hR2) ⟨rfl, rfl, rfl, rfl, rfl, rfl, trivial⟩)
      ·
        exact absurd rfl c841
  refine v_aload_n (pc := 793) h (dk dt_L_law_6 59 rfl) rfl ?_
  refine v_aload_n (pc := 794) h (dk dt_L_law_6 60 rfl) rfl ?_
  refine v_iload (pc := 795) h (dk dt_L_law_6 61 rfl) rfl ?_
  refine v_iconst (pc := 797) h (dk dt_L_law_6 62 rfl) ?_
  refine v_iadd (pc := 798) h (dk dt_L_law_6 63 rfl) ?_
  refine v_sld (pc := 799) h hX hbl hB hL (j := i + 1) ⟨by omega, by omega⟩ (dk dt_L_law_7 0 rfl) ?_
  refine v_aload_n (pc := 800) h (dk dt_L_law_7 1 rfl) rfl ?_
  refine v_callH (pc := 801) h (hC1) kh_L_end wM_L_138 rfl rfl (Nat.le_of_ble_eq_true rfl) ⟨⟨Nat.le_of_ble_eq_true rfl, Nat.le_of_ble_eq_true rfl⟩, by show k + 2 ≤ 601024; omega, by show n + 12 ≤ 7293034; omega⟩ (dk dt_L_law_7 2 rfl) (fun v801 μ801 p801 => ?_)
  rcases p801 with ⟨e, rfl, hq⟩ | ⟨e, rfl, rfl⟩
  · exact goA e _ hq
  · exact goB e
theorem law_sumOfEnds (h : Ac a B D E RL code 9 room_1) (hX : va_X b L xs (axS a) (axS a).heap) (hbl : b < (axS a).heap.size) (hB : b < B) (hL : L ≤ 3072) (hi : i + 6 ≤ L) (hk : k + 3 ≤ 601024) (hn : n + 18 ≤ 7293034) (hR : RLm m)
    (hG : LawOK (axL a) B D E yL_sumOfEnds (.codeWith yL_sumOfEnds cL_sumOfEnds 3 (some .int) [(0, 8, 11, 15)]) rm_L_sumOfEnds [.ref (pl B 0), .ref (pl B 151)] yX12_sumOfEnds (.code yX12_sumOfEnds cX12_sumOfEnds 1 (some .int)) rm_X12_sumOfEnds [.ref (pl B 123)] m)
    (q : ∀ m2, RLm m2 → VV a B (SP B D E m2) (k + 3) (n + 18) 1816 (lvL B b i) []) : VV a B (SP B D E m) k n 849 (lvL B b i) [] := by
  obtain ⟨rc, Q, hrc, hC1, hC2, hC3⟩ := hG
  have goB : rc ≠ 0 → VV a B (SP B D E m) (k + 1) (n + 6) 854 (lvL B b i) [iI rc] := by
    intro hne
    have hM := hC2 hne
    refine v_istore (lv' := [(6, _), (5, _), (0, _), (1, _), (2, _), (3, _), (4, _)]) (pc := 854) h (dk dt_L_law_7 33 rfl) (Nat.le_of_ble_eq_true rfl) rfl ?_
    refine v_aload_n (pc := 856) h (dk dt_L_law_7 34 rfl) rfl ?_
    refine v_cV (pc := 857) h (hM) kv_X12_sumOfEnds sh123 wM_L_144 rfl rfl (Nat.le_of_ble_eq_true rfl) ⟨⟨Nat.le_of_ble_eq_true rfl, Nat.le_of_ble_eq_true rfl⟩, by show k + 1 + (0) ≤ 601024; omega, by show n + 6 + (0) ≤ 7293034; omega⟩ rfl rfl (dk dt_L_law_7 35 rfl) (fun v857 μ857 p857 => ?_)
    obtain ⟨rfl, rfl⟩ := p857
    refine v_istore (lv' := [(7, _), (6, _), (5, _), (0, _), (1, _), (2, _), (3, _), (4, _)]) (pc := 860) h (dk dt_L_law_7 36 rfl) (Nat.le_of_ble_eq_true rfl) rfl ?_
    refine v_aload_n (pc := 862) h (dk dt_L_law_7 37 rfl) rfl ?_
    refine v_cVi (pc := 863) h (c_X12_thrown h.quiet) kv_X12_thrown sh123 wM_L_107 rfl rfl (Nat.le_of_ble_eq_true rfl) ⟨⟨Nat.le_of_ble_eq_true rfl, Nat.le_of_ble_eq_true rfl⟩, by show k + 1 + (0) ≤ 601024; omega, by show n + 6 + (0) ≤ 7293034; omega⟩ rfl rfl (dk dt_L_law_7 38 rfl) ?_
    rw [mup_eq]
    refine v_iload (pc := 866) h (dk dt_L_law_7 39 rfl) rfl ?_
    refine v_icmp_eqS (pc := 868) h 873 (dk dt_L_law_7 40 rfl) rfl ?_
    refine v_iload (pc := 873) h (dk dt_L_law_7 43 rfl) rfl ?_
    refine v_if_ne (pc := 875) h 890 (dk dt_L_law_7 44 rfl) rfl (by omega) (fun c875 => ?_) (fun c875 => ?_)
    ·
      refine v_goto (pc := 890) h 1816 (dk dt_L_law_7 54 rfl) rfl ?_
      exact VV.widen (by show k + 1 ≤ k + 3; omega) (by show n + 6 ≤ n + 18; omega) (VV.loc (q _ (RLm_sf hR sf_14)) ⟨rfl, rfl, rfl, rfl, rfl, rfl, trivial⟩)
    ·
      exact absurd c875 hne
  have goA : rc = 0 → ∀ m1, Q m1 → VV a B (SP B D E m1) (k + 1) (n + 6) 854 (lvL B b i) [iI 0] := by
    intro h0 m1 hq
    obtain ⟨v, hM⟩ := hC3 h0 m1 hq
    refine v_istore (lv' := [(6, _), (5, _), (0, _), (1, _), (2, _), (3, _), (4, _)]) (pc := 854) h (dk dt_L_law_7 33 rfl) (Nat.le_of_ble_eq_true rfl) rfl ?_
    refine v_aload_n (pc := 856) h (dk dt_L_law_7 34 rfl) rfl ?_
    refine v_cV (pc := 857) h (hM) kv_X12_sumOfEnds sh123 wM_L_144 rfl rfl (Nat.le_of_ble_eq_true rfl) ⟨⟨Nat.le_of_ble_eq_true rfl, Nat.le_of_ble_eq_true rfl⟩, by show k + 1 + (0) ≤ 601024; omega, by show n + 6 + (0) ≤ 7293034; omega⟩ rfl rfl (dk dt_L_law_7 35 rfl) (fun v857 μ857 p857 => ?_)
    obtain ⟨rfl, g14, g15, hR2⟩ := p857
    refine v_istore (lv' := [(7, _), (6, _), (5, _), (0, _), (1, _), (2, _), (3, _), (4, _)]) (pc := 860) h (dk dt_L_law_7 36 rfl) (Nat.le_of_ble_eq_true rfl) rfl ?_
    refine v_aload_n (pc := 862) h (dk dt_L_law_7 37 rfl) rfl ?_
    refine v_cVi (pc := 863) h (c_X12_thrown h.quiet) kv_X12_thrown sh123 wM_L_107 rfl rfl (Nat.le_of_ble_eq_true rfl) ⟨⟨Nat.le_of_ble_eq_true rfl, Nat.le_of_ble_eq_true rfl⟩, by show k + 1 + (0) ≤ 601024; omega, by show n + 6 + (0) ≤ 7293034; omega⟩ rfl rfl (dk dt_L_law_7 38 rfl) ?_
    rw [g14]
    refine v_iload (pc := 866) h (dk dt_L_law_7 39 rfl) rfl ?_
    refine v_icmp_eqS (pc := 868) h 873 (dk dt_L_law_7 40 rfl) rfl ?_
    refine v_iload (pc := 873) h (dk dt_L_law_7 43 rfl) rfl ?_
    refine v_if_ne (pc := 875) h 890 (dk dt_L_law_7 44 rfl) rfl (by omega) (fun c875 => ?_) (fun c875 => ?_)
    ·
      exact absurd rfl c875
    ·
      refine v_aload_n (pc := 878) h (dk dt_L_law_7 45 rfl) rfl ?_
      refine v_iconst (pc := 879) h (dk dt_L_law_7 46 rfl) ?_
      refine v_lald (pc := 880) h sh151 (Nat.le_of_ble_eq_true rfl) (by omega) (dk dt_L_law_7 47 rfl) ?_
      rw [show (0 : Int).toNat = 0 from rfl, g15]
      refine v_iload (pc := 881) h (dk dt_L_law_7 48 rfl) rfl ?_
      refine v_i2lw (pc := 883) h (dk dt_L_law_7 49 rfl) ?_
      refine v_lcmpS (pc := 884) h (dk dt_L_law_7 50 rfl) ?_
      refine v_if_eq (pc := 885) h 890 (dk dt_L_law_7 51 rfl) rfl (by omega) (fun c885 => ?_) (fun c885 => ?_)
      ·
        refine v_goto (pc := 890) h 1816 (dk dt_L_law_7 54 rfl) rfl ?_
        exact VV.widen (by show k + 1 ≤ k + 3; omega) (by show n + 6 ≤ n + 18; omega) (VV.loc (q _ hR2) ⟨rfl, rfl, rfl, rfl, rfl, rfl, trivial⟩)
      ·
        exact absurd rfl c885
  refine v_aload_n (pc := 849) h (dk dt_L_law_7 30 rfl) rfl ?_
  refine v_aload_n (pc := 850) h (dk dt_L_law_7 31 rfl) rfl ?_
  refine v_callH (pc := 851) h (hC1) kh_L_sumOfEnds wM_L_141 rfl rfl (Nat.le_of_ble_eq_true rfl) ⟨⟨Nat.le_of_ble_eq_true rfl, Nat.le_of_ble_eq_true rfl⟩, by show k + 1 ≤ 601024; omega, by show n + 6 ≤ 7293034; omega⟩ (dk dt_L_law_7 32 rfl) (fun v851 μ851 p851 => ?_)
  rcases p851 with ⟨e, rfl, hq⟩ | ⟨e, rfl, rfl⟩
  · exact goA e _ hq
  · exact goB e
theorem law_waits (h : Ac a B D E RL code 9 room_1) (hX : va_X b L xs (axS a) (axS a).heap) (hbl : b < (axS a).heap.size) (hB : b < B) (hL : L ≤ 3072) (hi : i + 6 ≤ L) (hk : k + 3 ≤ 601024) (hn : n + 18 ≤ 7293034) (hR : RLm m)
    (hG : LawOK (axL a) B D E yL_waits (.codeWith yL_waits cL_waits 4 (some .int) [(0, 9, 12, 21), (0, 9, 15, 15)]) rm_L_waits [.ref (pl B 0), iI (xs (i + 1)).toInt, .ref (pl B 151)] yX12_waits (.code yX12_waits cX12_waits 2 (some .int)) rm_X12_waits [.ref (pl B 123), iI (xs (i + 1)).toInt] m)
    (q : ∀ m2, RLm m2 → VV a B (SP B D E m2) (k + 3) (n + 18) 1816 (lvL B b i) []) : VV a B (SP B D E m) k n 893 (lvL B b i) [] := by
  obtain ⟨rc, Q, hrc, hC1, hC2, hC3⟩ := hG
  have goB : rc ≠ 0 → VV a B (SP B D E m) (k + 2) (n + 12) 904 (lvL B b i) [iI rc] := by
    intro hne
    have hM := hC2 hne
    refine v_istore (lv' := [(6, _), (5, _), (0, _), (1, _), (2, _), (3, _), (4, _)]) (pc := 904) h (dk dt_L_law_7 63 rfl) (Nat.le_of_ble_eq_true rfl) rfl ?_
    refine v_aload_n (pc := 906) h (dk dt_L_law_8 0 rfl) rfl ?_
    refine v_aload_n (pc := 907) h (dk dt_L_law_8 1 rfl) rfl ?_
    refine v_iload (pc := 908) h (dk dt_L_law_8 2 rfl) rfl ?_
    refine v_iconst (pc := 910) h (dk dt_L_law_8 3 rfl) ?_
    refine v_iadd (pc := 911) h (dk dt_L_law_8 4 rfl) ?_
    refine v_sld (pc := 912) h hX hbl hB hL (j := i + 1) ⟨by omega, by omega⟩ (dk dt_L_law_8 5 rfl) ?_
    refine v_cV (pc := 913) h (hM) kv_X12_waits sh123 wM_L_147 rfl rfl (Nat.le_of_ble_eq_true rfl) ⟨⟨Nat.le_of_ble_eq_true rfl, Nat.le_of_ble_eq_true rfl⟩, by show k + 2 + (0) ≤ 601024; omega, by show n + 12 + (0) ≤ 7293034; omega⟩ rfl rfl (dk dt_L_law_8 6 rfl) (fun v913 μ913 p913 => ?_)
    obtain ⟨rfl, rfl⟩ := p913
    refine v_istore (lv' := [(7, _), (6, _), (5, _), (0, _), (1, _), (2, _), (3, _), (4, _)]) (pc := 916) h (dk dt_L_law_8 7 rfl) (Nat.le_of_ble_eq_true rfl) rfl ?_
    refine v_aload_n (pc := 918) h (dk dt_L_law_8 8 rfl) rfl ?_
    refine v_cVi (pc := 919) h (c_X12_thrown h.quiet) kv_X12_thrown sh123 wM_L_107 rfl rfl (Nat.le_of_ble_eq_true rfl) ⟨⟨Nat.le_of_ble_eq_true rfl, Nat.le_of_ble_eq_true rfl⟩, by show k + 2 + (0) ≤ 601024; omega, by show n + 12 + (0) ≤ 7293034; omega⟩ rfl rfl (dk dt_L_law_8 9 rfl) ?_
    rw [mup_eq]
    refine v_iload (pc := 922) h (dk dt_L_law_8 10 rfl) rfl ?_
    refine v_icmp_eqS (pc := 924) h 929 (dk dt_L_law_8 11 rfl) rfl ?_
    refine v_iload (pc := 929) h (dk dt_L_law_8 14 rfl) rfl ?_
    refine v_if_ne (pc := 931) h 946 (dk dt_L_law_8 15 rfl) rfl (by omega) (fun c931 => ?_) (fun c931 => ?_)
    ·
      refine v_goto (pc := 946) h 1816 (dk dt_L_law_8 25 rfl) rfl ?_
      exact VV.widen (by show k + 2 ≤ k + 3; omega) (by show n + 12 ≤ n + 18; omega) (VV.loc (q _ (RLm_sf hR sf_14)) ⟨rfl, rfl, rfl, rfl, rfl, rfl, trivial⟩)
    ·
      exact absurd c931 hne
  have goA : rc = 0 → ∀ m1, Q m1 → VV a B (SP B D E m1) (k + 2) (n + 12) 904 (lvL B b i) [iI 0] := by
    intro h0 m1 hq
    obtain ⟨v, hM⟩ := hC3 h0 m1 hq
    refine v_istore (lv' := [(6, _), (5, _), (0, _), (1, _), (2, _), (3, _), (4, _)]) (pc := 904) h (dk dt_L_law_7 63 rfl) (Nat.le_of_ble_eq_true rfl) rfl ?_
    refine v_aload_n (pc := 906) h (dk dt_L_law_8 0 rfl) rfl ?_
    refine v_aload_n (pc := 907) h (dk dt_L_law_8 1 rfl) rfl ?_
    refine v_iload (pc := 908) h (dk dt_L_law_8 2 rfl) rfl ?_
    refine v_iconst (pc := 910) h (dk dt_L_law_8 3 rfl) ?_
    refine v_iadd (pc := 911) h (dk dt_L_law_8 4 rfl) ?_
    refine v_sld (pc := 912) h hX hbl hB hL (j := i + 1) ⟨by omega, by omega⟩ (dk dt_L_law_8 5 rfl) ?_
    refine v_cV (pc := 913) h (hM) kv_X12_waits sh123 wM_L_147 rfl rfl (Nat.le_of_ble_eq_true rfl) ⟨⟨Nat.le_of_ble_eq_true rfl, Nat.le_of_ble_eq_true rfl⟩, by show k + 2 + (0) ≤ 601024; omega, by show n + 12 + (0) ≤ 7293034; omega⟩ rfl rfl (dk dt_L_law_8 6 rfl) (fun v913 μ913 p913 => ?_)
    obtain ⟨rfl, g14, g15, hR2⟩ := p913
    refine v_istore (lv' := [(7, _), (6, _), (5, _), (0, _), (1, _), (2, _), (3, _), (4, _)]) (pc := 916) h (dk dt_L_law_8 7 rfl) (Nat.le_of_ble_eq_true rfl) rfl ?_
    refine v_aload_n (pc := 918) h (dk dt_L_law_8 8 rfl) rfl ?_
    refine v_cVi (pc := 919) h (c_X12_thrown h.quiet) kv_X12_thrown sh123 wM_L_107 rfl rfl (Nat.le_of_ble_eq_true rfl) ⟨⟨Nat.le_of_ble_eq_true rfl, Nat.le_of_ble_eq_true rfl⟩, by show k + 2 + (0) ≤ 601024; omega, by show n + 12 + (0) ≤ 7293034; omega⟩ rfl rfl (dk dt_L_law_8 9 rfl) ?_
    rw [g14]
    refine v_iload (pc := 922) h (dk dt_L_law_8 10 rfl) rfl ?_
    refine v_icmp_eqS (pc := 924) h 929 (dk dt_L_law_8 11 rfl) rfl ?_
    refine v_iload (pc := 929) h (dk dt_L_law_8 14 rfl) rfl ?_
    refine v_if_ne (pc := 931) h 946 (dk dt_L_law_8 15 rfl) rfl (by omega) (fun c931 => ?_) (fun c931 => ?_)
    ·
      exact absurd rfl c931
    ·
      refine v_aload_n (pc := 934) h (dk dt_L_law_8 16 rfl) rfl ?_
      refine v_iconst (pc := 935) h (dk dt_L_law_8 17 rfl) ?_
      refine v_lald (pc := 936) h sh151 (Nat.le_of_ble_eq_true rfl) (by omega) (dk dt_L_law_8 18 rfl) ?_
      rw [show (0 : Int).toNat = 0 from rfl, g15]
      refine v_iload (pc := 937) h (dk dt_L_law_8 19 rfl) rfl ?_
      refine v_i2lw (pc := 939) h (dk dt_L_law_8 20 rfl) ?_
      refine v_lcmpS (pc := 940) h (dk dt_L_law_8 21 rfl) ?_
      refine v_if_eq (pc := 941) h 946 (dk dt_L_law_8 22 rfl) rfl (by omega) (fun c941 => ?_) (fun c941 => ?_)
      ·
        refine v_goto (pc := 946) h 1816 (dk dt_L_law_8 25 rfl) rfl ?_
        exact VV.widen (by show k + 2 ≤ k + 3; omega) (by show n + 12 ≤ n + 18; omega) (VV.loc (q _ hR2) ⟨rfl, rfl, rfl, rfl, rfl, rfl, trivial⟩)
      ·
        exact absurd rfl c941
  refine v_aload_n (pc := 893) h (dk dt_L_law_7 55 rfl) rfl ?_
  refine v_aload_n (pc := 894) h (dk dt_L_law_7 56 rfl) rfl ?_
  refine v_iload (pc := 895) h (dk dt_L_law_7 57 rfl) rfl ?_
  refine v_iconst (pc := 897) h (dk dt_L_law_7 58 rfl) ?_
  refine v_iadd (pc := 898) h (dk dt_L_law_7 59 rfl) ?_
  refine v_sld (pc := 899) h hX hbl hB hL (j := i + 1) ⟨by omega, by omega⟩ (dk dt_L_law_7 60 rfl) ?_
  refine v_aload_n (pc := 900) h (dk dt_L_law_7 61 rfl) rfl ?_
  refine v_callH (pc := 901) h (hC1) kh_L_waits wM_L_145 rfl rfl (Nat.le_of_ble_eq_true rfl) ⟨⟨Nat.le_of_ble_eq_true rfl, Nat.le_of_ble_eq_true rfl⟩, by show k + 2 ≤ 601024; omega, by show n + 12 ≤ 7293034; omega⟩ (dk dt_L_law_7 62 rfl) (fun v901 μ901 p901 => ?_)
  rcases p901 with ⟨e, rfl, hq⟩ | ⟨e, rfl, rfl⟩
  · exact goA e _ hq
  · exact goB e
theorem law_blocked (h : Ac a B D E RL code 9 room_1) (hX : va_X b L xs (axS a) (axS a).heap) (hbl : b < (axS a).heap.size) (hB : b < B) (hL : L ≤ 3072) (hi : i + 6 ≤ L) (hk : k + 3 ≤ 601024) (hn : n + 18 ≤ 7293034) (hR : RLm m)
    (hG : LawOK (axL a) B D E yL_blocked (.codeWith yL_blocked cL_blocked 4 (some .int) [(0, 9, 12, 21), (0, 9, 15, 15)]) rm_L_blocked [.ref (pl B 0), iI (xs (i + 1)).toInt, .ref (pl B 151)] yX12_blocked (.code yX12_blocked cX12_blocked 2 (some .int)) rm_X12_blocked [.ref (pl B 123), iI (xs (i + 1)).toInt] m)
    (q : ∀ m2, RLm m2 → VV a B (SP B D E m2) (k + 3) (n + 18) 1816 (lvL B b i) []) : VV a B (SP B D E m) k n 949 (lvL B b i) [] := by
  obtain ⟨rc, Q, hrc, hC1, hC2, hC3⟩ := hG
  have goB : rc ≠ 0 → VV a B (SP B D E m) (k + 2) (n + 12) 960 (lvL B b i) [iI rc] := by
    intro hne
    have hM := hC2 hne
    refine v_istore (lv' := [(6, _), (5, _), (0, _), (1, _), (2, _), (3, _), (4, _)]) (pc := 960) h (dk dt_L_law_8 34 rfl) (Nat.le_of_ble_eq_true rfl) rfl ?_
    refine v_aload_n (pc := 962) h (dk dt_L_law_8 35 rfl) rfl ?_
    refine v_aload_n (pc := 963) h (dk dt_L_law_8 36 rfl) rfl ?_
    refine v_iload (pc := 964) h (dk dt_L_law_8 37 rfl) rfl ?_
    refine v_iconst (pc := 966) h (dk dt_L_law_8 38 rfl) ?_
    refine v_iadd (pc := 967) h (dk dt_L_law_8 39 rfl) ?_
    refine v_sld (pc := 968) h hX hbl hB hL (j := i + 1) ⟨by omega, by omega⟩ (dk dt_L_law_8 40 rfl) ?_
    refine v_cV (pc := 969) h (hM) kv_X12_blocked sh123 wM_L_150 rfl rfl (Nat.le_of_ble_eq_true rfl) ⟨⟨Nat.le_of_ble_eq_true rfl, Nat.le_of_ble_eq_true rfl⟩, by show k + 2 + (0) ≤ 601024; omega, by show n + 12 + (0) ≤ 7293034; omega⟩ rfl rfl (dk dt_L_law_8 41 rfl) (fun v969 μ969 p969 => ?_)
    obtain ⟨rfl, rfl⟩ := p969
    refine v_istore (lv' := [(7, _), (6, _), (5, _), (0, _), (1, _), (2, _), (3, _), (4, _)]) (pc := 972) h (dk dt_L_law_8 42 rfl) (Nat.le_of_ble_eq_true rfl) rfl ?_
    refine v_aload_n (pc := 974) h (dk dt_L_law_8 43 rfl) rfl ?_
    refine v_cVi (pc := 975) h (c_X12_thrown h.quiet) kv_X12_thrown sh123 wM_L_107 rfl rfl (Nat.le_of_ble_eq_true rfl) ⟨⟨Nat.le_of_ble_eq_true rfl, Nat.le_of_ble_eq_true rfl⟩, by show k + 2 + (0) ≤ 601024; omega, by show n + 12 + (0) ≤ 7293034; omega⟩ rfl rfl (dk dt_L_law_8 44 rfl) ?_
    rw [mup_eq]
    refine v_iload (pc := 978) h (dk dt_L_law_8 45 rfl) rfl ?_
    refine v_icmp_eqS (pc := 980) h 985 (dk dt_L_law_8 46 rfl) rfl ?_
    refine v_iload (pc := 985) h (dk dt_L_law_8 49 rfl) rfl ?_
    refine v_if_ne (pc := 987) h 1002 (dk dt_L_law_8 50 rfl) rfl (by omega) (fun c987 => ?_) (fun c987 => ?_)
    ·
      refine v_goto (pc := 1002) h 1816 (dk dt_L_law_8 60 rfl) rfl ?_
      exact VV.widen (by show k + 2 ≤ k + 3; omega) (by show n + 12 ≤ n + 18; omega) (VV.loc (q _ (RLm_sf hR sf_14)) ⟨rfl, rfl, rfl, rfl, rfl, rfl, trivial⟩)
    ·
      exact absurd c987 hne
  have goA : rc = 0 → ∀ m1, Q m1 → VV a B (SP B D E m1) (k + 2) (n + 12) 960 (lvL B b i) [iI 0] := by
    intro h0 m1 hq
    obtain ⟨v, hM⟩ := hC3 h0 m1 hq
    refine v_istore (lv' := [(6, _), (5, _), (0, _), (1, _), (2, _), (3, _), (4, _)]) (pc := 960) h (dk dt_L_law_8 34 rfl) (Nat.le_of_ble_eq_true rfl) rfl ?_
    refine v_aload_n (pc := 962) h (dk dt_L_law_8 35 rfl) rfl ?_
    refine v_aload_n (pc := 963) h (dk dt_L_law_8 36 rfl) rfl ?_
    refine v_iload (pc := 964) h (dk dt_L_law_8 37 rfl) rfl ?_
    refine v_iconst (pc := 966) h (dk dt_L_law_8 38 rfl) ?_
    refine v_iadd (pc := 967) h (dk dt_L_law_8 39 rfl) ?_
    refine v_sld (pc := 968) h hX hbl hB hL (j := i + 1) ⟨by omega, by omega⟩ (dk dt_L_law_8 40 rfl) ?_
    refine v_cV (pc := 969) h (hM) kv_X12_blocked sh123 wM_L_150 rfl rfl (Nat.le_of_ble_eq_true rfl) ⟨⟨Nat.le_of_ble_eq_true rfl, Nat.le_of_ble_eq_true rfl⟩, by show k + 2 + (0) ≤ 601024; omega, by show n + 12 + (0) ≤ 7293034; omega⟩ rfl rfl (dk dt_L_law_8 41 rfl) (fun v969 μ969 p969 => ?_)
    obtain ⟨rfl, g14, g15, hR2⟩ := p969
    refine v_istore (lv' := [(7, _), (6, _), (5, _), (0, _), (1, _), (2, _), (3, _), (4, _)]) (pc := 972) h (dk dt_L_law_8 42 rfl) (Nat.le_of_ble_eq_true rfl) rfl ?_
    refine v_aload_n (pc := 974) h (dk dt_L_law_8 43 rfl) rfl ?_
    refine v_cVi (pc := 975) h (c_X12_thrown h.quiet) kv_X12_thrown sh123 wM_L_107 rfl rfl (Nat.le_of_ble_eq_true rfl) ⟨⟨Nat.le_of_ble_eq_true rfl, Nat.le_of_ble_eq_true rfl⟩, by show k + 2 + (0) ≤ 601024; omega, by show n + 12 + (0) ≤ 7293034; omega⟩ rfl rfl (dk dt_L_law_8 44 rfl) ?_
    rw [g14]
    refine v_iload (pc := 978) h (dk dt_L_law_8 45 rfl) rfl ?_
    refine v_icmp_eqS (pc := 980) h 985 (dk dt_L_law_8 46 rfl) rfl ?_
    refine v_iload (pc := 985) h (dk dt_L_law_8 49 rfl) rfl ?_
    refine v_if_ne (pc := 987) h 1002 (dk dt_L_law_8 50 rfl) rfl (by omega) (fun c987 => ?_) (fun c987 => ?_)
    ·
      exact absurd rfl c987
    ·
      refine v_aload_n (pc := 990) h (dk dt_L_law_8 51 rfl) rfl ?_
      refine v_iconst (pc := 991) h (dk dt_L_law_8 52 rfl) ?_
      refine v_lald (pc := 992) h sh151 (Nat.le_of_ble_eq_true rfl) (by omega) (dk dt_L_law_8 53 rfl) ?_
      rw [show (0 : Int).toNat = 0 from rfl, g15]
      refine v_iload (pc := 993) h (dk dt_L_law_8 54 rfl) rfl ?_
      refine v_i2lw (pc := 995) h (dk dt_L_law_8 55 rfl) ?_
      refine v_lcmpS (pc := 996) h (dk dt_L_law_8 56 rfl) ?_
      refine v_if_eq (pc := 997) h 1002 (dk dt_L_law_8 57 rfl) rfl (by omega) (fun c997 => ?_) (fun c997 => ?_)
      ·
        refine v_goto (pc := 1002) h 1816 (dk dt_L_law_8 60 rfl) rfl ?_
        exact VV.widen (by show k + 2 ≤ k + 3; omega) (by show n + 12 ≤ n + 18; omega) (VV.loc (q _ hR2) ⟨rfl, rfl, rfl, rfl, rfl, rfl, trivial⟩)
      ·
        exact absurd rfl c997
  refine v_aload_n (pc := 949) h (dk dt_L_law_8 26 rfl) rfl ?_
  refine v_aload_n (pc := 950) h (dk dt_L_law_8 27 rfl) rfl ?_
  refine v_iload (pc := 951) h (dk dt_L_law_8 28 rfl) rfl ?_
  refine v_iconst (pc := 953) h (dk dt_L_law_8 29 rfl) ?_
  refine v_iadd (pc := 954) h (dk dt_L_law_8 30 rfl) ?_
  refine v_sld (pc := 955) h hX hbl hB hL (j := i + 1) ⟨by omega, by omega⟩ (dk dt_L_law_8 31 rfl) ?_
  refine v_aload_n (pc := 956) h (dk dt_L_law_8 32 rfl) rfl ?_
  refine v_callH (pc := 957) h (hC1) kh_L_blocked wM_L_148 rfl rfl (Nat.le_of_ble_eq_true rfl) ⟨⟨Nat.le_of_ble_eq_true rfl, Nat.le_of_ble_eq_true rfl⟩, by show k + 2 ≤ 601024; omega, by show n + 12 ≤ 7293034; omega⟩ (dk dt_L_law_8 33 rfl) (fun v957 μ957 p957 => ?_)
  rcases p957 with ⟨e, rfl, hq⟩ | ⟨e, rfl, rfl⟩
  · exact goA e _ hq
  · exact goB e
theorem law_late (h : Ac a B D E RL code 9 room_1) (hX : va_X b L xs (axS a) (axS a).heap) (hbl : b < (axS a).heap.size) (hB : b < B) (hL : L ≤ 3072) (hi : i + 6 ≤ L) (hk : k + 3 ≤ 601024) (hn : n + 18 ≤ 7293034) (hR : RLm m)
    (hG : LawOK (axL a) B D E yL_late (.codeWith yL_late cL_late 4 (some .int) [(0, 9, 12, 21), (0, 9, 15, 15)]) rm_L_late [.ref (pl B 0), iI (xs (i + 1)).toInt, .ref (pl B 151)] yX12_late (.code yX12_late cX12_late 2 (some .int)) rm_X12_late [.ref (pl B 123), iI (xs (i + 1)).toInt] m)
    (q : ∀ m2, RLm m2 → VV a B (SP B D E m2) (k + 3) (n + 18) 1816 (lvL B b i) []) : VV a B (SP B D E m) k n 1005 (lvL B b i) [] := by
  obtain ⟨rc, Q, hrc, hC1, hC2, hC3⟩ := hG
  have goB : rc ≠ 0 → VV a B (SP B D E m) (k + 2) (n + 12) 1016 (lvL B b i) [iI rc] := by
    intro hne
    have hM := hC2 hne
    refine v_istore (lv' := [(6, _), (5, _), (0, _), (1, _), (2, _), (3, _), (4, _)]) (pc := 1016) h (dk dt_L_law_9 5 rfl) (Nat.le_of_ble_eq_true rfl) rfl ?_
    refine v_aload_n (pc := 1018) h (dk dt_L_law_9 6 rfl) rfl ?_
    refine v_aload_n (pc := 1019) h (dk dt_L_law_9 7 rfl) rfl ?_
    refine v_iload (pc := 1020) h (dk dt_L_law_9 8 rfl) rfl ?_
    refine v_iconst (pc := 1022) h (dk dt_L_law_9 9 rfl) ?_
    refine v_iadd (pc := 1023) h (dk dt_L_law_9 10 rfl) ?_
    refine v_sld (pc := 1024) h hX hbl hB hL (j := i + 1) ⟨by omega, by omega⟩ (dk dt_L_law_9 11 rfl) ?_
    refine v_cV (pc := 1025) h (hM) kv_X12_late sh123 wM_L_153 rfl rfl (Nat.le_of_ble_eq_true rfl) ⟨⟨Nat.le_of_ble_eq_true rfl, Nat.le_of_ble_eq_true rfl⟩, by show k + 2 + (0) ≤ 601024; omega, by show n + 12 + (0) ≤ 7293034; omega⟩ rfl rfl (dk dt_L_law_9 12 rfl) (fun v1025 μ1025 p1025 => ?_)
    obtain ⟨rfl, rfl⟩ := p1025
    refine v_istore (lv' := [(7, _), (6, _), (5, _), (0, _), (1, _), (2, _), (3, _), (4, _)]) (pc := 1028) h (dk dt_L_law_9 13 rfl) (Nat.le_of_ble_eq_true rfl) rfl ?_
    refine v_aload_n (pc := 1030) h (dk dt_L_law_9 14 rfl) rfl ?_
    refine v_cVi (pc := 1031) h (c_X12_thrown h.quiet) kv_X12_thrown sh123 wM_L_107 rfl rfl (Nat.le_of_ble_eq_true rfl) ⟨⟨Nat.le_of_ble_eq_true rfl, Nat.le_of_ble_eq_true rfl⟩, by show k + 2 + (0) ≤ 601024; omega, by show n + 12 + (0) ≤ 7293034; omega⟩ rfl rfl (dk dt_L_law_9 15 rfl) ?_
    rw [mup_eq]
    refine v_iload (pc := 1034) h (dk dt_L_law_9 16 rfl) rfl ?_
    refine v_icmp_eqS (pc := 1036) h 1041 (dk dt_L_law_9 17 rfl) rfl ?_
    refine v_iload (pc := 1041) h (dk dt_L_law_9 20 rfl) rfl ?_
    refine v_if_ne (pc := 1043) h 1058 (dk dt_L_law_9 21 rfl) rfl (by omega) (fun c1043 => ?_) (fun c1043 => ?_)
    ·
      refine v_goto (pc := 1058) h 1816 (dk dt_L_law_9 31 rfl) rfl ?_
      exact VV.widen (by show k + 2 ≤ k + 3; omega) (by show n + 12 ≤ n + 18; omega) (VV.loc (q _ (RLm_sf hR sf_14)) ⟨rfl, rfl, rfl, rfl, rfl, rfl, trivial⟩)
    ·
      exact absurd c1043 hne
  have goA : rc = 0 → ∀ m1, Q m1 → VV a B (SP B D E m1) (k + 2) (n + 12) 1016 (lvL B b i) [iI 0] := by
    intro h0 m1 hq
    obtain ⟨v, hM⟩ := hC3 h0 m1 hq
    refine v_istore (lv' := [(6, _), (5, _), (0, _), (1, _), (2, _), (3, _), (4, _)]) (pc := 1016) h (dk dt_L_law_9 5 rfl) (Nat.le_of_ble_eq_true rfl) rfl ?_
    refine v_aload_n (pc := 1018) h (dk dt_L_law_9 6 rfl) rfl ?_
    refine v_aload_n (pc := 1019) h (dk dt_L_law_9 7 rfl) rfl ?_
    refine v_iload (pc := 1020) h (dk dt_L_law_9 8 rfl) rfl ?_
    refine v_iconst (pc := 1022) h (dk dt_L_law_9 9 rfl) ?_
    refine v_iadd (pc := 1023) h (dk dt_L_law_9 10 rfl) ?_
    refine v_sld (pc := 1024) h hX hbl hB hL (j := i + 1) ⟨by omega, by omega⟩ (dk dt_L_law_9 11 rfl) ?_
    refine v_cV (pc := 1025) h (hM) kv_X12_late sh123 wM_L_153 rfl rfl (Nat.le_of_ble_eq_true rfl) ⟨⟨Nat.le_of_ble_eq_true rfl, Nat.le_of_ble_eq_true rfl⟩, by show k + 2 + (0) ≤ 601024; omega, by show n + 12 + (0) ≤ 7293034; omega⟩ rfl rfl (dk dt_L_law_9 12 rfl) (fun v1025 μ1025 p1025 => ?_)
    obtain ⟨rfl, g14, g15, hR2⟩ := p1025
    refine v_istore (lv' := [(7, _), (6, _), (5, _), (0, _), (1, _), (2, _), (3, _), (4, _)]) (pc := 1028) h (dk dt_L_law_9 13 rfl) (Nat.le_of_ble_eq_true rfl) rfl ?_
    refine v_aload_n (pc := 1030) h (dk dt_L_law_9 14 rfl) rfl ?_
    refine v_cVi (pc := 1031) h (c_X12_thrown h.quiet) kv_X12_thrown sh123 wM_L_107 rfl rfl (Nat.le_of_ble_eq_true rfl) ⟨⟨Nat.le_of_ble_eq_true rfl, Nat.le_of_ble_eq_true rfl⟩, by show k + 2 + (0) ≤ 601024; omega, by show n + 12 + (0) ≤ 7293034; omega⟩ rfl rfl (dk dt_L_law_9 15 rfl) ?_
    rw [g14]
    refine v_iload (pc := 1034) h (dk dt_L_law_9 16 rfl) rfl ?_
    refine v_icmp_eqS (pc := 1036) h 1041 (dk dt_L_law_9 17 rfl) rfl ?_
    refine v_iload (pc := 1041) h (dk dt_L_law_9 20 rfl) rfl ?_
    refine v_if_ne (pc := 1043) h 1058 (dk dt_L_law_9 21 rfl) rfl (by omega) (fun c1043 => ?_) (fun c1043 => ?_)
    ·
      exact absurd rfl c1043
    ·
      refine v_aload_n (pc := 1046) h (dk dt_L_law_9 22 rfl) rfl ?_
      refine v_iconst (pc := 1047) h (dk dt_L_law_9 23 rfl) ?_
      refine v_lald (pc := 1048) h sh151 (Nat.le_of_ble_eq_true rfl) (by omega) (dk dt_L_law_9 24 rfl) ?_
      rw [show (0 : Int).toNat = 0 from rfl, g15]
      refine v_iload (pc := 1049) h (dk dt_L_law_9 25 rfl) rfl ?_
      refine v_i2lw (pc := 1051) h (dk dt_L_law_9 26 rfl) ?_
      refine v_lcmpS (pc := 1052) h (dk dt_L_law_9 27 rfl) ?_
      refine v_if_eq (pc := 1053) h 1058 (dk dt_L_law_9 28 rfl) rfl (by omega) (fun c1053 => ?_) (fun c1053 => ?_)
      ·
        refine v_goto (pc := 1058) h 1816 (dk dt_L_law_9 31 rfl) rfl ?_
        exact VV.widen (by show k + 2 ≤ k + 3; omega) (by show n + 12 ≤ n + 18; omega) (VV.loc (q _ hR2) ⟨rfl, rfl, rfl, rfl, rfl, rfl, trivial⟩)
      ·
        exact absurd rfl c1053
  refine v_aload_n (pc := 1005) h (dk dt_L_law_8 61 rfl) rfl ?_
  refine v_aload_n (pc := 1006) h (dk dt_L_law_8 62 rfl) rfl ?_
  refine v_iload (pc := 1007) h (dk dt_L_law_8 63 rfl) rfl ?_
  refine v_iconst (pc := 1009) h (dk dt_L_law_9 0 rfl) ?_
  refine v_iadd (pc := 1010) h (dk dt_L_law_9 1 rfl) ?_
  refine v_sld (pc := 1011) h hX hbl hB hL (j := i + 1) ⟨by omega, by omega⟩ (dk dt_L_law_9 2 rfl) ?_
  refine v_aload_n (pc := 1012) h (dk dt_L_law_9 3 rfl) rfl ?_
  refine v_callH (pc := 1013) h (hC1) kh_L_late wM_L_151 rfl rfl (Nat.le_of_ble_eq_true rfl) ⟨⟨Nat.le_of_ble_eq_true rfl, Nat.le_of_ble_eq_true rfl⟩, by show k + 2 ≤ 601024; omega, by show n + 12 ≤ 7293034; omega⟩ (dk dt_L_law_9 4 rfl) (fun v1013 μ1013 p1013 => ?_)
  rcases p1013 with ⟨e, rfl, hq⟩ | ⟨e, rfl, rfl⟩
  · exact goA e _ hq
  · exact goB e
end
