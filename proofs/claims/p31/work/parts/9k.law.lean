/-! ===== the law from its entry ===== -/
section
variable {a : Ax} {B : Nat} {D : va_G} {E : Nat → ClassId} {b L : Nat} {xs : Nat → Int32}
theorem law_loop (h : Ac a B D E RL code 3 room_1) (hX : va_X b L xs (axS a) (axS a).heap) (hbl : b < (axS a).heap.size) (hB : b < B) (hL : L ≤ 260)
    (next : ∀ g : Nat → Int, VV a B (GP B D [arG E 1 g]) 1 1 36 [(2, iI (L : Int)), (1, .ref (B + 0)), (0, .ref b)] []) :
    ∀ (d i : Nat) (g : Nat → Int), i + d = L → VV a B (GP B D [arG E 1 g]) 1 1 11 [(2, iI (i : Int)), (1, .ref (B + 0)), (0, .ref b)] [] := by
  intro d
  induction d with
  | zero =>
    intro i g hi
    have ei : i = L := by omega
    subst ei
    refine v_iload_n (pc := 11) h (dk dt_L_law 9 rfl) rfl ?_
    refine v_aload_n (pc := 12) h (dk dt_L_law 10 rfl) rfl ?_
    refine v_slen (pc := 13) h hX hbl hB (dk dt_L_law 11 rfl) ?_
    refine v_icmp_ge (pc := 14) h 36 (dk dt_L_law 12 rfl) rfl (by omega) (fun c14 => ?_) (fun c14 => absurd c14 (by omega))
    exact next g
  | succ d ih =>
    intro i g hi
    refine v_iload_n (pc := 11) h (dk dt_L_law 9 rfl) rfl ?_
    refine v_aload_n (pc := 12) h (dk dt_L_law 10 rfl) rfl ?_
    refine v_slen (pc := 13) h hX hbl hB (dk dt_L_law 11 rfl) ?_
    refine v_icmp_ge (pc := 14) h 36 (dk dt_L_law 12 rfl) rfl (by omega) (fun c14 => absurd c14 (by omega)) (fun c14 => ?_)
    refine v_aload_n (pc := 17) h (dk dt_L_law 13 rfl) rfl ?_
    refine v_iconst (pc := 18) h (dk dt_L_law 14 rfl) ?_
    refine v_bipush (pc := 19) h (dk dt_L_law 15 rfl) rfl ?_
    refine v_aload_n (pc := 21) h (dk dt_L_law 16 rfl) rfl ?_
    refine v_iconst (pc := 22) h (dk dt_L_law 17 rfl) ?_
    refine g_iald (pc := 23) (L := []) (T := []) h rfl (by omega) (by omega) (dk dt_L_law 18 rfl) ?_
    refine v_imul (pc := 24) h (dk dt_L_law 19 rfl) ?_
    refine v_aload_n (pc := 25) h (dk dt_L_law 20 rfl) rfl ?_
    refine v_iload_n (pc := 26) h (dk dt_L_law 21 rfl) rfl ?_
    refine v_sld (pc := 27) h hX hbl hB (by omega) (j := i) ⟨rfl, by omega⟩ (dk dt_L_law 22 rfl) ?_
    refine v_iadd (pc := 28) h (dk dt_L_law 23 rfl) ?_
    refine g_iast (pc := 29) (L := []) (T := []) h rfl (by omega) (by omega) (dk dt_L_law 24 rfl) ?_
    refine v_iinc (lv' := [(2, _), (1, _), (0, _)]) (pc := 30) h (dk dt_L_law 25 rfl) rfl (Nat.le_of_ble_eq_true rfl) rfl ?_
    refine v_goto (pc := 33) h 11 (dk dt_L_law 26 rfl) rfl ?_
    exact VV.loc (ih (i + 1) _ (by omega)) ⟨lvI (by omega), rfl, rfl, trivial⟩
theorem law_all (h : Ac a B D E RL code 3 room_1) (hN : NZ (axS a)) (hX : va_X b L xs (axS a) (axS a).heap) (hbl : b < (axS a).heap.size) (hB : b < B) (hL : L ≤ 260)
    (fin : ∀ (m : Mm) (k n : Nat) (lv : List (Nat × Value)), k ≤ 600086 → n ≤ 7301442 → VV a B (SP B D E m) k n 58 lv [iI 1]) : VV a B (GP B D []) 0 0 0 [(0, .ref b)] [] := by
  have next : ∀ g : Nat → Int, VV a B (GP B D [arG E 1 g]) 1 1 36 [(2, iI (L : Int)), (1, .ref (B + 0)), (0, .ref b)] [] := by
    intro g
    refine v_aload_n (pc := 36) h (dk dt_L_law 27 rfl) rfl ?_
    refine v_sipush (pc := 37) h (dk dt_L_law 28 rfl) rfl ?_
    refine g_newa (pc := 40) h (ty := .int) (i := 0) (len := 720) (a0 := (720, .inl (fun _ => 0))) rfl rfl (fun _ _ q => q) wA_int rfl rfl (Nat.le_of_ble_eq_true rfl) (Nat.le_of_ble_eq_true rfl) ⟨Nat.le_of_ble_eq_true rfl, Nat.le_of_ble_eq_true rfl⟩ (dk dt_L_law 29 rfl) (o := 1) rfl ?_
    refine v_sipush (pc := 42) h (dk dt_L_law 30 rfl) rfl ?_
    refine g_newa (pc := 45) h (ty := .int) (i := 0) (len := 3000) (a0 := (3000, .inl (fun _ => 0))) rfl rfl (fun _ _ q => q) wA_int rfl rfl (Nat.le_of_ble_eq_true rfl) (Nat.le_of_ble_eq_true rfl) ⟨Nat.le_of_ble_eq_true rfl, Nat.le_of_ble_eq_true rfl⟩ (dk dt_L_law 31 rfl) (o := 2) rfl ?_
    refine v_bipush (pc := 47) h (dk dt_L_law 32 rfl) rfl ?_
    refine g_newa (pc := 49) h (ty := .int) (i := 0) (len := 8) (a0 := (8, .inl (fun _ => 0))) rfl rfl (fun _ _ q => q) wA_int rfl rfl (Nat.le_of_ble_eq_true rfl) (Nat.le_of_ble_eq_true rfl) ⟨Nat.le_of_ble_eq_true rfl, Nat.le_of_ble_eq_true rfl⟩ (dk dt_L_law 33 rfl) (o := 3) rfl ?_
    refine v_bipush (pc := 51) h (dk dt_L_law 34 rfl) rfl ?_
    refine g_newa (pc := 53) h (ty := .int) (i := 0) (len := 20) (a0 := (20, .inl (fun _ => 0))) rfl rfl (fun _ _ q => q) wA_int rfl rfl (Nat.le_of_ble_eq_true rfl) (Nat.le_of_ble_eq_true rfl) ⟨Nat.le_of_ble_eq_true rfl, Nat.le_of_ble_eq_true rfl⟩ (dk dt_L_law 35 rfl) (o := 4) rfl ?_
    refine g_cast (L' := aL E g) rfl ?_
    refine g_callS (pc := 55) h hN (c_L_plays h.quiet) kv_L_plays wM_L_191 rfl rfl (Nat.le_of_ble_eq_true rfl) (RM.of rfl) (dk dt_L_law 36 rfl) (fun v m p => ?_)
    obtain ⟨rfl, -⟩ := p
    exact fin m _ _ _ (Nat.le_of_ble_eq_true rfl) (Nat.le_of_ble_eq_true rfl)
  refine v_iconst (pc := 0) h (dk dt_L_law 0 rfl) ?_
  refine g_newa (pc := 1) h (ty := .int) (i := 0) (len := 1) (a0 := (1, .inl (fun _ => 0))) rfl rfl (fun _ _ q => q) wA_int rfl rfl (Nat.le_of_ble_eq_true rfl) (Nat.le_of_ble_eq_true rfl) ⟨Nat.le_of_ble_eq_true rfl, Nat.le_of_ble_eq_true rfl⟩ (dk dt_L_law 1 rfl) (o := 0) rfl ?_
  refine g_cast (L' := [] ++ arG E 1 (fun _ => 0) :: []) rfl ?_
  refine v_dup (pc := 3) h (dk dt_L_law 2 rfl) rfl ?_
  refine v_iconst (pc := 4) h (dk dt_L_law 3 rfl) ?_
  refine v_ldc (pc := 5) (z := 59452) h wK_L_190 (dk dt_L_law 4 rfl) ?_
  refine g_iast (pc := 7) (L := []) (T := []) h rfl (by omega) (by omega) (dk dt_L_law 5 rfl) ?_
  refine v_astore_n (lv' := [(1, _), (0, _)]) (pc := 8) h (dk dt_L_law 6 rfl) (Nat.le_of_ble_eq_true rfl) rfl ?_
  refine v_iconst (pc := 9) h (dk dt_L_law 7 rfl) ?_
  refine v_istore_n (lv' := [(2, _), (1, _), (0, _)]) (pc := 10) h (dk dt_L_law 8 rfl) (Nat.le_of_ble_eq_true rfl) rfl ?_
  exact VV.loc (law_loop h hX hbl hB hL next L 0 _ (by omega)) ⟨rfl, rfl, rfl, trivial⟩
end
