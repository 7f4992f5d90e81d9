/-! ===== constructors: by program (geninit.py) ===== -/
theorem wO2 : Cond.instanceMethod Lib.objectInit ∈ TS := tsm 61 (by decide +kernel) rfl
theorem wO3 : Cond.code Lib.objectInit ⟨#[0xb1]⟩ 1 none ∈ TS := tsm 62 (by decide +kernel) rfl
theorem wA_int : Cond.arrayClass .int ∈ TS := tsm 79 (by decide +kernel) rfl
theorem wN_X7 : Cond.instantiable RX7 1 ∈ TS := tsm 70 (by decide +kernel) rfl
theorem ki_X7 : KI yX7_init cX7_init 2 1 := ⟨⟨tsm 72 (by decide +kernel) rfl, wI_X7, tsm 73 (by decide +kernel) rfl⟩, rfl, by decide +kernel⟩
abbrev zf7 : List Value := [.null]
theorem zf7_ok : ∀ j, j < 1 → defaultValue (tyX7 j) = vp_V zf7 j := by
  intro j hj
  have h : (List.range 1).all (fun j => decide (defaultValue (tyX7 j) = vp_V zf7 j)) = true := by decide +kernel
  exact of_decide_eq_true (List.all_eq_true.mp h j (List.mem_range.mpr hj))
theorem wN_X3 : Cond.instantiable RX3 2 ∈ TS := tsm 202 (by decide +kernel) rfl
theorem ki_X3 : KI yX3_init cX3_init 1 0 := ⟨⟨tsm 204 (by decide +kernel) rfl, wI_X3, tsm 205 (by decide +kernel) rfl⟩, rfl, by decide +kernel⟩
abbrev zf3 : List Value := [.null, .int 0]
theorem zf3_ok : ∀ j, j < 2 → defaultValue (tyX3 j) = vp_V zf3 j := by
  intro j hj
  have h : (List.range 2).all (fun j => decide (defaultValue (tyX3 j) = vp_V zf3 j)) = true := by decide +kernel
  exact of_decide_eq_true (List.all_eq_true.mp h j (List.mem_range.mpr hj))
theorem wN_X2 : Cond.instantiable RX2 3 ∈ TS := tsm 196 (by decide +kernel) rfl
theorem ki_X2 : KI yX2_init cX2_init 1 0 := ⟨⟨tsm 198 (by decide +kernel) rfl, wI_X2, tsm 199 (by decide +kernel) rfl⟩, rfl, by decide +kernel⟩
abbrev zf2 : List Value := [.null, .null, .null]
theorem zf2_ok : ∀ j, j < 3 → defaultValue (tyX2 j) = vp_V zf2 j := by
  intro j hj
  have h : (List.range 3).all (fun j => decide (defaultValue (tyX2 j) = vp_V zf2 j)) = true := by decide +kernel
  exact of_decide_eq_true (List.all_eq_true.mp h j (List.mem_range.mpr hj))
theorem wN_X6 : Cond.instantiable RX6 7 ∈ TS := tsm 225 (by decide +kernel) rfl
theorem ki_X6 : KI yX6_init cX6_init 2 1 := ⟨⟨tsm 227 (by decide +kernel) rfl, wI_X6, tsm 228 (by decide +kernel) rfl⟩, rfl, by decide +kernel⟩
abbrev zf6 : List Value := [.null, .null, .null, .int 0, .null, .int 0, .int 0]
theorem zf6_ok : ∀ j, j < 7 → defaultValue (tyX6 j) = vp_V zf6 j := by
  intro j hj
  have h : (List.range 7).all (fun j => decide (defaultValue (tyX6 j) = vp_V zf6 j)) = true := by decide +kernel
  exact of_decide_eq_true (List.all_eq_true.mp h j (List.mem_range.mpr hj))
theorem wN_X0 : Cond.instantiable RX0 3 ∈ TS := tsm 260 (by decide +kernel) rfl
theorem ki_X0 : KI yX0_init cX0_init 2 1 := ⟨⟨tsm 262 (by decide +kernel) rfl, wI_X0, tsm 263 (by decide +kernel) rfl⟩, rfl, by decide +kernel⟩
abbrev zf0 : List Value := [.int 0, .null, .null]
theorem zf0_ok : ∀ j, j < 3 → defaultValue (tyX0 j) = vp_V zf0 j := by
  intro j hj
  have h : (List.range 3).all (fun j => decide (defaultValue (tyX0 j) = vp_V zf0 j)) = true := by decide +kernel
  exact of_decide_eq_true (List.all_eq_true.mp h j (List.mem_range.mpr hj))
theorem wN_X4 : Cond.instantiable RX4 5 ∈ TS := tsm 280 (by decide +kernel) rfl
theorem ki_X4 : KI yX4_init cX4_init 3 2 := ⟨⟨tsm 282 (by decide +kernel) rfl, wI_X4, tsm 283 (by decide +kernel) rfl⟩, rfl, by decide +kernel⟩
abbrev zf4 : List Value := [.null, .null, .null, .null, .null]
theorem zf4_ok : ∀ j, j < 5 → defaultValue (tyX4 j) = vp_V zf4 j := by
  intro j hj
  have h : (List.range 5).all (fun j => decide (defaultValue (tyX4 j) = vp_V zf4 j)) = true := by decide +kernel
  exact of_decide_eq_true (List.all_eq_true.mp h j (List.mem_range.mpr hj))
theorem wN_X10 : Cond.instantiable RX10 18 ∈ TS := tsm 188 (by decide +kernel) rfl
theorem ki_X10 : KI yX10_init cX10_init 3 2 := ⟨⟨tsm 190 (by decide +kernel) rfl, wI_X10, tsm 191 (by decide +kernel) rfl⟩, rfl, by decide +kernel⟩
abbrev zf10 : List Value := [.null, .null, .null, .null, .null, .null, .null, .null, .int 0, .int 0, .int 0, .int 0, .int 0, .int 0, .int 0, .int 0, .int 0, .int 0]
theorem zf10_ok : ∀ j, j < 18 → defaultValue (tyX10 j) = vp_V zf10 j := by
  intro j hj
  have h : (List.range 18).all (fun j => decide (defaultValue (tyX10 j) = vp_V zf10 j)) = true := by decide +kernel
  exact of_decide_eq_true (List.all_eq_true.mp h j (List.mem_range.mpr hj))
theorem wN_X1 : Cond.instantiable RX1 11 ∈ TS := tsm 64 (by decide +kernel) rfl
theorem ki_X1 : KI yX1_init cX1_init 1 0 := ⟨⟨tsm 66 (by decide +kernel) rfl, wI_X1, tsm 67 (by decide +kernel) rfl⟩, rfl, by decide +kernel⟩
abbrev zf1 : List Value := [.null, .null, .null, .null, .null, .null, .null, .null, .null, .int 0, .null]
theorem zf1_ok : ∀ j, j < 11 → defaultValue (tyX1 j) = vp_V zf1 j := by
  intro j hj
  have h : (List.range 11).all (fun j => decide (defaultValue (tyX1 j) = vp_V zf1 j)) = true := by decide +kernel
  exact of_decide_eq_true (List.all_eq_true.mp h j (List.mem_range.mpr hj))
theorem wN_X8 : Cond.instantiable RX8 4 ∈ TS := tsm 134 (by decide +kernel) rfl
theorem ki_X8 : KI yX8_init cX8_init 1 0 := ⟨⟨tsm 136 (by decide +kernel) rfl, wI_X8, tsm 137 (by decide +kernel) rfl⟩, rfl, by decide +kernel⟩
abbrev zf8 : List Value := [.null, .null, .null, .int 0]
theorem zf8_ok : ∀ j, j < 4 → defaultValue (tyX8 j) = vp_V zf8 j := by
  intro j hj
  have h : (List.range 4).all (fun j => decide (defaultValue (tyX8 j) = vp_V zf8 j)) = true := by decide +kernel
  exact of_decide_eq_true (List.all_eq_true.mp h j (List.mem_range.mpr hj))
theorem wN_X9 : Cond.instantiable RX9 5 ∈ TS := tsm 159 (by decide +kernel) rfl
theorem ki_X9 : KI yX9_init cX9_init 1 0 := ⟨⟨tsm 161 (by decide +kernel) rfl, wI_X9, tsm 162 (by decide +kernel) rfl⟩, rfl, by decide +kernel⟩
abbrev zf9 : List Value := [.int 0, .int 0, .int 0, .int 0, .int 0]
theorem zf9_ok : ∀ j, j < 5 → defaultValue (tyX9 j) = vp_V zf9 j := by
  intro j hj
  have h : (List.range 5).all (fun j => decide (defaultValue (tyX9 j) = vp_V zf9 j)) = true := by decide +kernel
  exact of_decide_eq_true (List.all_eq_true.mp h j (List.mem_range.mpr hj))
theorem wN_X5 : Cond.instantiable RX5 2 ∈ TS := tsm 362 (by decide +kernel) rfl
theorem ki_X5 : KI yX5_init cX5_init 2 1 := ⟨⟨tsm 364 (by decide +kernel) rfl, wI_X5, tsm 365 (by decide +kernel) rfl⟩, rfl, by decide +kernel⟩
abbrev zf5 : List Value := [.null, .null]
theorem zf5_ok : ∀ j, j < 2 → defaultValue (tyX5 j) = vp_V zf5 j := by
  intro j hj
  have h : (List.range 2).all (fun j => decide (defaultValue (tyX5 j) = vp_V zf5 j)) = true := by decide +kernel
  exact of_decide_eq_true (List.all_eq_true.mp h j (List.mem_range.mpr hj))
theorem wN_X11 : Cond.instantiable RX11 8 ∈ TS := tsm 56 (by decide +kernel) rfl
theorem ki_X11 : KI yX11_init cX11_init 1 0 := ⟨⟨tsm 58 (by decide +kernel) rfl, wI_X11, tsm 59 (by decide +kernel) rfl⟩, rfl, by decide +kernel⟩
abbrev zf11 : List Value := [.null, .null, .null, .null, .null, .null, .null, .int 0]
theorem zf11_ok : ∀ j, j < 8 → defaultValue (tyX11 j) = vp_V zf11 j := by
  intro j hj
  have h : (List.range 8).all (fun j => decide (defaultValue (tyX11 j) = vp_V zf11 j)) = true := by decide +kernel
  exact of_decide_eq_true (List.all_eq_true.mp h j (List.mem_range.mpr hj))
/-- the cells of shapes by their places: objects lie in the order in which they are made (here numbers are places) -/
def ceF (B : Nat) (E : Nat → ClassId) (μ : Mm) : Nat → List Shp → List va_E
  | _, [] => []
  | k, s :: t => cel (fun i => B + i) E (μ k) s :: ceF B E μ (k + 1) t
def qProg (g : Nat) : List Shp := .inl (6, [some (g + 1), some (g + 3), some (g + 5), none, some 6, none, none]) :: (shRow (g + 1) 12 ++ (shRow (g + 3) 12 ++ shRow (g + 5) 12))
def qCourse (g : Nat) : List Shp := .inl (0, [none, some (g + 1), some 6]) :: shRow (g + 1) 2304
def qLocks (g p : Nat) : List Shp := .inl (4, [some 6, some p, some (g + 1), some (g + 3), some (g + 5)]) :: (shRow (g + 1) 3 ++ (shRow (g + 3) 12 ++ shRow (g + 5) 12))
def qJobs : List Shp := .inl (1, [some 7, some 9, some 11, some 15, some 17, some 19, some 21, some 23, some 25, none, some 13]) ::
  (shRow 7 12 ++ (shRow 9 12 ++ (shRow 11 12 ++ (shRow 13 12 ++ (shRow 15 12 ++ (shRow 17 12 ++ (shRow 19 12 ++ (shRow 21 36 ++ (shRow 23 36 ++ shRow 25 36)))))))))
def qTasks : List Shp := .inl (8, [some 28, some 30, some 32, none]) :: (shRow 28 5 ++ (shRow 30 5 ++ shRow 32 5))
def qPair : List Shp := .inl (5, [some 123, some 6]) :: qProg 123
def z0 : Mm := fun _ _ => 0
abbrev ob (i : Nat) (fs : List Value) : va_E := .inr (i, fs)
section
variable {l : Launch} {B : Nat} {D : va_G} {E : Nat → ClassId} {L : List va_E} {o : Nat}
abbrev rg_7 (len : Nat) : Room := { frames := 1, cells := 1, slots := len, locals := 20 }
theorem cg_7 (hst : l.stackTraces = false) {len : Nat} {z : Int} (hL : L.length = o) (hz : z = (len : Int)) (hlen : len ≤ 4000) :
    CtG l B D E yX7_init (.code yX7_init cX7_init 2 none) (rg_7 len) [.ref (B + o), iI z] (L ++ [ob 7 zf7]) (L ++ ceF B E z0 o (shRow o len)) := by
  refine ctG_of (own := RX7) (lv := [(0, _), (1, _)]) hst (by decide) rfl rfl rfl (Nat.le_of_ble_eq_true rfl) fun a h r hin hN => ?_
  refine v_aload_n (pc := 0) h (dk dt_X7_init 0 rfl) rfl ?_
  refine g_obj (pc := 1) h wM_X7_1 wO2 wO3 (Nat.le_of_ble_eq_true rfl) ⟨Nat.le_of_ble_eq_true rfl, Nat.le_of_ble_eq_true rfl⟩ (dk dt_X7_init 1 rfl) ?_
  refine v_aload_n (pc := 4) h (dk dt_X7_init 2 rfl) rfl ?_
  refine v_iload_n (pc := 5) h (dk dt_X7_init 3 rfl) rfl ?_
  refine v_if_ge (pc := 6) h 13 (dk dt_X7_init 4 rfl) rfl (by omega) (fun c6 => ?_) (fun c6 => absurd c6 (by omega))
  refine v_iload_n (pc := 13) h (dk dt_X7_init 7 rfl) rfl ?_
  have hl14 : (L ++ ob 7 [.null] :: []).length = o + 1 := by rw [List.length_append, hL]; rfl
  refine g_newa (pc := 14) h (ty := .int) (i := 0) (len := len) (a0 := (len, .inl (fun _ => 0))) rfl rfl (fun _ _ q => q) wA_int rfl hz hlen (by show len * 4 ≤ 536870912; omega) ⟨Nat.le_refl _, by show 0 + len ≤ len; omega⟩ (dk dt_X7_init 8 rfl) hl14 ?_
  refine g_cast (L' := L ++ ob 7 [.null] :: [.inl (E 0, len, .inl (fun _ => 0))]) (List.append_assoc _ _ _) ?_
  refine g_put (pc := 16) h hin ci7 hL (j := 0) (Nat.le_of_ble_eq_true rfl) wF_X7_7 rfl rfl rfl (Nat.le_of_ble_eq_true rfl) (dk dt_X7_init 9 rfl) ?_
  exact g_ret (pc := 19) h r (dk dt_X7_init 10 rfl) (Nat.le_of_ble_eq_true rfl) (by show 0 + len ≤ len; omega)
abbrev rg_3 : Room := { frames := 1, cells := 1, slots := 12, locals := 20 }
theorem cg_3 (hst : l.stackTraces = false) (hL : L.length = o) :
    CtG l B D E yX3_init (.code yX3_init cX3_init 1 none) (rg_3) [.ref (B + o)] (L ++ [ob 3 zf3]) (L ++ ceF B E z0 o (shLine o)) := by
  refine ctG_of (own := RX3) (lv := [(0, _)]) hst (by decide) rfl rfl rfl (Nat.le_of_ble_eq_true rfl) fun a h r hin hN => ?_
  refine v_aload_n (pc := 0) h (dk dt_X3_init 0 rfl) rfl ?_
  refine g_obj (pc := 1) h wM_X3_3 wO2 wO3 (Nat.le_of_ble_eq_true rfl) ⟨Nat.le_of_ble_eq_true rfl, Nat.le_of_ble_eq_true rfl⟩ (dk dt_X3_init 1 rfl) ?_
  refine v_aload_n (pc := 4) h (dk dt_X3_init 2 rfl) rfl ?_
  refine v_bipush (pc := 5) h (dk dt_X3_init 3 rfl) rfl ?_
  have hl7 : (L ++ ob 3 [.null, .int 0] :: []).length = o + 1 := by rw [List.length_append, hL]; rfl
  refine g_newa (pc := 7) h (ty := .int) (i := 0) (len := 12) (a0 := (12, .inl (fun _ => 0))) rfl rfl (fun _ _ q => q) wA_int rfl rfl (Nat.le_of_ble_eq_true rfl) (Nat.le_of_ble_eq_true rfl) ⟨Nat.le_of_ble_eq_true rfl, Nat.le_of_ble_eq_true rfl⟩ (dk dt_X3_init 4 rfl) hl7 ?_
  refine g_cast (L' := L ++ ob 3 [.null, .int 0] :: [.inl (E 0, 12, .inl (fun _ => 0))]) (List.append_assoc _ _ _) ?_
  refine g_put (pc := 9) h hin ci3 hL (j := 0) (Nat.le_of_ble_eq_true rfl) wF_X3_9 rfl rfl rfl (Nat.le_of_ble_eq_true rfl) (dk dt_X3_init 5 rfl) ?_
  refine v_aload_n (pc := 12) h (dk dt_X3_init 6 rfl) rfl ?_
  refine v_iconst (pc := 13) h (dk dt_X3_init 7 rfl) ?_
  refine g_put (pc := 14) h hin ci3 hL (j := 1) (Nat.le_of_ble_eq_true rfl) wF_X3_15 rfl rfl rfl (Nat.le_of_ble_eq_true rfl) (dk dt_X3_init 8 rfl) ?_
  exact g_ret (pc := 17) h r (dk dt_X3_init 9 rfl) (Nat.le_of_ble_eq_true rfl) (Nat.le_of_ble_eq_true rfl)
abbrev rg_2 : Room := { frames := 2, cells := 6, slots := 42, locals := 40 }
theorem cg_2 (hst : l.stackTraces = false) (hL : L.length = o) :
    CtG l B D E yX2_init (.code yX2_init cX2_init 1 none) (rg_2) [.ref (B + o)] (L ++ [ob 2 zf2]) (L ++ ceF B E z0 o (shLevels o)) := by
  refine ctG_of (own := RX2) (lv := [(0, _)]) hst (by decide) rfl rfl rfl (Nat.le_of_ble_eq_true rfl) fun a h r hin hN => ?_
  refine v_aload_n (pc := 0) h (dk dt_X2_init 0 rfl) rfl ?_
  refine g_obj (pc := 1) h wM_X2_1 wO2 wO3 (Nat.le_of_ble_eq_true rfl) ⟨Nat.le_of_ble_eq_true rfl, Nat.le_of_ble_eq_true rfl⟩ (dk dt_X2_init 1 rfl) ?_
  refine v_aload_n (pc := 4) h (dk dt_X2_init 2 rfl) rfl ?_
  have hl9 : (L ++ ob 2 [.null, .null, .null] :: []).length = o + 1 := by rw [List.length_append, hL]; rfl
  refine g_new (pc := 5) h ci3 wL_X2_7 wN_X3 wI_X3 zf3_ok ⟨Nat.le_of_ble_eq_true rfl, Nat.le_of_ble_eq_true rfl⟩ (dk dt_X2_init 3 rfl) hl9 ?_
  refine v_dup (pc := 8) h (dk dt_X2_init 4 rfl) rfl ?_
  refine g_callN (pc := 9) h hN (cg_3 h.quiet (o := o + 1) hl9) ki_X3 (host := "Slicehouse") (by decide) rfl rfl (Nat.le_of_ble_eq_true rfl) (RM.of rfl) (dk dt_X2_init 5 rfl) ?_
  refine g_cast (L' := L ++ ob 2 [.null, .null, .null] :: ceF B E z0 (o + 1) (shLine (o + 1))) (List.append_assoc _ _ _) ?_
  refine g_put (pc := 12) h hin ci2 hL (j := 0) (Nat.le_of_ble_eq_true rfl) wF_X2_10 rfl rfl rfl (Nat.le_of_ble_eq_true rfl) (dk dt_X2_init 6 rfl) ?_
  refine v_aload_n (pc := 15) h (dk dt_X2_init 7 rfl) rfl ?_
  have hl20 : (L ++ ob 2 [.ref (B + (o + 1)), .null, .null] :: ceF B E z0 (o + 1) (shLine (o + 1))).length = o + 3 := by rw [List.length_append, hL]; rfl
  refine g_new (pc := 16) h ci3 wL_X2_7 wN_X3 wI_X3 zf3_ok ⟨Nat.le_of_ble_eq_true rfl, Nat.le_of_ble_eq_true rfl⟩ (dk dt_X2_init 8 rfl) hl20 ?_
  refine v_dup (pc := 19) h (dk dt_X2_init 9 rfl) rfl ?_
  refine g_callN (pc := 20) h hN (cg_3 h.quiet (o := o + 3) hl20) ki_X3 (host := "Slicehouse") (by decide) rfl rfl (Nat.le_of_ble_eq_true rfl) (RM.of rfl) (dk dt_X2_init 10 rfl) ?_
  refine g_cast (L' := L ++ ob 2 [.ref (B + (o + 1)), .null, .null] :: (ceF B E z0 (o + 1) (shLine (o + 1)) ++ ceF B E z0 (o + 3) (shLine (o + 3)))) (List.append_assoc _ _ _) ?_
  refine g_put (pc := 23) h hin ci2 hL (j := 1) (Nat.le_of_ble_eq_true rfl) wF_X2_16 rfl rfl rfl (Nat.le_of_ble_eq_true rfl) (dk dt_X2_init 11 rfl) ?_
  refine v_aload_n (pc := 26) h (dk dt_X2_init 12 rfl) rfl ?_
  have hl31 : (L ++ ob 2 [.ref (B + (o + 1)), .ref (B + (o + 3)), .null] :: (ceF B E z0 (o + 1) (shLine (o + 1)) ++ ceF B E z0 (o + 3) (shLine (o + 3)))).length = o + 5 := by rw [List.length_append, hL]; rfl
  refine g_new (pc := 27) h ci3 wL_X2_7 wN_X3 wI_X3 zf3_ok ⟨Nat.le_of_ble_eq_true rfl, Nat.le_of_ble_eq_true rfl⟩ (dk dt_X2_init 13 rfl) hl31 ?_
  refine v_dup (pc := 30) h (dk dt_X2_init 14 rfl) rfl ?_
  refine g_callN (pc := 31) h hN (cg_3 h.quiet (o := o + 5) hl31) ki_X3 (host := "Slicehouse") (by decide) rfl rfl (Nat.le_of_ble_eq_true rfl) (RM.of rfl) (dk dt_X2_init 15 rfl) ?_
  refine g_cast (L' := L ++ ob 2 [.ref (B + (o + 1)), .ref (B + (o + 3)), .null] :: ((ceF B E z0 (o + 1) (shLine (o + 1)) ++ ceF B E z0 (o + 3) (shLine (o + 3))) ++ ceF B E z0 (o + 5) (shLine (o + 5)))) (List.append_assoc _ _ _) ?_
  refine g_put (pc := 34) h hin ci2 hL (j := 2) (Nat.le_of_ble_eq_true rfl) wF_X2_19 rfl rfl rfl (Nat.le_of_ble_eq_true rfl) (dk dt_X2_init 16 rfl) ?_
  exact g_ret (pc := 37) h r (dk dt_X2_init 17 rfl) (Nat.le_of_ble_eq_true rfl) (Nat.le_of_ble_eq_true rfl)
abbrev rg_6 : Room := { frames := 2, cells := 6, slots := 39, locals := 41 }
theorem cg_6 (hst : l.stackTraces = false) (hL : L.length = o) :
    CtG l B D E yX6_init (.code yX6_init cX6_init 2 none) (rg_6) [.ref (B + o), .ref (B + 6)] (L ++ [ob 6 zf6]) (L ++ ceF B E z0 o (qProg o)) := by
  refine ctG_of (own := RX6) (lv := [(0, _), (1, _)]) hst (by decide) rfl rfl rfl (Nat.le_of_ble_eq_true rfl) fun a h r hin hN => ?_
  refine v_aload_n (pc := 0) h (dk dt_X6_init 0 rfl) rfl ?_
  refine g_obj (pc := 1) h wM_X6_3 wO2 wO3 (Nat.le_of_ble_eq_true rfl) ⟨Nat.le_of_ble_eq_true rfl, Nat.le_of_ble_eq_true rfl⟩ (dk dt_X6_init 1 rfl) ?_
  refine v_aload_n (pc := 4) h (dk dt_X6_init 2 rfl) rfl ?_
  have hl11 : (L ++ ob 6 [.null, .null, .null, .int 0, .null, .int 0, .int 0] :: []).length = o + 1 := by rw [List.length_append, hL]; rfl
  refine g_new (pc := 5) h ci7 wL_X6_9 wN_X7 wI_X7 zf7_ok ⟨Nat.le_of_ble_eq_true rfl, Nat.le_of_ble_eq_true rfl⟩ (dk dt_X6_init 3 rfl) hl11 ?_
  refine v_dup (pc := 8) h (dk dt_X6_init 4 rfl) rfl ?_
  refine v_bipush (pc := 9) h (dk dt_X6_init 5 rfl) rfl ?_
  refine g_call (pc := 11) h hN (cg_7 h.quiet (o := o + 1) (len := 12) (z := 12) hl11 rfl (Nat.le_of_ble_eq_true rfl)) ki_X7 wM_X6_11 rfl rfl (Nat.le_of_ble_eq_true rfl) (RM.of rfl) (dk dt_X6_init 6 rfl) ?_
  refine g_cast (L' := L ++ ob 6 [.null, .null, .null, .int 0, .null, .int 0, .int 0] :: ceF B E z0 (o + 1) (shRow (o + 1) 12)) (List.append_assoc _ _ _) ?_
  refine g_put (pc := 14) h hin ci6 hL (j := 0) (Nat.le_of_ble_eq_true rfl) wF_X6_14 rfl rfl rfl (Nat.le_of_ble_eq_true rfl) (dk dt_X6_init 7 rfl) ?_
  refine v_aload_n (pc := 17) h (dk dt_X6_init 8 rfl) rfl ?_
  have hl24 : (L ++ ob 6 [.ref (B + (o + 1)), .null, .null, .int 0, .null, .int 0, .int 0] :: ceF B E z0 (o + 1) (shRow (o + 1) 12)).length = o + 3 := by rw [List.length_append, hL]; rfl
  refine g_new (pc := 18) h ci7 wL_X6_9 wN_X7 wI_X7 zf7_ok ⟨Nat.le_of_ble_eq_true rfl, Nat.le_of_ble_eq_true rfl⟩ (dk dt_X6_init 9 rfl) hl24 ?_
  refine v_dup (pc := 21) h (dk dt_X6_init 10 rfl) rfl ?_
  refine v_bipush (pc := 22) h (dk dt_X6_init 11 rfl) rfl ?_
  refine g_call (pc := 24) h hN (cg_7 h.quiet (o := o + 3) (len := 12) (z := 12) hl24 rfl (Nat.le_of_ble_eq_true rfl)) ki_X7 wM_X6_11 rfl rfl (Nat.le_of_ble_eq_true rfl) (RM.of rfl) (dk dt_X6_init 12 rfl) ?_
  refine g_cast (L' := L ++ ob 6 [.ref (B + (o + 1)), .null, .null, .int 0, .null, .int 0, .int 0] :: (ceF B E z0 (o + 1) (shRow (o + 1) 12) ++ ceF B E z0 (o + 3) (shRow (o + 3) 12))) (List.append_assoc _ _ _) ?_
  refine g_put (pc := 27) h hin ci6 hL (j := 1) (Nat.le_of_ble_eq_true rfl) wF_X6_20 rfl rfl rfl (Nat.le_of_ble_eq_true rfl) (dk dt_X6_init 13 rfl) ?_
  refine v_aload_n (pc := 30) h (dk dt_X6_init 14 rfl) rfl ?_
  have hl37 : (L ++ ob 6 [.ref (B + (o + 1)), .ref (B + (o + 3)), .null, .int 0, .null, .int 0, .int 0] :: (ceF B E z0 (o + 1) (shRow (o + 1) 12) ++ ceF B E z0 (o + 3) (shRow (o + 3) 12))).length = o + 5 := by rw [List.length_append, hL]; rfl
  refine g_new (pc := 31) h ci7 wL_X6_9 wN_X7 wI_X7 zf7_ok ⟨Nat.le_of_ble_eq_true rfl, Nat.le_of_ble_eq_true rfl⟩ (dk dt_X6_init 15 rfl) hl37 ?_
  refine v_dup (pc := 34) h (dk dt_X6_init 16 rfl) rfl ?_
  refine v_bipush (pc := 35) h (dk dt_X6_init 17 rfl) rfl ?_
  refine g_call (pc := 37) h hN (cg_7 h.quiet (o := o + 5) (len := 12) (z := 12) hl37 rfl (Nat.le_of_ble_eq_true rfl)) ki_X7 wM_X6_11 rfl rfl (Nat.le_of_ble_eq_true rfl) (RM.of rfl) (dk dt_X6_init 18 rfl) ?_
  refine g_cast (L' := L ++ ob 6 [.ref (B + (o + 1)), .ref (B + (o + 3)), .null, .int 0, .null, .int 0, .int 0] :: ((ceF B E z0 (o + 1) (shRow (o + 1) 12) ++ ceF B E z0 (o + 3) (shRow (o + 3) 12)) ++ ceF B E z0 (o + 5) (shRow (o + 5) 12))) (List.append_assoc _ _ _) ?_
  refine g_put (pc := 40) h hin ci6 hL (j := 2) (Nat.le_of_ble_eq_true rfl) wF_X6_23 rfl rfl rfl (Nat.le_of_ble_eq_true rfl) (dk dt_X6_init 19 rfl) ?_
  refine v_aload_n (pc := 43) h (dk dt_X6_init 20 rfl) rfl ?_
  refine v_iconst (pc := 44) h (dk dt_X6_init 21 rfl) ?_
  refine g_put (pc := 45) h hin ci6 hL (j := 3) (Nat.le_of_ble_eq_true rfl) wF_X6_26 rfl rfl rfl (Nat.le_of_ble_eq_true rfl) (dk dt_X6_init 22 rfl) ?_
  refine v_aload_n (pc := 48) h (dk dt_X6_init 23 rfl) rfl ?_
  refine v_iconst (pc := 49) h (dk dt_X6_init 24 rfl) ?_
  refine g_put (pc := 50) h hin ci6 hL (j := 5) (Nat.le_of_ble_eq_true rfl) wF_X6_30 rfl rfl rfl (Nat.le_of_ble_eq_true rfl) (dk dt_X6_init 25 rfl) ?_
  refine v_aload_n (pc := 53) h (dk dt_X6_init 26 rfl) rfl ?_
  refine v_iconst (pc := 54) h (dk dt_X6_init 27 rfl) ?_
  refine g_put (pc := 55) h hin ci6 hL (j := 6) (Nat.le_of_ble_eq_true rfl) wF_X6_33 rfl rfl rfl (Nat.le_of_ble_eq_true rfl) (dk dt_X6_init 28 rfl) ?_
  refine v_aload_n (pc := 58) h (dk dt_X6_init 29 rfl) rfl ?_
  refine v_aload_n (pc := 59) h (dk dt_X6_init 30 rfl) rfl ?_
  refine g_put (pc := 60) h hin ci6 hL (j := 4) (Nat.le_of_ble_eq_true rfl) wF_X6_36 rfl rfl rfl (Nat.le_of_ble_eq_true rfl) (dk dt_X6_init 31 rfl) ?_
  exact g_ret (pc := 63) h r (dk dt_X6_init 32 rfl) (Nat.le_of_ble_eq_true rfl) (Nat.le_of_ble_eq_true rfl)
abbrev rg_0 : Room := { frames := 2, cells := 2, slots := 2305, locals := 41 }
theorem cg_0 (hst : l.stackTraces = false) (hL : L.length = o) :
    CtG l B D E yX0_init (.code yX0_init cX0_init 2 none) (rg_0) [.ref (B + o), .ref (B + 6)] (L ++ [ob 0 zf0]) (L ++ ceF B E z0 o (qCourse o)) := by
  refine ctG_of (own := RX0) (lv := [(0, _), (1, _)]) hst (by decide) rfl rfl rfl (Nat.le_of_ble_eq_true rfl) fun a h r hin hN => ?_
  refine v_aload_n (pc := 0) h (dk dt_X0_init 0 rfl) rfl ?_
  refine g_obj (pc := 1) h wM_X0_3 wO2 wO3 (Nat.le_of_ble_eq_true rfl) ⟨Nat.le_of_ble_eq_true rfl, Nat.le_of_ble_eq_true rfl⟩ (dk dt_X0_init 1 rfl) ?_
  refine v_aload_n (pc := 4) h (dk dt_X0_init 2 rfl) rfl ?_
  refine v_iconst (pc := 5) h (dk dt_X0_init 3 rfl) ?_
  refine g_put (pc := 6) h hin ci0 hL (j := 0) (Nat.le_of_ble_eq_true rfl) wF_X0_9 rfl rfl rfl (Nat.le_of_ble_eq_true rfl) (dk dt_X0_init 4 rfl) ?_
  refine v_aload_n (pc := 9) h (dk dt_X0_init 5 rfl) rfl ?_
  have hl17 : (L ++ ob 0 [iI 0, .null, .null] :: []).length = o + 1 := by rw [List.length_append, hL]; rfl
  refine g_new (pc := 10) h ci7 wL_X0_15 wN_X7 wI_X7 zf7_ok ⟨Nat.le_of_ble_eq_true rfl, Nat.le_of_ble_eq_true rfl⟩ (dk dt_X0_init 6 rfl) hl17 ?_
  refine v_dup (pc := 13) h (dk dt_X0_init 7 rfl) rfl ?_
  refine v_sipush (pc := 14) h (dk dt_X0_init 8 rfl) rfl ?_
  refine g_call (pc := 17) h hN (cg_7 h.quiet (o := o + 1) (len := 2304) (z := 2304) hl17 rfl (Nat.le_of_ble_eq_true rfl)) ki_X7 wM_X0_17 rfl rfl (Nat.le_of_ble_eq_true rfl) (RM.of rfl) (dk dt_X0_init 9 rfl) ?_
  refine g_cast (L' := L ++ ob 0 [iI 0, .null, .null] :: ceF B E z0 (o + 1) (shRow (o + 1) 2304)) (List.append_assoc _ _ _) ?_
  refine g_put (pc := 20) h hin ci0 hL (j := 1) (Nat.le_of_ble_eq_true rfl) wF_X0_20 rfl rfl rfl (Nat.le_of_ble_eq_true rfl) (dk dt_X0_init 10 rfl) ?_
  refine v_aload_n (pc := 23) h (dk dt_X0_init 11 rfl) rfl ?_
  refine v_aload_n (pc := 24) h (dk dt_X0_init 12 rfl) rfl ?_
  refine g_put (pc := 25) h hin ci0 hL (j := 2) (Nat.le_of_ble_eq_true rfl) wF_X0_24 rfl rfl rfl (Nat.le_of_ble_eq_true rfl) (dk dt_X0_init 13 rfl) ?_
  exact g_ret (pc := 28) h r (dk dt_X0_init 14 rfl) (Nat.le_of_ble_eq_true rfl) (Nat.le_of_ble_eq_true rfl)
abbrev rg_4 : Room := { frames := 2, cells := 6, slots := 30, locals := 41 }
theorem cg_4 (hst : l.stackTraces = false) {p : Nat} (hL : L.length = o) :
    CtG l B D E yX4_init (.code yX4_init cX4_init 3 none) (rg_4) [.ref (B + o), .ref (B + 6), .ref (B + p)] (L ++ [ob 4 zf4]) (L ++ ceF B E z0 o (qLocks o p)) := by
  refine ctG_of (own := RX4) (lv := [(0, _), (1, _), (2, _)]) hst (by decide) rfl rfl rfl (Nat.le_of_ble_eq_true rfl) fun a h r hin hN => ?_
  refine v_aload_n (pc := 0) h (dk dt_X4_init 0 rfl) rfl ?_
  refine g_obj (pc := 1) h wM_X4_3 wO2 wO3 (Nat.le_of_ble_eq_true rfl) ⟨Nat.le_of_ble_eq_true rfl, Nat.le_of_ble_eq_true rfl⟩ (dk dt_X4_init 1 rfl) ?_
  refine v_aload_n (pc := 4) h (dk dt_X4_init 2 rfl) rfl ?_
  have hl10 : (L ++ ob 4 [.null, .null, .null, .null, .null] :: []).length = o + 1 := by rw [List.length_append, hL]; rfl
  refine g_new (pc := 5) h ci7 wL_X4_9 wN_X7 wI_X7 zf7_ok ⟨Nat.le_of_ble_eq_true rfl, Nat.le_of_ble_eq_true rfl⟩ (dk dt_X4_init 3 rfl) hl10 ?_
  refine v_dup (pc := 8) h (dk dt_X4_init 4 rfl) rfl ?_
  refine v_iconst (pc := 9) h (dk dt_X4_init 5 rfl) ?_
  refine g_call (pc := 10) h hN (cg_7 h.quiet (o := o + 1) (len := 3) (z := 3) hl10 rfl (Nat.le_of_ble_eq_true rfl)) ki_X7 wM_X4_11 rfl rfl (Nat.le_of_ble_eq_true rfl) (RM.of rfl) (dk dt_X4_init 6 rfl) ?_
  refine g_cast (L' := L ++ ob 4 [.null, .null, .null, .null, .null] :: ceF B E z0 (o + 1) (shRow (o + 1) 3)) (List.append_assoc _ _ _) ?_
  refine g_put (pc := 13) h hin ci4 hL (j := 2) (Nat.le_of_ble_eq_true rfl) wF_X4_14 rfl rfl rfl (Nat.le_of_ble_eq_true rfl) (dk dt_X4_init 7 rfl) ?_
  refine v_aload_n (pc := 16) h (dk dt_X4_init 8 rfl) rfl ?_
  have hl23 : (L ++ ob 4 [.null, .null, .ref (B + (o + 1)), .null, .null] :: ceF B E z0 (o + 1) (shRow (o + 1) 3)).length = o + 3 := by rw [List.length_append, hL]; rfl
  refine g_new (pc := 17) h ci7 wL_X4_9 wN_X7 wI_X7 zf7_ok ⟨Nat.le_of_ble_eq_true rfl, Nat.le_of_ble_eq_true rfl⟩ (dk dt_X4_init 9 rfl) hl23 ?_
  refine v_dup (pc := 20) h (dk dt_X4_init 10 rfl) rfl ?_
  refine v_bipush (pc := 21) h (dk dt_X4_init 11 rfl) rfl ?_
  refine g_call (pc := 23) h hN (cg_7 h.quiet (o := o + 3) (len := 12) (z := 12) hl23 rfl (Nat.le_of_ble_eq_true rfl)) ki_X7 wM_X4_11 rfl rfl (Nat.le_of_ble_eq_true rfl) (RM.of rfl) (dk dt_X4_init 12 rfl) ?_
  refine g_cast (L' := L ++ ob 4 [.null, .null, .ref (B + (o + 1)), .null, .null] :: (ceF B E z0 (o + 1) (shRow (o + 1) 3) ++ ceF B E z0 (o + 3) (shRow (o + 3) 12))) (List.append_assoc _ _ _) ?_
  refine g_put (pc := 26) h hin ci4 hL (j := 3) (Nat.le_of_ble_eq_true rfl) wF_X4_20 rfl rfl rfl (Nat.le_of_ble_eq_true rfl) (dk dt_X4_init 13 rfl) ?_
  refine v_aload_n (pc := 29) h (dk dt_X4_init 14 rfl) rfl ?_
  have hl36 : (L ++ ob 4 [.null, .null, .ref (B + (o + 1)), .ref (B + (o + 3)), .null] :: (ceF B E z0 (o + 1) (shRow (o + 1) 3) ++ ceF B E z0 (o + 3) (shRow (o + 3) 12))).length = o + 5 := by rw [List.length_append, hL]; rfl
  refine g_new (pc := 30) h ci7 wL_X4_9 wN_X7 wI_X7 zf7_ok ⟨Nat.le_of_ble_eq_true rfl, Nat.le_of_ble_eq_true rfl⟩ (dk dt_X4_init 15 rfl) hl36 ?_
  refine v_dup (pc := 33) h (dk dt_X4_init 16 rfl) rfl ?_
  refine v_bipush (pc := 34) h (dk dt_X4_init 17 rfl) rfl ?_
  refine g_call (pc := 36) h hN (cg_7 h.quiet (o := o + 5) (len := 12) (z := 12) hl36 rfl (Nat.le_of_ble_eq_true rfl)) ki_X7 wM_X4_11 rfl rfl (Nat.le_of_ble_eq_true rfl) (RM.of rfl) (dk dt_X4_init 18 rfl) ?_
  refine g_cast (L' := L ++ ob 4 [.null, .null, .ref (B + (o + 1)), .ref (B + (o + 3)), .null] :: ((ceF B E z0 (o + 1) (shRow (o + 1) 3) ++ ceF B E z0 (o + 3) (shRow (o + 3) 12)) ++ ceF B E z0 (o + 5) (shRow (o + 5) 12))) (List.append_assoc _ _ _) ?_
  refine g_put (pc := 39) h hin ci4 hL (j := 4) (Nat.le_of_ble_eq_true rfl) wF_X4_23 rfl rfl rfl (Nat.le_of_ble_eq_true rfl) (dk dt_X4_init 19 rfl) ?_
  refine v_aload_n (pc := 42) h (dk dt_X4_init 20 rfl) rfl ?_
  refine v_aload_n (pc := 43) h (dk dt_X4_init 21 rfl) rfl ?_
  refine g_put (pc := 44) h hin ci4 hL (j := 0) (Nat.le_of_ble_eq_true rfl) wF_X4_26 rfl rfl rfl (Nat.le_of_ble_eq_true rfl) (dk dt_X4_init 22 rfl) ?_
  refine v_aload_n (pc := 47) h (dk dt_X4_init 23 rfl) rfl ?_
  refine v_aload_n (pc := 48) h (dk dt_X4_init 24 rfl) rfl ?_
  refine g_put (pc := 49) h hin ci4 hL (j := 1) (Nat.le_of_ble_eq_true rfl) wF_X4_30 rfl rfl rfl (Nat.le_of_ble_eq_true rfl) (dk dt_X4_init 25 rfl) ?_
  exact g_ret (pc := 52) h r (dk dt_X4_init 26 rfl) (Nat.le_of_ble_eq_true rfl) (Nat.le_of_ble_eq_true rfl)
end
