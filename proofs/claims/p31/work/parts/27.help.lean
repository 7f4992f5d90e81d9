/-! ===== a JDK method; private helpers of the house ===== -/
abbrev tb_J6_bitCount : List (Nat × Instr × Nat) := [(0, .iload_n 0, 1), (1, .iload_n 0, 1), (2, .iconst 1, 1), (3, .iushr, 1), (4, .ldc_w 265, 3), (7, .iand, 1), (8, .isub, 1), (9, .istore_n 0, 1), (10, .iload_n 0, 1), (11, .ldc_w 266, 3), (14, .iand, 1), (15, .iload_n 0, 1), (16, .iconst 2, 1), (17, .iushr, 1), (18, .ldc_w 266, 3), (21, .iand, 1), (22, .iadd, 1), (23, .istore_n 0, 1), (24, .iload_n 0, 1), (25, .iload_n 0, 1), (26, .iconst 4, 1), (27, .iushr, 1), (28, .iadd, 1), (29, .ldc_w 267, 3), (32, .iand, 1), (33, .istore_n 0, 1), (34, .iload_n 0, 1), (35, .iload_n 0, 1), (36, .bipush 8, 2), (38, .iushr, 1), (39, .iadd, 1), (40, .istore_n 0, 1), (41, .iload_n 0, 1), (42, .iload_n 0, 1), (43, .bipush 16, 2), (45, .iushr, 1), (46, .iadd, 1), (47, .istore_n 0, 1), (48, .iload_n 0, 1), (49, .bipush 63, 2), (51, .iand, 1), (52, .ireturn, 1)]
theorem dt_J6_bitCount : dkA cJ6_bitCount_0f7a4 tb_J6_bitCount = true := by decide +kernel
theorem wM_X1_59 : Cond.methodLink RX1 59 yJ6_bitCount_0f7a4 ∈ TS := tsm 534 (by decide +kernel) rfl
theorem wK_J6_265 : Cond.constant RJ6 265 (Int32.ofInt 1431655765) ∈ TS := tsm 537 (by decide +kernel) rfl
theorem wK_J6_266 : Cond.constant RJ6 266 (Int32.ofInt 858993459) ∈ TS := tsm 538 (by decide +kernel) rfl
theorem wK_J6_267 : Cond.constant RJ6 267 (Int32.ofInt 252645135) ∈ TS := tsm 539 (by decide +kernel) rfl
def KO (y : MethodName) (bytes : ByteArray) (maxL : Nat) (ret : Option FieldType) (m : Nat) : Prop := (Cond.static y ∈ TS ∧ Cond.initialized y.cls ∈ TS ∧ Cond.code y bytes maxL ret ∈ TS) ∧ (y.cls ≠ "java/lang/invoke/MethodHandle" ∧ y.cls ≠ "java/lang/invoke/VarHandle" ∧ (parseMethodDescriptor y.desc).map (fun d => d.parameters.length) = some m)
theorem kv_J6_bitCount : KO yJ6_bitCount_0f7a4 cJ6_bitCount_0f7a4 1 (some .int) 1 := ⟨⟨tsm 535 (by decide +kernel) rfl, tsm 48 (by decide +kernel) rfl, tsm 536 (by decide +kernel) rfl⟩, by decide +kernel⟩
abbrev rm_J6_bitCount : Room := { frames := 0, cells := 0, slots := 0, locals := 0 }
section
variable {a : Ax} {B : Nat} {D : va_G} {E : Nat → ClassId} {own : String} {cc : ByteArray} {nL : Nat} {rm : Room} {μ : Mm} {k n pc : Nat} {lv : List (Nat × Value)} {rest st : List Value}
theorem v_oS (h : Ac a B D E own cc nL rm) {m index maxL : Nat} {y : MethodName} {bytes : ByteArray} {ret : Option FieldType} {r : Room} {As : List Value} {P : Pv}
    (hM : Ct (axL a) B D E y (.code y bytes maxL ret) r As μ P NX) (kv : KO y bytes maxL ret m) (w : Cond.methodLink own index y ∈ TS) (hst : st = As.reverse ++ rest) (hm : As.length = m) (hcat : (rest.map fun v => v.category).sum ≤ 8) (hR : RM rm r k n maxL) (hc : r.cells = 0) (hs : r.slots = 0) (d : decode cc pc = .ok (.invokestatic index, 3))
    (q : ∀ (v : Option Value) (μ' : Mm), P v μ' → VV a B (SP B D E μ') k n (pc + 3) lv (v.toList ++ rest)) : VV a B (SP B D E μ) k n pc lv st := by
  intro H locs ls a1 a2 a3 T0 hT X0
  have hr := h.room
  obtain ⟨⟨w1, w3, w4⟩, hd⟩ := kv
  have hG : GoodIn TS (va_wsS own index y (Cond.code y bytes maxL ret :: TS)) := by
    intro z hz
    have hm : z ∈ TS := by
      rcases List.mem_append.mp hz with hz | hz
      · rcases List.mem_cons.mp hz with e | hz
        · rw [e]; exact w
        · rcases List.mem_cons.mp hz with e | hz
          · rw [e]; exact w1
          · rw [List.mem_singleton.mp hz]; exact w3
      · rcases List.mem_cons.mp hz with e | hz
        · rw [e]; exact w4
        · exact hz
    exact ts_self z hm
  have hrun := vx_runS (e := axE a) (below := axB a) (meth := axF a) (R := axR a) (g := F0 (axM a) pc ls st) (rest := rest) (n := m) (cells := k) (slots := n) (locs := locs) (H := H) h.fix hM (va_cwS m h.hts hG rfl rfl rfl hd (by rw [hr]; exact hR.1))
    ⟨Ent.blind, fun U hU hW => ⟨rfl, h.ent a1 a2 hU hW⟩⟩ rfl hm (by rw [← h.maxl]; exact a3.1) hst (lv_room hcat) d (by rw [hr]; exact hR.2)
  rcases hrun T0 hT X0 with ⟨v, st₀, t, T', L, h0, X', hL, e1, e2, ⟨⟨v', μ', hv, hp, hP1⟩, hF⟩, stp⟩ | ⟨q9, st₀, t, T', L, e, ce, h0, X', hL, e1, e2, ⟨⟨μ', hx, hP1⟩, hF⟩, hce, hcv, hcl, stp⟩
  · cases hv
    obtain ⟨-, -, k3⟩ := vx_keep h0 e1 a2 (fun _ _ z => z) (fun _ z => z) hL hF
    rw [hc, hs] at X'
    obtain ⟨t2, b1, b2⟩ := q v μ' hp T'.heap (locs ++ L) ls (by rw [e1]; exact hP1) k3 a3 T' rfl X'
    exact ⟨t2, stp t2 b1, b2⟩
  · exact hx.elim
theorem v_oSi (h : Ac a B D E own cc nL rm) {m index maxL : Nat} {y : MethodName} {bytes : ByteArray} {ret : Option FieldType} {r : Room} {As : List Value} {v : Value} {μ' : Mm}
    (hM : Ct (axL a) B D E y (.code y bytes maxL ret) r As μ (dr (some v) μ') NX) (kv : KO y bytes maxL ret m) (w : Cond.methodLink own index y ∈ TS) (hst : st = As.reverse ++ rest) (hm : As.length = m) (hcat : (rest.map fun v => v.category).sum ≤ 8) (hR : RM rm r k n maxL) (hc : r.cells = 0) (hs : r.slots = 0) (d : decode cc pc = .ok (.invokestatic index, 3))
    (q : VV a B (SP B D E μ') k n (pc + 3) lv (v :: rest)) : VV a B (SP B D E μ) k n pc lv st :=
  v_oS h hM kv w hst hm hcat hR hc hs d (fun _ _ z => by obtain ⟨rfl, rfl⟩ := z; exact q)
end
def bc1 (x : Int) : Int := x - bnd (bus x 1) 1431655765
def bc2 (x : Int) : Int := bnd x 858993459 + bnd (bus x 2) 858993459
def bc3 (x : Int) : Int := bnd (x + bus x 4) 252645135
def bc4 (x : Int) : Int := x + bus x 8
def bc5 (x : Int) : Int := x + bus x 16
def bcF (x : Int) : Int := bnd (bc5 (bc4 (bc3 (bc2 (bc1 x))))) 63
/-- how many of the first k bits are there -/
def pcN (x : Nat) : Nat → Int
  | 0 => 0
  | k + 1 => pcN x k + if x.testBit k then 1 else 0
theorem bcF_is2 : ∀ x : Nat, x < 64 → ∀ y : Nat, y < 64 → bcF ((64 * x + y : Nat) : Int) = pcN (64 * x + y) 12 := by decide +kernel
theorem bcF_is (x : Nat) (h : x < 4096) : bcF (x : Int) = pcN x 12 := by
  have := bcF_is2 (x / 64) (by omega) (x % 64) (by omega)
  rwa [show 64 * (x / 64) + x % 64 = x by omega] at this
abbrev eA : String := "java/lang/IllegalArgumentException"
abbrev eS : String := "java/lang/IllegalStateException"
abbrev eB : String := "java/lang/IndexOutOfBoundsException"
abbrev eN : String := "java/util/NoSuchElementException"
/-- returns v where nothing is refused; throws the one that the code rc stands for -/
def PX (rc : Int) (v : Option Value) (μ' : Mm) : Pv := fun w m => rc = 0 ∧ w = v ∧ m = μ'
def XX (rc : Int) (es : List String) (μ : Mm) : Px := fun e m => (∃ i : Nat, rc = (i : Int) + 1 ∧ es[i]? = some e) ∧ m = μ
def ecF : Nat → Nat → Nat → Nat
  | 0, a, _ => a
  | d + 1, a, b => if b = 0 then a else ecF d b (a % b)
theorem ecF_is : ∀ (k d a b : Nat), b < 2 ^ k → 2 * k + 1 ≤ d → ecF d a b = Nat.gcd a b := by
  intro k
  induction k with
  | zero =>
    intro d a b hb hd
    have : b = 0 := by simpa using hb
    subst this
    obtain ⟨d, rfl⟩ : ∃ e, d = e + 1 := ⟨d - 1, by omega⟩
    simp [ecF]
  | succ k ih =>
    intro d a b hb hd
    obtain ⟨d, rfl⟩ : ∃ e, d = e + 2 := ⟨d - 2, by omega⟩
    by_cases h0 : b = 0
    · subst h0; simp [ecF]
    · have hc : a % b < b := Nat.mod_lt _ (by omega)
      by_cases h1 : a % b = 0
      · simp only [ecF]
        rw [if_neg h0, if_pos h1, Nat.gcd_comm, Nat.gcd_rec, h1, Nat.gcd_zero_left]
      · simp only [ecF]
        rw [if_neg h0, if_neg h1]
        have h2 : b % (a % b) < a % b := Nat.mod_lt _ (by omega)
        have h3 : b % (a % b) < 2 ^ k := by
          have e2 : 2 ^ (k + 1) = 2 ^ k + 2 ^ k := by rw [Nat.pow_succ]; omega
          by_cases h4 : a % b ≤ b / 2
          · omega
          · have : b % (a % b) = b - a % b := by
              rw [Nat.mod_eq_sub_mod (by omega), Nat.mod_eq_of_lt (by omega)]
            omega
        rw [ih d (a % b) (b % (a % b)) h3 (by omega), Nat.gcd_comm (a % b), ← Nat.gcd_rec, ← Nat.gcd_rec, Nat.gcd_comm]
section
variable {l : Launch} {B : Nat} {D : va_G} {E : Nat → ClassId} {μ m σ : Mm} {w n : Nat} {K : Nat → Int} {s : St} {J : Mm}
theorem c_J6_bitCount (hst : l.stackTraces = false) {x : Int} :
    Ct l B D E yJ6_bitCount_0f7a4 (.code yJ6_bitCount_0f7a4 cJ6_bitCount_0f7a4 1 (some .int)) rm_J6_bitCount [iI x] μ (ri (bcF x) μ) NX := by
  refine ct_of (own := RJ6) (lv := [(0, _)]) hst (by decide) rfl rfl (Nat.le_of_ble_eq_true rfl) fun a h r t => ?_
  refine v_iload_n (pc := 0) h (dk dt_J6_bitCount 0 rfl) rfl ?_
  refine v_iload_n (pc := 1) h (dk dt_J6_bitCount 1 rfl) rfl ?_
  refine v_iconst (pc := 2) h (dk dt_J6_bitCount 2 rfl) ?_
  refine v_iushr (pc := 3) h (dk dt_J6_bitCount 3 rfl) ?_
  refine v_ldcw (pc := 4) (z := 1431655765) h wK_J6_265 (dk dt_J6_bitCount 4 rfl) ?_
  refine v_iand (pc := 7) h (dk dt_J6_bitCount 5 rfl) ?_
  refine v_isub (pc := 8) h (dk dt_J6_bitCount 6 rfl) ?_
  refine v_istore_n (lv' := [(0, _)]) (pc := 9) h (dk dt_J6_bitCount 7 rfl) (Nat.le_of_ble_eq_true rfl) rfl ?_
  refine v_iload_n (pc := 10) h (dk dt_J6_bitCount 8 rfl) rfl ?_
  refine v_ldcw (pc := 11) (z := 858993459) h wK_J6_266 (dk dt_J6_bitCount 9 rfl) ?_
  refine v_iand (pc := 14) h (dk dt_J6_bitCount 10 rfl) ?_
  refine v_iload_n (pc := 15) h (dk dt_J6_bitCount 11 rfl) rfl ?_
  refine v_iconst (pc := 16) h (dk dt_J6_bitCount 12 rfl) ?_
  refine v_iushr (pc := 17) h (dk dt_J6_bitCount 13 rfl) ?_
  refine v_ldcw (pc := 18) (z := 858993459) h wK_J6_266 (dk dt_J6_bitCount 14 rfl) ?_
  refine v_iand (pc := 21) h (dk dt_J6_bitCount 15 rfl) ?_
  refine v_iadd (pc := 22) h (dk dt_J6_bitCount 16 rfl) ?_
  refine v_istore_n (lv' := [(0, _)]) (pc := 23) h (dk dt_J6_bitCount 17 rfl) (Nat.le_of_ble_eq_true rfl) rfl ?_
  refine v_iload_n (pc := 24) h (dk dt_J6_bitCount 18 rfl) rfl ?_
  refine v_iload_n (pc := 25) h (dk dt_J6_bitCount 19 rfl) rfl ?_
  refine v_iconst (pc := 26) h (dk dt_J6_bitCount 20 rfl) ?_
  refine v_iushr (pc := 27) h (dk dt_J6_bitCount 21 rfl) ?_
  refine v_iadd (pc := 28) h (dk dt_J6_bitCount 22 rfl) ?_
  refine v_ldcw (pc := 29) (z := 252645135) h wK_J6_267 (dk dt_J6_bitCount 23 rfl) ?_
  refine v_iand (pc := 32) h (dk dt_J6_bitCount 24 rfl) ?_
  refine v_istore_n (lv' := [(0, _)]) (pc := 33) h (dk dt_J6_bitCount 25 rfl) (Nat.le_of_ble_eq_true rfl) rfl ?_
  refine v_iload_n (pc := 34) h (dk dt_J6_bitCount 26 rfl) rfl ?_
  refine v_iload_n (pc := 35) h (dk dt_J6_bitCount 27 rfl) rfl ?_
  refine v_bipush (pc := 36) h (dk dt_J6_bitCount 28 rfl) rfl ?_
  refine v_iushr (pc := 38) h (dk dt_J6_bitCount 29 rfl) ?_
  refine v_iadd (pc := 39) h (dk dt_J6_bitCount 30 rfl) ?_
  refine v_istore_n (lv' := [(0, _)]) (pc := 40) h (dk dt_J6_bitCount 31 rfl) (Nat.le_of_ble_eq_true rfl) rfl ?_
  refine v_iload_n (pc := 41) h (dk dt_J6_bitCount 32 rfl) rfl ?_
  refine v_iload_n (pc := 42) h (dk dt_J6_bitCount 33 rfl) rfl ?_
  refine v_bipush (pc := 43) h (dk dt_J6_bitCount 34 rfl) rfl ?_
  refine v_iushr (pc := 45) h (dk dt_J6_bitCount 35 rfl) ?_
  refine v_iadd (pc := 46) h (dk dt_J6_bitCount 36 rfl) ?_
  refine v_istore_n (lv' := [(0, _)]) (pc := 47) h (dk dt_J6_bitCount 37 rfl) (Nat.le_of_ble_eq_true rfl) rfl ?_
  refine v_iload_n (pc := 48) h (dk dt_J6_bitCount 38 rfl) rfl ?_
  refine v_bipush (pc := 49) h (dk dt_J6_bitCount 39 rfl) rfl ?_
  refine v_iand (pc := 51) h (dk dt_J6_bitCount 40 rfl) ?_
  exact v_iret (pc := 52) h r (dk dt_J6_bitCount 41 rfl) (Nat.le_of_ble_eq_true rfl) (Nat.le_of_ble_eq_true rfl) ⟨rfl, rfl⟩
theorem c_X1_letWait (hst : l.stackTraces = false) {j o : Nat} (hj : j < 12) (ho : o < 12) (hx : 0 ≤ μ 11 j ∧ μ 11 j < 4096) :
    Ct l B D E yX1_letWait (.code yX1_letWait cX1_letWait 4 (some .int)) rm_X1_letWait [.ref (pl B 1), iI (j : Int), iI (o : Int)] μ (ri (pcN ((μ 11 j).toNat ||| 2 ^ o) 12) (mup μ 11 j (((μ 11 j).toNat ||| 2 ^ o : Nat) : Int))) NX := by
  have e : μ 11 j = (((μ 11 j).toNat : Nat) : Int) := by omega
  have h2 : 2 ^ o ≤ 2 ^ 11 := p2lt (by omega)
  generalize (μ 11 j).toNat = X at e
  have hX : X < 4096 := by omega
  have hO : X ||| 2 ^ o < 4096 := Nat.or_lt_two_pow (n := 12) hX (by omega)
  refine ct_of (own := RX1) (lv := [(0, _), (1, _), (2, _)]) hst (by decide) rfl rfl (Nat.le_of_ble_eq_true rfl) fun a h r t => ?_
  refine v_aload_n (pc := 0) h (dk dt_X1_letWait 0 rfl) rfl ?_
  refine v_getr (pc := 1) h ci1 sh1 (Nat.le_of_ble_eq_true rfl) (j := 4) wF_X1_32 rfl (dk dt_X1_letWait 1 rfl) ?_
  refine v_iload_n (pc := 4) h (dk dt_X1_letWait 2 rfl) rfl ?_
  refine v_cVi (pc := 5) h (c_X7_atn h.quiet jr4 (o1 := 11) rfl (Nat.le_of_ble_eq_true rfl) (by omega)) kv_X7_at jr4.1 wM_X1_55 rfl rfl (Nat.le_of_ble_eq_true rfl) (RM.of rfl) rfl rfl (dk dt_X1_letWait 3 rfl) ?_
  rw [e]
  refine v_iconst (pc := 8) h (dk dt_X1_letWait 4 rfl) ?_
  refine v_iload_n (pc := 9) h (dk dt_X1_letWait 5 rfl) rfl ?_
  refine v_ishl (pc := 10) h (dk dt_X1_letWait 6 rfl) ?_
  rw [bsl_1 o (by omega)]
  refine v_ior (pc := 11) h (dk dt_X1_letWait 7 rfl) ?_
  rw [bor_n (by omega) (by omega)]
  refine v_istore_n (lv' := [(3, _), (0, _), (1, _), (2, _)]) (pc := 12) h (dk dt_X1_letWait 8 rfl) (Nat.le_of_ble_eq_true rfl) rfl ?_
  refine v_aload_n (pc := 13) h (dk dt_X1_letWait 9 rfl) rfl ?_
  refine v_getr (pc := 14) h ci1 sh1 (Nat.le_of_ble_eq_true rfl) (j := 4) wF_X1_32 rfl (dk dt_X1_letWait 10 rfl) ?_
  refine v_iload_n (pc := 17) h (dk dt_X1_letWait 11 rfl) rfl ?_
  refine v_iload_n (pc := 18) h (dk dt_X1_letWait 12 rfl) rfl ?_
  refine v_cVv (pc := 19) h (c_X7_putn h.quiet jr4 (o1 := 11) rfl (Nat.le_of_ble_eq_true rfl) (by omega)) kv_X7_put jr4.1 wM_X1_51 rfl rfl (Nat.le_of_ble_eq_true rfl) (RM.of rfl) rfl rfl (dk dt_X1_letWait 13 rfl) ?_
  refine v_iload_n (pc := 22) h (dk dt_X1_letWait 14 rfl) rfl ?_
  refine v_oSi (pc := 23) h (c_J6_bitCount h.quiet) kv_J6_bitCount wM_X1_59 rfl rfl (Nat.le_of_ble_eq_true rfl) (RM.of rfl) rfl rfl (dk dt_X1_letWait 15 rfl) ?_
  rw [bcF_is _ hO]
  exact v_iret (pc := 26) h r (dk dt_X1_letWait 16 rfl) (Nat.le_of_ble_eq_true rfl) (Nat.le_of_ble_eq_true rfl) ⟨rfl, rfl⟩
theorem c_X11_isOutside (hst : l.stackTraces = false) {x y z : Int} (hx : InR x) (hy : InR y ∧ InR z) :
    Ct l B D E yX11_isOutside (.code yX11_isOutside cX11_isOutside 3 (some .boolean)) rm_X11_isOutside [iI x, iI y, iI z] μ (ri (if x < y ∨ z < x then 1 else 0) μ) NX := by
  refine ct_of (own := RX11) (lv := [(0, _), (1, _), (2, _)]) hst (by decide) rfl rfl (Nat.le_of_ble_eq_true rfl) fun a h r t => ?_
  refine v_iload_n (pc := 0) h (dk dt_X11_isOutside 0 rfl) rfl ?_
  refine v_iload_n (pc := 1) h (dk dt_X11_isOutside 1 rfl) rfl ?_
  refine v_icmp_lt (pc := 2) h 10 (dk dt_X11_isOutside 2 rfl) rfl (by omega) (fun c2 => ?_) (fun c2 => ?_)
  ·
    refine v_iconst (pc := 10) h (dk dt_X11_isOutside 6 rfl) ?_
    refine v_goto (pc := 11) h 15 (dk dt_X11_isOutside 7 rfl) rfl ?_
    exact v_zret (pc := 15) h r (dk dt_X11_isOutside 9 rfl) (Nat.le_of_ble_eq_true rfl) (Nat.le_of_ble_eq_true rfl) (by omega) ⟨by first | rw [if_pos (by omega)] | rw [if_neg (by omega)], rfl⟩
  ·
    refine v_iload_n (pc := 5) h (dk dt_X11_isOutside 3 rfl) rfl ?_
    refine v_iload_n (pc := 6) h (dk dt_X11_isOutside 4 rfl) rfl ?_
    refine v_icmp_le (pc := 7) h 14 (dk dt_X11_isOutside 5 rfl) rfl (by omega) (fun c7 => ?_) (fun c7 => ?_)
    ·
      refine v_iconst (pc := 14) h (dk dt_X11_isOutside 8 rfl) ?_
      exact v_zret (pc := 15) h r (dk dt_X11_isOutside 9 rfl) (Nat.le_of_ble_eq_true rfl) (Nat.le_of_ble_eq_true rfl) (by omega) ⟨by first | rw [if_pos (by omega)] | rw [if_neg (by omega)], rfl⟩
    ·
      refine v_iconst (pc := 10) h (dk dt_X11_isOutside 6 rfl) ?_
      refine v_goto (pc := 11) h 15 (dk dt_X11_isOutside 7 rfl) rfl ?_
      exact v_zret (pc := 15) h r (dk dt_X11_isOutside 9 rfl) (Nat.le_of_ble_eq_true rfl) (Nat.le_of_ble_eq_true rfl) (by omega) ⟨by first | rw [if_pos (by omega)] | rw [if_neg (by omega)], rfl⟩
theorem c_X11_needJob (hst : l.stackTraces = false) {z : Int} (hz : InR z) (hn : 0 ≤ μ 1 9 ∧ μ 1 9 ≤ 12) :
    Ct l B D E yX11_needJob (.code yX11_needJob cX11_needJob 2 none) rm_X11_needJob [.ref (pl B 0), iI z] μ (fun v m => v = none ∧ m = μ ∧ 0 ≤ z ∧ z < μ 1 9) (fun e m => e = eB ∧ m = μ ∧ ¬ (0 ≤ z ∧ z < μ 1 9)) := by
  refine ct_of (own := RX11) (lv := [(0, _), (1, _)]) hst (by decide) rfl rfl (Nat.le_of_ble_eq_true rfl) fun a h r t => ?_
  refine v_iload_n (pc := 0) h (dk dt_X11_needJob 0 rfl) rfl ?_
  refine v_if_lt (pc := 1) h 15 (dk dt_X11_needJob 1 rfl) rfl (by omega) (fun c1 => ?_) (fun c1 => ?_)
  ·
    exact v_throw (pc := 15) h r t kt_X11_84 (dk dt_X11_needJob 7 rfl) (dk dt_X11_needJob 8 rfl) (dk dt_X11_needJob 9 rfl) (dk dt_X11_needJob 10 rfl) ⟨Nat.le_of_ble_eq_true rfl, Nat.le_of_ble_eq_true rfl, Nat.le_of_ble_eq_true rfl, Nat.le_of_ble_eq_true rfl⟩ (Nat.le_of_ble_eq_true rfl) (Nat.le_of_ble_eq_true rfl) (Nat.le_of_ble_eq_true rfl) ⟨rfl, rfl, by omega⟩
  ·
    refine v_iload_n (pc := 4) h (dk dt_X11_needJob 2 rfl) rfl ?_
    refine v_aload_n (pc := 5) h (dk dt_X11_needJob 3 rfl) rfl ?_
    refine v_getr (pc := 6) h ci11 sh0 (Nat.le_of_ble_eq_true rfl) (j := 0) wF_X11_10 rfl (dk dt_X11_needJob 4 rfl) ?_
    refine v_geti (pc := 9) h ci1 sh1 (Nat.le_of_ble_eq_true rfl) (j := 9) wF_X11_65 rfl (dk dt_X11_needJob 5 rfl) ?_
    refine v_icmp_lt (pc := 12) h 23 (dk dt_X11_needJob 6 rfl) rfl (by omega) (fun c12 => ?_) (fun c12 => ?_)
    ·
      exact v_vret (pc := 23) h r (dk dt_X11_needJob 11 rfl) (Nat.le_of_ble_eq_true rfl) (Nat.le_of_ble_eq_true rfl) ⟨rfl, rfl, by omega, by omega⟩
    ·
      exact v_throw (pc := 15) h r t kt_X11_84 (dk dt_X11_needJob 7 rfl) (dk dt_X11_needJob 8 rfl) (dk dt_X11_needJob 9 rfl) (dk dt_X11_needJob 10 rfl) ⟨Nat.le_of_ble_eq_true rfl, Nat.le_of_ble_eq_true rfl, Nat.le_of_ble_eq_true rfl, Nat.le_of_ble_eq_true rfl⟩ (Nat.le_of_ble_eq_true rfl) (Nat.le_of_ble_eq_true rfl) (Nat.le_of_ble_eq_true rfl) ⟨rfl, rfl, by omega⟩
theorem c_X11_needMoment (hst : l.stackTraces = false) {z : Int} (hz : InR z) :
    Ct l B D E yX11_needMoment (.code yX11_needMoment cX11_needMoment 2 none) rm_X11_needMoment [.ref (pl B 0), iI z] μ (fun v m => v = none ∧ m = μ ∧ 0 ≤ z) (fun e m => e = eA ∧ m = μ ∧ ¬ 0 ≤ z) := by
  refine ct_of (own := RX11) (lv := [(0, _), (1, _)]) hst (by decide) rfl rfl (Nat.le_of_ble_eq_true rfl) fun a h r t => ?_
  refine v_iload_n (pc := 0) h (dk dt_X11_needMoment 0 rfl) rfl ?_
  refine v_if_ge (pc := 1) h 12 (dk dt_X11_needMoment 1 rfl) rfl (by omega) (fun c1 => ?_) (fun c1 => ?_)
  ·
    exact v_vret (pc := 12) h r (dk dt_X11_needMoment 6 rfl) (Nat.le_of_ble_eq_true rfl) (Nat.le_of_ble_eq_true rfl) ⟨rfl, rfl, by omega⟩
  ·
    exact v_throw (pc := 4) h r t kt_X11_62 (dk dt_X11_needMoment 2 rfl) (dk dt_X11_needMoment 3 rfl) (dk dt_X11_needMoment 4 rfl) (dk dt_X11_needMoment 5 rfl) ⟨Nat.le_of_ble_eq_true rfl, Nat.le_of_ble_eq_true rfl, Nat.le_of_ble_eq_true rfl, Nat.le_of_ble_eq_true rfl⟩ (Nat.le_of_ble_eq_true rfl) (Nat.le_of_ble_eq_true rfl) (Nat.le_of_ble_eq_true rfl) ⟨rfl, rfl, by omega⟩
theorem c_X11_needRun (hst : l.stackTraces = false) (h0 : μ 0 7 = 0 ∨ μ 0 7 = 1) :
    Ct l B D E yX11_needRun (.code yX11_needRun cX11_needRun 1 none) rm_X11_needRun [.ref (pl B 0)] μ (fun v m => v = none ∧ m = μ ∧ μ 0 7 = 1) (fun e m => e = eS ∧ m = μ ∧ ¬ μ 0 7 = 1) := by
  refine ct_of (own := RX11) (lv := [(0, _)]) hst (by decide) rfl rfl (Nat.le_of_ble_eq_true rfl) fun a h r t => ?_
  refine v_aload_n (pc := 0) h (dk dt_X11_needRun 0 rfl) rfl ?_
  refine v_geti (pc := 1) h ci11 sh0 (Nat.le_of_ble_eq_true rfl) (j := 7) wF_X11_54 rfl (dk dt_X11_needRun 1 rfl) ?_
  refine v_if_ne (pc := 4) h 15 (dk dt_X11_needRun 2 rfl) rfl (by omega) (fun c4 => ?_) (fun c4 => ?_)
  ·
    exact v_vret (pc := 15) h r (dk dt_X11_needRun 7 rfl) (Nat.le_of_ble_eq_true rfl) (Nat.le_of_ble_eq_true rfl) ⟨rfl, rfl, by omega⟩
  ·
    exact v_throw (pc := 7) h r t kt_X11_69 (dk dt_X11_needRun 3 rfl) (dk dt_X11_needRun 4 rfl) (dk dt_X11_needRun 5 rfl) (dk dt_X11_needRun 6 rfl) ⟨Nat.le_of_ble_eq_true rfl, Nat.le_of_ble_eq_true rfl, Nat.le_of_ble_eq_true rfl, Nat.le_of_ble_eq_true rfl⟩ (Nat.le_of_ble_eq_true rfl) (Nat.le_of_ble_eq_true rfl) (Nat.le_of_ble_eq_true rfl) ⟨rfl, rfl, by omega⟩
theorem lc0 (g : Nat) : (if (g : Int) < 0 then (-1 : Int) else if (g : Int) = 0 then 0 else 1) = if g = 0 then 0 else 1 := by
  rw [if_neg (by omega)]
  by_cases h : g = 0
  · rw [if_pos (by omega), if_pos h]
  · rw [if_neg (by omega), if_neg h]
theorem c_X11_reduced (hst : l.stackTraces = false) {y z : Nat} (ha : y < 1099511627776) (hb : z < 1099511627776) :
    Ct l B D E yX11_reduced (.code yX11_reduced cX11_reduced 11 (some .long)) rm_X11_reduced [iL (y : Int), iL (z : Int)] μ (dr (some (iL ((y / Nat.gcd y z : Nat) : Int))) μ) NX := by
  have hgcd := ecF_is 40 200 y z hb (by omega)
  refine ct_of (own := RX11) (lv := [(0, _), (2, _)]) hst (by decide) rfl rfl (Nat.le_of_ble_eq_true rfl) fun a h r t => ?_
  have fin : ∀ (g : Nat) , g = Nat.gcd y z → g < 1099511627776 → VV a B (SP B D E μ) 0 0 45 [(4, iL (g : Int)), (0, iL (y : Int))] [] := by
    intro g hg hg40
    refine v_lload (pc := 45) h (dk dt_X11_reduced 23 rfl) rfl ?_
    refine v_lconst (pc := 47) (y := 0) h (dk dt_X11_reduced 24 rfl) rfl ?_
    refine v_lcmp (pc := 48) h (dk dt_X11_reduced 25 rfl) (by omega) (by omega) ?_
    rw [lc0]
    refine v_if_ne (pc := 49) h 56 (dk dt_X11_reduced 26 rfl) rfl (by split <;> omega) (fun c49 => ?_) (fun c49 => ?_)
    ·
      have d49 : g ≠ 0 := fun q => by rw [if_pos q] at c49; omega
      refine v_lload_n (pc := 56) h (dk dt_X11_reduced 29 rfl) rfl ?_
      refine v_lload (pc := 57) h (dk dt_X11_reduced 30 rfl) rfl ?_
      refine v_ldiv (pc := 59) h (dk dt_X11_reduced 31 rfl) (by omega) (by omega) ?_
      exact v_lret (pc := 60) h r (dk dt_X11_reduced 32 rfl) (Nat.le_of_ble_eq_true rfl) (Nat.le_of_ble_eq_true rfl) (by first | exact ⟨by rw [← hg]; rfl, rfl⟩ | exact ⟨by rw [dy, Nat.zero_div], rfl⟩)
    ·
      have d49 : g = 0 := by by_cases q : g = 0; exact q; rw [if_neg q] at c49; omega
      have dy : y = 0 := Nat.eq_zero_of_gcd_eq_zero_left (by omega : Nat.gcd y z = 0)
      refine v_lload_n (pc := 52) h (dk dt_X11_reduced 27 rfl) rfl ?_
      refine v_goto (pc := 53) h 60 (dk dt_X11_reduced 28 rfl) rfl ?_
      exact v_lret (pc := 60) h r (dk dt_X11_reduced 32 rfl) (Nat.le_of_ble_eq_true rfl) (Nat.le_of_ble_eq_true rfl) (by first | exact ⟨by rw [← hg]; rfl, rfl⟩ | exact ⟨by rw [dy, Nat.zero_div], rfl⟩)
  have loop : ∀ (d i y' z' : Nat), i + d = 200 → y' < 1099511627776 → z' < 1099511627776 → ecF d y' z' = Nat.gcd y z → VV a B (SP B D E μ) 0 0 9 [(8, iI (i : Int)), (6, iL (z' : Int)), (4, iL (y' : Int)), (0, iL (y : Int))] [] := by
    intro d
    induction d with
    | zero =>
      intro i y' z' hi h1 h2 e
      refine v_iload (pc := 9) h (dk dt_X11_reduced 6 rfl) rfl ?_
      refine v_sipush (pc := 11) h (dk dt_X11_reduced 7 rfl) rfl ?_
      refine v_icmp_ge (pc := 14) h 45 (dk dt_X11_reduced 8 rfl) rfl (by omega) (fun c14 => ?_) (fun c14 => ?_)
      ·
        exact VV.loc (fin y' e h1) ⟨rfl, rfl, trivial⟩
      ·
        exact absurd c14 (by omega)
    | succ d ih =>
      intro i y' z' hi h1 h2 e
      have hm : z' ≠ 0 → y' % z' < 1099511627776 := fun q => Nat.lt_of_le_of_lt (Nat.mod_le _ _) h1
      refine v_iload (pc := 9) h (dk dt_X11_reduced 6 rfl) rfl ?_
      refine v_sipush (pc := 11) h (dk dt_X11_reduced 7 rfl) rfl ?_
      refine v_icmp_ge (pc := 14) h 45 (dk dt_X11_reduced 8 rfl) rfl (by omega) (fun c14 => ?_) (fun c14 => ?_)
      ·
        exact absurd c14 (by omega)
      ·
        refine v_lload (pc := 17) h (dk dt_X11_reduced 9 rfl) rfl ?_
        refine v_lconst (pc := 19) (y := 0) h (dk dt_X11_reduced 10 rfl) rfl ?_
        refine v_lcmp (pc := 20) h (dk dt_X11_reduced 11 rfl) (by omega) (by omega) ?_
        rw [lc0]
        refine v_if_eq (pc := 21) h 45 (dk dt_X11_reduced 12 rfl) rfl (by split <;> omega) (fun c21 => ?_) (fun c21 => ?_)
        ·
          have d21 : z' = 0 := by by_cases q : z' = 0; exact q; rw [if_neg q] at c21; omega
          exact VV.loc (fin y' (by rw [← e, ecF, if_pos d21]) h1) ⟨rfl, rfl, trivial⟩
        ·
          have d21 : z' ≠ 0 := fun q => by rw [if_pos q] at c21; omega
          refine v_lload (pc := 24) h (dk dt_X11_reduced 13 rfl) rfl ?_
          refine v_lload (pc := 26) h (dk dt_X11_reduced 14 rfl) rfl ?_
          refine v_lrem (pc := 28) h (dk dt_X11_reduced 15 rfl) (by omega) (by omega) ?_
          refine v_lstore (lv' := [(9, _), (8, _), (6, _), (4, _), (0, _)]) (pc := 29) h (dk dt_X11_reduced 16 rfl) (Nat.le_of_ble_eq_true rfl) rfl ?_
          refine v_lload (pc := 31) h (dk dt_X11_reduced 17 rfl) rfl ?_
          refine v_lstore (lv' := [(4, _), (9, _), (8, _), (6, _), (0, _)]) (pc := 33) h (dk dt_X11_reduced 18 rfl) (Nat.le_of_ble_eq_true rfl) rfl ?_
          refine v_lload (pc := 35) h (dk dt_X11_reduced 19 rfl) rfl ?_
          refine v_lstore (lv' := [(6, _), (4, _), (9, _), (8, _), (0, _)]) (pc := 37) h (dk dt_X11_reduced 20 rfl) (Nat.le_of_ble_eq_true rfl) rfl ?_
          refine v_iinc (lv' := [(8, _), (6, _), (4, _), (9, _), (0, _)]) (pc := 39) h (dk dt_X11_reduced 21 rfl) rfl (Nat.le_of_ble_eq_true rfl) rfl ?_
          refine v_goto (pc := 42) h 9 (dk dt_X11_reduced 22 rfl) rfl ?_
          exact VV.loc (ih (i + 1) z' (y' % z') (by omega) h2 (hm d21) (by rw [← e, ecF, if_neg d21])) ⟨rfl, rfl, rfl, rfl, trivial⟩
  refine v_lload_n (pc := 0) h (dk dt_X11_reduced 0 rfl) rfl ?_
  refine v_lstore (lv' := [(4, _), (0, _), (2, _)]) (pc := 1) h (dk dt_X11_reduced 1 rfl) (Nat.le_of_ble_eq_true rfl) rfl ?_
  refine v_lload_n (pc := 3) h (dk dt_X11_reduced 2 rfl) rfl ?_
  refine v_lstore (lv' := [(6, _), (4, _), (0, _), (2, _)]) (pc := 4) h (dk dt_X11_reduced 3 rfl) (Nat.le_of_ble_eq_true rfl) rfl ?_
  refine v_iconst (pc := 6) h (dk dt_X11_reduced 4 rfl) ?_
  refine v_istore (lv' := [(8, _), (6, _), (4, _), (0, _), (2, _)]) (pc := 7) h (dk dt_X11_reduced 5 rfl) (Nat.le_of_ble_eq_true rfl) rfl ?_
  exact VV.loc (loop 200 0 y z (by omega) ha hb hgcd) ⟨rfl, rfl, rfl, rfl, trivial⟩
end
