/-! ===== numbers ===== -/
theorem iI_toInt {z : Int} (h : InR z) : (Int32.ofInt z).toInt = z := Int32.toInt_ofInt_of_le (by omega) (by omega)
theorem iI_inj {x y : Int} (hx : InR x) (hy : InR y) : Int32.ofInt x = Int32.ofInt y ↔ x = y := by
  rw [← Int32.toInt_inj, iI_toInt hx, iI_toInt hy]
theorem iI_lt {x y : Int} (hx : InR x) (hy : InR y) : Int32.ofInt x < Int32.ofInt y ↔ x < y := by
  rw [Int32.lt_iff_toInt_lt, iI_toInt hx, iI_toInt hy]
theorem iI_le {x y : Int} (hx : InR x) (hy : InR y) : Int32.ofInt x ≤ Int32.ofInt y ↔ x ≤ y := by
  rw [Int32.le_iff_toInt_le, iI_toInt hx, iI_toInt hy]
theorem iI_0 : Int32.ofInt 0 = 0 := rfl
theorem iI_nat {z : Int} (h : InR z) : (Int32.ofInt z).toNatClampNeg = z.toNat := by
  rw [← Int32.toNat_toInt, iI_toInt h]
theorem iI_toInt32 (x : Int32) : Int32.ofInt x.toInt = x := Int32.ofInt_toInt x
theorem toInt_InR (x : Int32) : InR x.toInt := ⟨Int32.le_toInt x, Int32.toInt_lt x⟩
theorem iI_in {z : Int} {n : Nat} (h : InR z) (h0 : 0 ≤ z) (h1 : z < n) : vp_in (Int32.ofInt z) n := by
  intro q
  rcases q with q | q
  · rw [← iI_0, iI_lt h (by omega)] at q
    omega
  · rw [iI_nat h] at q
    omega
theorem iL_toInt {z : Int} (h : InL z) : (Int64.ofInt z).toInt = z := Int64.toInt_ofInt_of_le (by omega) (by omega)
def bnd (x y : Int) : Int := (Int32.ofInt x &&& Int32.ofInt y).toInt
def bor (x y : Int) : Int := (Int32.ofInt x ||| Int32.ofInt y).toInt
def bxr (x y : Int) : Int := (Int32.ofInt x ^^^ Int32.ofInt y).toInt
def bus (x y : Int) : Int := ((Int32.ofInt x).toUInt32 >>> ((Int32.ofInt y).toUInt32 &&& Int32.toUInt32 31)).toInt32.toInt
def bsl (x y : Int) : Int := (Int32.ofInt x <<< (Int32.ofInt y &&& 31)).toInt
def bsr (x y : Int) : Int := (Int32.ofInt x >>> (Int32.ofInt y &&& 31)).toInt
theorem iI_div {x y : Int} (hx : 0 ≤ x ∧ InR x) (hy : 0 < y ∧ InR y) : Int32.ofInt x / Int32.ofInt y = Int32.ofInt (x / y) := by
  apply Int32.toInt_inj.mp
  rw [Int32.toInt_div, iI_toInt hx.2, iI_toInt hy.2, Int.tdiv_eq_ediv_of_nonneg hx.1]
  have h1 : 0 ≤ x / y := Int.ediv_nonneg hx.1 (by omega)
  have h2 : x / y ≤ x := Int.ediv_le_self _ hx.1
  rw [iI_toInt (by omega)]
  exact Int.bmod_eq_of_le (by omega) (by omega)
theorem iI_rem {x y : Int} (hx : 0 ≤ x ∧ InR x) (hy : 0 < y ∧ InR y) : Int32.ofInt x - Int32.ofInt x / Int32.ofInt y * Int32.ofInt y = Int32.ofInt (x % y) := by
  rw [iI_div hx hy, ← Int32.ofInt_mul, ← Int32.ofInt_sub]
  congr 1
  have := Int.emod_add_mul_ediv x y
  rw [Int.mul_comm] at this
  omega
theorem iL_div {x y : Int} (hx : 0 ≤ x ∧ InL x) (hy : 0 < y ∧ InL y) : Int64.ofInt x / Int64.ofInt y = Int64.ofInt (x / y) := by
  apply Int64.toInt_inj.mp
  rw [Int64.toInt_div, iL_toInt hx.2, iL_toInt hy.2, Int.tdiv_eq_ediv_of_nonneg hx.1]
  have h1 : 0 ≤ x / y := Int.ediv_nonneg hx.1 (by omega)
  have h2 : x / y ≤ x := Int.ediv_le_self _ hx.1
  rw [iL_toInt (by omega)]
  exact Int.bmod_eq_of_le (by omega) (by omega)
theorem iL_rem {x y : Int} (hx : 0 ≤ x ∧ InL x) (hy : 0 < y ∧ InL y) : Int64.ofInt x - Int64.ofInt x / Int64.ofInt y * Int64.ofInt y = Int64.ofInt (x % y) := by
  rw [iL_div hx hy, ← Int64.ofInt_mul, ← Int64.ofInt_sub]
  congr 1
  have := Int.emod_add_mul_ediv x y
  rw [Int.mul_comm] at this
  omega
/-! ===== locals ===== -/
def lvg : List (Nat × Value) → Nat → Option Value
  | [], _ => none
  | q :: t, i => cond (Nat.beq q.1 i) (some q.2) (lvg t i)
theorem lvg_mem : ∀ {lv : List (Nat × Value)} {i : Nat} {v : Value}, lvg lv i = some v → (i, v) ∈ lv := by
  intro lv
  induction lv with
  | nil => intro i v h; simp [lvg] at h
  | cons q t ih =>
    intro i v h
    unfold lvg at h
    cases hb : Nat.beq q.1 i with
    | true =>
      rw [hb] at h
      simp only [cond_true, Option.some.injEq] at h
      have := Nat.eq_of_beq_eq_true hb
      rw [← this, ← h]
      exact List.mem_cons_self
    | false =>
      rw [hb] at h
      exact List.mem_cons_of_mem _ (ih h)
theorem lvg_at {ls : Array Slot} {nL : Nat} {lv : List (Nat × Value)} {i : Nat} {v : Value} (h : lv_has ls nL lv) (g : lvg lv i = some v) : ls[i]? = some (.val v) := h.2.2 (i, v) (lvg_mem g)
theorem nbf {a b : Nat} (h : ¬ a = b) : Nat.beq a b = false := by
  cases e : Nat.beq a b with
  | false => rfl
  | true => exact absurd (Nat.eq_of_beq_eq_true e) h
/-- the locals behind a store of one place -/
def lvd (i : Nat) : List (Nat × Value) → List (Nat × Value)
  | [] => []
  | q :: t => cond (Nat.beq q.1 i) (lvd i t) (cond (Nat.beq (q.1 + 1) i && Nat.beq q.2.category 2) (lvd i t) (q :: lvd i t))
/-- .. of two places -/
def lvd2 (i : Nat) : List (Nat × Value) → List (Nat × Value)
  | [] => []
  | q :: t => cond (Nat.beq q.1 i) (lvd2 i t) (cond (Nat.beq q.1 (i + 1)) (lvd2 i t) (cond (Nat.beq (q.1 + 1) i && Nat.beq q.2.category 2) (lvd2 i t) (q :: lvd2 i t)))
theorem lvd_sub {i : Nat} : ∀ {lv : List (Nat × Value)} {q : Nat × Value}, q ∈ lvd i lv → q ∈ lv.filter (fun q => !(q.1 == i) && !(q.1 + 1 == i && q.2.category == 2)) := by
  intro lv
  induction lv with
  | nil => intro q h; simp [lvd] at h
  | cons x t ih =>
    intro q h
    unfold lvd at h
    by_cases h1 : x.1 = i
    · rw [show Nat.beq x.1 i = true from by simp [h1], cond_true] at h
      exact List.mem_filter.mpr ⟨List.mem_cons_of_mem _ (List.mem_filter.mp (ih h)).1, (List.mem_filter.mp (ih h)).2⟩
    · rw [show Nat.beq x.1 i = false from nbf h1, cond_false] at h
      by_cases h2 : x.1 + 1 = i ∧ x.2.category = 2
      · rw [show (Nat.beq (x.1 + 1) i && Nat.beq x.2.category 2) = true from by simp [h2.1, h2.2], cond_true] at h
        exact List.mem_filter.mpr ⟨List.mem_cons_of_mem _ (List.mem_filter.mp (ih h)).1, (List.mem_filter.mp (ih h)).2⟩
      · have h3 : (Nat.beq (x.1 + 1) i && Nat.beq x.2.category 2) = false := by
          cases hb : (Nat.beq (x.1 + 1) i && Nat.beq x.2.category 2) with
          | false => rfl
          | true =>
            simp only [Bool.and_eq_true] at hb
            exact absurd ⟨Nat.eq_of_beq_eq_true hb.1, Nat.eq_of_beq_eq_true hb.2⟩ h2
        rw [h3, cond_false] at h
        rcases List.mem_cons.mp h with e | h
        · subst e
          refine List.mem_filter.mpr ⟨List.mem_cons_self, ?_⟩
          simp only [Bool.and_eq_true, Bool.not_eq_true', beq_eq_false_iff_ne, Bool.and_eq_false_iff]
          refine ⟨h1, ?_⟩
          by_cases h4 : q.1 + 1 = i
          · exact Or.inr (fun h5 => h2 ⟨h4, h5⟩)
          · exact Or.inl h4
        · exact List.mem_filter.mpr ⟨List.mem_cons_of_mem _ (List.mem_filter.mp (ih h)).1, (List.mem_filter.mp (ih h)).2⟩
theorem lvd2_sub {i : Nat} : ∀ {lv : List (Nat × Value)} {q : Nat × Value}, q ∈ lvd2 i lv → q ∈ lv.filter (fun q => !(q.1 == i) && (!(q.1 == i + 1) && !(q.1 + 1 == i && q.2.category == 2))) := by
  intro lv
  induction lv with
  | nil => intro q h; simp [lvd2] at h
  | cons x t ih =>
    intro q h
    have up : ∀ {q : Nat × Value}, q ∈ t.filter (fun q => !(q.1 == i) && (!(q.1 == i + 1) && !(q.1 + 1 == i && q.2.category == 2))) → q ∈ (x :: t).filter (fun q => !(q.1 == i) && (!(q.1 == i + 1) && !(q.1 + 1 == i && q.2.category == 2))) := fun h => List.mem_filter.mpr ⟨List.mem_cons_of_mem _ (List.mem_filter.mp h).1, (List.mem_filter.mp h).2⟩
    unfold lvd2 at h
    by_cases h1 : x.1 = i
    · rw [show Nat.beq x.1 i = true from by simp [h1], cond_true] at h
      exact up (ih h)
    · rw [show Nat.beq x.1 i = false from nbf h1, cond_false] at h
      by_cases h0 : x.1 = i + 1
      · rw [show Nat.beq x.1 (i + 1) = true from by simp [h0], cond_true] at h
        exact up (ih h)
      · rw [show Nat.beq x.1 (i + 1) = false from nbf h0, cond_false] at h
        by_cases h2 : x.1 + 1 = i ∧ x.2.category = 2
        · rw [show (Nat.beq (x.1 + 1) i && Nat.beq x.2.category 2) = true from by simp [h2.1, h2.2], cond_true] at h
          exact up (ih h)
        · have h3 : (Nat.beq (x.1 + 1) i && Nat.beq x.2.category 2) = false := by
            cases hb : (Nat.beq (x.1 + 1) i && Nat.beq x.2.category 2) with
            | false => rfl
            | true =>
              simp only [Bool.and_eq_true] at hb
              exact absurd ⟨Nat.eq_of_beq_eq_true hb.1, Nat.eq_of_beq_eq_true hb.2⟩ h2
          rw [h3, cond_false] at h
          rcases List.mem_cons.mp h with e | h
          · subst e
            refine List.mem_filter.mpr ⟨List.mem_cons_self, ?_⟩
            simp only [Bool.and_eq_true, Bool.not_eq_true', beq_eq_false_iff_ne, Bool.and_eq_false_iff]
            refine ⟨h1, h0, ?_⟩
            by_cases h4 : q.1 + 1 = i
            · exact Or.inr (fun h5 => h2 ⟨h4, h5⟩)
            · exact Or.inl h4
          · exact up (ih h)
theorem lv_less {ls : Array Slot} {nL : Nat} {l l' : List (Nat × Value)} (h : lv_has ls nL l) (hs : ∀ q ∈ l', q ∈ l) : lv_has ls nL l' := ⟨h.1, h.2.1, fun q hq => h.2.2 q (hs q hq)⟩
theorem lvd_has {ls : Array Slot} {nL i : Nat} {v : Value} {lv : List (Nat × Value)} (h : lv_has ls nL ((i, v) :: lv.filter (fun q => !(q.1 == i) && !(q.1 + 1 == i && q.2.category == 2)))) : lv_has ls nL ((i, v) :: lvd i lv) :=
  lv_less h (fun q hq => (List.mem_cons.mp hq).elim (fun e => by rw [e]; exact List.mem_cons_self) (fun h => List.mem_cons_of_mem _ (lvd_sub h)))
theorem lvd2_has {ls : Array Slot} {nL i : Nat} {v : Value} {lv : List (Nat × Value)} (h : lv_has ls nL ((i, v) :: lv.filter (fun q => !(q.1 == i) && (!(q.1 == i + 1) && !(q.1 + 1 == i && q.2.category == 2))))) : lv_has ls nL ((i, v) :: lvd2 i lv) :=
  lv_less h (fun q hq => (List.mem_cons.mp hq).elim (fun e => by rw [e]; exact List.mem_cons_self) (fun h => List.mem_cons_of_mem _ (lvd2_sub h)))
/-- l' is held where l is -/
def lvs : List (Nat × Value) → List (Nat × Value) → Prop
  | _, [] => True
  | l, q :: t => lvg l q.1 = some q.2 ∧ lvs l t
theorem lvs_mem : ∀ {l' l : List (Nat × Value)}, lvs l l' → ∀ q ∈ l', q ∈ l := by
  intro l'
  induction l' with
  | nil => intro l _ q h; simp at h
  | cons x t ih =>
    intro l h q hq
    rcases List.mem_cons.mp hq with e | hq
    · subst e; exact lvg_mem h.1
    · exact ih h.2 q hq
/-! ===== the judgement ===== -/
abbrev Ax : Type := Program × Launch × Env × Room × State × MethodId × Array Value × List Frame × Method × Code × (State → Prop)
abbrev axP (a : Ax) : Program := a.1
abbrev axL (a : Ax) : Launch := a.2.1
abbrev axE (a : Ax) : Env := a.2.2.1
abbrev axR (a : Ax) : Room := a.2.2.2.1
abbrev axS (a : Ax) : State := a.2.2.2.2.1
abbrev axM (a : Ax) : MethodId := a.2.2.2.2.2.1
abbrev axA (a : Ax) : Array Value := a.2.2.2.2.2.2.1
abbrev axB (a : Ax) : List Frame := a.2.2.2.2.2.2.2.1
abbrev axF (a : Ax) : Method := a.2.2.2.2.2.2.2.2.1
abbrev axC (a : Ax) : Code := a.2.2.2.2.2.2.2.2.2.1
abbrev axQ (a : Ax) : State → Prop := a.2.2.2.2.2.2.2.2.2.2
def VV (a : Ax) (B : Nat) (P : Heap → Prop) (k n pc : Nat) (lv : List (Nat × Value)) (st : List Value) : Prop :=
  ∀ (H : Heap) (locs : List Loc) (ls : Array Slot), P H → va_S (fun q : Nat => B ≤ q) (axS a).heap H locs → lv_has ls (axC a).maxLocals lv →
    W (axP a) (axL a) (axE a) (axR a) (axS a) (axM a) (axA a) (axB a) (axF a) (axC a) H locs k n (axQ a) (F0 (axM a) pc ls st)
/-- what else the words of throws and handlers want of a state with the heap H -/
def ZX (B : Nat) (U : State) (H : Heap) : Prop := vx_Zq Bundle.tN "UNASSIGNED_STACK" Bundle.steD (fun q : Nat => B ≤ q) U H ∧ vx_Zq Bundle.tN "SUPPRESSED_SENTINEL" Bundle.listD (fun q : Nat => B ≤ q) U H ∧ (∀ q ∈ xcl, va_Nw (.castable q.1 q.2) U) ∧ (∀ q ∈ xdl, va_Nw (.declares q) U) ∧ ∀ q ∈ xnl, va_Nc q.1 q.2 U
theorem ZX.go {B : Nat} {s U : State} {H : Heap} {locs : List Loc} (h : ZX B s s.heap) (hS : va_S (fun q : Nat => B ≤ q) s.heap H locs) (hU : U.heap = H) (hW : s.WarmedH U.vm) : ZX B U U.heap := by
  rw [hU]
  exact ⟨vx_Zq.moved hW.alike (h.1.kept hS.2.1), vx_Zq.moved hW.alike (h.2.1.kept hS.2.1), fun q hq => va_Nw.warmC hW (h.2.2.1 q hq), fun q hq => va_Nw.warmD hW (h.2.2.2.1 q hq), fun q hq => va_Nc.moved hW.alike (h.2.2.2.2 q hq)⟩
def Ac (a : Ax) (B : Nat) (D : va_G) (E : Nat → ClassId) (own : String) (cc : ByteArray) (nL : Nat) (rm : Room) : Prop :=
  (axP a).tables.exec = Jvm.exec ∧ (axC a).code = cc ∧ (axC a).maxLocals = nL ∧ (axS a).vm.findClass own = some (axM a).cls ∧ (∀ w ∈ TS, w.before (axA a) (axS a) = true) ∧ axR a = rm ∧
  va_K D vwCl (tyE E) (axS a) ∧ ZX B (axS a) (axS a).heap ∧ (axL a).stackTraces = false ∧ (axF a).locks = false ∧ B ≤ (axS a).heap.size
section R1
variable {a : Ax} {B : Nat} {D : va_G} {E : Nat → ClassId} {own : String} {cc : ByteArray} {nL : Nat} {rm : Room} {P : Heap → Prop} {k n pc : Nat} {lv lv' : List (Nat × Value)} {st : List Value}
theorem Ac.exec (h : Ac a B D E own cc nL rm) : (axP a).tables.exec = Jvm.exec := h.1
theorem Ac.bytes (h : Ac a B D E own cc nL rm) : (axC a).code = cc := h.2.1
theorem Ac.maxl (h : Ac a B D E own cc nL rm) : (axC a).maxLocals = nL := h.2.2.1
theorem Ac.cls (h : Ac a B D E own cc nL rm) : (axS a).vm.findClass own = some (axM a).cls := h.2.2.2.1
theorem Ac.hts (h : Ac a B D E own cc nL rm) : ∀ w ∈ TS, w.before (axA a) (axS a) = true := h.2.2.2.2.1
theorem Ac.room (h : Ac a B D E own cc nL rm) : axR a = rm := h.2.2.2.2.2.1
theorem Ac.known (h : Ac a B D E own cc nL rm) : va_K D vwCl (tyE E) (axS a) := h.2.2.2.2.2.2.1
theorem Ac.zx (h : Ac a B D E own cc nL rm) : ZX B (axS a) (axS a).heap := h.2.2.2.2.2.2.2.1
theorem Ac.quiet (h : Ac a B D E own cc nL rm) : (axL a).stackTraces = false := h.2.2.2.2.2.2.2.2.1
theorem Ac.unlocked (h : Ac a B D E own cc nL rm) : (axF a).locks = false := h.2.2.2.2.2.2.2.2.2.1
theorem Ac.base (h : Ac a B D E own cc nL rm) : B ≤ (axS a).heap.size := h.2.2.2.2.2.2.2.2.2.2
theorem Ac.fix (h : Ac a B D E own cc nL rm) : CallFix (axP a) (axM a) (axC a) cc nL (axS a) (axA a) TS own := ⟨h.exec, h.bytes, h.maxl, h.cls, h.hts⟩
/-- the same with other words for locals, stack, heap -/
theorem VV.of {P' : Heap → Prop} (q : VV a B P' k n pc lv' st) (hP : ∀ H, P H → P' H) (hs : lvs lv lv') : VV a B P k n pc lv st := fun H locs ls h1 h2 h3 => q H locs ls (hP H h1) h2 (lv_less h3 (lvs_mem hs))
theorem VV.loc (q : VV a B P k n pc lv' st) (hs : lvs lv lv') : VV a B P k n pc lv st := VV.of q (fun _ h => h) hs
theorem VV.widen {k' n' : Nat} (h1 : k ≤ k') (h2 : n ≤ n') (q : VV a B P k' n' pc lv st) : VV a B P k n pc lv st := fun H locs ls a1 a2 a3 => W.widen h1 h2 (q H locs ls a1 a2 a3)
theorem v_iconst (h : Ac a B D E own cc nL rm) {z : Int} (d : decode cc pc = .ok (.iconst z, 1)) (q : VV a B P k n (pc + 1) lv (iI z :: st)) : VV a B P k n pc lv st := fun H locs ls a1 a2 a3 => lv_iconst h.exec h.bytes d rfl (q H locs ls a1 a2 a3)
theorem v_bipush (h : Ac a B D E own cc nL rm) {z : Int} (d : decode cc pc = .ok (.bipush z, 2)) (e : (Int8.ofInt z).toInt32 = Int32.ofInt z) (q : VV a B P k n (pc + 2) lv (iI z :: st)) : VV a B P k n pc lv st := fun H locs ls a1 a2 a3 => lv_bipush h.exec h.bytes d e (q H locs ls a1 a2 a3)
theorem v_sipush (h : Ac a B D E own cc nL rm) {z : Int} (d : decode cc pc = .ok (.sipush z, 3)) (e : (Int16.ofInt z).toInt32 = Int32.ofInt z) (q : VV a B P k n (pc + 3) lv (iI z :: st)) : VV a B P k n pc lv st := fun H locs ls a1 a2 a3 => lv_sipush h.exec h.bytes d e (q H locs ls a1 a2 a3)
theorem v_ldc (h : Ac a B D E own cc nL rm) {z : Int} {index : Nat} (w : Cond.constant own index (Int32.ofInt z) ∈ TS) (d : decode cc pc = .ok (.ldc index, 2)) (q : VV a B P k n (pc + 2) lv (iI z :: st)) : VV a B P k n pc lv st := fun H locs ls a1 a2 a3 => lv_ldc h.exec h.bytes h.cls (h.hts _ w) d (q H locs ls a1 a2 a3)
theorem v_ldcw (h : Ac a B D E own cc nL rm) {z : Int} {index : Nat} (w : Cond.constant own index (Int32.ofInt z) ∈ TS) (d : decode cc pc = .ok (.ldc_w index, 3)) (q : VV a B P k n (pc + 3) lv (iI z :: st)) : VV a B P k n pc lv st := fun H locs ls a1 a2 a3 => lv_ldcw h.exec h.bytes h.cls (h.hts _ w) d (q H locs ls a1 a2 a3)
theorem v_lconst (h : Ac a B D E own cc nL rm) {z : Fin 2} {y : Int} (d : decode cc pc = .ok (.lconst z, 1)) (e : ((z : Nat) : Int) = y) (q : VV a B P k n (pc + 1) lv (iL y :: st)) : VV a B P k n pc lv st := fun H locs ls a1 a2 a3 => lv_lconst h.exec h.bytes d (by rw [← e]; exact Int64.ofInt_eq_ofNat.symm) (q H locs ls a1 a2 a3)
theorem v_iload_n (h : Ac a B D E own cc nL rm) {i : Fin 4} {x : Int32} (d : decode cc pc = .ok (.iload_n i, 1)) (g : lvg lv i = some (.int x)) (q : VV a B P k n (pc + 1) lv (.int x :: st)) : VV a B P k n pc lv st := fun H locs ls a1 a2 a3 => lv_iload_n h.exec h.bytes d rfl (lvg_at a3 g) (q H locs ls a1 a2 a3)
theorem v_iload (h : Ac a B D E own cc nL rm) {i : Nat} {x : Int32} (d : decode cc pc = .ok (.iload i, 2)) (g : lvg lv i = some (.int x)) (q : VV a B P k n (pc + 2) lv (.int x :: st)) : VV a B P k n pc lv st := fun H locs ls a1 a2 a3 => lv_iload h.exec h.bytes d (lvg_at a3 g) (q H locs ls a1 a2 a3)
theorem v_lload_n (h : Ac a B D E own cc nL rm) {i : Fin 4} {x : Int64} (d : decode cc pc = .ok (.lload_n i, 1)) (g : lvg lv i = some (.long x)) (q : VV a B P k n (pc + 1) lv (.long x :: st)) : VV a B P k n pc lv st := fun H locs ls a1 a2 a3 => lv_lload_n h.exec h.bytes d rfl (lvg_at a3 g) (q H locs ls a1 a2 a3)
theorem v_lload (h : Ac a B D E own cc nL rm) {i : Nat} {x : Int64} (d : decode cc pc = .ok (.lload i, 2)) (g : lvg lv i = some (.long x)) (q : VV a B P k n (pc + 2) lv (.long x :: st)) : VV a B P k n pc lv st := fun H locs ls a1 a2 a3 => lv_lload h.exec h.bytes d (lvg_at a3 g) (q H locs ls a1 a2 a3)
theorem v_aload_n (h : Ac a B D E own cc nL rm) {i : Fin 4} {x : Nat} (d : decode cc pc = .ok (.aload_n i, 1)) (g : lvg lv i = some (.ref x)) (q : VV a B P k n (pc + 1) lv (.ref x :: st)) : VV a B P k n pc lv st := fun H locs ls a1 a2 a3 => lv_aload_n h.exec h.bytes d rfl (lvg_at a3 g) (q H locs ls a1 a2 a3)
theorem v_aload (h : Ac a B D E own cc nL rm) {i : Nat} {x : Nat} (d : decode cc pc = .ok (.aload i, 2)) (g : lvg lv i = some (.ref x)) (q : VV a B P k n (pc + 2) lv (.ref x :: st)) : VV a B P k n pc lv st := fun H locs ls a1 a2 a3 => lv_aload h.exec h.bytes d (lvg_at a3 g) (q H locs ls a1 a2 a3)
theorem v_istore_n (h : Ac a B D E own cc nL rm) {i : Fin 4} {x : Int32} (d : decode cc pc = .ok (.istore_n i, 1)) (hn : (i : Nat) < nL) (e : (↑i, Value.int x) :: lvd i lv = lv') (q : VV a B P k n (pc + 1) lv' st) : VV a B P k n pc lv (.int x :: st) := fun H locs ls a1 a2 a3 => lv_istore_n h.exec h.bytes d rfl a3 (by rw [h.maxl]; exact hn) rfl fun ls' h' => q H locs ls' a1 a2 (e ▸ lvd_has h')
theorem v_istore (h : Ac a B D E own cc nL rm) {i : Nat} {x : Int32} (d : decode cc pc = .ok (.istore i, 2)) (hn : i < nL) (e : (i, Value.int x) :: lvd i lv = lv') (q : VV a B P k n (pc + 2) lv' st) : VV a B P k n pc lv (.int x :: st) := fun H locs ls a1 a2 a3 => lv_istore h.exec h.bytes d a3 (by rw [h.maxl]; exact hn) rfl fun ls' h' => q H locs ls' a1 a2 (e ▸ lvd_has h')
theorem v_lstore_n (h : Ac a B D E own cc nL rm) {i : Fin 4} {x : Int64} (d : decode cc pc = .ok (.lstore_n i, 1)) (hn : (i : Nat) + 1 < nL) (e : (↑i, Value.long x) :: lvd2 i lv = lv') (q : VV a B P k n (pc + 1) lv' st) : VV a B P k n pc lv (.long x :: st) := fun H locs ls a1 a2 a3 => lv_lstore_n h.exec h.bytes d rfl a3 (by rw [h.maxl]; exact hn) rfl fun ls' h' => q H locs ls' a1 a2 (e ▸ lvd2_has h')
theorem v_lstore (h : Ac a B D E own cc nL rm) {i : Nat} {x : Int64} (d : decode cc pc = .ok (.lstore i, 2)) (hn : i + 1 < nL) (e : (i, Value.long x) :: lvd2 i lv = lv') (q : VV a B P k n (pc + 2) lv' st) : VV a B P k n pc lv (.long x :: st) := fun H locs ls a1 a2 a3 => lv_lstore h.exec h.bytes d a3 (by rw [h.maxl]; exact hn) rfl fun ls' h' => q H locs ls' a1 a2 (e ▸ lvd2_has h')
theorem v_astore_n (h : Ac a B D E own cc nL rm) {i : Fin 4} {x : Nat} (d : decode cc pc = .ok (.astore_n i, 1)) (hn : (i : Nat) < nL) (e : (↑i, Value.ref x) :: lvd i lv = lv') (q : VV a B P k n (pc + 1) lv' st) : VV a B P k n pc lv (.ref x :: st) := fun H locs ls a1 a2 a3 => lv_astore_n h.exec h.bytes d rfl a3 (by rw [h.maxl]; exact hn) rfl fun ls' h' => q H locs ls' a1 a2 (e ▸ lvd_has h')
theorem v_astore (h : Ac a B D E own cc nL rm) {i : Nat} {x : Nat} (d : decode cc pc = .ok (.astore i, 2)) (hn : i < nL) (e : (i, Value.ref x) :: lvd i lv = lv') (q : VV a B P k n (pc + 2) lv' st) : VV a B P k n pc lv (.ref x :: st) := fun H locs ls a1 a2 a3 => lv_astore h.exec h.bytes d a3 (by rw [h.maxl]; exact hn) rfl fun ls' h' => q H locs ls' a1 a2 (e ▸ lvd_has h')
theorem lvg_place : ∀ {lv : List (Nat × Value)} {i : Nat} {v : Value}, lvg lv i = some v → ∃ j : Nat, lv[j]? = some (i, v) := fun g => by
  obtain ⟨j, hj⟩ := List.getElem?_of_mem (lvg_mem g)
  exact ⟨j, hj⟩
theorem v_iinc (h : Ac a B D E own cc nL rm) {i : Nat} {z x : Int} (d : decode cc pc = .ok (.iinc i z, 3)) (g : lvg lv i = some (iI x)) (hn : i < nL) (e : (i, iI (x + z)) :: lvd i lv = lv') (q : VV a B P k n (pc + 3) lv' st) : VV a B P k n pc lv st := fun H locs ls a1 a2 a3 => by
  obtain ⟨j, hj⟩ := lvg_place g
  exact lv_iinc h.exec h.bytes d a3 (k := j) hj (v := Int32.ofInt (x + z)) (Int32.ofInt_add x z).symm (by rw [h.maxl]; exact hn) rfl fun ls' h' => q H locs ls' a1 a2 (e ▸ lvd_has h')
theorem v_iadd (h : Ac a B D E own cc nL rm) {x y : Int} (d : decode cc pc = .ok (.iadd, 1)) (q : VV a B P k n (pc + 1) lv (iI (x + y) :: st)) : VV a B P k n pc lv (iI y :: iI x :: st) := fun H locs ls a1 a2 a3 => lv_iadd h.exec h.bytes d (by rw [← Int32.ofInt_add]; exact q H locs ls a1 a2 a3)
theorem v_isub (h : Ac a B D E own cc nL rm) {x y : Int} (d : decode cc pc = .ok (.isub, 1)) (q : VV a B P k n (pc + 1) lv (iI (x - y) :: st)) : VV a B P k n pc lv (iI y :: iI x :: st) := fun H locs ls a1 a2 a3 => lv_isub h.exec h.bytes d (by rw [← Int32.ofInt_sub]; exact q H locs ls a1 a2 a3)
theorem v_imul (h : Ac a B D E own cc nL rm) {x y : Int} (d : decode cc pc = .ok (.imul, 1)) (q : VV a B P k n (pc + 1) lv (iI (x * y) :: st)) : VV a B P k n pc lv (iI y :: iI x :: st) := fun H locs ls a1 a2 a3 => lv_imul h.exec h.bytes d (by rw [← Int32.ofInt_mul]; exact q H locs ls a1 a2 a3)
theorem v_ineg (h : Ac a B D E own cc nL rm) {x : Int} (d : decode cc pc = .ok (.ineg, 1)) (q : VV a B P k n (pc + 1) lv (iI (-x) :: st)) : VV a B P k n pc lv (iI x :: st) := fun H locs ls a1 a2 a3 => lv_ineg h.exec h.bytes d (by rw [← Int32.ofInt_neg]; exact q H locs ls a1 a2 a3)
theorem v_iand (h : Ac a B D E own cc nL rm) {x y : Int} (d : decode cc pc = .ok (.iand, 1)) (q : VV a B P k n (pc + 1) lv (iI (bnd x y) :: st)) : VV a B P k n pc lv (iI y :: iI x :: st) := fun H locs ls a1 a2 a3 => lv_iand h.exec h.bytes d (by have := q H locs ls a1 a2 a3; rw [show iI (bnd x y) = Value.int (Int32.ofInt x &&& Int32.ofInt y) from congrArg Value.int (iI_toInt32 _)] at this; exact this)
theorem v_ior (h : Ac a B D E own cc nL rm) {x y : Int} (d : decode cc pc = .ok (.ior, 1)) (q : VV a B P k n (pc + 1) lv (iI (bor x y) :: st)) : VV a B P k n pc lv (iI y :: iI x :: st) := fun H locs ls a1 a2 a3 => lv_ior h.exec h.bytes d (by have := q H locs ls a1 a2 a3; rw [show iI (bor x y) = Value.int (Int32.ofInt x ||| Int32.ofInt y) from congrArg Value.int (iI_toInt32 _)] at this; exact this)
theorem v_ixor (h : Ac a B D E own cc nL rm) {x y : Int} (d : decode cc pc = .ok (.ixor, 1)) (q : VV a B P k n (pc + 1) lv (iI (bxr x y) :: st)) : VV a B P k n pc lv (iI y :: iI x :: st) := fun H locs ls a1 a2 a3 => lv_ixor h.exec h.bytes d (by have := q H locs ls a1 a2 a3; rw [show iI (bxr x y) = Value.int (Int32.ofInt x ^^^ Int32.ofInt y) from congrArg Value.int (iI_toInt32 _)] at this; exact this)
theorem v_ishl (h : Ac a B D E own cc nL rm) {x y : Int} (d : decode cc pc = .ok (.ishl, 1)) (q : VV a B P k n (pc + 1) lv (iI (bsl x y) :: st)) : VV a B P k n pc lv (iI y :: iI x :: st) := fun H locs ls a1 a2 a3 => lv_ishl h.exec h.bytes d (by have := q H locs ls a1 a2 a3; rw [show iI (bsl x y) = Value.int (Int32.ofInt x <<< (Int32.ofInt y &&& 31)) from congrArg Value.int (iI_toInt32 _)] at this; exact this)
theorem v_ishr (h : Ac a B D E own cc nL rm) {x y : Int} (d : decode cc pc = .ok (.ishr, 1)) (q : VV a B P k n (pc + 1) lv (iI (bsr x y) :: st)) : VV a B P k n pc lv (iI y :: iI x :: st) := fun H locs ls a1 a2 a3 => lv_ishr h.exec h.bytes d (by have := q H locs ls a1 a2 a3; rw [show iI (bsr x y) = Value.int (Int32.ofInt x >>> (Int32.ofInt y &&& 31)) from congrArg Value.int (iI_toInt32 _)] at this; exact this)
theorem v_iushr (h : Ac a B D E own cc nL rm) {x y : Int} (d : decode cc pc = .ok (.iushr, 1)) (q : VV a B P k n (pc + 1) lv (iI (bus x y) :: st)) : VV a B P k n pc lv (iI y :: iI x :: st) := fun H locs ls a1 a2 a3 => lv_iushr (v := Int32.ofInt (bus x y)) h.exec h.bytes d (iI_toInt32 _).symm (q H locs ls a1 a2 a3)
theorem v_idiv (h : Ac a B D E own cc nL rm) {x y : Int} (d : decode cc pc = .ok (.idiv, 1)) (hx : 0 ≤ x ∧ InR x) (hy : 0 < y ∧ InR y) (q : VV a B P k n (pc + 1) lv (iI (x / y) :: st)) : VV a B P k n pc lv (iI y :: iI x :: st) := fun H locs ls a1 a2 a3 => lv_idiv h.exec h.bytes d (fun z => by rw [← iI_0, iI_inj hy.2 (by omega)] at z; omega) (by rw [iI_div hx hy]; exact q H locs ls a1 a2 a3)
theorem v_irem (h : Ac a B D E own cc nL rm) {x y : Int} (d : decode cc pc = .ok (.irem, 1)) (hx : 0 ≤ x ∧ InR x) (hy : 0 < y ∧ InR y) (q : VV a B P k n (pc + 1) lv (iI (x % y) :: st)) : VV a B P k n pc lv (iI y :: iI x :: st) := fun H locs ls a1 a2 a3 => lv_irem h.exec h.bytes d (fun z => by rw [← iI_0, iI_inj hy.2 (by omega)] at z; omega) (by rw [iI_rem hx hy]; exact q H locs ls a1 a2 a3)
theorem v_i2l (h : Ac a B D E own cc nL rm) {x : Int} (d : decode cc pc = .ok (.i2l, 1)) (hx : InR x) (q : VV a B P k n (pc + 1) lv (iL x :: st)) : VV a B P k n pc lv (iI x :: st) := fun H locs ls a1 a2 a3 => lv_i2l h.exec h.bytes d (by rw [← Int64.ofInt_int32ToInt, iI_toInt hx]) (q H locs ls a1 a2 a3)
theorem v_l2i (h : Ac a B D E own cc nL rm) {x : Int} (d : decode cc pc = .ok (.l2i, 1)) (hx : InL x) (q : VV a B P k n (pc + 1) lv (iI x :: st)) : VV a B P k n pc lv (iL x :: st) := fun H locs ls a1 a2 a3 => lv_l2i h.exec h.bytes d (by rw [← Int32.ofInt_int64ToInt, iL_toInt hx]) (q H locs ls a1 a2 a3)
theorem v_ladd (h : Ac a B D E own cc nL rm) {x y : Int} (d : decode cc pc = .ok (.ladd, 1)) (q : VV a B P k n (pc + 1) lv (iL (x + y) :: st)) : VV a B P k n pc lv (iL y :: iL x :: st) := fun H locs ls a1 a2 a3 => lv_ladd h.exec h.bytes d (by rw [← Int64.ofInt_add]; exact q H locs ls a1 a2 a3)
theorem v_lmul (h : Ac a B D E own cc nL rm) {x y : Int} (d : decode cc pc = .ok (.lmul, 1)) (q : VV a B P k n (pc + 1) lv (iL (x * y) :: st)) : VV a B P k n pc lv (iL y :: iL x :: st) := fun H locs ls a1 a2 a3 => lv_lmul h.exec h.bytes d (by rw [← Int64.ofInt_mul]; exact q H locs ls a1 a2 a3)
theorem v_ldiv (h : Ac a B D E own cc nL rm) {x y : Int} (d : decode cc pc = .ok (.ldiv, 1)) (hx : 0 ≤ x ∧ InL x) (hy : 0 < y ∧ InL y) (q : VV a B P k n (pc + 1) lv (iL (x / y) :: st)) : VV a B P k n pc lv (iL y :: iL x :: st) := fun H locs ls a1 a2 a3 => lv_ldiv h.exec h.bytes d (fun z => by have := congrArg Int64.toInt z; rw [iL_toInt hy.2] at this; have e : (0 : Int64).toInt = 0 := rfl; omega) (by rw [iL_div hx hy]; exact q H locs ls a1 a2 a3)
theorem v_lrem (h : Ac a B D E own cc nL rm) {x y : Int} (d : decode cc pc = .ok (.lrem, 1)) (hx : 0 ≤ x ∧ InL x) (hy : 0 < y ∧ InL y) (q : VV a B P k n (pc + 1) lv (iL (x % y) :: st)) : VV a B P k n pc lv (iL y :: iL x :: st) := fun H locs ls a1 a2 a3 => lv_lrem h.exec h.bytes d (fun z => by have := congrArg Int64.toInt z; rw [iL_toInt hy.2] at this; have e : (0 : Int64).toInt = 0 := rfl; omega) (by rw [iL_rem hx hy]; exact q H locs ls a1 a2 a3)
theorem lcmp_of {x y : Int} (hx : InL x) (hy : InL y) : lg_cmp (Int64.ofInt x) (Int64.ofInt y) = Int32.ofInt (if x < y then -1 else if x = y then 0 else 1) := by
  unfold lg_cmp
  have e1 : (Int64.ofInt x < Int64.ofInt y) ↔ x < y := by rw [Int64.lt_iff_toInt_lt, iL_toInt hx, iL_toInt hy]
  have e2 : (Int64.ofInt y < Int64.ofInt x) ↔ y < x := by rw [Int64.lt_iff_toInt_lt, iL_toInt hx, iL_toInt hy]
  have e3 : (Int64.ofInt x = Int64.ofInt y) ↔ x = y := by rw [← Int64.toInt_inj, iL_toInt hx, iL_toInt hy]
  by_cases h1 : x < y
  · have h2 : ¬ y < x := by omega
    have h3 : ¬ x = y := by omega
    simp only [e1, e2, e3, h1, h2, h3, if_true, if_false]; rfl
  · by_cases h2 : x = y
    · have h3 : ¬ y < x := by omega
      simp only [e1, e2, e3, h1, h3, if_false]; rw [if_pos h2, if_pos h2]; rfl
    · have h3 : y < x := by omega
      simp only [e1, e2, e3, h1, h2, h3, if_true, if_false]; rfl
theorem v_lcmp (h : Ac a B D E own cc nL rm) {x y : Int} (d : decode cc pc = .ok (.lcmp, 1)) (hx : InL x) (hy : InL y) (q : VV a B P k n (pc + 1) lv (iI (if x < y then -1 else if x = y then 0 else 1) :: st)) : VV a B P k n pc lv (iL y :: iL x :: st) := fun H locs ls a1 a2 a3 => W.lcmp h.exec h.bytes d (by rw [lcmp_of hx hy]; exact q H locs ls a1 a2 a3)
theorem v_dup (h : Ac a B D E own cc nL rm) {v : Value} (d : decode cc pc = .ok (.dup, 1)) (hv : v.category = 1) (q : VV a B P k n (pc + 1) lv (v :: v :: st)) : VV a B P k n pc lv (v :: st) := fun H locs ls a1 a2 a3 => lv_dup h.exec h.bytes d hv (q H locs ls a1 a2 a3)
theorem v_pop (h : Ac a B D E own cc nL rm) {v : Value} (d : decode cc pc = .ok (.pop, 1)) (hv : v.category = 1) (q : VV a B P k n (pc + 1) lv st) : VV a B P k n pc lv (v :: st) := fun H locs ls a1 a2 a3 => lv_pop h.exec h.bytes d hv (q H locs ls a1 a2 a3)
theorem v_dup2 (h : Ac a B D E own cc nL rm) {v w : Value} (d : decode cc pc = .ok (.dup2, 1)) (hv : v.category = 1) (hw : w.category = 1) (q : VV a B P k n (pc + 1) lv (v :: w :: v :: w :: st)) : VV a B P k n pc lv (v :: w :: st) := fun H locs ls a1 a2 a3 => lv_dup2_11 h.exec h.bytes d hv hw (q H locs ls a1 a2 a3)
theorem v_goto (h : Ac a B D E own cc nL rm) {off : Int} (tgt : Nat) (d : decode cc pc = .ok (.goto off, 3)) (e : (pc : Int) + off = (tgt : Int)) (q : VV a B P k n tgt lv st) : VV a B P k n pc lv st := fun H locs ls a1 a2 a3 => lv_goto h.exec h.bytes d e (q H locs ls a1 a2 a3)
theorem v_if_eq (h : Ac a B D E own cc nL rm) {x off : Int} (tgt : Nat) (d : decode cc pc = .ok (.ifCond .eq off, 3)) (e : (pc : Int) + off = (tgt : Int)) (hx : InR x) (q1 : x = 0 → VV a B P k n tgt lv st) (q2 : x ≠ 0 → VV a B P k n (pc + 3) lv st) : VV a B P k n pc lv (iI x :: st) := fun H locs ls a1 a2 a3 => lv_if_eq h.exec h.bytes d e (fun z => q1 (by rwa [← iI_0, iI_inj hx (by omega)] at z) H locs ls a1 a2 a3) (fun z => q2 (fun c => z (by rw [c]; rfl)) H locs ls a1 a2 a3)
theorem v_if_ne (h : Ac a B D E own cc nL rm) {x off : Int} (tgt : Nat) (d : decode cc pc = .ok (.ifCond .ne off, 3)) (e : (pc : Int) + off = (tgt : Int)) (hx : InR x) (q1 : x ≠ 0 → VV a B P k n tgt lv st) (q2 : x = 0 → VV a B P k n (pc + 3) lv st) : VV a B P k n pc lv (iI x :: st) := fun H locs ls a1 a2 a3 => lv_if_ne h.exec h.bytes d e (fun z => q1 (fun c => z (by rw [c]; rfl)) H locs ls a1 a2 a3) (fun z => q2 (by rwa [← iI_0, iI_inj hx (by omega)] at z) H locs ls a1 a2 a3)
theorem v_if_lt (h : Ac a B D E own cc nL rm) {x off : Int} (tgt : Nat) (d : decode cc pc = .ok (.ifCond .lt off, 3)) (e : (pc : Int) + off = (tgt : Int)) (hx : InR x) (q1 : x < 0 → VV a B P k n tgt lv st) (q2 : 0 ≤ x → VV a B P k n (pc + 3) lv st) : VV a B P k n pc lv (iI x :: st) := fun H locs ls a1 a2 a3 => lv_if_lt h.exec h.bytes d e (fun z => q1 (by rwa [← iI_0, iI_lt hx (by omega)] at z) H locs ls a1 a2 a3) (fun z => q2 (by rw [← iI_0, iI_lt hx (by omega)] at z; omega) H locs ls a1 a2 a3)
theorem v_if_ge (h : Ac a B D E own cc nL rm) {x off : Int} (tgt : Nat) (d : decode cc pc = .ok (.ifCond .ge off, 3)) (e : (pc : Int) + off = (tgt : Int)) (hx : InR x) (q1 : 0 ≤ x → VV a B P k n tgt lv st) (q2 : x < 0 → VV a B P k n (pc + 3) lv st) : VV a B P k n pc lv (iI x :: st) := fun H locs ls a1 a2 a3 => lv_if_ge h.exec h.bytes d e (fun z => q1 (by rwa [← iI_0, iI_le (by omega) hx] at z) H locs ls a1 a2 a3) (fun z => q2 (by rw [← iI_0, iI_le (by omega) hx] at z; omega) H locs ls a1 a2 a3)
theorem v_if_gt (h : Ac a B D E own cc nL rm) {x off : Int} (tgt : Nat) (d : decode cc pc = .ok (.ifCond .gt off, 3)) (e : (pc : Int) + off = (tgt : Int)) (hx : InR x) (q1 : 0 < x → VV a B P k n tgt lv st) (q2 : x ≤ 0 → VV a B P k n (pc + 3) lv st) : VV a B P k n pc lv (iI x :: st) := fun H locs ls a1 a2 a3 => lv_if_gt h.exec h.bytes d e (fun z => q1 (by rwa [← iI_0, iI_lt (by omega) hx] at z) H locs ls a1 a2 a3) (fun z => q2 (by rw [← iI_0, iI_lt (by omega) hx] at z; omega) H locs ls a1 a2 a3)
theorem v_if_le (h : Ac a B D E own cc nL rm) {x off : Int} (tgt : Nat) (d : decode cc pc = .ok (.ifCond .le off, 3)) (e : (pc : Int) + off = (tgt : Int)) (hx : InR x) (q1 : x ≤ 0 → VV a B P k n tgt lv st) (q2 : 0 < x → VV a B P k n (pc + 3) lv st) : VV a B P k n pc lv (iI x :: st) := fun H locs ls a1 a2 a3 => lv_if_le h.exec h.bytes d e (fun z => q1 (by rwa [← iI_0, iI_le hx (by omega)] at z) H locs ls a1 a2 a3) (fun z => q2 (by rw [← iI_0, iI_le hx (by omega)] at z; omega) H locs ls a1 a2 a3)
theorem v_icmp_eq (h : Ac a B D E own cc nL rm) {x y off : Int} (tgt : Nat) (d : decode cc pc = .ok (.if_icmp .eq off, 3)) (e : (pc : Int) + off = (tgt : Int)) (hx : InR x ∧ InR y) (q1 : x = y → VV a B P k n tgt lv st) (q2 : x ≠ y → VV a B P k n (pc + 3) lv st) : VV a B P k n pc lv (iI y :: iI x :: st) := fun H locs ls a1 a2 a3 => lv_icmp_eq h.exec h.bytes d e (fun z => q1 (by rwa [iI_inj hx.1 hx.2] at z) H locs ls a1 a2 a3) (fun z => q2 (fun c => z (by rw [c])) H locs ls a1 a2 a3)
theorem v_icmp_ne (h : Ac a B D E own cc nL rm) {x y off : Int} (tgt : Nat) (d : decode cc pc = .ok (.if_icmp .ne off, 3)) (e : (pc : Int) + off = (tgt : Int)) (hx : InR x ∧ InR y) (q1 : x ≠ y → VV a B P k n tgt lv st) (q2 : x = y → VV a B P k n (pc + 3) lv st) : VV a B P k n pc lv (iI y :: iI x :: st) := fun H locs ls a1 a2 a3 => lv_icmp_ne h.exec h.bytes d e (fun z => q1 (fun c => z (by rw [c])) H locs ls a1 a2 a3) (fun z => q2 (by rwa [iI_inj hx.1 hx.2] at z) H locs ls a1 a2 a3)
theorem v_icmp_lt (h : Ac a B D E own cc nL rm) {x y off : Int} (tgt : Nat) (d : decode cc pc = .ok (.if_icmp .lt off, 3)) (e : (pc : Int) + off = (tgt : Int)) (hx : InR x ∧ InR y) (q1 : x < y → VV a B P k n tgt lv st) (q2 : y ≤ x → VV a B P k n (pc + 3) lv st) : VV a B P k n pc lv (iI y :: iI x :: st) := fun H locs ls a1 a2 a3 => lv_icmp_lt h.exec h.bytes d e (fun z => q1 (by rwa [iI_lt hx.1 hx.2] at z) H locs ls a1 a2 a3) (fun z => q2 (by rw [iI_lt hx.1 hx.2] at z; omega) H locs ls a1 a2 a3)
theorem v_icmp_ge (h : Ac a B D E own cc nL rm) {x y off : Int} (tgt : Nat) (d : decode cc pc = .ok (.if_icmp .ge off, 3)) (e : (pc : Int) + off = (tgt : Int)) (hx : InR x ∧ InR y) (q1 : y ≤ x → VV a B P k n tgt lv st) (q2 : x < y → VV a B P k n (pc + 3) lv st) : VV a B P k n pc lv (iI y :: iI x :: st) := fun H locs ls a1 a2 a3 => lv_icmp_ge h.exec h.bytes d e (fun z => q1 (by rwa [iI_le hx.2 hx.1] at z) H locs ls a1 a2 a3) (fun z => q2 (by rw [iI_le hx.2 hx.1] at z; omega) H locs ls a1 a2 a3)
theorem v_icmp_gt (h : Ac a B D E own cc nL rm) {x y off : Int} (tgt : Nat) (d : decode cc pc = .ok (.if_icmp .gt off, 3)) (e : (pc : Int) + off = (tgt : Int)) (hx : InR x ∧ InR y) (q1 : y < x → VV a B P k n tgt lv st) (q2 : x ≤ y → VV a B P k n (pc + 3) lv st) : VV a B P k n pc lv (iI y :: iI x :: st) := fun H locs ls a1 a2 a3 => lv_icmp_gt h.exec h.bytes d e (fun z => q1 (by rwa [iI_lt hx.2 hx.1] at z) H locs ls a1 a2 a3) (fun z => q2 (by rw [iI_lt hx.2 hx.1] at z; omega) H locs ls a1 a2 a3)
theorem v_icmp_le (h : Ac a B D E own cc nL rm) {x y off : Int} (tgt : Nat) (d : decode cc pc = .ok (.if_icmp .le off, 3)) (e : (pc : Int) + off = (tgt : Int)) (hx : InR x ∧ InR y) (q1 : x ≤ y → VV a B P k n tgt lv st) (q2 : y < x → VV a B P k n (pc + 3) lv st) : VV a B P k n pc lv (iI y :: iI x :: st) := fun H locs ls a1 a2 a3 => lv_icmp_le h.exec h.bytes d e (fun z => q1 (by rwa [iI_le hx.1 hx.2] at z) H locs ls a1 a2 a3) (fun z => q2 (by rw [iI_le hx.1 hx.2] at z; omega) H locs ls a1 a2 a3)
theorem v_switchOut (h : Ac a B D E own cc nL rm) {x dflt lo hi : Int} {offs : Array Int} {len : Nat} (tgt : Nat) (d : decode cc pc = .ok (.tableswitch dflt lo hi offs, len)) (hx : InR x) (c : x < lo ∨ hi < x) (e : (pc : Int) + dflt = (tgt : Int)) (q : VV a B P k n tgt lv st) : VV a B P k n pc lv (iI x :: st) := fun H locs ls a1 a2 a3 => lv_tableOut h.exec h.bytes d (by rw [iI_toInt hx]; exact c) e (q H locs ls a1 a2 a3)
theorem v_switchIn (h : Ac a B D E own cc nL rm) {x dflt lo hi off : Int} {offs : Array Int} {len : Nat} (tgt : Nat) (d : decode cc pc = .ok (.tableswitch dflt lo hi offs, len)) (hx : InR x) (c1 : lo ≤ x) (c2 : x ≤ hi) (o : offs[(x - lo).toNat]? = some off) (e : (pc : Int) + off = (tgt : Int)) (q : VV a B P k n tgt lv st) : VV a B P k n pc lv (iI x :: st) := fun H locs ls a1 a2 a3 => lv_tableIn h.exec h.bytes d (by rw [iI_toInt hx]; omega) (by rw [iI_toInt hx]; omega) (by rw [iI_toInt hx]; exact o) e (q H locs ls a1 a2 a3)
end R1
