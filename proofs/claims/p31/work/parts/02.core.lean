/-! ===== the pure memory and its picture: objects are numbered from B on in the order in which they are made ===== -/
abbrev Mm : Type := Nat → Nat → Int
/-- object k, place j becomes v -/
def mup (μ : Mm) (k j : Nat) (v : Int) : Mm := fun a b => if a = k ∧ b = j then v else μ a b
theorem mup_eq (μ : Mm) (k j : Nat) (v : Int) : mup μ k j v k j = v := if_pos ⟨rfl, rfl⟩
theorem mup_ne {μ : Mm} {k j a b : Nat} {v : Int} (h : ¬ (a = k ∧ b = j)) : mup μ k j v a b = μ a b := if_neg h
theorem mup_nk {μ : Mm} {k j a b : Nat} {v : Int} (h : a ≠ k) : mup μ k j v a b = μ a b := if_neg (fun z => h z.1)
theorem mup_row (μ : Mm) (k j : Nat) (v : Int) (b : Nat) : mup μ k j v k b = if b = j then v else μ k b := by
  unfold mup
  by_cases h : b = j <;> simp [h]
abbrev iI (z : Int) : Value := .int (Int32.ofInt z)
abbrev iL (z : Int) : Value := .long (Int64.ofInt z)
abbrev InR (z : Int) : Prop := -2147483648 ≤ z ∧ z < 2147483648
abbrev InL (z : Int) : Prop := -9223372036854775808 ≤ z ∧ z < 9223372036854775808
/-- an object: its kind's number, its fields (a reference, or an int at that place); an array: what of, how long -/
abbrev Shp : Type := (Nat × List (Option Nat)) ⊕ (Nat × Nat)
def shRow (k n : Nat) : List Shp := [.inl (7, [some (k + 1)]), .inr (0, n)]
def shLine (k : Nat) : List Shp := [.inl (3, [some (k + 1), none]), .inr (0, 12)]
def shLevels (k : Nat) : List Shp := .inl (2, [some (k + 1), some (k + 3), some (k + 5)]) :: (shLine (k + 1) ++ (shLine (k + 3) ++ shLine (k + 5)))
def shProg (g : Nat) : List Shp := .inl (6, [some (g + 1), some (g + 3), some (g + 5), none, some 1, none, none]) :: (shRow (g + 1) 12 ++ (shRow (g + 3) 12 ++ shRow (g + 5) 12))
def shCourse (g : Nat) : List Shp := .inl (0, [none, some (g + 1), some 1]) :: shRow (g + 1) 2304
def shLocks (g p : Nat) : List Shp := .inl (4, [some 1, some p, some (g + 1), some (g + 3), some (g + 5)]) :: (shRow (g + 1) 3 ++ (shRow (g + 3) 12 ++ shRow (g + 5) 12))
def shWorker (w : Nat) : List Shp :=
  .inl (10, [some (w + 12), some (w + 19), some (w + 1), some 1, some 27, some (w + 3), some (w + 10), some (w + 22), none, none, none, none, none, none, none, none, none, none]) ::
  (shRow (w + 1) 12 ++ (shLevels (w + 3) ++ (shRow (w + 10) 12 ++ (shProg (w + 12) ++ (shCourse (w + 19) ++ shLocks (w + 22) (w + 12))))))
/-- the ints of the row of the deadlines' keys stand at 2 (its Row is 128), those of comes at 3 (its Row is 129) -/
def shJobs : List Shp := .inl (1, [some 129, some 4, some 6, some 8, some 10, some 12, some 14, some 16, some 18, none, some 128]) :: .inr (0, 12) :: .inr (0, 12) ::
  (shRow 4 12 ++ (shRow 6 12 ++ (shRow 8 12 ++ (shRow 10 12 ++ (shRow 12 12 ++ (shRow 14 36 ++ (shRow 16 36 ++ shRow 18 36)))))))
def shTasks : List Shp := .inl (8, [some 21, some 23, some 25, none]) :: (shRow 21 5 ++ (shRow 23 5 ++ shRow 25 5))
def shWays : List Shp := [.inl (9, [none, none, none, none, none])]
def shPair : List Shp := .inl (5, [some 116, some 1]) :: shProg 116
def shHouse : List Shp := .inl (11, [some 1, some 20, some 27, some 28, some 57, some 86, some 115, none]) :: (shJobs ++ (shTasks ++ (shWays ++ (shWorker 28 ++ (shWorker 57 ++ (shWorker 86 ++ shPair))))))
/-- the law's arrays: r, j, log, m, t -/
def shLaw : List Shp := [.inr (0, 1), .inr (0, 720), .inr (0, 3000), .inr (0, 8), .inr (0, 20)]
def shapes : List Shp := shHouse ++ (shLaw ++ [.inl (7, [some 2]), .inl (7, [some 3])])
/-- the place of the object with the number k behind the first one: objects lie in the order in which they are made -/
def ph (k : Nat) : Nat := if k = 129 then 7 else if k = 2 then 14 else if k = 128 then 13 else if k < 8 then k + 5 else if k < 123 then k + 7 else if k < 128 then k - 123 else k
def pl (B k : Nat) : Nat := B + ph k
theorem ph_inj {a b : Nat} (h : ph a = ph b) : a = b := by
  unfold ph at h
  repeat' split at h
  all_goals omega
theorem pl_inj {B a b : Nat} (h : pl B a = pl B b) : a = b := ph_inj (Nat.add_left_cancel h)
theorem pl_ge (B k : Nat) : B ≤ pl B k := Nat.le_add_right _ _
/-- fields of an object; A: the addresses -/
def fvs (A : Nat → Nat) (μ : Nat → Int) : Nat → List (Option Nat) → List Value
  | _, [] => []
  | j, some r :: t => .ref (A r) :: fvs A μ (j + 1) t
  | j, none :: t => iI (μ j) :: fvs A μ (j + 1) t
def cel (A : Nat → Nat) (E : Nat → ClassId) (μ : Nat → Int) : Shp → va_E
  | .inl q => .inr (q.1, fvs A μ 0 q.2)
  | .inr (0, n) => .inl (E 0, n, .inl (fun j => Int32.ofInt (μ j)))
  | .inr (1, n) => .inl (E 1, n, .inl (fun j => Int32.ofInt (μ j)))
  | .inr (2, n) => .inl (E 2, n, .inr (.inl (fun j => Int64.ofInt (μ j))))
  | .inr (_ + 3, n) => .inl (E 3, n, .inr (.inr (.inr (.inl (fun j => UInt64.ofNat (μ j).toNat)))))
def wsF (B : Nat) (E : Nat → ClassId) (μ : Mm) : Nat → List Shp → va_W
  | _, [] => []
  | k, s :: t => (pl B k, cel (pl B) E (μ k) s) :: wsF B E μ (k + 1) t
abbrev wsm (B : Nat) (E : Nat → ClassId) (μ : Mm) : va_W := wsF B E μ 0 shapes
theorem wsF_get (B : Nat) (E : Nat → ClassId) (μ : Mm) : ∀ (l : List Shp) (k i : Nat), (wsF B E μ k l)[i]? = (l[i]?).map (fun s => (pl B (k + i), cel (pl B) E (μ (k + i)) s)) := by
  intro l
  induction l with
  | nil => intro k i; simp [wsF]
  | cons s t ih =>
    intro k i
    cases i with
    | zero => simp [wsF]
    | succ i =>
      simp only [wsF, List.getElem?_cons_succ, ih]
      rw [show k + 1 + i = k + (i + 1) by omega]
theorem wsm_get {B : Nat} {E : Nat → ClassId} {μ : Mm} {k : Nat} {s : Shp} (h : shapes[k]? = some s) : (wsm B E μ)[k]? = some (pl B k, cel (pl B) E (μ k) s) := by
  rw [wsF_get, h, Nat.zero_add]; rfl
theorem wsF_len (B : Nat) (E : Nat → ClassId) (μ : Mm) : ∀ (l : List Shp) (k : Nat), (wsF B E μ k l).length = l.length := by
  intro l
  induction l with
  | nil => intro k; rfl
  | cons s t ih => intro k; simp [wsF, ih]
theorem wsm_set {B : Nat} {E : Nat → ClassId} {μ : Mm} {k j : Nat} {v : Int} {s : Shp} {e : va_E} (h : shapes[k]? = some s) (he : e = cel (pl B) E (mup μ k j v k) s) : (wsm B E μ).set k (pl B k, e) = wsm B E (mup μ k j v) := by
  subst he
  apply List.ext_getElem?
  intro i
  have hlt : k < (wsm B E μ).length := by
    rw [wsF_len]; exact (List.getElem?_eq_some_iff.mp h).1
  by_cases hik : i = k
  · subst hik
    rw [List.getElem?_set_self hlt, wsm_get h]
  · rw [List.getElem?_set_ne (Ne.symm hik), wsF_get, wsF_get]
    cases shapes[i]? with
    | none => rfl
    | some z =>
      have e1 : mup μ k j v (0 + i) = μ (0 + i) := by
        funext b
        exact mup_nk (by omega)
      simp only [Option.map_some, e1]
theorem wsm_apart (B : Nat) (E : Nat → ClassId) (μ : Mm) : va_D (fun q : Nat => B ≤ q) (wsm B E μ) := by
  refine ⟨fun i j p q hp hq hpq => ?_, fun k q hq => ?_⟩
  · rw [wsF_get] at hp hq
    obtain ⟨a, -, rfl⟩ := Option.map_eq_some_iff.mp hp
    obtain ⟨b, -, rfl⟩ := Option.map_eq_some_iff.mp hq
    have e := pl_inj hpq
    omega
  · rw [wsF_get] at hq
    obtain ⟨a, -, rfl⟩ := Option.map_eq_some_iff.mp hq
    exact pl_ge _ _
theorem fvs_set {B : Nat → Nat} {μ : Nat → Int} {j : Nat} {v : Int} : ∀ (fs : List (Option Nat)) (a k : Nat), j = a + k → fs[k]? = some none → (fvs B μ a fs).set k (iI v) = fvs B (fun b => if b = j then v else μ b) a fs := by
  have key : ∀ (fs : List (Option Nat)) (a : Nat), j < a → fvs B (fun b => if b = j then v else μ b) a fs = fvs B μ a fs := by
    intro fs
    induction fs with
    | nil => intro a _; rfl
    | cons f t ih =>
      intro a ha
      cases f with
      | none => simp only [fvs]; rw [ih (a + 1) (by omega), if_neg (by omega)]
      | some r => simp only [fvs]; rw [ih (a + 1) (by omega)]
  intro fs
  induction fs with
  | nil => intro a k _ h; simp at h
  | cons f t ih =>
    intro a k hj h
    cases k with
    | zero =>
      simp only [List.getElem?_cons_zero, Option.some.injEq] at h
      subst h
      simp only [fvs, List.set_cons_zero]
      rw [key t (a + 1) (by omega), if_pos (by omega)]
    | succ k =>
      simp only [List.getElem?_cons_succ] at h
      have := ih (a + 1) k (by omega) h
      cases f with
      | none => simp only [fvs, List.set_cons_succ]; rw [this, if_neg (by omega)]
      | some r => simp only [fvs, List.set_cons_succ]; rw [this]
theorem fvs_len (B : Nat → Nat) (μ : Nat → Int) : ∀ (fs : List (Option Nat)) (a : Nat), (fvs B μ a fs).length = fs.length := by
  intro fs
  induction fs with
  | nil => intro a; rfl
  | cons f t ih => intro a; cases f <;> simp [fvs, ih]
/-! ===== classes' words ===== -/
/-- the words of the tables that stay true -/
def TS : List Cond := lw_tbl.filter goodWord
theorem ts_all : TS.all goodWord = true := List.all_eq_true.mpr fun _ h => (List.mem_filter.mp h).2
theorem ts_self : GoodIn TS TS := goodIn_sub (fun _ h => h) ts_all
theorem ts_sub : ∀ w ∈ TS, w ∈ lw_tbl := fun _ h => (List.mem_filter.mp h).1
theorem tsm {w : Cond} (i : Nat) (h : lw_tbl[i]? = some w) (g : goodWord w = true) : w ∈ TS := List.mem_filter.mpr ⟨List.mem_of_getElem? h, g⟩
theorem tsl {ws : List Cond} (ps : List Nat) (h : ws = ps.filterMap (fun i => lw_tbl[i]?)) (g : ws.all goodWord = true) : ∀ w ∈ ws, w ∈ TS := by
  intro w hw
  have hg := List.all_eq_true.mp g w hw
  rw [h] at hw
  obtain ⟨i, -, hi⟩ := List.mem_filterMap.mp hw
  exact tsm i hi hg
theorem lyX0 : ∀ w ∈ u_ws RX0 TX0 3, w ∈ TS := tsl [272, 274, 276] (by decide +kernel) (by decide +kernel)
theorem lyX1 : ∀ w ∈ u_ws RX1 TX1 11, w ∈ TS := tsl [110, 112, 114, 118, 120, 122, 124, 126, 128, 130, 116] (by decide +kernel) (by decide +kernel)
theorem lyX2 : ∀ w ∈ u_ws RX2 TX2 3, w ∈ TS := tsl [217, 219, 221] (by decide +kernel) (by decide +kernel)
theorem lyX3 : ∀ w ∈ u_ws RX3 TX3 2, w ∈ TS := tsl [209, 211] (by decide +kernel) (by decide +kernel)
theorem lyX4 : ∀ w ∈ u_ws RX4 TX4 5, w ∈ TS := tsl [292, 294, 296, 298, 300] (by decide +kernel) (by decide +kernel)
theorem lyX5 : ∀ w ∈ u_ws RX5 TX5 2, w ∈ TS := tsl [372, 374] (by decide +kernel) (by decide +kernel)
theorem lyX6 : ∀ w ∈ u_ws RX6 TX6 7, w ∈ TS := tsl [244, 246, 248, 250, 252, 254, 256] (by decide +kernel) (by decide +kernel)
theorem lyX7 : ∀ w ∈ u_ws RX7 TX7 1, w ∈ TS := tsl [76] (by decide +kernel) (by decide +kernel)
theorem lyX8 : ∀ w ∈ u_ws RX8 TX8 4, w ∈ TS := tsl [149, 151, 153, 155] (by decide +kernel) (by decide +kernel)
theorem lyX9 : ∀ w ∈ u_ws RX9 TX9 5, w ∈ TS := tsl [176, 178, 180, 182, 184] (by decide +kernel) (by decide +kernel)
theorem lyX10 : ∀ w ∈ u_ws RX10 TX10 18, w ∈ TS := tsl [324, 326, 328, 330, 332, 334, 336, 338, 340, 342, 344, 346, 348, 350, 352, 354, 356, 358] (by decide +kernel) (by decide +kernel)
theorem lyX11 : ∀ w ∈ u_ws RX11 TX11 8, w ∈ TS := tsl [385, 387, 389, 391, 393, 395, 397, 399] (by decide +kernel) (by decide +kernel)
def CI (ci : Nat) (C : String) (T : u_T) (N : Nat) (ty : Nat → FieldType) : Prop := vwCl[ci]? = some (C, T, N) ∧ (∀ w ∈ u_ws C T N, w ∈ TS) ∧ (∀ k, k < N → parseFieldDescriptor (T k).2.2.1 = some (ty k)) ∧ ∀ a, a < N → ∀ b, b < N → a ≠ b → (T a).2.1 ≠ (T b).2.1
theorem ci0 : CI 0 RX0 TX0 3 tyX0 := ⟨rfl, lyX0, tyX0_ok, nmX0⟩
theorem ci1 : CI 1 RX1 TX1 11 tyX1 := ⟨rfl, lyX1, tyX1_ok, nmX1⟩
theorem ci2 : CI 2 RX2 TX2 3 tyX2 := ⟨rfl, lyX2, tyX2_ok, nmX2⟩
theorem ci3 : CI 3 RX3 TX3 2 tyX3 := ⟨rfl, lyX3, tyX3_ok, nmX3⟩
theorem ci4 : CI 4 RX4 TX4 5 tyX4 := ⟨rfl, lyX4, tyX4_ok, nmX4⟩
theorem ci5 : CI 5 RX5 TX5 2 tyX5 := ⟨rfl, lyX5, tyX5_ok, nmX5⟩
theorem ci6 : CI 6 RX6 TX6 7 tyX6 := ⟨rfl, lyX6, tyX6_ok, nmX6⟩
theorem ci7 : CI 7 RX7 TX7 1 tyX7 := ⟨rfl, lyX7, tyX7_ok, nmX7⟩
theorem ci8 : CI 8 RX8 TX8 4 tyX8 := ⟨rfl, lyX8, tyX8_ok, nmX8⟩
theorem ci9 : CI 9 RX9 TX9 5 tyX9 := ⟨rfl, lyX9, tyX9_ok, nmX9⟩
theorem ci10 : CI 10 RX10 TX10 18 tyX10 := ⟨rfl, lyX10, tyX10_ok, nmX10⟩
theorem ci11 : CI 11 RX11 TX11 8 tyX11 := ⟨rfl, lyX11, tyX11_ok, nmX11⟩
abbrev tyE (E : Nat → ClassId) : List (ClassId × FieldType) := [(E 0, .int)]
/-! ===== what the words say of methods, of throws ===== -/
def xcl : List (String × String) := [("java/lang/IllegalArgumentException", "java/lang/IllegalArgumentException"), ("java/lang/IllegalStateException", "java/lang/IllegalStateException"), ("java/lang/IndexOutOfBoundsException", "java/lang/IndexOutOfBoundsException"), ("java/util/NoSuchElementException", "java/util/NoSuchElementException")]
def xnl : List (String × String) := [("java/lang/IllegalArgumentException", "java/lang/IllegalStateException"), ("java/lang/IllegalArgumentException", "java/lang/IndexOutOfBoundsException"), ("java/lang/IllegalArgumentException", "java/util/NoSuchElementException"),
  ("java/lang/IllegalStateException", "java/lang/IllegalArgumentException"), ("java/lang/IllegalStateException", "java/lang/IndexOutOfBoundsException"), ("java/lang/IllegalStateException", "java/util/NoSuchElementException"),
  ("java/lang/IndexOutOfBoundsException", "java/lang/IllegalArgumentException"), ("java/lang/IndexOutOfBoundsException", "java/lang/IllegalStateException"), ("java/lang/IndexOutOfBoundsException", "java/util/NoSuchElementException"),
  ("java/util/NoSuchElementException", "java/lang/IllegalArgumentException"), ("java/util/NoSuchElementException", "java/lang/IllegalStateException"), ("java/util/NoSuchElementException", "java/lang/IndexOutOfBoundsException")]
def xdl : List MethodName := [⟨"java/lang/RuntimeException", "<init>", "()V"⟩, ⟨"java/lang/Exception", "<init>", "()V"⟩, ⟨"java/lang/Throwable", "<init>", "()V"⟩]
/-- what the words say of a virtual method: its class's number, how many arguments -/
def KV (ci : Nat) (C : String) (T : u_T) (N : Nat) (y : MethodName) (bytes : ByteArray) (maxL : Nat) (ret : Option FieldType) (m : Nat) : Prop :=
  vwCl[ci]? = some (C, T, N) ∧ (Cond.instanceMethod y ∈ TS ∧ Cond.selects C y y ∈ TS ∧ Cond.initialized C ∈ TS ∧ Cond.code y bytes maxL ret ∈ TS) ∧ (y.cls = C ∧ y.cls ≠ "java/lang/invoke/MethodHandle" ∧ y.cls ≠ "java/lang/invoke/VarHandle" ∧ (parseMethodDescriptor y.desc).map (fun d => d.parameters.length) = some m)
def KS (C : String) (y : MethodName) (bytes : ByteArray) (maxL : Nat) (ret : Option FieldType) (m : Nat) : Prop :=
  (Cond.static y ∈ TS ∧ Cond.initialized C ∈ TS ∧ Cond.code y bytes maxL ret ∈ TS) ∧ (y.cls = C ∧ y.cls ≠ "java/lang/invoke/MethodHandle" ∧ y.cls ≠ "java/lang/invoke/VarHandle" ∧ (parseMethodDescriptor y.desc).map (fun d => d.parameters.length) = some m)
/-- Math.max, Math.min -/
def KM (y : MethodName) (bytes : ByteArray) : Prop := Cond.static y ∈ TS ∧ Cond.initialized "java/lang/Math" ∈ TS ∧ Cond.code y bytes 2 (some .int) ∈ TS
/-- what 'throw new e()' wants of the words, but those that speak of castables -/
def KT (own : String) (ik ic : Nat) (e : String) (names : List String) : Prop :=
  (Bundle.fit e = true ∧ ∀ z ∈ names, Bundle.fit z = true) ∧ (Cond.classLink own ik e ∈ TS ∧ Cond.initialized e ∈ TS) ∧ (∀ w ∈ (vx_at0 own ic e names).filter goodWord, w ∈ TS) ∧ (∀ w ∈ (vx_at0 own ic e names).filter (fun w => !goodWord w), w = .castable e e ∨ w ∈ xdl.map Cond.declares) ∧ (e, e) ∈ xcl ∧ (∀ w ∈ Cond.classLink own ik e :: Cond.initialized e :: vx_at0 own ic e names, vx_ot w = true)
def dkA (c : ByteArray) (l : List (Nat × Instr × Nat)) : Bool := l.all (fun q => decide (decode c q.1 = .ok q.2))
theorem dk {c : ByteArray} {l : List (Nat × Instr × Nat)} (h : dkA c l = true) (i : Nat) {pc len : Nat} {ins : Instr} (hi : l[i]? = some (pc, ins, len)) : decode c pc = .ok (ins, len) := by
  unfold dkA at h
  exact of_decide_eq_true (List.all_eq_true.mp h (pc, ins, len) (List.mem_of_getElem? hi))
