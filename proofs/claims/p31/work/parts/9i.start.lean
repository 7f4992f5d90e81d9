/-! ===== the system as it is made ===== -/
def muW : Nat → Int := fun j => if j = 13 then -1 else if j = 17 then -1 else 0
def muY : Nat → Int := fun j => if j = 0 then 2 else if j = 2 then 20 else if j = 3 then 1 else 0
/-- the memory at the beginning -/
def mu0 (g : Nat → Int) : Mm := fun k => if k = 27 then muY else if k = 28 then muW else if k = 57 then muW else if k = 86 then muW else if k = 123 then g else fun _ => 0
section
variable {B : Nat} {D : va_G} {E : Nat → ClassId} {g : Nat → Int}
theorem ceF_len (μ : Mm) : ∀ (L : List Shp) (k : Nat), (ceF B E μ k L).length = L.length := by
  intro L
  induction L with
  | nil => intro k; rfl
  | cons s t ih => intro k; simp [ceF, ih]
theorem wkL_len (o : Nat) : (wkL B E o).length = 29 := by
  unfold wkL
  simp only [List.length_cons, List.length_append, ceF_len]
  rfl
theorem ho_len : (hoL B E).length = 125 := by
  unfold hoL
  simp only [List.length_cons, List.length_append, List.length_nil, ceF_len, wkL_len]
  rfl
/-- all cells in the order in which they are made -/
def aL (E : Nat → ClassId) (g : Nat → Int) : List va_E := [arG E 1 g, .inl (E 0, (720, .inl (fun _ => 0))), .inl (E 0, (3000, .inl (fun _ => 0))), .inl (E 0, (8, .inl (fun _ => 0))), .inl (E 0, (20, .inl (fun _ => 0)))]
def cellP (B : Nat) (E : Nat → ClassId) (g : Nat → Int) : List va_E := aL E g ++ hoL B E
/-- in the list P each object stands at its place, its numbers are those of μ -/
def isAt (P : List va_E) (B : Nat) (E : Nat → ClassId) (μ : Mm) : Nat → List Shp → Prop
  | _, [] => True
  | k, s :: t => P[ph k]? = some (cel (pl B) E (μ k) s) ∧ isAt P B E μ (k + 1) t
theorem isAt_get {P : List va_E} {μ : Mm} : ∀ (L : List Shp) (k i : Nat) (s : Shp), isAt P B E μ k L → L[i]? = some s → P[ph (k + i)]? = some (cel (pl B) E (μ (k + i)) s) := by
  intro L
  induction L with
  | nil => intro k i s _ h; simp at h
  | cons x t ih =>
    intro k i s h hs
    cases i with
    | zero =>
      cases hs
      exact h.1
    | succ i =>
      have := ih (k + 1) i s h.2 hs
      rw [show k + 1 + i = k + (i + 1) by omega] at this
      exact this
theorem isAt_app {P : List va_E} {μ : Mm} : ∀ (L M : List Shp) (k : Nat), isAt P B E μ k L → isAt P B E μ (k + L.length) M → isAt P B E μ k (L ++ M) := by
  intro L
  induction L with
  | nil => intro M k _ h; exact h
  | cons x t ih =>
    intro M k h hM
    refine ⟨h.1, ih M (k + 1) h.2 ?_⟩
    rw [List.length_cons] at hM
    rw [show k + 1 + t.length = k + (t.length + 1) by omega]
    exact hM
theorem isAt_left {X Y : List va_E} {μ : Mm} : ∀ (L : List Shp) (k : Nat), (∀ i, i < L.length → ph (k + i) < X.length) → isAt X B E μ k L → isAt (X ++ Y) B E μ k L := by
  intro L
  induction L with
  | nil => intro k _ _; trivial
  | cons s t ih =>
    intro k h hX
    refine ⟨?_, ih (k + 1) (fun i hi => ?_) hX.2⟩
    · have h0 : ph k < X.length := h 0 (by simp)
      rw [List.getElem?_append_left h0]
      exact hX.1
    · have := h (i + 1) (by rw [List.length_cons]; omega)
      rw [show k + (i + 1) = k + 1 + i by omega] at this
      exact this
/-- the cells of shapes, as the picture has them -/
def ceL (B : Nat) (E : Nat → ClassId) (μ : Mm) : Nat → List Shp → List va_E
  | _, [] => []
  | k, s :: t => cel (pl B) E (μ k) s :: ceL B E μ (k + 1) t
theorem isAt_of {P : List va_E} {μ : Mm} : ∀ (L : List Shp) (k : Nat), (∀ i, i < L.length → P[ph (k + i)]? = (ceL B E μ k L)[i]?) → isAt P B E μ k L := by
  intro L
  induction L with
  | nil => intro k _; trivial
  | cons s t ih =>
    intro k h
    refine ⟨h 0 (by simp), ih (k + 1) (fun i hi => ?_)⟩
    have := h (i + 1) (by rw [List.length_cons]; omega)
    rw [show k + (i + 1) = k + 1 + i by omega] at this
    exact this
/-- a block that stands as it is two places further on -/
theorem isAt_blk {X Y Z : List va_E} {μ : Mm} {L : List Shp} {k : Nat} (hk : 8 ≤ k) (h : X.length = k + 7) (e : Y = ceL B E μ k L) (hn : Y.length = L.length) (hl : k + L.length ≤ 123) : isAt (X ++ (Y ++ Z)) B E μ k L := by
  refine isAt_of L k (fun i hi => ?_)
  have hp : ph (k + i) = X.length + i := by
    unfold ph
    repeat' split
    all_goals omega
  rw [hp, List.getElem?_append_right (by omega), List.getElem?_append_left (by omega), Nat.add_sub_cancel_left, e]
def h0L (B : Nat) (E : Nat → ClassId) (g : Nat → Int) : List va_E := aL E g ++ (ob 11 [.ref (B + (6)), .ref (B + (27)), .ref (B + (34)), .ref (B + (35)), .ref (B + (64)), .ref (B + (93)), .ref (B + (122)), iI 0] :: ((ceF B E z0 6 qJobs ++ ceF B E z0 27 qTasks) ++ [wyL]))
theorem h0_len : (h0L B E g).length = 35 := rfl
theorem alP_eq : cellP B E g = h0L B E g ++ (wkL B E 35 ++ (wkL B E 64 ++ (wkL B E 93 ++ (ceF B E z0 122 qPair ++ [])))) := by
  unfold cellP hoL h0L
  simp only [List.append_assoc, List.cons_append, List.append_nil]
theorem at_h0 : isAt (h0L B E g) B E (mu0 g) 0 [.inl (11, [some 1, some 20, some 27, some 28, some 57, some 86, some 115, none])] := by
  exact ⟨rfl, trivial⟩
theorem at_jobs : isAt (h0L B E g) B E (mu0 g) 1 shJobs := by
  unfold shJobs
  simp only [shRow, List.cons_append, List.nil_append, isAt]
  exact ⟨rfl, rfl, rfl, rfl, rfl, rfl, rfl, rfl, rfl, rfl, rfl, rfl, rfl, rfl, rfl, rfl, rfl, rfl, rfl, trivial⟩
theorem at_tasks : isAt (h0L B E g) B E (mu0 g) 20 shTasks := by
  unfold shTasks
  simp only [shRow, List.cons_append, List.nil_append, isAt]
  exact ⟨rfl, rfl, rfl, rfl, rfl, rfl, rfl, trivial⟩
theorem at_ways : isAt (h0L B E g) B E (mu0 g) 27 shWays := by
  unfold shWays
  simp only [shRow, List.cons_append, List.nil_append, isAt]
  exact ⟨rfl, trivial⟩
theorem ph_lt {k : Nat} (h : k < 28) : ph k < 35 := by
  unfold ph
  repeat' split
  all_goals omega
theorem at_28 : isAt (h0L B E g) B E (mu0 g) 0 (.inl (11, [some 1, some 20, some 27, some 28, some 57, some 86, some 115, none]) :: (shJobs ++ (shTasks ++ shWays))) :=
  ⟨at_h0.1, isAt_app _ _ 1 at_jobs (isAt_app _ _ 20 at_tasks at_ways)⟩
theorem ce_wk28 : wkL B E 35 = ceL B E (mu0 g) 28 (shWorker 28) := rfl
theorem ce_wk57 : wkL B E 64 = ceL B E (mu0 g) 57 (shWorker 57) := rfl
theorem ce_wk86 : wkL B E 93 = ceL B E (mu0 g) 86 (shWorker 86) := rfl
theorem ce_pair : ceF B E z0 122 qPair = ceL B E (mu0 g) 115 shPair := rfl
theorem pair_len : (ceF B E z0 122 qPair).length = 8 := rfl
theorem at_law : isAt (h0L B E g) B E (mu0 g) 123 shLaw := by
  unfold shLaw
  simp only [isAt]
  exact ⟨rfl, rfl, rfl, rfl, rfl, trivial⟩
theorem at_rows : isAt (h0L B E g) B E (mu0 g) 128 [.inl (7, [some 2]), .inl (7, [some 3])] := ⟨rfl, rfl, trivial⟩
theorem at_all : isAt (cellP B E g) B E (mu0 g) 0 shapes := by
  have a0 : isAt (cellP B E g) B E (mu0 g) 0 (.inl (11, [some 1, some 20, some 27, some 28, some 57, some 86, some 115, none]) :: (shJobs ++ (shTasks ++ shWays))) := by
    rw [alP_eq]
    exact isAt_left _ 0 (fun i hi => by rw [h0_len]; exact ph_lt (by rw [Nat.zero_add]; exact hi)) at_28
  have a1 : isAt (cellP B E g) B E (mu0 g) 28 (shWorker 28) := by
    rw [alP_eq]
    exact isAt_blk (by decide) h0_len ce_wk28 (wkL_len _) (by decide)
  have a2 : isAt (cellP B E g) B E (mu0 g) 57 (shWorker 57) := by
    rw [show cellP B E g = (h0L B E g ++ wkL B E 35) ++ (wkL B E 64 ++ (wkL B E 93 ++ (ceF B E z0 122 qPair ++ []))) by rw [alP_eq]; simp only [List.append_assoc]]
    exact isAt_blk (by decide) (by rw [List.length_append, h0_len, wkL_len]) ce_wk57 (wkL_len _) (by decide)
  have a3 : isAt (cellP B E g) B E (mu0 g) 86 (shWorker 86) := by
    rw [show cellP B E g = (h0L B E g ++ wkL B E 35 ++ wkL B E 64) ++ (wkL B E 93 ++ (ceF B E z0 122 qPair ++ [])) by rw [alP_eq]; simp only [List.append_assoc]]
    exact isAt_blk (by decide) (by rw [List.length_append, List.length_append, h0_len, wkL_len, wkL_len]) ce_wk86 (wkL_len _) (by decide)
  have a4 : isAt (cellP B E g) B E (mu0 g) 115 shPair := by
    rw [show cellP B E g = (h0L B E g ++ wkL B E 35 ++ wkL B E 64 ++ wkL B E 93) ++ (ceF B E z0 122 qPair ++ []) by rw [alP_eq]; simp only [List.append_assoc]]
    exact isAt_blk (by decide) (by rw [List.length_append, List.length_append, List.length_append, h0_len, wkL_len, wkL_len, wkL_len]) ce_pair pair_len (by decide)
  have a5 : isAt (cellP B E g) B E (mu0 g) 123 shLaw := by
    rw [alP_eq]
    refine isAt_left _ 123 (fun i hi => ?_) at_law
    rw [h0_len]
    have hi : i < 5 := hi
    rcases (show i = 0 ∨ i = 1 ∨ i = 2 ∨ i = 3 ∨ i = 4 by omega) with rfl | rfl | rfl | rfl | rfl <;> decide
  have a7 : isAt (cellP B E g) B E (mu0 g) 128 [.inl (7, [some 2]), .inl (7, [some 3])] := by
    rw [alP_eq]
    refine isAt_left _ 128 (fun i hi => ?_) at_rows
    rw [h0_len]
    have hi : i < 2 := hi
    rcases (show i = 0 ∨ i = 1 by omega) with rfl | rfl <;> decide
  have b0 : isAt (cellP B E g) B E (mu0 g) 0 shHouse := by
    have e : shHouse = (.inl (11, [some 1, some 20, some 27, some 28, some 57, some 86, some 115, none]) :: (shJobs ++ (shTasks ++ shWays))) ++ (shWorker 28 ++ (shWorker 57 ++ (shWorker 86 ++ shPair))) := by
      unfold shHouse
      simp only [List.append_assoc, List.cons_append]
    rw [e]
    exact isAt_app _ _ 0 a0 (isAt_app _ _ 28 a1 (isAt_app _ _ 57 a2 (isAt_app _ _ 86 a3 a4)))
  exact isAt_app _ _ 0 b0 (isAt_app _ _ 123 a5 a7)
theorem GP_SP {H : Heap} (h : GP B D (cellP B E g) H) : SP B D E (mu0 g) H := fun k x hx => by
  rw [wsF_get, Nat.zero_add] at hx
  obtain ⟨s, hs, rfl⟩ := Option.map_eq_some_iff.mp hx
  have e := isAt_get (P := cellP B E g) shapes 0 k s at_all hs
  rw [Nat.zero_add] at e
  refine h.1 (ph k) _ ?_
  rw [wlF_get, e, Nat.zero_add]
  rfl
end
