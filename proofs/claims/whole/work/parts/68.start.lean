/-! ===== the system as it is made ===== -/
def muW : Nat → Int := fun j => if j = 13 then -1 else if j = 17 then -1 else 0
def muY : Nat → Int := fun j => if j = 0 then 2 else if j = 2 then 20 else if j = 3 then 1 else 0
def muM : Nat → Int := fun j => if j = 10 then 2 else if j = 12 then 20 else if j = 13 then 1 else if j = 25 then -1 else 0
/-- the memory at the beginning -/
def mu0 : Mm := fun k => if k = 27 then muY else if k = 28 then muW else if k = 57 then muW else if k = 86 then muW else if k = 123 then muM else fun _ => 0
theorem mu0_z {k : Nat} (h1 : k ≠ 27) (h2 : k ≠ 28) (h3 : k ≠ 57) (h4 : k ≠ 86) (h5 : k ≠ 123) : mu0 k = z0 k := by
  unfold mu0 z0
  rw [if_neg h1, if_neg h2, if_neg h3, if_neg h4, if_neg h5]
section
variable {B : Nat} {D : va_G} {E : Nat → ClassId}
theorem ceF_len (μ : Mm) : ∀ (L : List Shp) (k : Nat), (ceF B E μ k L).length = L.length := by
  intro L
  induction L with
  | nil => intro k; rfl
  | cons s t ih => intro k; simp [ceF, ih]
theorem wkL_len (o : Nat) : (wkL B E o).length = 29 := by
  unfold wkL
  simp only [List.length_cons, List.length_append, ceF_len]
  rfl
theorem ho_len : (hoL B E).length = 125 := by
  unfold hoL
  simp only [List.length_cons, List.length_append, List.length_nil, ceF_len, wkL_len]
  rfl
theorem mo_len : (moL B E).length = 28 := by
  unfold moL
  simp only [List.length_cons, List.length_append, List.length_nil]
/-- all cells in the order in which they are made -/
def alP (B : Nat) (E : Nat → ClassId) : List va_E := ((hoL B E ++ moL B E) ++ [.inl (E 2, (1, .inr (.inl (fun _ => 0))))]) ++ [.inl (E 3, (1, .inr (.inr (.inr (.inl (fun _ => 0))))))]
/-- in the list P each object stands at its place, its numbers are those of μ -/
def isAt (P : List va_E) (B : Nat) (E : Nat → ClassId) (μ : Mm) : Nat → List Shp → Prop
  | _, [] => True
  | k, s :: t => P[ph k]? = some (cel (pl B) E (μ k) s) ∧ isAt P B E μ (k + 1) t
theorem isAt_get {P : List va_E} {μ : Mm} : ∀ (L : List Shp) (k i : Nat) (s : Shp), isAt P B E μ k L → L[i]? = some s → P[ph (k + i)]? = some (cel (pl B) E (μ (k + i)) s) := by
  intro L
  induction L with
  | nil => intro k i s _ h; simp at h
  | cons x t ih =>
    intro k i s h hs
    cases i with
    | zero =>
      cases hs
      exact h.1
    | succ i =>
      have := ih (k + 1) i s h.2 hs
      rw [show k + 1 + i = k + (i + 1) by omega] at this
      exact this
theorem isAt_app {P : List va_E} {μ : Mm} : ∀ (L M : List Shp) (k : Nat), isAt P B E μ k L → isAt P B E μ (k + L.length) M → isAt P B E μ k (L ++ M) := by
  intro L
  induction L with
  | nil => intro M k _ h; exact h
  | cons x t ih =>
    intro M k h hM
    refine ⟨h.1, ih M (k + 1) h.2 ?_⟩
    rw [List.length_cons] at hM
    rw [show k + 1 + t.length = k + (t.length + 1) by omega]
    exact hM
theorem at_jobs : isAt (alP B E) B E mu0 1 shJobs := by
  unfold shJobs
  simp only [shRow, shLevels, shLine, shProg, shCourse, shLocks, List.cons_append, List.nil_append, isAt]
  exact ⟨rfl, rfl, rfl, rfl, rfl, rfl, rfl, rfl, rfl, rfl, rfl, rfl, rfl, rfl, rfl, rfl, rfl, rfl, rfl, trivial⟩
theorem at_tasks : isAt (alP B E) B E mu0 20 shTasks := by
  unfold shTasks
  simp only [shRow, shLevels, shLine, shProg, shCourse, shLocks, List.cons_append, List.nil_append, isAt]
  exact ⟨rfl, rfl, rfl, rfl, rfl, rfl, rfl, trivial⟩
theorem at_ways : isAt (alP B E) B E mu0 27 shWays := by
  unfold shWays
  simp only [shRow, shLevels, shLine, shProg, shCourse, shLocks, List.cons_append, List.nil_append, isAt]
  exact ⟨rfl, trivial⟩
theorem at_wk28 : isAt (alP B E) B E mu0 28 (shWorker 28) := by
  unfold shWorker
  simp only [shRow, shLevels, shLine, shProg, shCourse, shLocks, List.cons_append, List.nil_append, isAt]
  exact ⟨rfl, rfl, rfl, rfl, rfl, rfl, rfl, rfl, rfl, rfl, rfl, rfl, rfl, rfl, rfl, rfl, rfl, rfl, rfl, rfl, rfl, rfl, rfl, rfl, rfl, rfl, rfl, rfl, rfl, trivial⟩
theorem at_wk57 : isAt (alP B E) B E mu0 57 (shWorker 57) := by
  unfold shWorker
  simp only [shRow, shLevels, shLine, shProg, shCourse, shLocks, List.cons_append, List.nil_append, isAt]
  exact ⟨rfl, rfl, rfl, rfl, rfl, rfl, rfl, rfl, rfl, rfl, rfl, rfl, rfl, rfl, rfl, rfl, rfl, rfl, rfl, rfl, rfl, rfl, rfl, rfl, rfl, rfl, rfl, rfl, rfl, trivial⟩
theorem at_wk86 : isAt (alP B E) B E mu0 86 (shWorker 86) := by
  unfold shWorker
  simp only [shRow, shLevels, shLine, shProg, shCourse, shLocks, List.cons_append, List.nil_append, isAt]
  exact ⟨rfl, rfl, rfl, rfl, rfl, rfl, rfl, rfl, rfl, rfl, rfl, rfl, rfl, rfl, rfl, rfl, rfl, rfl, rfl, rfl, rfl, rfl, rfl, rfl, rfl, rfl, rfl, rfl, rfl, trivial⟩
theorem at_pair : isAt (alP B E) B E mu0 115 shPair := by
  unfold shPair
  simp only [shRow, shLevels, shLine, shProg, shCourse, shLocks, List.cons_append, List.nil_append, isAt]
  exact ⟨rfl, rfl, rfl, rfl, rfl, rfl, rfl, rfl, trivial⟩
theorem at_model : isAt (alP B E) B E mu0 123 shModel := by
  unfold shModel
  simp only [shRow, shLevels, shLine, shProg, shCourse, shLocks, List.cons_append, List.nil_append, isAt]
  exact ⟨rfl, rfl, rfl, rfl, rfl, rfl, rfl, rfl, rfl, rfl, rfl, rfl, rfl, rfl, rfl, rfl, rfl, rfl, rfl, rfl, rfl, rfl, rfl, rfl, rfl, rfl, rfl, rfl, trivial⟩
theorem at_out : isAt (alP B E) B E mu0 151 (shOut ++ [.inl (7, [some 2]), .inl (7, [some 3])]) := by
  unfold shOut
  simp only [shRow, shLevels, shLine, shProg, shCourse, shLocks, List.cons_append, List.nil_append, isAt]
  exact ⟨rfl, rfl, rfl, rfl, trivial⟩
theorem at_house : isAt (alP B E) B E mu0 0 shHouse := by
  refine ⟨rfl, isAt_app _ _ 1 at_jobs (isAt_app _ _ 20 at_tasks (isAt_app _ _ 27 at_ways (isAt_app _ _ 28 at_wk28 (isAt_app _ _ 57 at_wk57 (isAt_app _ _ 86 at_wk86 at_pair)))))⟩
theorem at_all : isAt (alP B E) B E mu0 0 shapes := isAt_app _ _ 0 at_house (isAt_app _ _ 123 at_model at_out)
theorem GP_SP {H : Heap} (h : GP B D (alP B E) H) : SP B D E mu0 H := fun k x hx => by
  rw [wsF_get, Nat.zero_add] at hx
  obtain ⟨s, hs, rfl⟩ := Option.map_eq_some_iff.mp hx
  have e := isAt_get shapes 0 k s at_all hs
  rw [Nat.zero_add] at e
  refine h.1 (ph k) _ ?_
  rw [wlF_get, e, Nat.zero_add]
  rfl
end
