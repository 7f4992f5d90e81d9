/-! ===== the system as it is made ===== -/
def muW : Nat → Int := fun j => if j = 13 then -1 else if j = 17 then -1 else 0
def muY : Nat → Int := fun j => if j = 0 then 2 else if j = 2 then 20 else if j = 3 then 1 else 0
def muM : Nat → Int := fun j => if j = 10 then 2 else if j = 12 then 20 else if j = 13 then 1 else if j = 25 then -1 else 0
/-- the memory at the beginning -/
def mu0 : Mm := fun k => if k = 27 then muY else if k = 28 then muW else if k = 57 then muW else if k = 86 then muW else if k = 123 then muM else fun _ => 0
theorem mu0_z {k : Nat} (h1 : k ≠ 27) (h2 : k ≠ 28) (h3 : k ≠ 57) (h4 : k ≠ 86) (h5 : k ≠ 123) : mu0 k = z0 k := by
  unfold mu0 z0
  rw [if_neg h1, if_neg h2, if_neg h3, if_neg h4, if_neg h5]
section
variable {B : Nat} {D : va_G} {E : Nat → ClassId}
theorem ceF_len (μ : Mm) : ∀ (L : List Shp) (k : Nat), (ceF B E μ k L).length = L.length := by
  intro L
  induction L with
  | nil => intro k; rfl
  | cons s t ih => intro k; simp [ceF, ih]
theorem ceF_app (μ : Mm) : ∀ (L M : List Shp) (k : Nat), ceF B E μ k (L ++ M) = ceF B E μ k L ++ ceF B E μ (k + L.length) M := by
  intro L
  induction L with
  | nil => intro M k; rfl
  | cons s t ih =>
    intro M k
    show cel B E (μ k) s :: ceF B E μ (k + 1) (t ++ M) = _
    rw [ih, List.length_cons, show k + 1 + t.length = k + (t.length + 1) by omega]
    rfl
theorem ceF_cong {μ μ' : Mm} : ∀ (L : List Shp) (k : Nat), (∀ i, k ≤ i → i < k + L.length → μ i = μ' i) → ceF B E μ k L = ceF B E μ' k L := by
  intro L
  induction L with
  | nil => intro k _; rfl
  | cons s t ih =>
    intro k h
    rw [List.length_cons] at h
    show cel B E (μ k) s :: ceF B E μ (k + 1) t = cel B E (μ' k) s :: ceF B E μ' (k + 1) t
    rw [h k (Nat.le_refl _) (by omega), ih (k + 1) (fun i h1 h2 => h i (by omega) (by omega))]
theorem wsF_ce (μ : Mm) : ∀ (L : List Shp) (k : Nat), wsF B E μ k L = wlF B k (ceF B E μ k L) := by
  intro L
  induction L with
  | nil => intro k; rfl
  | cons s t ih =>
    intro k
    show (B + k, cel B E (μ k) s) :: wsF B E μ (k + 1) t = (B + k, cel B E (μ k) s) :: wlF B (k + 1) (ceF B E μ (k + 1) t)
    rw [ih]
theorem ce_0 (L : List Shp) (k : Nat) (h : ∀ i, k ≤ i → i < k + L.length → i ≠ 27 ∧ i ≠ 28 ∧ i ≠ 57 ∧ i ≠ 86 ∧ i ≠ 123) : ceF B E mu0 k L = ceF B E z0 k L :=
  ceF_cong L k (fun i h1 h2 => by obtain ⟨q1, q2, q3, q4, q5⟩ := h i h1 h2; exact mu0_z q1 q2 q3 q4 q5)
theorem ce_jobs : ceF B E mu0 1 shJobs = ceF B E z0 1 shJobs := ce_0 _ _ (fun i h1 h2 => by have h2 : i < 1 + 19 := h2; omega)
theorem ce_tasks : ceF B E mu0 20 shTasks = ceF B E z0 20 shTasks := ce_0 _ _ (fun i h1 h2 => by have h2 : i < 20 + 7 := h2; omega)
theorem ce_ways : ceF B E mu0 27 shWays = [wyL] := rfl
theorem ce_wk {o : Nat} (h : o = 28 ∨ o = 57 ∨ o = 86) : ceF B E mu0 o (shWorker o) = wkL B E o := by
  have e : ceF B E mu0 (o + 1) (shRow (o + 1) 12 ++ (shLevels (o + 3) ++ (shRow (o + 10) 12 ++ (shProg (o + 12) ++ (shCourse (o + 19) ++ shLocks (o + 22) (o + 12)))))) = ceF B E z0 (o + 1) (shRow (o + 1) 12 ++ (shLevels (o + 3) ++ (shRow (o + 10) 12 ++ (shProg (o + 12) ++ (shCourse (o + 19) ++ shLocks (o + 22) (o + 12)))))) :=
    ce_0 _ _ (fun i h1 h2 => by have h2 : i < o + 1 + 28 := h2; omega)
  have e2 : cel B E (mu0 o) (.inl (10, [some (o + 12), some (o + 19), some (o + 1), some 1, some 27, some (o + 3), some (o + 10), some (o + 22), none, none, none, none, none, none, none, none, none, none])) = (wkL B E o).head (by simp [wkL]) := by
    rcases h with rfl | rfl | rfl <;> rfl
  show cel B E (mu0 o) _ :: ceF B E mu0 (o + 1) _ = _
  rw [e]
  exact congrArg (fun x => x :: (wkL B E o).tail) e2
theorem ce_pair : ceF B E mu0 115 shPair = ceF B E z0 115 shPair := ce_0 _ _ (fun i h1 h2 => by have h2 : i < 115 + 8 := h2; omega)
theorem ce_house : ceF B E mu0 0 shHouse = hoL B E := by
  show cel B E (mu0 0) _ :: ceF B E mu0 1 (shJobs ++ (shTasks ++ (shWays ++ (shWorker 28 ++ (shWorker 57 ++ (shWorker 86 ++ shPair)))))) = _
  rw [ceF_app, ceF_app, ceF_app, ceF_app, ceF_app, ceF_app]
  rw [show (1 + shJobs.length) = 20 from rfl, show (20 + shTasks.length) = 27 from rfl, show (27 + shWays.length) = 28 from rfl, show (28 + (shWorker 28).length) = 57 from rfl, show (57 + (shWorker 57).length) = 86 from rfl, show (86 + (shWorker 86).length) = 115 from rfl]
  rw [ce_jobs, ce_tasks, ce_ways, ce_wk (Or.inl rfl), ce_wk (Or.inr (Or.inl rfl)), ce_wk (Or.inr (Or.inr rfl)), ce_pair]
  unfold hoL
  simp only [List.append_assoc]
  rfl
theorem ce_model : ceF B E mu0 123 shModel = moL B E := by
  have e : ∀ L : List Shp, L.length = 27 → ceF B E mu0 124 L = ceF B E z0 124 L := fun L hL => ce_0 _ _ (fun i h1 h2 => by rw [hL] at h2; omega)
  unfold shModel
  show cel B E (mu0 123) _ :: ceF B E mu0 124 _ = _
  rw [e _ rfl]
  unfold moL
  simp only [List.append_assoc, List.cons_append, List.nil_append]
  rfl
end
