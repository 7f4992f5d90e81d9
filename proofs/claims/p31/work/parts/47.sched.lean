/-! ===== schedules: idle moments are the same whatever the rule ===== -/
/-- what is left of j before the moment t, by the log g -/
abbrev lfT (J : Mm) (g : Nat → Int) (t j : Nat) : Int := J 1 j - cntJ g (j : Int) t
/-- those that j waits for are done -/
abbrev prd (J : Mm) (g : Nat → Int) (t j : Nat) : Prop := ∀ k, k < j → (J 4 j).toNat.testBit k = true → lfT J g t k = 0
/-- g is the log of T moments in which nobody idles who could work -/
def Sch (J : Mm) (n : Nat) (g : Nat → Int) (T : Nat) : Prop :=
  (∀ t, t < T → g t = -1 ∨ ∃ j, j < n ∧ g t = (j : Int) ∧ J 0 j ≤ t ∧ 0 < lfT J g t j ∧ prd J g t j) ∧
  (∀ t, t < T → g t = -1 → ∀ j, j < n → J 0 j ≤ t → prd J g t j → lfT J g t j = 0) ∧
  (∀ j, j < n → lfT J g T j = 0) ∧ (∀ t, t < T → ∃ j, j < n ∧ lfT J g t j ≠ 0) ∧ (∀ t, t ≤ T → ∀ j, j < n → 0 ≤ lfT J g t j) ∧ ∀ j, j < n → 1 ≤ J 1 j
/-- j and all whom it waits for, they too, have come -/
def AV (J : Mm) (t j : Nat) : Prop := ∀ P : Nat → Prop, (∀ j, J 0 j ≤ (t : Int) → (∀ k, k < j → (J 4 j).toNat.testBit k = true → P k) → P j) → P j
section
variable {J : Mm} {n : Nat} {g g' : Nat → Int} {T T' t : Nat}
theorem AV_i {j : Nat} (h : J 0 j ≤ (t : Int)) (h2 : ∀ k, k < j → (J 4 j).toNat.testBit k = true → AV J t k) : AV J t j := fun P hP => hP j h (fun k hk hb => h2 k hk hb P hP)
theorem AV_m {j : Nat} (h : AV J t j) : AV J (t + 1) j := h (fun j => AV J (t + 1) j) (fun j h1 h2 => AV_i (by omega) h2)
theorem smF_one (f : Nat → Int) (x : Int) : ∀ n : Nat, smF (fun j => f j + if x = (j : Int) then 1 else 0) n = smF f n + if 0 ≤ x ∧ x < (n : Int) then 1 else 0 := by
  intro n
  induction n with
  | zero => simp only [smF]; rw [if_neg (by omega)]; rfl
  | succ n ih =>
    simp only [smF]
    rw [ih]
    by_cases e : x = (n : Int)
    · rw [if_pos e, if_neg (by omega), if_pos (by omega)]; omega
    · rw [if_neg e]
      by_cases e2 : 0 ≤ x ∧ x < (n : Int)
      · rw [if_pos e2, if_pos (by omega)]; omega
      · rw [if_neg e2, if_neg (by omega)]; omega
/-- the work done before t -/
def dnT (g : Nat → Int) (n t : Nat) : Int := smF (fun j => cntJ g (j : Int) t) n
theorem dnT_s : dnT g n (t + 1) = dnT g n t + if 0 ≤ g t ∧ g t < (n : Int) then 1 else 0 := smF_one (fun j => cntJ g (j : Int) t) (g t) n
theorem AV_of (h : Sch J n g T) : ∀ t, t ≤ T → ∀ j, j < n → lfT J g t j ≠ J 1 j → AV J t j := by
  intro t
  induction t with
  | zero => intro _ j _ q; exact absurd (show J 1 j - 0 = J 1 j by omega) q
  | succ t ih =>
    intro ht j hj q
    by_cases e : g t = (j : Int)
    · rcases h.1 t (by omega) with z | ⟨i, hi, z, z1, z2, z3⟩
      · omega
      · have ei : i = j := by omega
        rw [ei] at z1 z2 z3
        refine AV_m (AV_i z1 (fun k hk hb => ih (by omega) k (by omega) ?_))
        have h1 := z3 k hk hb
        have h2 := h.2.2.2.2.2 k (by omega)
        omega
    · refine AV_m (ih (by omega) j hj (fun z => q ?_))
      simp only [lfT, cntJ] at z ⊢
      rw [if_neg e]; omega
theorem idle_of (h : Sch J n g T) (ht : t < T) (hg : g t = -1) : ∀ j, AV J t j → j < n → lfT J g t j = 0 := fun j hj => hj (fun j => j < n → lfT J g t j = 0) (fun j h1 h2 hjn => h.2.1 t ht hg j hjn h1 (fun k hk hb => h2 k hk hb (by omega)))
/-- the work of those that have come with all whom they wait for -/
noncomputable def wwT (J : Mm) (n t : Nat) : Int := smF (fun j => @ite _ (AV J t j) (Classical.propDecidable _) (J 1 j) 0) n
theorem idle_iff (h : Sch J n g T) (ht : t < T) : g t = -1 ↔ dnT g n t = wwT J n t := by
  have key : ∀ j, j < n → cntJ g (j : Int) t ≤ @ite _ (AV J t j) (Classical.propDecidable _) (J 1 j) 0 := by
    intro j hj
    have h1 := h.2.2.2.2.1 t (by omega) j hj
    have h2 := AV_of h t (by omega) j hj
    by_cases q : AV J t j
    · rw [if_pos q]; simp only [lfT] at h1; omega
    · rw [if_neg q]
      by_cases q2 : lfT J g t j = J 1 j
      · simp only [lfT] at q2; omega
      · exact absurd (h2 q2) q
  constructor
  · intro hg
    have hi := idle_of h ht hg
    unfold dnT wwT
    have h1 := smF_le key
    have h2 : smF (fun j => @ite _ (AV J t j) (Classical.propDecidable _) (J 1 j) 0) n ≤ smF (fun j => cntJ g (j : Int) t) n := smF_le (fun j hj => by
      have hc := (cntJ_b g (j : Int) t).1
      by_cases q : AV J t j
      · rw [if_pos q]; have := hi j q hj; simp only [lfT] at this; omega
      · rw [if_neg q]; exact hc)
    omega
  · intro e
    rcases h.1 t ht with z | ⟨j, hj, z, z1, z2, z3⟩
    · exact z
    · exfalso
      have hav : AV J t j := AV_i z1 (fun k hk hb => AV_of h t (by omega) k (by omega) (by have h1 := z3 k hk hb; have h2 := h.2.2.2.2.2 k (by omega); omega))
      have := smF_lt (c := j) key hj (by rw [if_pos hav]; simp only [lfT] at z2; omega)
      unfold dnT wwT at e
      omega
theorem done_all (h : Sch J n g T) (ht : t ≤ T) : dnT g n t = smF (J 1) n ↔ ∀ j, j < n → lfT J g t j = 0 := by
  have key : ∀ j, j < n → cntJ g (j : Int) t ≤ J 1 j := fun j hj => by have := h.2.2.2.2.1 t ht j hj; simp only [lfT] at this; omega
  constructor
  · intro e j hj
    by_cases q : cntJ g (j : Int) t < J 1 j
    · have := smF_lt (c := j) key hj q
      unfold dnT at e
      omega
    · have := key j hj
      simp only [lfT]; omega
  · intro q
    unfold dnT
    have h1 := smF_le key
    have h2 : smF (J 1) n ≤ smF (fun j => cntJ g (j : Int) t) n := smF_le (fun j hj => by have := q j hj; simp only [lfT] at this; omega)
    omega
theorem sch_dn (h : Sch J n g T) (h' : Sch J n g' T') : ∀ t, t ≤ T → t ≤ T' → dnT g n t = dnT g' n t := by
  intro t
  induction t with
  | zero => intro _ _; rfl
  | succ t ih =>
    intro ht ht'
    have e := ih (by omega) (by omega)
    have h1 := idle_iff h (show t < T by omega)
    have h2 := idle_iff h' (show t < T' by omega)
    have w1 : g t = -1 ∨ (0 ≤ g t ∧ g t < (n : Int)) := by rcases h.1 t (by omega) with z | ⟨j, hj, z, -⟩; exact Or.inl z; exact Or.inr (by omega)
    have w2 : g' t = -1 ∨ (0 ≤ g' t ∧ g' t < (n : Int)) := by rcases h'.1 t (by omega) with z | ⟨j, hj, z, -⟩; exact Or.inl z; exact Or.inr (by omega)
    rw [e] at h1
    rw [dnT_s, dnT_s, e]
    by_cases q : dnT g' n t = wwT J n t
    · rw [if_neg (by have := h1.mpr q; omega), if_neg (by have := h2.mpr q; omega)]
    · rw [if_pos (by rcases w1 with z | z; exact absurd (h1.mp z) q; exact z), if_pos (by rcases w2 with z | z; exact absurd (h2.mp z) q; exact z)]
/-- as long, and idle at the same moments -/
theorem sch_same (h : Sch J n g T) (h' : Sch J n g' T') : T = T' ∧ ∀ t, t < T → (g t = -1 ↔ g' t = -1) := by
  have e : T = T' := by
    have hd := sch_dn h h'
    by_cases q : T < T'
    · exfalso
      obtain ⟨j, hj, z⟩ := h'.2.2.2.1 T q
      exact z ((done_all h' (by omega)).mp ((hd T (Nat.le_refl _) (by omega)).symm.trans ((done_all h (Nat.le_refl _)).mpr h.2.2.1)) j hj)
    · by_cases q2 : T' < T
      · exfalso
        obtain ⟨j, hj, z⟩ := h.2.2.2.1 T' q2
        exact z ((done_all h (by omega)).mp ((hd T' (by omega) (Nat.le_refl _)).trans ((done_all h' (Nat.le_refl _)).mpr h'.2.2.1)) j hj)
      · omega
  refine ⟨e, fun t ht => ?_⟩
  have hd := sch_dn h h' t (by omega) (by omega)
  rw [idle_iff h ht, idle_iff h' (by omega), hd]
end
