/-! ===== deadlines: the nearest one first keeps them all, if no stretch is too full ===== -/
theorem doF_n {g : Nat → Int} {T z : Int} (h : ¬ (0 ≤ z ∧ z < T)) : doF g T z = -1 := by unfold doF; rw [if_neg h]
theorem lf_min {ln lg : Nat → Int} {T : Int} {j t : Nat} {z : Int} (h : (t : Int) ≤ z ∧ (t : Int) ≤ T) (h2 : z ≤ t ∨ T ≤ t) : lfF ln lg T j z = ln j - cntJ lg (j : Int) t := by
  unfold lfF
  split
  · rw [show z.toNat = t by omega]
  · rw [show T.toNat = t by omega]
section
variable {J : Mm} {n : Nat} {K : Nat → Int} {g : Nat → Int} {z : Int} {t T a : Nat} {A : Nat → Bool} {e f f' : Nat → Int}
theorem run_left (hD : okD J n) (hK : okK K) (h : RunT J n K z T) : ∀ t, t ≤ T → ∀ j, (itN J n K z t).1 0 j = lfT J ((fnF J n K z).1 7) t j := by
  intro t
  induction t with
  | zero => intro _ j; show inN J z 0 j = J 1 j - 0; simp [inN]
  | succ t ih =>
    intro ht j
    have i := ih (by omega) j
    have hs := run_st hD hK h (show t < T by omega)
    rw [lf_s, ← i]
    obtain ⟨-, -, -, -, hs⟩ := hs
    rcases hs with ⟨q0, -, q2, -⟩ | ⟨c, q1, -, q3, q4, -⟩ | ⟨c, q1, -, q3, q4, -⟩
    · rw [q2, if_neg (by omega)]; omega
    · rw [q4, if_neg (by omega)]; omega
    · rw [q4 j, q3]
      by_cases y : j = c
      · rw [if_pos y, if_pos (by omega), y]
      · rw [if_neg y, if_neg (by omega)]; omega
/-- the nearest deadline works -/
def Edf (J : Mm) (n : Nat) (g : Nat → Int) (T : Nat) : Prop := ∀ t, t < T → ∀ c : Nat, g t = (c : Int) → ∀ j, j < n → J 0 j ≤ (t : Int) → 0 < lfT J g t j → kyF (J 2) c ≤ kyF (J 2) j
theorem run_edf (hD : okD J n) (hK : okK K) (h : RunT J n K z T) (h6 : K 0 = 6) (h2 : K 2 = 0) (hw : ∀ j, j < n → J 4 j = 0) : Edf J n ((fnF J n K z).1 7) T := by
  have inv : ∀ t, t ≤ T → (itN J n K z t).1 6 0 = -1 ∨ (itN J n K z t).1 6 2 ≤ 0 := by
    intro t
    induction t with
    | zero => intro _; exact Or.inl (by simp [itN, inS, inN])
    | succ t ih =>
      intro ht
      have i := ih (by omega)
      obtain ⟨-, -, -, -, hs⟩ := run_st hD hK h (show t < T by omega)
      rcases hs with ⟨-, -, -, -, q4, -⟩ | ⟨c, -, -, -, -, -, -, -, -, q9⟩ | ⟨c, -, -, -, -, -, -, -, -, -, q10, -⟩
      · exact Or.inl q4
      · exfalso
        rcases q9 with ⟨y1, y2, -⟩ | ⟨-, -, -, y4, -⟩
        · rcases i with i | i <;> omega
        · omega
      · by_cases y : (itN J n K z (t + 1)).1 6 0 = -1
        · exact Or.inl y
        · exact Or.inr (q10 h6 y)
  intro t ht c hc j hj h0 hl
  have i := inv t (by omega)
  have e := run_left hD hK h t (by omega) j
  have e66 := (h.2.2.2.2 t (by omega)).2.2
  obtain ⟨-, -, -, -, hs⟩ := run_st hD hK h ht
  rcases hs with ⟨q0, -⟩ | ⟨c', -, -, q3, -⟩ | ⟨c', -, -, q3, -, -, -, -, -, -, -, q11⟩
  · omega
  · omega
  · have ec : c' = c := by omega
    rcases q11 with ⟨y1, y2, -⟩ | ⟨-, -, y3⟩
    · rcases i with i | i <;> omega
    · rw [← ec]
      exact y3 h6 j hj ⟨by omega, by omega, fun k _ hb => by rw [hw j hj] at hb; simp at hb⟩
theorem one_le (A : Nat → Bool) (x : Int) : ∀ n : Nat, 0 ≤ smF (fun j => if A j = true then (if x = (j : Int) then 1 else 0) else 0) n ∧ smF (fun j => if A j = true then (if x = (j : Int) then 1 else 0) else 0) n ≤ if 0 ≤ x ∧ x < (n : Int) then 1 else 0 := by
  intro n
  induction n with
  | zero => simp only [smF]; split <;> omega
  | succ n ih =>
    simp only [smF]
    by_cases y : x = (n : Int)
    · rw [if_neg (show ¬ (0 ≤ x ∧ x < (n : Int)) by omega)] at ih
      rw [if_pos y, if_pos (show 0 ≤ x ∧ x < ((n + 1 : Nat) : Int) by omega)]
      split <;> omega
    · have h0 : (if A n = true then (if x = (n : Int) then (1 : Int) else 0) else 0) = 0 := by rw [if_neg y]; split <;> rfl
      rw [h0]
      by_cases q : 0 ≤ x ∧ x < (n : Int)
      · rw [if_pos q] at ih
        rw [if_pos (show 0 ≤ x ∧ x < ((n + 1 : Nat) : Int) by omega)]
        omega
      · rw [if_neg q] at ih
        rw [if_neg (show ¬ (0 ≤ x ∧ x < ((n + 1 : Nat) : Int)) by omega)]
        omega
theorem one_eq {c : Nat} (hc : c < n) (hA : A c = true) : smF (fun j => if A j = true then (if (c : Int) = (j : Int) then 1 else 0) else 0) n = 1 := by
  have := smF_upd (f := fun _ => (0 : Int)) (g := fun j => if A j = true then (if (c : Int) = (j : Int) then 1 else 0) else 0) (c := c) (v := 1) hc (fun j hj hne => by
    show (if A j = true then (if (c : Int) = (j : Int) then (1 : Int) else 0) else 0) = 0
    rw [if_neg (show ¬ (c : Int) = (j : Int) by omega)]; split <;> rfl) (by
    show (if A c = true then (if (c : Int) = (c : Int) then (1 : Int) else 0) else 0) = 0 + 1
    rw [if_pos hA, if_pos rfl]; rfl)
  rw [smF_0] at this
  omega
theorem sA_add : sA A (fun j => f j + f' j) n = sA A f n + sA A f' n := by
  unfold sA
  rw [← smF_add]
  refine smF_cong (fun j hj => ?_)
  show (if A j = true then f j + f' j else 0) = (if A j = true then f j else 0) + (if A j = true then f' j else 0)
  split <;> omega
theorem seg_le (A : Nat → Bool) (a : Nat) : ∀ k : Nat, sA A (fun j => cntJ g (j : Int) (a + k)) n - sA A (fun j => cntJ g (j : Int) a) n ≤ (k : Int) := by
  intro k
  induction k with
  | zero => simp
  | succ k ih =>
    have e : sA A (fun j => cntJ g (j : Int) (a + (k + 1))) n = sA A (fun j => cntJ g (j : Int) (a + k)) n + smF (fun j => if A j = true then (if g (a + k) = (j : Int) then 1 else 0) else 0) n := by
      show sA A (fun j => cntJ g (j : Int) (a + k) + if g (a + k) = (j : Int) then 1 else 0) n = _
      rw [sA_add]
    have h1 := (one_le A (g (a + k)) n).2
    rw [e]
    split at h1 <;> omega
theorem seg_eq (A : Nat → Bool) (a : Nat) : ∀ k : Nat, (∀ t, a ≤ t → t < a + k → ∃ c, c < n ∧ A c = true ∧ g t = (c : Int)) → sA A (fun j => cntJ g (j : Int) (a + k)) n - sA A (fun j => cntJ g (j : Int) a) n = (k : Int) := by
  intro k
  induction k with
  | zero => intro _; simp
  | succ k ih =>
    intro h
    have i := ih (fun t h1 h2 => h t h1 (by omega))
    have e : sA A (fun j => cntJ g (j : Int) (a + (k + 1))) n = sA A (fun j => cntJ g (j : Int) (a + k)) n + smF (fun j => if A j = true then (if g (a + k) = (j : Int) then 1 else 0) else 0) n := by
      show sA A (fun j => cntJ g (j : Int) (a + k) + if g (a + k) = (j : Int) then 1 else 0) n = _
      rw [sA_add]
    obtain ⟨c, hc, hA, hg⟩ := h (a + k) (by omega) (by omega)
    rw [e, hg, one_eq hc hA]
    omega
/-- those that come at a or later and have deadlines up to b -/
abbrev inA (J : Mm) (a b : Int) : Nat → Bool := fun j => decide (a ≤ J 0 j ∧ 0 < J 2 j ∧ J 2 j ≤ b)
theorem wbt_sA (J : Mm) (a b : Int) : ∀ n : Nat, wbtF (J 0) (J 1) (J 2) a b n = sA (inA J a b) (J 1) n := by
  intro n
  induction n with
  | zero => rfl
  | succ n ih =>
    show wbtF (J 0) (J 1) (J 2) a b n + (if a ≤ J 0 n ∧ 0 < J 2 n ∧ J 2 n ≤ b then J 1 n else 0) = sA (inA J a b) (J 1) n + (if inA J a b n = true then J 1 n else 0)
    rw [ih]
    by_cases q : a ≤ J 0 n ∧ 0 < J 2 n ∧ J 2 n ≤ b
    · rw [if_pos q, if_pos (decide_eq_true q)]
    · rw [if_neg q, if_neg (by rw [decide_eq_true_iff]; exact q)]
/-- where a stretch is too full, one is late -/
theorem full_late (h : Sch J n g T) (he : Ens J n g T e) {a b : Nat} (hab : a ≤ b) (hf : (b : Int) - a < wbtF (J 0) (J 1) (J 2) a b n) (hn : ∀ j, j < n → 0 < J 2 j → e j ≤ J 2 j) : False := by
  rw [wbt_sA] at hf
  have hin : ∀ j, inA J a b j = true → (a : Int) ≤ J 0 j ∧ 0 < J 2 j ∧ J 2 j ≤ b := fun j q => of_decide_eq_true q
  by_cases hT : T ≤ a
  · have : sA (inA J a b) (J 1) n = 0 := by
      have e0 : sA (inA J a b) (J 1) n = smF (fun _ => 0) n := smF_cong (fun j hj => by
        by_cases q : inA J a b j = true
        · exfalso
          have h1 := lf_new h hj T (Nat.le_refl _) (by have := (hin j q).1; omega)
          have h2 := h.2.2.1 j hj
          have h3 := h.2.2.2.2.2 j hj
          omega
        · rw [if_neg q])
      rw [e0, smF_0]
    omega
  · have hb : ∃ k, a + k ≤ b ∧ a + k ≤ T ∧ (a + k = b ∨ a + k = T) := by
      by_cases q : b ≤ T
      · exact ⟨b - a, by omega, by omega, Or.inl (by omega)⟩
      · exact ⟨T - a, by omega, by omega, Or.inr (by omega)⟩
    obtain ⟨k, k1, k2, k3⟩ := hb
    have hs := seg_le (n := n) (g := g) (inA J a b) a k
    have e0 : sA (inA J a b) (fun j => cntJ g (j : Int) a) n = 0 := by
      have e0 : sA (inA J a b) (fun j => cntJ g (j : Int) a) n = smF (fun _ => 0) n := smF_cong (fun j hj => by
        by_cases q : inA J a b j = true
        · have h1 := lf_new h hj a (by omega) (hin j q).1
          rw [if_pos q]
          simp only [lfT] at h1
          show cntJ g (j : Int) a = 0
          omega
        · rw [if_neg q])
      rw [e0, smF_0]
    have e1 : sA (inA J a b) (fun j => cntJ g (j : Int) (a + k)) n = sA (inA J a b) (J 1) n := sA_cong (fun j hj q => by
      have h1 : lfT J g (a + k) j = 0 := by
        by_cases y : a + k = T
        · rw [y]; exact h.2.2.1 j hj
        · have h2 := h.2.2.2.2.1 (a + k) (by omega) j hj
          have h3 := (he j hj).2 (a + k) (by omega)
          have h4 := hn j hj (hin j q).2.1
          have h5 := (hin j q).2.2
          by_cases w : 0 < lfT J g (a + k) j
          · have := h3.mpr w; omega
          · omega
      simp only [lfT] at h1
      omega)
    rw [e0, e1] at hs
    omega
theorem lf_anti (g : Nat → Int) (J : Mm) (j : Nat) : ∀ d t, lfT J g (t + d) j ≤ lfT J g t j := by
  intro d
  induction d with
  | zero => intro t; exact Int.le_refl _
  | succ d ih =>
    intro t
    have h1 := ih t
    have h2 := lf_s (J := J) g (t + d) j
    rw [show t + (d + 1) = t + d + 1 by omega]
    split at h2 <;> omega
theorem ky_le {d : Nat → Int} {c : Nat} {x : Int} (h : kyF d c ≤ x) (hx : x ≤ 400) (h0 : 0 ≤ d c) : 0 < d c ∧ d c ≤ x := by
  have e : kyF d c = if d c = 0 then 401 else d c := rfl
  rw [e] at h
  split at h <;> omega
theorem ky_eq {d : Nat → Int} {c : Nat} (h : 0 < d c) : kyF d c = d c := by
  have e : kyF d c = if d c = 0 then 401 else d c := rfl
  rw [e, if_neg (by omega)]
theorem back_ex (P : Nat → Prop) : ∀ k : Nat, ∃ a, a ≤ k ∧ (∀ t, a ≤ t → t < k → P t) ∧ (a = 0 ∨ ¬ P (a - 1)) := by
  intro k
  induction k with
  | zero => exact ⟨0, Nat.le_refl _, fun t _ h => absurd h (by omega), Or.inl rfl⟩
  | succ k ih =>
    by_cases q : P k
    · obtain ⟨a, h1, h2, h3⟩ := ih
      refine ⟨a, by omega, fun t t1 t2 => ?_, h3⟩
      by_cases y : t = k
      · rw [y]; exact q
      · exact h2 t t1 (by omega)
    · exact ⟨k + 1, Nat.le_refl _, fun t _ h => absurd h (by omega), Or.inr q⟩
/-- where one is late by the nearest deadline, a stretch is too full -/
theorem late_full (h : Sch J n g T) (he : Ens J n g T e) (hE : Edf J n g T) (hw : ∀ j, j < n → J 4 j = 0) (hd : ∀ j, j < n → 0 ≤ J 2 j ∧ J 2 j ≤ 400) (hc : ∀ j, j < n → 0 ≤ J 0 j ∧ J 0 j ≤ 99) {j : Nat} (hj : j < n) (h0 : 0 < J 2 j) (hl : J 2 j < e j) :
    ∃ a : Nat, a ≤ 99 ∧ (a : Int) ≤ J 0 j ∧ (a : Int) ≤ J 2 j ∧ J 2 j - a < wbtF (J 0) (J 1) (J 2) a (J 2 j) n := by
  have hd1 := hd j hj
  have hc1 := hc j hj
  have hl1 := h.2.2.2.2.2 j hj
  by_cases hjd : J 2 j ≤ J 0 j
  · refine ⟨(J 2 j).toNat, by omega, by omega, by omega, ?_⟩
    rw [wbt_sA, show (((J 2 j).toNat : Nat) : Int) = J 2 j by omega]
    have hin : inA J (J 2 j) (J 2 j) j = true := decide_eq_true ⟨hjd, h0, Int.le_refl _⟩
    have := smF_lt (f := fun _ => 0) (g := fun i => if inA J (J 2 j) (J 2 j) i = true then J 1 i else 0) (c := j) (n := n) (fun i hi => by
      show 0 ≤ if inA J (J 2 j) (J 2 j) i = true then J 1 i else 0
      have := h.2.2.2.2.2 i hi
      split <;> omega) hj (by
      show 0 < if inA J (J 2 j) (J 2 j) j = true then J 1 j else 0
      rw [if_pos hin]; omega)
    rw [smF_0] at this
    show J 2 j - J 2 j < smF (fun i => if inA J (J 2 j) (J 2 j) i = true then J 1 i else 0) n
    omega
  · obtain ⟨d, hdn⟩ : ∃ d : Nat, J 2 j = (d : Int) := ⟨(J 2 j).toNat, by omega⟩
    have hej := he j hj
    have hdT : d < T := by omega
    have hlj : 0 < lfT J g d j := (hej.2 d hdT).mp (by omega)
    have npr : ∀ i t', i < n → prd J g t' i := fun i t' hi k _ hb => by rw [hw i hi] at hb; simp at hb
    obtain ⟨a, a1, a2, a3⟩ := back_ex (fun t => ∃ c, c < n ∧ g t = (c : Int) ∧ 0 < J 2 c ∧ J 2 c ≤ (d : Int)) d
    -- who has work left behind a - 1 and a near deadline came at a or later
    have come : ∀ i t', i < n → a ≤ t' → t' < T → 0 < J 2 i → J 2 i ≤ (d : Int) → 0 < lfT J g t' i → (a : Int) ≤ J 0 i := by
      intro i t' hi t1 t2 i0 i1 i2
      rcases a3 with a3 | a3
      · have := hc i hi; omega
      · by_cases q : (a : Int) ≤ J 0 i
        · exact q
        · exfalso
          by_cases a0 : a = 0
          · have := hc i hi; omega
          · have h3 := lf_anti g J i (t' - (a - 1)) (a - 1)
            rw [show a - 1 + (t' - (a - 1)) = t' by omega] at h3
            rcases h.1 (a - 1) (by omega) with z1 | ⟨x, x1, x2, -⟩
            · have := h.2.1 (a - 1) (by omega) z1 i hi (by omega) (npr i _ hi)
              omega
            · have hk := hE (a - 1) (by omega) x x2 i hi (by omega) (by omega)
              rw [ky_eq i0] at hk
              have := ky_le hk (by omega) (hd x x1).1
              exact a3 ⟨x, x1, x2, this.1, by omega⟩
    have haj := come j d hj a1 hdT h0 (by omega) hlj
    refine ⟨a, by omega, haj, by omega, ?_⟩
    rw [wbt_sA, hdn]
    have hin : ∀ i, inA J a d i = true → (a : Int) ≤ J 0 i ∧ 0 < J 2 i ∧ J 2 i ≤ d := fun i q => of_decide_eq_true q
    have hs := seg_eq (n := n) (g := g) (inA J a d) a (d - a) (fun t' t1 t2 => by
      obtain ⟨c, c1, c2, c3, c4⟩ := a2 t' t1 (by omega)
      refine ⟨c, c1, decide_eq_true ⟨?_, c3, c4⟩, c2⟩
      rcases h.1 t' (by omega) with z1 | ⟨x, x1, x2, -, x4, -⟩
      · omega
      · have ex : x = c := by omega
        rw [ex] at x4
        exact come c t' c1 t1 (by omega) c3 c4 x4)
    rw [show a + (d - a) = d by omega] at hs
    have e0 : sA (inA J a d) (fun i => cntJ g (i : Int) a) n = 0 := by
      have e0 : sA (inA J a d) (fun i => cntJ g (i : Int) a) n = smF (fun _ => 0) n := smF_cong (fun i hi => by
        by_cases q : inA J a d i = true
        · have h1 := lf_new h hi a (by omega) (hin i q).1
          rw [if_pos q]
          simp only [lfT] at h1
          show cntJ g (i : Int) a = 0
          omega
        · rw [if_neg q])
      rw [e0, smF_0]
    have hlt := smF_lt (f := fun i => if inA J a d i = true then cntJ g (i : Int) d else 0) (g := fun i => if inA J a d i = true then J 1 i else 0) (c := j) (n := n) (fun i hi => by
      show (if inA J a d i = true then cntJ g (i : Int) d else 0) ≤ if inA J a d i = true then J 1 i else 0
      have := h.2.2.2.2.1 d (by omega) i hi
      simp only [lfT] at this
      split <;> omega) hj (by
      have hja : inA J a d j = true := decide_eq_true ⟨haj, h0, by omega⟩
      show (if inA J a d j = true then cntJ g (j : Int) d else 0) < if inA J a d j = true then J 1 j else 0
      rw [if_pos hja, if_pos hja]
      simp only [lfT] at hlj
      omega)
    show (d : Int) - a < smF (fun i => if inA J a d i = true then J 1 i else 0) n
    have hs' : smF (fun i => if inA J a d i = true then cntJ g (i : Int) d else 0) n = ((d - a : Nat) : Int) := by
      have : smF (fun i => if inA J a d i = true then cntJ g (i : Int) d else 0) n - sA (inA J a d) (fun i => cntJ g (i : Int) a) n = ((d - a : Nat) : Int) := hs
      omega
    omega
end
/-! what full() looks for -/
section
variable {c l d : Nat → Int} {n : Nat}
abbrev toF (d : Nat → Int) (a : Int) (i : Nat) : Int := if a < d i then d i else a
theorem fen_ne {a : Int} (ha : 0 ≤ a) : ∀ m : Nat, fenF c l d n a m ≠ -1 ↔ ∃ i, i < m ∧ (0 < d i ∧ a ≤ c i) ∧ toF d a i - a < wbtF c l d a (toF d a i) n := by
  intro m
  induction m with
  | zero => exact ⟨fun q => absurd rfl q, fun ⟨i, q, _⟩ => absurd q (by omega)⟩
  | succ m ih =>
    have hto : toF d a m ≠ -1 := by unfold toF; split <;> omega
    show (if (0 < d m ∧ a ≤ c m) ∧ (fenF c l d n a m = -1 ∨ toF d a m < fenF c l d n a m) ∧ toF d a m - a < wbtF c l d a (toF d a m) n then toF d a m else fenF c l d n a m) ≠ -1 ↔ _
    constructor
    · intro q
      by_cases w : (0 < d m ∧ a ≤ c m) ∧ toF d a m - a < wbtF c l d a (toF d a m) n
      · exact ⟨m, by omega, w⟩
      · rw [if_neg (fun y => w ⟨y.1, y.2.2⟩)] at q
        obtain ⟨i, i1, i2⟩ := ih.mp q
        exact ⟨i, by omega, i2⟩
    · rintro ⟨i, i1, i2⟩
      split
      · exact hto
      · rename_i w
        by_cases e : i = m
        · rw [e] at i2
          intro y
          exact w ⟨i2.1, Or.inl y, i2.2⟩
        · exact ih.mpr ⟨i, by omega, i2⟩
theorem fu_ne : ∀ k a : Nat, fuB c l d n k a ≠ -1 ↔ ∃ x : Nat, a ≤ x ∧ x < a + k ∧ fenF c l d n (x : Int) n ≠ -1 := by
  intro k
  induction k with
  | zero => intro a; exact ⟨fun q => absurd rfl q, fun ⟨x, x1, x2, _⟩ => absurd x2 (by omega)⟩
  | succ k ih =>
    intro a
    simp only [fuB]
    by_cases q : fenF c l d n (a : Int) n ≠ -1
    · rw [if_pos q]
      exact ⟨fun _ => ⟨a, Nat.le_refl _, by omega, q⟩, fun _ => by omega⟩
    · rw [if_neg q, ih]
      constructor
      · rintro ⟨x, x1, x2, x3⟩; exact ⟨x, by omega, by omega, x3⟩
      · rintro ⟨x, x1, x2, x3⟩
        by_cases e : x = a
        · rw [e] at x3; exact absurd x3 q
        · exact ⟨x, by omega, by omega, x3⟩
theorem lat_0 {d e : Nat → Int} : ∀ n : Nat, latN d e n = 0 ↔ ∀ j, j < n → d j = 0 ∨ e j ≤ d j := by
  intro n
  induction n with
  | zero => exact ⟨fun _ j hj => absurd hj (by omega), fun _ => rfl⟩
  | succ n ih =>
    have hb := (latN_b d e n).1
    have hl : 0 < lat (d n) (e n) ↔ ¬ (d n = 0 ∨ e n ≤ d n) := by
      unfold lat
      by_cases q : d n = 0
      · rw [if_pos q]; omega
      · rw [if_neg q]
        split <;> omega
    simp only [latN]
    by_cases q : 0 < lat (d n) (e n)
    · rw [if_pos q]
      exact ⟨fun y => by omega, fun y => absurd (y n (by omega)) (hl.mp q)⟩
    · rw [if_neg q]
      have hq : d n = 0 ∨ e n ≤ d n := by
        by_cases w : d n = 0 ∨ e n ≤ d n
        · exact w
        · exact absurd (hl.mpr w) q
      constructor
      · intro y j hj
        by_cases e : j = n
        · rw [e]; exact hq
        · exact (ih.mp (by omega)) j (by omega)
      · intro y
        have := ih.mpr (fun j hj => y j (by omega))
        omega
end
section
variable {J : Mm} {n : Nat} {K : Nat → Int} {z : Int}
theorem okD_d (hD : okD J n) {j : Nat} (hj : j < n) : 0 ≤ J 2 j ∧ J 2 j ≤ 400 := (hD.2 j (by omega)).2.2.1
/-- a run that keeps all deadlines, where a stretch is too full -/
theorem any_full (hD : okD J n) (hK : okK K) (h2 : K 2 = 0) (hl : lateE J n K z = 0) : fuB (J 0) (J 1) (J 2) n 100 0 = -1 := by
  obtain ⟨T, -, hS, hE, -⟩ := fn_sch hD hK h2 (z := z)
  have hk := (lat_0 n).mp hl
  by_cases q : fuB (J 0) (J 1) (J 2) n 100 0 = -1
  · exact q
  · exfalso
    obtain ⟨x, -, -, x3⟩ := (fu_ne 100 0).mp q
    obtain ⟨i, i1, ⟨i2, i3⟩, i4⟩ := (fen_ne (by omega) n).mp x3
    obtain ⟨b, hb⟩ : ∃ b : Nat, toF (J 2) (x : Int) i = (b : Int) := ⟨(toF (J 2) (x : Int) i).toNat, by unfold toF; split <;> omega⟩
    rw [hb] at i4
    refine full_late hS hE (a := x) (b := b) ?_ i4 (fun j hj h0 => ?_)
    · have : (x : Int) ≤ (b : Int) := by rw [← hb]; unfold toF; split <;> omega
      omega
    · rcases hk j hj with y | y
      · omega
      · exact y
theorem edf_full (hD : okD J n) (hK : okK K) (h6 : K 0 = 6) (h2 : K 2 = 0) (hw : ∀ j, j < n → J 4 j = 0) (hf : fuB (J 0) (J 1) (J 2) n 100 0 = -1) : lateE J n K z = 0 := by
  obtain ⟨T, hR⟩ := fn_run hD hK z
  obtain ⟨T', e, hS, hE, -⟩ := fn_sch hD hK h2 (z := z)
  have eT : T' = T := by
    have := (hR.2.2.2.2 T (Nat.le_refl _)).2.2
    rw [← hR.1] at this
    omega
  subst eT
  have hed := run_edf hD hK hR h6 h2 hw
  refine (lat_0 n).mpr (fun j hj => ?_)
  have hd := okD_d hD hj
  by_cases y : J 2 j = 0
  · exact Or.inl y
  · right
    by_cases w : (fnF J n K z).1 1 j ≤ J 2 j
    · exact w
    · exfalso
      obtain ⟨a, a1, a2, a3, a4⟩ := late_full hS hE hed hw (fun i hi => okD_d hD hi) (fun i hi => okD_c hD hi) hj (by omega) (by omega)
      refine (fu_ne 100 0).mpr ⟨a, by omega, by omega, (fen_ne (by omega) n).mpr ⟨j, hj, ⟨by omega, a2⟩, ?_⟩⟩ hf
      have : toF (J 2) (a : Int) j = J 2 j := by unfold toF; split <;> omega
      rw [this]; exact a4
end
