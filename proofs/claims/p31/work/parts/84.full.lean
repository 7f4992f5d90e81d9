/-! ===== the law: the first stretch that is too full ===== -/
/-- the least deadline behind which it is too full from a on, as the law looks for it; the work -/
def flF (c l d : Nat → Int) (n : Nat) (a : Int) : Nat → Int × Int
  | 0 => (-1, 0)
  | i + 1 => if (a ≤ d i ∧ d i ≠ 0) ∧ d i - a < wbtF c l d a (d i) n ∧ ((flF c l d n a i).1 < 0 ∨ d i < (flF c l d n a i).1) then (d i, wbtF c l d a (d i) n) else flF c l d n a i
section
variable {c l d : Nat → Int} {n : Nat} {a b : Int}
abbrev fcd (c l d : Nat → Int) (n : Nat) (a : Int) (i : Nat) : Prop := (0 < d i ∧ a ≤ c i) ∧ toF d a i - a < wbtF c l d a (toF d a i) n
abbrev lcd (c l d : Nat → Int) (n : Nat) (a : Int) (i : Nat) : Prop := (a ≤ d i ∧ d i ≠ 0) ∧ d i - a < wbtF c l d a (d i) n
theorem flF_is (ha : 0 ≤ a) : ∀ m : Nat, ((flF c l d n a m).1 = -1 ∧ (flF c l d n a m).2 = 0 ∧ ∀ i, i < m → ¬ lcd c l d n a i) ∨ ∃ i, i < m ∧ lcd c l d n a i ∧ flF c l d n a m = (d i, wbtF c l d a (d i) n) ∧ ∀ i', i' < m → lcd c l d n a i' → d i ≤ d i' := by
  intro m
  induction m with
  | zero => exact Or.inl ⟨rfl, rfl, fun i hi => absurd hi (by omega)⟩
  | succ m ih =>
    rw [flF]
    rcases ih with ⟨h1, h2, h3⟩ | ⟨i, h1, h2, h3, h4⟩
    · by_cases q : lcd c l d n a m
      · rw [if_pos ⟨q.1, q.2, Or.inl (by omega)⟩]
        refine Or.inr ⟨m, by omega, q, rfl, fun i' hi' q' => ?_⟩
        by_cases e : i' = m
        · rw [e]; exact Int.le_refl _
        · exact absurd q' (h3 i' (by omega))
      · rw [if_neg (fun z => q ⟨z.1, z.2.1⟩)]
        refine Or.inl ⟨h1, h2, fun i' hi' q' => ?_⟩
        by_cases e : i' = m
        · rw [e] at q'; exact q q'
        · exact h3 i' (by omega) q'
    · have e1 : (flF c l d n a m).1 = d i := by rw [h3]
      have hdi : 0 < d i := by have := h2.1; omega
      by_cases q : lcd c l d n a m ∧ d m < d i
      · rw [if_pos ⟨q.1.1, q.1.2, Or.inr (by rw [e1]; exact q.2)⟩]
        refine Or.inr ⟨m, by omega, q.1, rfl, fun i' hi' q' => ?_⟩
        by_cases e : i' = m
        · rw [e]; exact Int.le_refl _
        · have := h4 i' (by omega) q'; omega
      · rw [if_neg (fun z => q ⟨⟨z.1, z.2.1⟩, by rw [e1] at z; omega⟩)]
        refine Or.inr ⟨i, by omega, h2, h3, fun i' hi' q' => ?_⟩
        by_cases e : i' = m
        · subst e
          have : ¬ d i' < d i := fun y => q ⟨q', y⟩
          omega
        · exact h4 i' (by omega) q'
theorem fen_is (ha : 0 ≤ a) : ∀ m : Nat, (fenF c l d n a m = -1 ∧ ∀ i, i < m → ¬ fcd c l d n a i) ∨ ∃ i, i < m ∧ fcd c l d n a i ∧ fenF c l d n a m = toF d a i ∧ ∀ i', i' < m → fcd c l d n a i' → toF d a i ≤ toF d a i' := by
  intro m
  induction m with
  | zero => exact Or.inl ⟨rfl, fun i hi => absurd hi (by omega)⟩
  | succ m ih =>
    have e : fenF c l d n a (m + 1) = if (0 < d m ∧ a ≤ c m) ∧ (fenF c l d n a m = -1 ∨ toF d a m < fenF c l d n a m) ∧ toF d a m - a < wbtF c l d a (toF d a m) n then toF d a m else fenF c l d n a m := rfl
    rw [e]
    rcases ih with ⟨h1, h2⟩ | ⟨i, h1, h2, h3, h4⟩
    · by_cases q : fcd c l d n a m
      · rw [if_pos ⟨q.1, Or.inl h1, q.2⟩]
        refine Or.inr ⟨m, by omega, q, rfl, fun i' hi' q' => ?_⟩
        by_cases e : i' = m
        · rw [e]; exact Int.le_refl _
        · exact absurd q' (h2 i' (by omega))
      · rw [if_neg (fun z => q ⟨z.1, z.2.2⟩)]
        refine Or.inl ⟨h1, fun i' hi' q' => ?_⟩
        by_cases e : i' = m
        · rw [e] at q'; exact q q'
        · exact h2 i' (by omega) q'
    · have hto : 0 ≤ toF d a i := by unfold toF; split <;> omega
      by_cases q : fcd c l d n a m ∧ toF d a m < toF d a i
      · rw [if_pos ⟨q.1.1, Or.inr (by rw [h3]; exact q.2), q.1.2⟩]
        refine Or.inr ⟨m, by omega, q.1, rfl, fun i' hi' q' => ?_⟩
        by_cases e : i' = m
        · rw [e]; exact Int.le_refl _
        · have := h4 i' (by omega) q'; omega
      · rw [if_neg (fun z => q ⟨⟨z.1, z.2.2⟩, by rcases z.2.1 with y | y; omega; omega⟩)]
        refine Or.inr ⟨i, by omega, h2, h3, fun i' hi' q' => ?_⟩
        by_cases e : i' = m
        · subst e
          have : ¬ toF d a i' < toF d a i := fun y => q ⟨q', y⟩
          omega
        · exact h4 i' (by omega) q'
theorem wbt_pos : ∀ n : Nat, 0 < wbtF c l d a b n → ∃ k, k < n ∧ a ≤ c k ∧ 0 < d k ∧ d k ≤ b := by
  intro n
  induction n with
  | zero => intro h; exact absurd h (by show ¬ (0 : Int) < 0; decide)
  | succ n ih =>
    intro h
    simp only [wbtF] at h
    by_cases q : a ≤ c n ∧ 0 < d n ∧ d n ≤ b
    · exact ⟨n, by omega, q⟩
    · rw [if_neg q] at h
      obtain ⟨k, k1, k2⟩ := ih (by omega)
      exact ⟨k, by omega, k2⟩
theorem wbt_cg {b' : Int} : ∀ n : Nat, (∀ k, k < n → a ≤ c k → 0 < d k → (d k ≤ b ↔ d k ≤ b')) → wbtF c l d a b n = wbtF c l d a b' n := by
  intro n
  induction n with
  | zero => intro _; rfl
  | succ n ih =>
    intro h
    simp only [wbtF]
    rw [ih (fun k hk => h k (by omega))]
    by_cases q : a ≤ c n ∧ 0 < d n
    · have := h n (by omega) q.1 q.2
      by_cases q2 : d n ≤ b
      · rw [if_pos ⟨q.1, q.2, q2⟩, if_pos ⟨q.1, q.2, this.mp q2⟩]
      · rw [if_neg (fun z => q2 z.2.2), if_neg (fun z => q2 (this.mpr z.2.2))]
    · rw [if_neg (fun z => q ⟨z.1, z.2.1⟩), if_neg (fun z => q ⟨z.1, z.2.1⟩)]
theorem wbt_nn (hl : ∀ k, k < n → 1 ≤ l k) : ∀ m : Nat, m ≤ n → 0 ≤ wbtF c l d a b m ∧ ∀ k, k < m → a ≤ c k → 0 < d k → d k ≤ b → 0 < wbtF c l d a b m := by
  intro m
  induction m with
  | zero => intro _; exact ⟨Int.le_refl _, fun k hk => absurd hk (by omega)⟩
  | succ m ih =>
    intro hm
    obtain ⟨h1, h2⟩ := ih (by omega)
    have hlm := hl m (by omega)
    simp only [wbtF]
    refine ⟨by split <;> omega, fun k hk k1 k2 k3 => ?_⟩
    by_cases e : k = m
    · subst e
      rw [if_pos ⟨k1, k2, k3⟩]; omega
    · have := h2 k (by omega) k1 k2 k3
      split <;> omega
/-- the greatest deadline of those that count -/
theorem max_ex : ∀ n : Nat, (∃ k, k < n ∧ a ≤ c k ∧ 0 < d k ∧ d k ≤ b) → ∃ k, k < n ∧ (a ≤ c k ∧ 0 < d k ∧ d k ≤ b) ∧ ∀ i, i < n → a ≤ c i → 0 < d i → d i ≤ b → d i ≤ d k := by
  intro n
  induction n with
  | zero => rintro ⟨k, hk, -⟩; exact absurd hk (by omega)
  | succ n ih =>
    rintro ⟨k, hk, hq⟩
    by_cases h : ∃ k, k < n ∧ a ≤ c k ∧ 0 < d k ∧ d k ≤ b
    · obtain ⟨x, x1, x2, x3⟩ := ih h
      by_cases q : (a ≤ c n ∧ 0 < d n ∧ d n ≤ b) ∧ d x < d n
      · refine ⟨n, by omega, q.1, fun i hi i1 i2 i3 => ?_⟩
        by_cases e : i = n
        · rw [e]; exact Int.le_refl _
        · have := x3 i (by omega) i1 i2 i3; omega
      · refine ⟨x, by omega, x2, fun i hi i1 i2 i3 => ?_⟩
        by_cases e : i = n
        · subst e
          have : ¬ d x < d i := fun y => q ⟨⟨i1, i2, i3⟩, y⟩
          omega
        · exact x3 i (by omega) i1 i2 i3
    · have e : k = n := by
        by_cases e : k = n
        · exact e
        · exact absurd ⟨k, by omega, hq⟩ h
      subst e
      refine ⟨k, by omega, hq, fun i hi i1 i2 i3 => ?_⟩
      by_cases e : i = k
      · rw [e]; exact Int.le_refl _
      · exact absurd ⟨i, by omega, i1, i2, i3⟩ h
/-- where the law finds one, one that counts has a deadline not later -/
theorem lcd_max (ha : 0 ≤ a) {i : Nat} (h : lcd c l d n a i) : ∃ k, k < n ∧ (a ≤ c k ∧ 0 < d k ∧ d k ≤ d i) ∧ wbtF c l d a (d k) n = wbtF c l d a (d i) n := by
  obtain ⟨k, k1, k2, k3⟩ := max_ex (c := c) (d := d) (a := a) (b := d i) n (wbt_pos (l := l) n (by have := h.1; have := h.2; omega))
  exact ⟨k, k1, k2, wbt_cg n (fun x hx x1 x2 => ⟨fun y => by omega, fun y => k3 x hx x1 x2 y⟩)⟩
theorem full_law (hl : ∀ k, k < n → 1 ≤ l k) (hd : ∀ k, k < n → d k = 0 ∨ c k - 1 ≤ d k) (hd0 : ∀ k, k < n → 0 ≤ d k) {a : Nat} (first : ∀ x : Nat, x < a → fenF c l d n (x : Int) n = -1) :
    (fenF c l d n (a : Int) n = -1 → (flF c l d n (a : Int) n).1 = -1) ∧ (fenF c l d n (a : Int) n ≠ -1 → flF c l d n (a : Int) n = (fenF c l d n (a : Int) n, wbtF c l d (a : Int) (fenF c l d n (a : Int) n) n)) := by
  have hf := fen_is (c := c) (l := l) (d := d) (n := n) (a := (a : Int)) (by omega) n
  have hL := flF_is (c := c) (l := l) (d := d) (n := n) (a := (a : Int)) (by omega) n
  have toe : ∀ k, (a : Int) ≤ d k → toF d (a : Int) k = d k := fun k q => by unfold toF; split <;> omega
  constructor
  · intro q
    rcases hf with ⟨-, f2⟩ | ⟨i, -, -, f3, -⟩
    · rcases hL with ⟨h1, -⟩ | ⟨i, h1, h2, -⟩
      · exact h1
      · exfalso
        obtain ⟨k, k1, ⟨k2, k3, k4⟩, k5⟩ := lcd_max (by omega) h2
        refine f2 k k1 ⟨⟨k3, k2⟩, ?_⟩
        by_cases y : (a : Int) ≤ d k
        · rw [toe k y, k5]; have := h2.2; omega
        · have e : toF d (a : Int) k = a := by unfold toF; rw [if_neg (by omega)]
          rw [e]
          have := (wbt_nn (c := c) (d := d) (a := (a : Int)) (b := (a : Int)) hl n (Nat.le_refl _)).2 k k1 k2 k3 (by omega)
          omega
    · exfalso
      have : 0 ≤ toF d (a : Int) i := by unfold toF; split <;> omega
      omega
  · intro q
    rcases hf with ⟨f1, -⟩ | ⟨i, f1, f2, f3, f4⟩
    · exact absurd f1 q
    · -- nobody who comes at a or later has a deadline ahead of a
      have near : ∀ k, k < n → (a : Int) ≤ c k → 0 < d k → (a : Int) ≤ d k := by
        intro k hk k1 k2
        by_cases y : (a : Int) ≤ d k
        · exact y
        · exfalso
          rcases hd k hk with z | z
          · omega
          · have ea : d k = ((a - 1 : Nat) : Int) := by omega
            have h1 := first (a - 1) (by omega)
            refine (fen_ne (c := c) (l := l) (d := d) (n := n) (a := ((a - 1 : Nat) : Int)) (by omega) n).mpr ⟨k, hk, ⟨k2, by omega⟩, ?_⟩ h1
            have e : toF d ((a - 1 : Nat) : Int) k = d k := by unfold toF; rw [if_neg (by omega)]; exact ea.symm
            rw [e]
            have := (wbt_nn (c := c) (d := d) (a := ((a - 1 : Nat) : Int)) (b := d k) hl n (Nat.le_refl _)).2 k hk (by omega) k2 (Int.le_refl _)
            omega
      have ni := near i f1 f2.1.2 f2.1.1
      have ti := toe i ni
      have ci : lcd c l d n (a : Int) i := ⟨⟨ni, by have := f2.1.1; omega⟩, by have := f2.2; rw [ti] at this; exact this⟩
      rcases hL with ⟨-, -, h3⟩ | ⟨x, h1, h2, h3, h4⟩
      · exact absurd ci (h3 i f1)
      · have hx := h4 i f1 ci
        obtain ⟨k, k1, ⟨k2, k3, k4⟩, k5⟩ := lcd_max (by omega) h2
        have nk := near k k1 k2 k3
        have ck : fcd c l d n (a : Int) k := ⟨⟨k3, k2⟩, by rw [toe k nk, k5]; have := h2.2; omega⟩
        have hk := f4 k k1 ck
        rw [toe k nk, ti] at hk
        have e : d x = d i := by omega
        rw [h3, f3, ti, e]
theorem fu_all (h : ∀ x : Nat, x < 100 → fenF c l d n (x : Int) n = -1) : fuB c l d n 100 0 = -1 := by
  by_cases q : fuB c l d n 100 0 = -1
  · exact q
  · obtain ⟨x, -, x2, x3⟩ := (fu_ne 100 0).mp q
    exact absurd (h x (by omega)) x3
theorem fu_first : ∀ (k b a : Nat), b ≤ a → a < b + k → (∀ x : Nat, b ≤ x → x < a → fenF c l d n (x : Int) n = -1) → fenF c l d n (a : Int) n ≠ -1 → fuB c l d n k b = (a : Int) := by
  intro k
  induction k with
  | zero => intro b a h1 h2; omega
  | succ k ih =>
    intro b a h1 h2 h3 h4
    simp only [fuB]
    by_cases e : b = a
    · rw [e, if_pos h4]
    · rw [if_neg (fun z => z (h3 b (Nat.le_refl _) (by omega)))]
      exact ih (b + 1) a (by omega) (by omega) (fun x x1 x2 => h3 x (by omega) x2) h4
end
section
variable {l : Launch} {B : Nat} {D : va_G} {E : Nat → ClassId} {μ m σ : Mm} {w n : Nat} {K : Nat → Int} {s : St} {J : Mm}
set_option maxHeartbeats 1000000 in
theorem c_L_isFull (hst : l.stackTraces = false) (hO : hOK μ) (hn : μ 1 9 = (n : Int)) (hA : eqA (jm μ) n (μ 124)) (hd : ∀ k, k < n → μ 7 k = 0 ∨ μ 3 k - 1 ≤ μ 7 k) {kp : Int} (hkp : kp = 0 ∨ kp = 1) (hkf : kp = 1 ↔ fuB (μ 3) (μ 5) (μ 7) n 100 0 = -1) :
    Ct l B D E yL_isFull (.code yL_isFull cL_isFull 11 (some .boolean)) rm_L_isFull [.ref (pl B 0), .ref (pl B 124), iI (n : Int), iI kp] μ (ri 1 μ) NX := by
  have hn12 : n ≤ 12 := by have := hO.J.1; omega
  have hJ : ∀ k, k < n → (0 ≤ μ 3 k ∧ μ 3 k ≤ 99) ∧ (1 ≤ μ 5 k ∧ μ 5 k ≤ 30) ∧ (0 ≤ μ 7 k ∧ μ 7 k ≤ 400) := fun k hk => by have := hO.J.2 k (by omega); exact ⟨this.1, this.2.1, this.2.2.1⟩
  have f0 : ∀ k, k < n → μ 124 (60 * (k : Int)).toNat = μ 3 k := fun k hk => by rw [show (60 * (k : Int)).toNat = 60 * k by omega]; exact (hA k hk).1
  have f1 : ∀ k, k < n → μ 124 (60 * (k : Int) + 1).toNat = μ 5 k := fun k hk => by rw [show (60 * (k : Int) + 1).toNat = 60 * k + 1 by omega]; exact (hA k hk).2.1
  have f2 : ∀ k, k < n → μ 124 (60 * (k : Int) + 2).toNat = μ 7 k := fun k hk => by rw [show (60 * (k : Int) + 2).toNat = 60 * k + 2 by omega]; exact (hA k hk).2.2.1
  have hlaw := fun (a : Nat) first => full_law (c := μ 3) (l := μ 5) (d := μ 7) (n := n) (fun k hk => (hJ k hk).2.1.1) hd (fun k hk => (hJ k hk).2.2.1) (a := a) first
  have hbw : ∀ (a b : Int) (k : Nat), k ≤ n → 0 ≤ wbtF (μ 3) (μ 5) (μ 7) a b k ∧ wbtF (μ 3) (μ 5) (μ 7) a b k ≤ 30 * k := fun a b k hk => wbtF_b (n := n) (fun j hj => by have := (hJ j hj).2.1; omega) k hk
  have rc0 : ∀ x : Int, 0 ≤ x ∧ x ≤ 2 → rcF x = 0 := fun x q => by unfold rcF; rw [if_neg (fun z => z q)]
  refine ct_of (own := RL) (lv := [(0, _), (1, _), (2, _), (3, _)]) hst (by decide) rfl rfl (Nat.le_of_ble_eq_true rfl) fun a h r t => ?_
  have fin : kp = 1 → VV a B (SP B D E μ) 0 0 231 [(0, .ref (pl B 0)), (1, .ref (pl B 124)), (2, iI (n : Int)), (3, iI kp)] [] := by
    intro q
    have hfu := hkf.mp q
    have ef : ∀ x : Int, fullC (μ 3) (μ 5) (μ 7) n x = -1 := fun x => by unfold fullC; rw [if_pos hfu]
    refine v_iload_n (pc := 231) h (dk dt_L_isFull_1 63 rfl) rfl ?_
    refine v_if_eq (pc := 232) h 267 (dk dt_L_isFull_2 0 rfl) rfl (by omega) (fun c232 => ?_) (fun c232 => ?_)
    ·
      exact absurd c232 (by omega)
    ·
      refine v_aload_n (pc := 235) h (dk dt_L_isFull_2 1 rfl) rfl ?_
      refine v_bipush (pc := 236) h (dk dt_L_isFull_2 2 rfl) rfl ?_
      refine v_iconst (pc := 238) h (dk dt_L_isFull_2 3 rfl) ?_
      refine v_iconst (pc := 239) h (dk dt_L_isFull_2 4 rfl) ?_
      refine v_iconst (pc := 240) h (dk dt_L_isFull_2 5 rfl) ?_
      refine v_iconst (pc := 241) h (dk dt_L_isFull_2 6 rfl) ?_
      refine v_callH (pc := 242) h (d_full (n := n) h.quiet hO hn (by omega)) kh_L_done wM_L_84 rfl rfl (Nat.le_of_ble_eq_true rfl) (RM.of rfl) (dk dt_L_isFull_2 7 rfl) (fun v242 μ242 p242 => ?_)
      rcases p242 with ⟨-, rfl, rfl⟩ | ⟨y, -, -⟩
      case inr => exact absurd (rc0 0 (by omega)) y
      rw [ef]
      refine v_iconst (pc := 245) h (dk dt_L_isFull_2 8 rfl) ?_
      refine v_icmp_neS (pc := 246) h 267 (dk dt_L_isFull_2 9 rfl) rfl ?_
      refine v_aload_n (pc := 249) h (dk dt_L_isFull_2 10 rfl) rfl ?_
      refine v_bipush (pc := 250) h (dk dt_L_isFull_2 11 rfl) rfl ?_
      refine v_iconst (pc := 252) h (dk dt_L_isFull_2 12 rfl) ?_
      refine v_iconst (pc := 253) h (dk dt_L_isFull_2 13 rfl) ?_
      refine v_iconst (pc := 254) h (dk dt_L_isFull_2 14 rfl) ?_
      refine v_iconst (pc := 255) h (dk dt_L_isFull_2 15 rfl) ?_
      refine v_callH (pc := 256) h (d_full (n := n) h.quiet hO hn (by omega)) kh_L_done wM_L_84 rfl rfl (Nat.le_of_ble_eq_true rfl) (RM.of rfl) (dk dt_L_isFull_2 16 rfl) (fun v256 μ256 p256 => ?_)
      rcases p256 with ⟨-, rfl, rfl⟩ | ⟨y, -, -⟩
      case inr => exact absurd (rc0 2 (by omega)) y
      rw [ef]
      refine v_iconst (pc := 259) h (dk dt_L_isFull_2 17 rfl) ?_
      refine v_icmp_neS (pc := 260) h 267 (dk dt_L_isFull_2 18 rfl) rfl ?_
      refine v_iconst (pc := 263) h (dk dt_L_isFull_2 19 rfl) ?_
      refine v_goto (pc := 264) h 268 (dk dt_L_isFull_2 20 rfl) rfl ?_
      exact v_zret (pc := 268) h r (dk dt_L_isFull_2 22 rfl) (Nat.le_of_ble_eq_true rfl) (Nat.le_of_ble_eq_true rfl) (by omega) ⟨rfl, rfl⟩
  have loop : ∀ (dd a0 : Nat), a0 + dd = 151 → (∀ x : Nat, x < a0 → fenF (μ 3) (μ 5) (μ 7) n (x : Int) n = -1) → VV a B (SP B D E μ) 0 0 3 [(4, iI (a0 : Int)), (0, .ref (pl B 0)), (1, .ref (pl B 124)), (2, iI (n : Int)), (3, iI kp)] [] := by
    intro dd
    induction dd with
    | zero =>
      intro a0 ha first
      refine v_iload (pc := 3) h (dk dt_L_isFull_0 2 rfl) rfl ?_
      refine v_sipush (pc := 5) h (dk dt_L_isFull_0 3 rfl) rfl ?_
      refine v_icmp_gt (pc := 8) h 231 (dk dt_L_isFull_0 4 rfl) rfl (by omega) (fun c8 => ?_) (fun c8 => ?_)
      ·
        exact VV.loc (fin (hkf.mpr (fu_all (fun x hx => first x (by omega))))) ⟨rfl, rfl, rfl, rfl, trivial⟩
      ·
        exact absurd c8 (by omega)
    | succ dd ih =>
      intro a0 ha first
      obtain ⟨q1, q2⟩ := hlaw a0 first
      have late : 99 < a0 → fenF (μ 3) (μ 5) (μ 7) n (a0 : Int) n = -1 := fun y => by
        rcases fen_is (c := μ 3) (l := μ 5) (d := μ 7) (n := n) (a := (a0 : Int)) (by omega) n with ⟨z, -⟩ | ⟨i, i1, i2, -⟩
        · exact z
        · have := (hJ i i1).1; have := i2.1.2; omega
      have hflb : ∀ i : Nat, i ≤ n → (-1 ≤ (flF (μ 3) (μ 5) (μ 7) n (a0 : Int) i).1 ∧ (flF (μ 3) (μ 5) (μ 7) n (a0 : Int) i).1 ≤ 400) ∧ 0 ≤ (flF (μ 3) (μ 5) (μ 7) n (a0 : Int) i).2 ∧ (flF (μ 3) (μ 5) (μ 7) n (a0 : Int) i).2 ≤ 360 := fun i hi => by
        rcases flF_is (c := μ 3) (l := μ 5) (d := μ 7) (n := n) (a := (a0 : Int)) (by omega) i with ⟨z1, z2, -⟩ | ⟨k, k1, k2, k3, -⟩
        · omega
        · rw [k3]
          have := (hJ k (by omega)).2.2
          have := hbw (a0 : Int) (μ 7 k) n (Nat.le_refl _)
          simp only
          omega
      have go165 : VV a B (SP B D E μ) 0 0 165 [(7, iI (n : Int)), (6, iI (flF (μ 3) (μ 5) (μ 7) n (a0 : Int) n).2), (5, iI (flF (μ 3) (μ 5) (μ 7) n (a0 : Int) n).1), (4, iI (a0 : Int)), (0, .ref (pl B 0)), (1, .ref (pl B 124)), (2, iI (n : Int)), (3, iI kp)] [] := by
        have hb := hflb n (Nat.le_refl _)
        by_cases y : fenF (μ 3) (μ 5) (μ 7) n (a0 : Int) n = -1
        · have e := q1 y
          refine v_iload (pc := 165) h (dk dt_L_isFull_1 26 rfl) rfl ?_
          refine v_if_lt (pc := 167) h 225 (dk dt_L_isFull_1 27 rfl) rfl (by omega) (fun c167 => ?_) (fun c167 => ?_)
          ·
            refine v_iinc (lv' := [(4, _), (7, _), (6, _), (5, _), (0, _), (1, _), (2, _), (3, _)]) (pc := 225) h (dk dt_L_isFull_1 61 rfl) rfl (Nat.le_of_ble_eq_true rfl) rfl ?_
            refine v_goto (pc := 228) h 3 (dk dt_L_isFull_1 62 rfl) rfl ?_
            exact VV.loc (ih (a0 + 1) (by omega) (fun x hx => by by_cases e : x = a0; rw [e]; exact y; exact first x (by omega))) ⟨rfl, rfl, rfl, rfl, rfl, trivial⟩
          ·
            exact absurd c167 (by omega)
        · have e := q2 y
          have ha99 : a0 ≤ 99 := by
            by_cases z : a0 ≤ 99
            · exact z
            · exact absurd (late (by omega)) y
          have hfu : fuB (μ 3) (μ 5) (μ 7) n 100 0 = (a0 : Int) := fu_first 100 0 a0 (by omega) (by omega) (fun x _ x2 => first x x2) y
          have hk0 : kp = 0 := by
            rcases hkp with z | z
            · exact z
            · have := hkf.mp z; omega
          have e0 : fullC (μ 3) (μ 5) (μ 7) n 0 = (a0 : Int) := by unfold fullC; rw [if_neg (by omega), if_pos rfl]; exact hfu
          have e1 : fullC (μ 3) (μ 5) (μ 7) n 1 = (flF (μ 3) (μ 5) (μ 7) n (a0 : Int) n).1 := by unfold fullC; rw [if_neg (by omega), if_neg (by decide), if_pos rfl, hfu, e]
          have e2 : fullC (μ 3) (μ 5) (μ 7) n 2 = (flF (μ 3) (μ 5) (μ 7) n (a0 : Int) n).2 := by unfold fullC; rw [if_neg (by omega), if_neg (by decide), if_neg (by decide), hfu, e]
          have hpos : 0 ≤ (flF (μ 3) (μ 5) (μ 7) n (a0 : Int) n).1 := by
            have e3 : (flF (μ 3) (μ 5) (μ 7) n (a0 : Int) n).1 = fenF (μ 3) (μ 5) (μ 7) n (a0 : Int) n := by rw [e]
            omega
          refine v_iload (pc := 165) h (dk dt_L_isFull_1 26 rfl) rfl ?_
          refine v_if_lt (pc := 167) h 225 (dk dt_L_isFull_1 27 rfl) rfl (by omega) (fun c167 => ?_) (fun c167 => ?_)
          ·
            exact absurd c167 (by omega)
          ·
            refine v_iload_n (pc := 170) h (dk dt_L_isFull_1 28 rfl) rfl ?_
            refine v_if_ne (pc := 171) h 223 (dk dt_L_isFull_1 29 rfl) rfl (by omega) (fun c171 => ?_) (fun c171 => ?_)
            ·
              exact absurd hk0 c171
            ·
              refine v_aload_n (pc := 174) h (dk dt_L_isFull_1 30 rfl) rfl ?_
              refine v_bipush (pc := 175) h (dk dt_L_isFull_1 31 rfl) rfl ?_
              refine v_iconst (pc := 177) h (dk dt_L_isFull_1 32 rfl) ?_
              refine v_iconst (pc := 178) h (dk dt_L_isFull_1 33 rfl) ?_
              refine v_iconst (pc := 179) h (dk dt_L_isFull_1 34 rfl) ?_
              refine v_iconst (pc := 180) h (dk dt_L_isFull_1 35 rfl) ?_
              refine v_callH (pc := 181) h (d_full (n := n) h.quiet hO hn (by omega)) kh_L_done wM_L_84 rfl rfl (Nat.le_of_ble_eq_true rfl) (RM.of rfl) (dk dt_L_isFull_1 36 rfl) (fun v181 μ181 p181 => ?_)
              rcases p181 with ⟨-, rfl, rfl⟩ | ⟨y, -, -⟩
              case inr => exact absurd (rc0 0 (by omega)) y
              rw [e0]
              refine v_iload (pc := 184) h (dk dt_L_isFull_1 37 rfl) rfl ?_
              refine v_icmp_neS (pc := 186) h 223 (dk dt_L_isFull_1 38 rfl) rfl ?_
              refine v_aload_n (pc := 189) h (dk dt_L_isFull_1 39 rfl) rfl ?_
              refine v_bipush (pc := 190) h (dk dt_L_isFull_1 40 rfl) rfl ?_
              refine v_iconst (pc := 192) h (dk dt_L_isFull_1 41 rfl) ?_
              refine v_iconst (pc := 193) h (dk dt_L_isFull_1 42 rfl) ?_
              refine v_iconst (pc := 194) h (dk dt_L_isFull_1 43 rfl) ?_
              refine v_iconst (pc := 195) h (dk dt_L_isFull_1 44 rfl) ?_
              refine v_callH (pc := 196) h (d_full (n := n) h.quiet hO hn (by omega)) kh_L_done wM_L_84 rfl rfl (Nat.le_of_ble_eq_true rfl) (RM.of rfl) (dk dt_L_isFull_1 45 rfl) (fun v196 μ196 p196 => ?_)
              rcases p196 with ⟨-, rfl, rfl⟩ | ⟨y, -, -⟩
              case inr => exact absurd (rc0 1 (by omega)) y
              rw [e1]
              refine v_iload (pc := 199) h (dk dt_L_isFull_1 46 rfl) rfl ?_
              refine v_icmp_neS (pc := 201) h 223 (dk dt_L_isFull_1 47 rfl) rfl ?_
              refine v_aload_n (pc := 204) h (dk dt_L_isFull_1 48 rfl) rfl ?_
              refine v_bipush (pc := 205) h (dk dt_L_isFull_1 49 rfl) rfl ?_
              refine v_iconst (pc := 207) h (dk dt_L_isFull_1 50 rfl) ?_
              refine v_iconst (pc := 208) h (dk dt_L_isFull_1 51 rfl) ?_
              refine v_iconst (pc := 209) h (dk dt_L_isFull_1 52 rfl) ?_
              refine v_iconst (pc := 210) h (dk dt_L_isFull_1 53 rfl) ?_
              refine v_callH (pc := 211) h (d_full (n := n) h.quiet hO hn (by omega)) kh_L_done wM_L_84 rfl rfl (Nat.le_of_ble_eq_true rfl) (RM.of rfl) (dk dt_L_isFull_1 54 rfl) (fun v211 μ211 p211 => ?_)
              rcases p211 with ⟨-, rfl, rfl⟩ | ⟨y, -, -⟩
              case inr => exact absurd (rc0 2 (by omega)) y
              rw [e2]
              refine v_iload (pc := 214) h (dk dt_L_isFull_1 55 rfl) rfl ?_
              refine v_icmp_neS (pc := 216) h 223 (dk dt_L_isFull_1 56 rfl) rfl ?_
              refine v_iconst (pc := 219) h (dk dt_L_isFull_1 57 rfl) ?_
              refine v_goto (pc := 220) h 224 (dk dt_L_isFull_1 58 rfl) rfl ?_
              exact v_zret (pc := 224) h r (dk dt_L_isFull_1 60 rfl) (Nat.le_of_ble_eq_true rfl) (Nat.le_of_ble_eq_true rfl) (by omega) ⟨rfl, rfl⟩
      have loop2 : ∀ (d i : Nat), i + d = n → ∀ lv, lvs lv [(7, iI (i : Int)), (6, iI (flF (μ 3) (μ 5) (μ 7) n (a0 : Int) i).2), (5, iI (flF (μ 3) (μ 5) (μ 7) n (a0 : Int) i).1), (4, iI (a0 : Int)), (0, .ref (pl B 0)), (1, .ref (pl B 124)), (2, iI (n : Int)), (3, iI kp)] → VV a B (SP B D E μ) 0 0 20 lv [] := by
        intro d
        induction d with
        | zero =>
          intro i hi lv hlv
          refine VV.loc (lv' := [(7, iI (i : Int)), (6, iI (flF (μ 3) (μ 5) (μ 7) n (a0 : Int) i).2), (5, iI (flF (μ 3) (μ 5) (μ 7) n (a0 : Int) i).1), (4, iI (a0 : Int)), (0, .ref (pl B 0)), (1, .ref (pl B 124)), (2, iI (n : Int)), (3, iI kp)]) ?_ hlv
          have ei : i = n := by omega
          subst ei
          refine v_iload (pc := 20) h (dk dt_L_isFull_0 11 rfl) rfl ?_
          refine v_iload_n (pc := 22) h (dk dt_L_isFull_0 12 rfl) rfl ?_
          refine v_icmp_ge (pc := 23) h 165 (dk dt_L_isFull_0 13 rfl) rfl (by omega) (fun c23 => ?_) (fun c23 => ?_)
          ·
            exact VV.loc go165 ⟨rfl, rfl, rfl, rfl, rfl, rfl, rfl, rfl, trivial⟩
          ·
            exact absurd c23 (by omega)
        | succ d ih2 =>
          intro i hi lv hlv
          refine VV.loc (lv' := [(7, iI (i : Int)), (6, iI (flF (μ 3) (μ 5) (μ 7) n (a0 : Int) i).2), (5, iI (flF (μ 3) (μ 5) (μ 7) n (a0 : Int) i).1), (4, iI (a0 : Int)), (0, .ref (pl B 0)), (1, .ref (pl B 124)), (2, iI (n : Int)), (3, iI kp)]) ?_ hlv
          have hin : i < n := by omega
          have hb := hflb i (by omega)
          have ji := hJ i hin
          have wb := hbw (a0 : Int) (μ 7 i) n (Nat.le_refl _)
          have f2i := f2 i hin
          have eN : ¬ ((a0 : Int) ≤ μ 7 i ∧ μ 7 i ≠ 0) ∨ ¬ μ 7 i - (a0 : Int) < wbtF (μ 3) (μ 5) (μ 7) (a0 : Int) (μ 7 i) n ∨ ¬ ((flF (μ 3) (μ 5) (μ 7) n (a0 : Int) i).1 < 0 ∨ μ 7 i < (flF (μ 3) (μ 5) (μ 7) n (a0 : Int) i).1) → flF (μ 3) (μ 5) (μ 7) n (a0 : Int) (i + 1) = flF (μ 3) (μ 5) (μ 7) n (a0 : Int) i := fun z => by
            rw [flF, if_neg (fun y => by rcases z with z | z | z; exact z y.1; exact z y.2.1; exact z y.2.2)]
          have eY : (a0 : Int) ≤ μ 7 i → μ 7 i ≠ 0 → μ 7 i - (a0 : Int) < wbtF (μ 3) (μ 5) (μ 7) (a0 : Int) (μ 7 i) n → ((flF (μ 3) (μ 5) (μ 7) n (a0 : Int) i).1 < 0 ∨ μ 7 i < (flF (μ 3) (μ 5) (μ 7) n (a0 : Int) i).1) → flF (μ 3) (μ 5) (μ 7) n (a0 : Int) (i + 1) = (μ 7 i, wbtF (μ 3) (μ 5) (μ 7) (a0 : Int) (μ 7 i) n) := fun z1 z2 z3 z4 => by
            rw [flF, if_pos ⟨⟨z1, z2⟩, z3, z4⟩]
          have go159 : ∀ lv, lvs lv [(7, iI (i : Int)), (6, iI (flF (μ 3) (μ 5) (μ 7) n (a0 : Int) (i + 1)).2), (5, iI (flF (μ 3) (μ 5) (μ 7) n (a0 : Int) (i + 1)).1), (4, iI (a0 : Int)), (0, .ref (pl B 0)), (1, .ref (pl B 124)), (2, iI (n : Int)), (3, iI kp)] → VV a B (SP B D E μ) 0 0 159 lv [] := by
            intro lv hlv
            refine VV.loc (lv' := [(7, iI (i : Int)), (6, iI (flF (μ 3) (μ 5) (μ 7) n (a0 : Int) (i + 1)).2), (5, iI (flF (μ 3) (μ 5) (μ 7) n (a0 : Int) (i + 1)).1), (4, iI (a0 : Int)), (0, .ref (pl B 0)), (1, .ref (pl B 124)), (2, iI (n : Int)), (3, iI kp)]) ?_ hlv
            refine v_iinc (lv' := [(7, _), (6, _), (5, _), (4, _), (0, _), (1, _), (2, _), (3, _)]) (pc := 159) h (dk dt_L_isFull_1 24 rfl) rfl (Nat.le_of_ble_eq_true rfl) rfl ?_
            refine v_goto (pc := 162) h 20 (dk dt_L_isFull_1 25 rfl) rfl ?_
            exact ih2 (i + 1) (by omega) _ ⟨rfl, rfl, rfl, rfl, rfl, rfl, rfl, rfl, trivial⟩
          have loop3 : (a0 : Int) ≤ μ 7 i → μ 7 i ≠ 0 → ∀ (d k : Nat), k + d = n → ∀ lv, lvs lv [(10, iI (k : Int)), (9, iI (wbtF (μ 3) (μ 5) (μ 7) (a0 : Int) (μ 7 i) k)), (8, iI (μ 7 i)), (7, iI (i : Int)), (6, iI (flF (μ 3) (μ 5) (μ 7) n (a0 : Int) i).2), (5, iI (flF (μ 3) (μ 5) (μ 7) n (a0 : Int) i).1), (4, iI (a0 : Int)), (0, .ref (pl B 0)), (1, .ref (pl B 124)), (2, iI (n : Int)), (3, iI kp)] → VV a B (SP B D E μ) 0 0 58 lv [] := by
            intro z1 z2 d
            induction d with
            | zero =>
              intro k hk lv hlv
              refine VV.loc (lv' := [(10, iI (k : Int)), (9, iI (wbtF (μ 3) (μ 5) (μ 7) (a0 : Int) (μ 7 i) k)), (8, iI (μ 7 i)), (7, iI (i : Int)), (6, iI (flF (μ 3) (μ 5) (μ 7) n (a0 : Int) i).2), (5, iI (flF (μ 3) (μ 5) (μ 7) n (a0 : Int) i).1), (4, iI (a0 : Int)), (0, .ref (pl B 0)), (1, .ref (pl B 124)), (2, iI (n : Int)), (3, iI kp)]) ?_ hlv
              have ek : k = n := by omega
              rw [ek]
              refine v_iload (pc := 58) h (dk dt_L_isFull_0 32 rfl) rfl ?_
              refine v_iload_n (pc := 60) h (dk dt_L_isFull_0 33 rfl) rfl ?_
              refine v_icmp_ge (pc := 61) h 126 (dk dt_L_isFull_0 34 rfl) rfl (by omega) (fun c61 => ?_) (fun c61 => ?_)
              ·
                refine v_iload (pc := 126) h (dk dt_L_isFull_1 9 rfl) rfl ?_
                refine v_iload (pc := 128) h (dk dt_L_isFull_1 10 rfl) rfl ?_
                refine v_iload (pc := 130) h (dk dt_L_isFull_1 11 rfl) rfl ?_
                refine v_isub (pc := 132) h (dk dt_L_isFull_1 12 rfl) ?_
                refine v_icmp_le (pc := 133) h 159 (dk dt_L_isFull_1 13 rfl) rfl (by omega) (fun c133 => ?_) (fun c133 => ?_)
                ·
                  first
                    | exact go159 _ ⟨rfl, lvI (by rw [eN (by omega)]), lvI (by rw [eN (by omega)]), rfl, rfl, rfl, rfl, rfl, trivial⟩
                    | exact go159 _ ⟨rfl, lvI (by rw [eY z1 z2 (by omega) (by omega)]), lvI (by rw [eY z1 z2 (by omega) (by omega)]), rfl, rfl, rfl, rfl, rfl, trivial⟩
                ·
                  refine v_iload (pc := 136) h (dk dt_L_isFull_1 14 rfl) rfl ?_
                  refine v_if_lt (pc := 138) h 151 (dk dt_L_isFull_1 15 rfl) rfl (by omega) (fun c138 => ?_) (fun c138 => ?_)
                  ·
                    refine v_iload (pc := 151) h (dk dt_L_isFull_1 20 rfl) rfl ?_
                    refine v_istore (lv' := [(5, _), (10, _), (9, _), (8, _), (7, _), (6, _), (4, _), (0, _), (1, _), (2, _), (3, _)]) (pc := 153) h (dk dt_L_isFull_1 21 rfl) (Nat.le_of_ble_eq_true rfl) rfl ?_
                    refine v_iload (pc := 155) h (dk dt_L_isFull_1 22 rfl) rfl ?_
                    refine v_istore (lv' := [(6, _), (5, _), (10, _), (9, _), (8, _), (7, _), (4, _), (0, _), (1, _), (2, _), (3, _)]) (pc := 157) h (dk dt_L_isFull_1 23 rfl) (Nat.le_of_ble_eq_true rfl) rfl ?_
                    first
                      | exact go159 _ ⟨rfl, lvI (by rw [eN (by omega)]), lvI (by rw [eN (by omega)]), rfl, rfl, rfl, rfl, rfl, trivial⟩
                      | exact go159 _ ⟨rfl, lvI (by rw [eY z1 z2 (by omega) (by omega)]), lvI (by rw [eY z1 z2 (by omega) (by omega)]), rfl, rfl, rfl, rfl, rfl, trivial⟩
                  ·
                    refine v_iload (pc := 141) h (dk dt_L_isFull_1 16 rfl) rfl ?_
                    refine v_iload (pc := 143) h (dk dt_L_isFull_1 17 rfl) rfl ?_
                    refine v_icmp_gt (pc := 145) h 151 (dk dt_L_isFull_1 18 rfl) rfl (by omega) (fun c145 => ?_) (fun c145 => ?_)
                    ·
                      refine v_iload (pc := 151) h (dk dt_L_isFull_1 20 rfl) rfl ?_
                      refine v_istore (lv' := [(5, _), (10, _), (9, _), (8, _), (7, _), (6, _), (4, _), (0, _), (1, _), (2, _), (3, _)]) (pc := 153) h (dk dt_L_isFull_1 21 rfl) (Nat.le_of_ble_eq_true rfl) rfl ?_
                      refine v_iload (pc := 155) h (dk dt_L_isFull_1 22 rfl) rfl ?_
                      refine v_istore (lv' := [(6, _), (5, _), (10, _), (9, _), (8, _), (7, _), (4, _), (0, _), (1, _), (2, _), (3, _)]) (pc := 157) h (dk dt_L_isFull_1 23 rfl) (Nat.le_of_ble_eq_true rfl) rfl ?_
                      first
                        | exact go159 _ ⟨rfl, lvI (by rw [eN (by omega)]), lvI (by rw [eN (by omega)]), rfl, rfl, rfl, rfl, rfl, trivial⟩
                        | exact go159 _ ⟨rfl, lvI (by rw [eY z1 z2 (by omega) (by omega)]), lvI (by rw [eY z1 z2 (by omega) (by omega)]), rfl, rfl, rfl, rfl, rfl, trivial⟩
                    ·
                      refine v_goto (pc := 148) h 159 (dk dt_L_isFull_1 19 rfl) rfl ?_
                      first
                        | exact go159 _ ⟨rfl, lvI (by rw [eN (by omega)]), lvI (by rw [eN (by omega)]), rfl, rfl, rfl, rfl, rfl, trivial⟩
                        | exact go159 _ ⟨rfl, lvI (by rw [eY z1 z2 (by omega) (by omega)]), lvI (by rw [eY z1 z2 (by omega) (by omega)]), rfl, rfl, rfl, rfl, rfl, trivial⟩
              ·
                exact absurd c61 (by omega)
            | succ d ih3 =>
              intro k hk lv hlv
              refine VV.loc (lv' := [(10, iI (k : Int)), (9, iI (wbtF (μ 3) (μ 5) (μ 7) (a0 : Int) (μ 7 i) k)), (8, iI (μ 7 i)), (7, iI (i : Int)), (6, iI (flF (μ 3) (μ 5) (μ 7) n (a0 : Int) i).2), (5, iI (flF (μ 3) (μ 5) (μ 7) n (a0 : Int) i).1), (4, iI (a0 : Int)), (0, .ref (pl B 0)), (1, .ref (pl B 124)), (2, iI (n : Int)), (3, iI kp)]) ?_ hlv
              have hkn : k < n := by omega
              have jk := hJ k hkn
              have f0k := f0 k hkn
              have f1k := f1 k hkn
              have f2k := f2 k hkn
              have wN : ¬ ((a0 : Int) ≤ μ 3 k ∧ 0 < μ 7 k ∧ μ 7 k ≤ μ 7 i) → wbtF (μ 3) (μ 5) (μ 7) (a0 : Int) (μ 7 i) (k + 1) = wbtF (μ 3) (μ 5) (μ 7) (a0 : Int) (μ 7 i) k + 0 := fun y => by simp only [wbtF]; rw [if_neg y]
              have wY : (a0 : Int) ≤ μ 3 k ∧ 0 < μ 7 k ∧ μ 7 k ≤ μ 7 i → wbtF (μ 3) (μ 5) (μ 7) (a0 : Int) (μ 7 i) (k + 1) = wbtF (μ 3) (μ 5) (μ 7) (a0 : Int) (μ 7 i) k + μ 5 k := fun y => by simp only [wbtF]; rw [if_pos y]
              refine v_iload (pc := 58) h (dk dt_L_isFull_0 32 rfl) rfl ?_
              refine v_iload_n (pc := 60) h (dk dt_L_isFull_0 33 rfl) rfl ?_
              refine v_icmp_ge (pc := 61) h 126 (dk dt_L_isFull_0 34 rfl) rfl (by omega) (fun c61 => ?_) (fun c61 => ?_)
              ·
                exact absurd c61 (by omega)
              ·
                refine v_iload (pc := 64) h (dk dt_L_isFull_0 35 rfl) rfl ?_
                refine v_aload_n (pc := 66) h (dk dt_L_isFull_0 36 rfl) rfl ?_
                refine v_bipush (pc := 67) h (dk dt_L_isFull_0 37 rfl) rfl ?_
                refine v_iload (pc := 69) h (dk dt_L_isFull_0 38 rfl) rfl ?_
                refine v_imul (pc := 71) h (dk dt_L_isFull_0 39 rfl) ?_
                refine v_iald (pc := 72) h sh124 (Nat.le_of_ble_eq_true rfl) (by omega) (dk dt_L_isFull_0 40 rfl) ?_
                rw [f0k]
                refine v_iload (pc := 73) h (dk dt_L_isFull_0 41 rfl) rfl ?_
                refine v_icmp_lt (pc := 75) h 116 (dk dt_L_isFull_0 42 rfl) rfl (by omega) (fun c75 => ?_) (fun c75 => ?_)
                ·
                  refine v_iconst (pc := 116) h (dk dt_L_isFull_1 4 rfl) ?_
                  refine v_iadd (pc := 117) h (dk dt_L_isFull_1 5 rfl) ?_
                  refine v_istore (lv' := [(9, _), (10, _), (8, _), (7, _), (6, _), (5, _), (4, _), (0, _), (1, _), (2, _), (3, _)]) (pc := 118) h (dk dt_L_isFull_1 6 rfl) (Nat.le_of_ble_eq_true rfl) rfl ?_
                  refine v_iinc (lv' := [(10, _), (9, _), (8, _), (7, _), (6, _), (5, _), (4, _), (0, _), (1, _), (2, _), (3, _)]) (pc := 120) h (dk dt_L_isFull_1 7 rfl) rfl (Nat.le_of_ble_eq_true rfl) rfl ?_
                  refine v_goto (pc := 123) h 58 (dk dt_L_isFull_1 8 rfl) rfl ?_
                  first
                    | exact ih3 (k + 1) (by omega) _ ⟨rfl, lvI (wN (by omega)).symm, rfl, rfl, rfl, rfl, rfl, rfl, rfl, rfl, rfl, trivial⟩
                    | exact ih3 (k + 1) (by omega) _ ⟨rfl, lvI (wY (by omega)).symm, rfl, rfl, rfl, rfl, rfl, rfl, rfl, rfl, rfl, trivial⟩
                ·
                  refine v_aload_n (pc := 78) h (dk dt_L_isFull_0 43 rfl) rfl ?_
                  refine v_bipush (pc := 79) h (dk dt_L_isFull_0 44 rfl) rfl ?_
                  refine v_iload (pc := 81) h (dk dt_L_isFull_0 45 rfl) rfl ?_
                  refine v_imul (pc := 83) h (dk dt_L_isFull_0 46 rfl) ?_
                  refine v_iconst (pc := 84) h (dk dt_L_isFull_0 47 rfl) ?_
                  refine v_iadd (pc := 85) h (dk dt_L_isFull_0 48 rfl) ?_
                  refine v_iald (pc := 86) h sh124 (Nat.le_of_ble_eq_true rfl) (by omega) (dk dt_L_isFull_0 49 rfl) ?_
                  rw [f2k]
                  refine v_if_le (pc := 87) h 116 (dk dt_L_isFull_0 50 rfl) rfl (by omega) (fun c87 => ?_) (fun c87 => ?_)
                  ·
                    refine v_iconst (pc := 116) h (dk dt_L_isFull_1 4 rfl) ?_
                    refine v_iadd (pc := 117) h (dk dt_L_isFull_1 5 rfl) ?_
                    refine v_istore (lv' := [(9, _), (10, _), (8, _), (7, _), (6, _), (5, _), (4, _), (0, _), (1, _), (2, _), (3, _)]) (pc := 118) h (dk dt_L_isFull_1 6 rfl) (Nat.le_of_ble_eq_true rfl) rfl ?_
                    refine v_iinc (lv' := [(10, _), (9, _), (8, _), (7, _), (6, _), (5, _), (4, _), (0, _), (1, _), (2, _), (3, _)]) (pc := 120) h (dk dt_L_isFull_1 7 rfl) rfl (Nat.le_of_ble_eq_true rfl) rfl ?_
                    refine v_goto (pc := 123) h 58 (dk dt_L_isFull_1 8 rfl) rfl ?_
                    first
                      | exact ih3 (k + 1) (by omega) _ ⟨rfl, lvI (wN (by omega)).symm, rfl, rfl, rfl, rfl, rfl, rfl, rfl, rfl, rfl, trivial⟩
                      | exact ih3 (k + 1) (by omega) _ ⟨rfl, lvI (wY (by omega)).symm, rfl, rfl, rfl, rfl, rfl, rfl, rfl, rfl, rfl, trivial⟩
                  ·
                    refine v_aload_n (pc := 90) h (dk dt_L_isFull_0 51 rfl) rfl ?_
                    refine v_bipush (pc := 91) h (dk dt_L_isFull_0 52 rfl) rfl ?_
                    refine v_iload (pc := 93) h (dk dt_L_isFull_0 53 rfl) rfl ?_
                    refine v_imul (pc := 95) h (dk dt_L_isFull_0 54 rfl) ?_
                    refine v_iconst (pc := 96) h (dk dt_L_isFull_0 55 rfl) ?_
                    refine v_iadd (pc := 97) h (dk dt_L_isFull_0 56 rfl) ?_
                    refine v_iald (pc := 98) h sh124 (Nat.le_of_ble_eq_true rfl) (by omega) (dk dt_L_isFull_0 57 rfl) ?_
                    rw [f2k]
                    refine v_iload (pc := 99) h (dk dt_L_isFull_0 58 rfl) rfl ?_
                    refine v_icmp_gt (pc := 101) h 116 (dk dt_L_isFull_0 59 rfl) rfl (by omega) (fun c101 => ?_) (fun c101 => ?_)
                    ·
                      refine v_iconst (pc := 116) h (dk dt_L_isFull_1 4 rfl) ?_
                      refine v_iadd (pc := 117) h (dk dt_L_isFull_1 5 rfl) ?_
                      refine v_istore (lv' := [(9, _), (10, _), (8, _), (7, _), (6, _), (5, _), (4, _), (0, _), (1, _), (2, _), (3, _)]) (pc := 118) h (dk dt_L_isFull_1 6 rfl) (Nat.le_of_ble_eq_true rfl) rfl ?_
                      refine v_iinc (lv' := [(10, _), (9, _), (8, _), (7, _), (6, _), (5, _), (4, _), (0, _), (1, _), (2, _), (3, _)]) (pc := 120) h (dk dt_L_isFull_1 7 rfl) rfl (Nat.le_of_ble_eq_true rfl) rfl ?_
                      refine v_goto (pc := 123) h 58 (dk dt_L_isFull_1 8 rfl) rfl ?_
                      first
                        | exact ih3 (k + 1) (by omega) _ ⟨rfl, lvI (wN (by omega)).symm, rfl, rfl, rfl, rfl, rfl, rfl, rfl, rfl, rfl, trivial⟩
                        | exact ih3 (k + 1) (by omega) _ ⟨rfl, lvI (wY (by omega)).symm, rfl, rfl, rfl, rfl, rfl, rfl, rfl, rfl, rfl, trivial⟩
                    ·
                      refine v_aload_n (pc := 104) h (dk dt_L_isFull_0 60 rfl) rfl ?_
                      refine v_bipush (pc := 105) h (dk dt_L_isFull_0 61 rfl) rfl ?_
                      refine v_iload (pc := 107) h (dk dt_L_isFull_0 62 rfl) rfl ?_
                      refine v_imul (pc := 109) h (dk dt_L_isFull_0 63 rfl) ?_
                      refine v_iconst (pc := 110) h (dk dt_L_isFull_1 0 rfl) ?_
                      refine v_iadd (pc := 111) h (dk dt_L_isFull_1 1 rfl) ?_
                      refine v_iald (pc := 112) h sh124 (Nat.le_of_ble_eq_true rfl) (by omega) (dk dt_L_isFull_1 2 rfl) ?_
                      rw [f1k]
                      refine v_goto (pc := 113) h 117 (dk dt_L_isFull_1 3 rfl) rfl ?_
                      refine v_iadd (pc := 117) h (dk dt_L_isFull_1 5 rfl) ?_
                      refine v_istore (lv' := [(9, _), (10, _), (8, _), (7, _), (6, _), (5, _), (4, _), (0, _), (1, _), (2, _), (3, _)]) (pc := 118) h (dk dt_L_isFull_1 6 rfl) (Nat.le_of_ble_eq_true rfl) rfl ?_
                      refine v_iinc (lv' := [(10, _), (9, _), (8, _), (7, _), (6, _), (5, _), (4, _), (0, _), (1, _), (2, _), (3, _)]) (pc := 120) h (dk dt_L_isFull_1 7 rfl) rfl (Nat.le_of_ble_eq_true rfl) rfl ?_
                      refine v_goto (pc := 123) h 58 (dk dt_L_isFull_1 8 rfl) rfl ?_
                      first
                        | exact ih3 (k + 1) (by omega) _ ⟨rfl, lvI (wN (by omega)).symm, rfl, rfl, rfl, rfl, rfl, rfl, rfl, rfl, rfl, trivial⟩
                        | exact ih3 (k + 1) (by omega) _ ⟨rfl, lvI (wY (by omega)).symm, rfl, rfl, rfl, rfl, rfl, rfl, rfl, rfl, rfl, trivial⟩
          refine v_iload (pc := 20) h (dk dt_L_isFull_0 11 rfl) rfl ?_
          refine v_iload_n (pc := 22) h (dk dt_L_isFull_0 12 rfl) rfl ?_
          refine v_icmp_ge (pc := 23) h 165 (dk dt_L_isFull_0 13 rfl) rfl (by omega) (fun c23 => ?_) (fun c23 => ?_)
          ·
            exact absurd c23 (by omega)
          ·
            refine v_aload_n (pc := 26) h (dk dt_L_isFull_0 14 rfl) rfl ?_
            refine v_bipush (pc := 27) h (dk dt_L_isFull_0 15 rfl) rfl ?_
            refine v_iload (pc := 29) h (dk dt_L_isFull_0 16 rfl) rfl ?_
            refine v_imul (pc := 31) h (dk dt_L_isFull_0 17 rfl) ?_
            refine v_iconst (pc := 32) h (dk dt_L_isFull_0 18 rfl) ?_
            refine v_iadd (pc := 33) h (dk dt_L_isFull_0 19 rfl) ?_
            refine v_iald (pc := 34) h sh124 (Nat.le_of_ble_eq_true rfl) (by omega) (dk dt_L_isFull_0 20 rfl) ?_
            rw [f2i]
            refine v_istore (lv' := [(8, _), (7, _), (6, _), (5, _), (4, _), (0, _), (1, _), (2, _), (3, _)]) (pc := 35) h (dk dt_L_isFull_0 21 rfl) (Nat.le_of_ble_eq_true rfl) rfl ?_
            refine v_iload (pc := 37) h (dk dt_L_isFull_0 22 rfl) rfl ?_
            refine v_iload (pc := 39) h (dk dt_L_isFull_0 23 rfl) rfl ?_
            refine v_icmp_lt (pc := 41) h 159 (dk dt_L_isFull_0 24 rfl) rfl (by omega) (fun c41 => ?_) (fun c41 => ?_)
            ·
              exact go159 _ ⟨rfl, lvI (by rw [eN (by omega)]), lvI (by rw [eN (by omega)]), rfl, rfl, rfl, rfl, rfl, trivial⟩
            ·
              refine v_iload (pc := 44) h (dk dt_L_isFull_0 25 rfl) rfl ?_
              refine v_if_ne (pc := 46) h 52 (dk dt_L_isFull_0 26 rfl) rfl (by omega) (fun c46 => ?_) (fun c46 => ?_)
              ·
                refine v_iconst (pc := 52) h (dk dt_L_isFull_0 28 rfl) ?_
                refine v_istore (lv' := [(9, _), (8, _), (7, _), (6, _), (5, _), (4, _), (0, _), (1, _), (2, _), (3, _)]) (pc := 53) h (dk dt_L_isFull_0 29 rfl) (Nat.le_of_ble_eq_true rfl) rfl ?_
                refine v_iconst (pc := 55) h (dk dt_L_isFull_0 30 rfl) ?_
                refine v_istore (lv' := [(10, _), (9, _), (8, _), (7, _), (6, _), (5, _), (4, _), (0, _), (1, _), (2, _), (3, _)]) (pc := 56) h (dk dt_L_isFull_0 31 rfl) (Nat.le_of_ble_eq_true rfl) rfl ?_
                exact loop3 (by omega) (by omega) n 0 (by omega) _ ⟨rfl, rfl, rfl, rfl, rfl, rfl, rfl, rfl, rfl, rfl, rfl, trivial⟩
              ·
                refine v_goto (pc := 49) h 159 (dk dt_L_isFull_0 27 rfl) rfl ?_
                exact go159 _ ⟨rfl, lvI (by rw [eN (by omega)]), lvI (by rw [eN (by omega)]), rfl, rfl, rfl, rfl, rfl, trivial⟩
      refine v_iload (pc := 3) h (dk dt_L_isFull_0 2 rfl) rfl ?_
      refine v_sipush (pc := 5) h (dk dt_L_isFull_0 3 rfl) rfl ?_
      refine v_icmp_gt (pc := 8) h 231 (dk dt_L_isFull_0 4 rfl) rfl (by omega) (fun c8 => ?_) (fun c8 => ?_)
      ·
        exact absurd c8 (by omega)
      ·
        refine v_iconst (pc := 11) h (dk dt_L_isFull_0 5 rfl) ?_
        refine v_istore (lv' := [(5, _), (4, _), (0, _), (1, _), (2, _), (3, _)]) (pc := 12) h (dk dt_L_isFull_0 6 rfl) (Nat.le_of_ble_eq_true rfl) rfl ?_
        refine v_iconst (pc := 14) h (dk dt_L_isFull_0 7 rfl) ?_
        refine v_istore (lv' := [(6, _), (5, _), (4, _), (0, _), (1, _), (2, _), (3, _)]) (pc := 15) h (dk dt_L_isFull_0 8 rfl) (Nat.le_of_ble_eq_true rfl) rfl ?_
        refine v_iconst (pc := 17) h (dk dt_L_isFull_0 9 rfl) ?_
        refine v_istore (lv' := [(7, _), (6, _), (5, _), (4, _), (0, _), (1, _), (2, _), (3, _)]) (pc := 18) h (dk dt_L_isFull_0 10 rfl) (Nat.le_of_ble_eq_true rfl) rfl ?_
        exact loop2 n 0 (by omega) _ ⟨rfl, rfl, rfl, rfl, rfl, rfl, rfl, rfl, trivial⟩
  refine v_iconst (pc := 0) h (dk dt_L_isFull_0 0 rfl) ?_
  refine v_istore (lv' := [(4, _), (0, _), (1, _), (2, _), (3, _)]) (pc := 1) h (dk dt_L_isFull_0 1 rfl) (Nat.le_of_ble_eq_true rfl) rfl ?_
  exact VV.loc (loop 151 0 (by omega) (fun x hx => absurd hx (by omega))) ⟨rfl, rfl, rfl, rfl, rfl, trivial⟩
end
