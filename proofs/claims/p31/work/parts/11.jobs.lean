/-! ===== Jobs ===== -/
/-- what is told of n jobs is in order -/
def okT (c l d w x k lo lf lt e : Nat → Int) (n : Int) : Prop :=
  (0 ≤ n ∧ n ≤ 12) ∧ ∀ j : Nat, (j : Int) < n → (0 ≤ c j ∧ c j ≤ 99) ∧ (1 ≤ l j ∧ l j ≤ 30) ∧ (0 ≤ d j ∧ d j ≤ 400) ∧ (1 ≤ w j ∧ w j ≤ 9) ∧ (0 ≤ x j ∧ x j < (2 ^ j : Nat)) ∧ (0 ≤ k j ∧ k j ≤ 3) ∧
    (∀ i : Nat, (i : Int) < k j → (0 ≤ lo (3 * j + i) ∧ lo (3 * j + i) ≤ 2) ∧ 0 ≤ lf (3 * j + i) ∧ lf (3 * j + i) < lt (3 * j + i) ∧ lt (3 * j + i) ≤ l j) ∧
    (∀ i i' : Nat, (i : Int) < k j → (i' : Int) < k j → i ≠ i' → lt (3 * j + i) ≤ lf (3 * j + i') ∨ lt (3 * j + i') ≤ lf (3 * j + i)) ∧ e j = if d j = 0 then 401 else d j
abbrev okJ (μ : Mm) : Prop := okT (μ 3) (μ 5) (μ 7) (μ 9) (μ 11) (μ 13) (μ 15) (μ 17) (μ 19) (μ 2) (μ 1 9)
/-- the number by which a deadline is compared -/
def kyF (d : Nat → Int) : Nat → Int := fun j => if d j = 0 then 401 else d j
theorem okT_ky {c l d w x k lo lf lt e : Nat → Int} {n : Int} (h : okT c l d w x k lo lf lt e n) : okT c l d w x k lo lf lt (kyF d) n := ⟨h.1, fun j hj => by
  obtain ⟨h1, h2, h3, h4, h5, h6, h7, h8, -⟩ := h.2 j hj
  exact ⟨h1, h2, h3, h4, h5, h6, h7, h8, rfl⟩⟩
def lkAt (lo lf lt : Nat → Int) (j : Nat) (bf dn : Int) : Nat → Nat → Int
  | 0, _ => -1
  | c + 1, i => if lf (3 * j + i) ≤ bf ∧ dn < lt (3 * j + i) then lo (3 * j + i) else lkAt lo lf lt j bf dn c (i + 1)
def lRest (k lo lf lt : Nat → Int) (j : Nat) (y : Int) : Nat → Int
  | 0 => 0
  | p + 1 => if ((p % 3 : Nat) : Int) < k (p / 3) ∧ p / 3 ≠ j ∧ lo p = y then (if lRest k lo lf lt j y p < lt p - lf p - 1 then lt p - lf p - 1 else lRest k lo lf lt j y p) else lRest k lo lf lt j y p
def lMost (k lo lf lt : Nat → Int) (n j : Nat) : Nat → Int
  | 0 => 0
  | i + 1 => lMost k lo lf lt n j i + lRest k lo lf lt j (lo (3 * j + i)) (3 * n)
def higF (w : Nat → Int) : Nat → Int × Int
  | 0 => (0, -1)
  | j + 1 => if (higF w j).1 < w j then (w j, (j : Int)) else if w j = (higF w j).1 then ((higF w j).1, -1) else higF w j
def wbtF (c l d : Nat → Int) (a b : Int) : Nat → Int
  | 0 => 0
  | j + 1 => wbtF c l d a b j + (if a ≤ c j ∧ 0 < d j ∧ d j ≤ b then l j else 0)
def fenF (c l d : Nat → Int) (n : Nat) (a : Int) : Nat → Int
  | 0 => -1
  | j + 1 => if (0 < d j ∧ a ≤ c j) ∧ (fenF c l d n a j = -1 ∨ (if a < d j then d j else a) < fenF c l d n a j) ∧ (if a < d j then d j else a) - a < wbtF c l d a (if a < d j then d j else a) n then (if a < d j then d j else a) else fenF c l d n a j
theorem lRest_b {k lo lf lt : Nat → Int} {j : Nat} {y : Int} (h : ∀ p : Nat, ((p % 3 : Nat) : Int) < k (p / 3) → lt p - lf p ≤ 30) : ∀ p : Nat, 0 ≤ lRest k lo lf lt j y p ∧ lRest k lo lf lt j y p ≤ 30 := by
  intro p
  induction p with
  | zero => simp [lRest]
  | succ p ih =>
    simp only [lRest]
    split
    · rename_i hc
      have := h p hc.1
      split <;> omega
    · exact ih
theorem wbtF_b {c l d : Nat → Int} {a b : Int} {n : Nat} (h : ∀ j : Nat, j < n → 0 ≤ l j ∧ l j ≤ 30) : ∀ j : Nat, j ≤ n → 0 ≤ wbtF c l d a b j ∧ wbtF c l d a b j ≤ 30 * j := by
  intro j
  induction j with
  | zero => intro _; simp [wbtF]
  | succ j ih =>
    intro hj
    have h1 := ih (by omega)
    have h2 := h j (by omega)
    simp only [wbtF]
    split <;> omega
theorem higF_b {w : Nat → Int} {n : Nat} (h : ∀ j : Nat, j < n → 1 ≤ w j ∧ w j ≤ 9) : ∀ j : Nat, j ≤ n → (0 ≤ (higF w j).1 ∧ (higF w j).1 ≤ 9) ∧ -1 ≤ (higF w j).2 ∧ (higF w j).2 < j := by
  intro j
  induction j with
  | zero => intro _; simp [higF]
  | succ j ih =>
    intro hj
    have h1 := ih (by omega)
    have h2 := h j (by omega)
    simp only [higF]
    split
    · simp only; omega
    · split
      · simp only; omega
      · omega
theorem fenF_b {c l d : Nat → Int} {n : Nat} {a : Int} (ha : 0 ≤ a ∧ a ≤ 99) (h : ∀ j : Nat, j < n → 0 ≤ d j ∧ d j ≤ 400) : ∀ j : Nat, j ≤ n → -1 ≤ fenF c l d n a j ∧ fenF c l d n a j ≤ 400 := by
  intro j
  induction j with
  | zero => intro _; simp [fenF]
  | succ j ih =>
    intro hj
    have h1 := ih (by omega)
    have h2 := h j (by omega)
    simp only [fenF]
    generalize hto : (if a < d j then d j else a) = to
    have hto2 : 0 ≤ to ∧ to ≤ 400 := by rw [← hto]; split <;> omega
    split
    · omega
    · exact h1
section
variable {l : Launch} {B : Nat} {D : va_G} {E : Nat → ClassId} {μ : Mm}
def mtell (μ : Mm) (c le d w : Int) : Mm := mup (mup (mup (mup (mup (mup (mup (mup μ 3 (μ 1 9).toNat c) 5 (μ 1 9).toNat le) 7 (μ 1 9).toNat d) 2 (μ 1 9).toNat (if d = 0 then 401 else d)) 9 (μ 1 9).toNat w) 11 (μ 1 9).toNat 0) 13 (μ 1 9).toNat 0) 1 9 (μ 1 9 + 1)
theorem c_X1_tell (hst : l.stackTraces = false) (hn : 0 ≤ μ 1 9 ∧ μ 1 9 < 12) {c le d w : Int} (hd : InR d) :
    Ct l B D E yX1_tell (.code yX1_tell cX1_tell 6 (some .int)) rm_X1_tell [.ref (pl B 1), iI c, iI le, iI d, iI w] μ (ri (μ 1 9) (mtell μ c le d w)) NX := by
  refine ct_of (own := RX1) (lv := [(0, _), (1, _), (2, _), (3, _), (4, _)]) hst (by decide) rfl rfl (Nat.le_of_ble_eq_true rfl) fun a h r t => ?_
  refine v_aload_n (pc := 0) h (dk dt_X1_tell 0 rfl) rfl ?_
  refine v_geti (pc := 1) h ci1 sh1 (Nat.le_of_ble_eq_true rfl) (j := 9) wF_X1_47 rfl (dk dt_X1_tell 1 rfl) ?_
  refine v_istore (lv' := [(5, _), (0, _), (1, _), (2, _), (3, _), (4, _)]) (pc := 4) h (dk dt_X1_tell 2 rfl) (Nat.le_of_ble_eq_true rfl) rfl ?_
  refine v_aload_n (pc := 6) h (dk dt_X1_tell 3 rfl) rfl ?_
  refine v_getr (pc := 7) h ci1 sh1 (Nat.le_of_ble_eq_true rfl) (j := 0) wF_X1_14 rfl (dk dt_X1_tell 4 rfl) ?_
  refine v_iload (pc := 10) h (dk dt_X1_tell 5 rfl) rfl ?_
  refine v_iload_n (pc := 12) h (dk dt_X1_tell 6 rfl) rfl ?_
  refine v_cVv (pc := 13) h (c_X7_puti h.quiet jr0 (o1 := 3) rfl (Nat.le_of_ble_eq_true rfl) (by omega)) kv_X7_put jr0.1 wM_X1_51 rfl rfl (Nat.le_of_ble_eq_true rfl) (RM.of rfl) rfl rfl (dk dt_X1_tell 7 rfl) ?_
  refine v_aload_n (pc := 16) h (dk dt_X1_tell 8 rfl) rfl ?_
  refine v_getr (pc := 17) h ci1 sh1 (Nat.le_of_ble_eq_true rfl) (j := 1) wF_X1_20 rfl (dk dt_X1_tell 9 rfl) ?_
  refine v_iload (pc := 20) h (dk dt_X1_tell 10 rfl) rfl ?_
  refine v_iload_n (pc := 22) h (dk dt_X1_tell 11 rfl) rfl ?_
  refine v_cVv (pc := 23) h (c_X7_puti h.quiet jr1 (o1 := 5) rfl (Nat.le_of_ble_eq_true rfl) (by omega)) kv_X7_put jr1.1 wM_X1_51 rfl rfl (Nat.le_of_ble_eq_true rfl) (RM.of rfl) rfl rfl (dk dt_X1_tell 12 rfl) ?_
  refine v_aload_n (pc := 26) h (dk dt_X1_tell 13 rfl) rfl ?_
  refine v_getr (pc := 27) h ci1 sh1 (Nat.le_of_ble_eq_true rfl) (j := 2) wF_X1_23 rfl (dk dt_X1_tell 14 rfl) ?_
  refine v_iload (pc := 30) h (dk dt_X1_tell 15 rfl) rfl ?_
  refine v_iload_n (pc := 32) h (dk dt_X1_tell 16 rfl) rfl ?_
  refine v_cVv (pc := 33) h (c_X7_puti h.quiet jr2 (o1 := 7) rfl (Nat.le_of_ble_eq_true rfl) (by omega)) kv_X7_put jr2.1 wM_X1_51 rfl rfl (Nat.le_of_ble_eq_true rfl) (RM.of rfl) rfl rfl (dk dt_X1_tell 17 rfl) ?_
  refine v_aload_n (pc := 36) h (dk dt_X1_tell 18 rfl) rfl ?_
  refine v_getr (pc := 37) h ci1 sh1 (Nat.le_of_ble_eq_true rfl) (j := 10) wF_X1_26 rfl (dk dt_X1_tell 19 rfl) ?_
  refine v_iload (pc := 40) h (dk dt_X1_tell 20 rfl) rfl ?_
  refine v_iload_n (pc := 42) h (dk dt_X1_tell 21 rfl) rfl ?_
  refine v_if_ne (pc := 43) h 52 (dk dt_X1_tell 22 rfl) rfl (by omega) (fun c43 => ?_) (fun c43 => ?_)
  ·
    refine v_iload_n (pc := 52) h (dk dt_X1_tell 25 rfl) rfl ?_
    refine v_cVv (pc := 53) h (c_X7_puti h.quiet jr9 (o1 := 2) rfl (Nat.le_of_ble_eq_true rfl) (by omega)) kv_X7_put jr9.1 wM_X1_51 rfl rfl (Nat.le_of_ble_eq_true rfl) (RM.of rfl) rfl rfl (dk dt_X1_tell 26 rfl) ?_
    refine v_aload_n (pc := 56) h (dk dt_X1_tell 27 rfl) rfl ?_
    refine v_getr (pc := 57) h ci1 sh1 (Nat.le_of_ble_eq_true rfl) (j := 3) wF_X1_29 rfl (dk dt_X1_tell 28 rfl) ?_
    refine v_iload (pc := 60) h (dk dt_X1_tell 29 rfl) rfl ?_
    refine v_iload (pc := 62) h (dk dt_X1_tell 30 rfl) rfl ?_
    refine v_cVv (pc := 64) h (c_X7_puti h.quiet jr3 (o1 := 9) rfl (Nat.le_of_ble_eq_true rfl) (by omega)) kv_X7_put jr3.1 wM_X1_51 rfl rfl (Nat.le_of_ble_eq_true rfl) (RM.of rfl) rfl rfl (dk dt_X1_tell 31 rfl) ?_
    refine v_aload_n (pc := 67) h (dk dt_X1_tell 32 rfl) rfl ?_
    refine v_getr (pc := 68) h ci1 sh1 (Nat.le_of_ble_eq_true rfl) (j := 4) wF_X1_32 rfl (dk dt_X1_tell 33 rfl) ?_
    refine v_iload (pc := 71) h (dk dt_X1_tell 34 rfl) rfl ?_
    refine v_iconst (pc := 73) h (dk dt_X1_tell 35 rfl) ?_
    refine v_cVv (pc := 74) h (c_X7_puti h.quiet jr4 (o1 := 11) rfl (Nat.le_of_ble_eq_true rfl) (by omega)) kv_X7_put jr4.1 wM_X1_51 rfl rfl (Nat.le_of_ble_eq_true rfl) (RM.of rfl) rfl rfl (dk dt_X1_tell 36 rfl) ?_
    refine v_aload_n (pc := 77) h (dk dt_X1_tell 37 rfl) rfl ?_
    refine v_getr (pc := 78) h ci1 sh1 (Nat.le_of_ble_eq_true rfl) (j := 5) wF_X1_35 rfl (dk dt_X1_tell 38 rfl) ?_
    refine v_iload (pc := 81) h (dk dt_X1_tell 39 rfl) rfl ?_
    refine v_iconst (pc := 83) h (dk dt_X1_tell 40 rfl) ?_
    refine v_cVv (pc := 84) h (c_X7_puti h.quiet jr5 (o1 := 13) rfl (Nat.le_of_ble_eq_true rfl) (by omega)) kv_X7_put jr5.1 wM_X1_51 rfl rfl (Nat.le_of_ble_eq_true rfl) (RM.of rfl) rfl rfl (dk dt_X1_tell 41 rfl) ?_
    refine v_aload_n (pc := 87) h (dk dt_X1_tell 42 rfl) rfl ?_
    refine v_dup (pc := 88) h (dk dt_X1_tell 43 rfl) rfl ?_
    refine v_geti (pc := 89) h ci1 sh1 (Nat.le_of_ble_eq_true rfl) (j := 9) wF_X1_47 rfl (dk dt_X1_tell 44 rfl) ?_
    refine v_iconst (pc := 92) h (dk dt_X1_tell 45 rfl) ?_
    refine v_iadd (pc := 93) h (dk dt_X1_tell 46 rfl) ?_
    refine v_put (pc := 94) h ci1 sh1 (Nat.le_of_ble_eq_true rfl) (j := 9) wF_X1_47 rfl rfl rfl rfl (dk dt_X1_tell 47 rfl) ?_
    refine v_iload (pc := 97) h (dk dt_X1_tell 48 rfl) rfl ?_
    exact v_iret (pc := 99) h r (dk dt_X1_tell 49 rfl) (Nat.le_of_ble_eq_true rfl) (Nat.le_of_ble_eq_true rfl) ⟨rfl, by unfold mtell; first | (rw [if_pos c43]; rfl) | (rw [if_neg c43]; rfl)⟩
  ·
    refine v_sipush (pc := 46) h (dk dt_X1_tell 23 rfl) rfl ?_
    refine v_goto (pc := 49) h 53 (dk dt_X1_tell 24 rfl) rfl ?_
    refine v_cVv (pc := 53) h (c_X7_puti h.quiet jr9 (o1 := 2) rfl (Nat.le_of_ble_eq_true rfl) (by omega)) kv_X7_put jr9.1 wM_X1_51 rfl rfl (Nat.le_of_ble_eq_true rfl) (RM.of rfl) rfl rfl (dk dt_X1_tell 26 rfl) ?_
    refine v_aload_n (pc := 56) h (dk dt_X1_tell 27 rfl) rfl ?_
    refine v_getr (pc := 57) h ci1 sh1 (Nat.le_of_ble_eq_true rfl) (j := 3) wF_X1_29 rfl (dk dt_X1_tell 28 rfl) ?_
    refine v_iload (pc := 60) h (dk dt_X1_tell 29 rfl) rfl ?_
    refine v_iload (pc := 62) h (dk dt_X1_tell 30 rfl) rfl ?_
    refine v_cVv (pc := 64) h (c_X7_puti h.quiet jr3 (o1 := 9) rfl (Nat.le_of_ble_eq_true rfl) (by omega)) kv_X7_put jr3.1 wM_X1_51 rfl rfl (Nat.le_of_ble_eq_true rfl) (RM.of rfl) rfl rfl (dk dt_X1_tell 31 rfl) ?_
    refine v_aload_n (pc := 67) h (dk dt_X1_tell 32 rfl) rfl ?_
    refine v_getr (pc := 68) h ci1 sh1 (Nat.le_of_ble_eq_true rfl) (j := 4) wF_X1_32 rfl (dk dt_X1_tell 33 rfl) ?_
    refine v_iload (pc := 71) h (dk dt_X1_tell 34 rfl) rfl ?_
    refine v_iconst (pc := 73) h (dk dt_X1_tell 35 rfl) ?_
    refine v_cVv (pc := 74) h (c_X7_puti h.quiet jr4 (o1 := 11) rfl (Nat.le_of_ble_eq_true rfl) (by omega)) kv_X7_put jr4.1 wM_X1_51 rfl rfl (Nat.le_of_ble_eq_true rfl) (RM.of rfl) rfl rfl (dk dt_X1_tell 36 rfl) ?_
    refine v_aload_n (pc := 77) h (dk dt_X1_tell 37 rfl) rfl ?_
    refine v_getr (pc := 78) h ci1 sh1 (Nat.le_of_ble_eq_true rfl) (j := 5) wF_X1_35 rfl (dk dt_X1_tell 38 rfl) ?_
    refine v_iload (pc := 81) h (dk dt_X1_tell 39 rfl) rfl ?_
    refine v_iconst (pc := 83) h (dk dt_X1_tell 40 rfl) ?_
    refine v_cVv (pc := 84) h (c_X7_puti h.quiet jr5 (o1 := 13) rfl (Nat.le_of_ble_eq_true rfl) (by omega)) kv_X7_put jr5.1 wM_X1_51 rfl rfl (Nat.le_of_ble_eq_true rfl) (RM.of rfl) rfl rfl (dk dt_X1_tell 41 rfl) ?_
    refine v_aload_n (pc := 87) h (dk dt_X1_tell 42 rfl) rfl ?_
    refine v_dup (pc := 88) h (dk dt_X1_tell 43 rfl) rfl ?_
    refine v_geti (pc := 89) h ci1 sh1 (Nat.le_of_ble_eq_true rfl) (j := 9) wF_X1_47 rfl (dk dt_X1_tell 44 rfl) ?_
    refine v_iconst (pc := 92) h (dk dt_X1_tell 45 rfl) ?_
    refine v_iadd (pc := 93) h (dk dt_X1_tell 46 rfl) ?_
    refine v_put (pc := 94) h ci1 sh1 (Nat.le_of_ble_eq_true rfl) (j := 9) wF_X1_47 rfl rfl rfl rfl (dk dt_X1_tell 47 rfl) ?_
    refine v_iload (pc := 97) h (dk dt_X1_tell 48 rfl) rfl ?_
    exact v_iret (pc := 99) h r (dk dt_X1_tell 49 rfl) (Nat.le_of_ble_eq_true rfl) (Nat.le_of_ble_eq_true rfl) ⟨rfl, by unfold mtell; first | (rw [if_pos c43]; rfl) | (rw [if_neg c43]; rfl)⟩
theorem c_X1_someWait (hst : l.stackTraces = false) (hs : okJ μ) :
    Ct l B D E yX1_someWait (.code yX1_someWait cX1_someWait 2 (some .boolean)) rm_X1_someWait [.ref (pl B 1)] μ (ri (if ∃ j : Nat, j < (μ 1 9).toNat ∧ μ 11 j ≠ 0 then 1 else 0) μ) NX := by
  have hb := hs.1
  refine ct_of (own := RX1) (lv := [(0, _)]) hst (by decide) rfl rfl (Nat.le_of_ble_eq_true rfl) fun a h r t => ?_
  have loop : ∀ (d i : Nat), i + d = (μ 1 9).toNat → (∀ t : Nat, t < i → μ 11 t = 0) → VV a B (SP B D E μ) 0 0 2 [(1, iI (i : Int)), (0, .ref (pl B 1))] [] := by
    intro d
    induction d with
    | zero =>
      intro i hi q
      refine v_iload_n (pc := 2) h (dk dt_X1_someWait 2 rfl) rfl ?_
      refine v_aload_n (pc := 3) h (dk dt_X1_someWait 3 rfl) rfl ?_
      refine v_geti (pc := 4) h ci1 sh1 (Nat.le_of_ble_eq_true rfl) (j := 9) wF_X1_47 rfl (dk dt_X1_someWait 4 rfl) ?_
      refine v_icmp_ge (pc := 7) h 29 (dk dt_X1_someWait 5 rfl) rfl (by omega) (fun c7 => ?_) (fun c7 => ?_)
      ·
        refine v_iconst (pc := 29) h (dk dt_X1_someWait 15 rfl) ?_
        exact v_zret (pc := 30) h r (dk dt_X1_someWait 16 rfl) (Nat.le_of_ble_eq_true rfl) (Nat.le_of_ble_eq_true rfl) (by omega) ⟨by rw [if_neg (fun z => by obtain ⟨j, h1, h2⟩ := z; exact h2 (q j (by omega)))], rfl⟩
      ·
        exact absurd c7 (by omega)
    | succ d ih =>
      intro i hi q
      have hg := (hs.2 i (by omega)).2.2.2.2.1
      have h2 : 2 ^ i ≤ 2 ^ 11 := Nat.pow_le_pow_right (by decide) (by omega)
      refine v_iload_n (pc := 2) h (dk dt_X1_someWait 2 rfl) rfl ?_
      refine v_aload_n (pc := 3) h (dk dt_X1_someWait 3 rfl) rfl ?_
      refine v_geti (pc := 4) h ci1 sh1 (Nat.le_of_ble_eq_true rfl) (j := 9) wF_X1_47 rfl (dk dt_X1_someWait 4 rfl) ?_
      refine v_icmp_ge (pc := 7) h 29 (dk dt_X1_someWait 5 rfl) rfl (by omega) (fun c7 => ?_) (fun c7 => ?_)
      ·
        exact absurd c7 (by omega)
      ·
        refine v_aload_n (pc := 10) h (dk dt_X1_someWait 6 rfl) rfl ?_
        refine v_getr (pc := 11) h ci1 sh1 (Nat.le_of_ble_eq_true rfl) (j := 4) wF_X1_32 rfl (dk dt_X1_someWait 7 rfl) ?_
        refine v_iload_n (pc := 14) h (dk dt_X1_someWait 8 rfl) rfl ?_
        refine v_cVi (pc := 15) h (c_X7_atn h.quiet jr4 (o1 := 11) rfl (Nat.le_of_ble_eq_true rfl) (by omega)) kv_X7_at jr4.1 wM_X1_55 rfl rfl (Nat.le_of_ble_eq_true rfl) (RM.of rfl) rfl rfl (dk dt_X1_someWait 9 rfl) ?_
        refine v_if_eq (pc := 18) h 23 (dk dt_X1_someWait 10 rfl) rfl (by omega) (fun c18 => ?_) (fun c18 => ?_)
        ·
          refine v_iinc (lv' := [(1, _), (0, _)]) (pc := 23) h (dk dt_X1_someWait 13 rfl) rfl (Nat.le_of_ble_eq_true rfl) rfl ?_
          refine v_goto (pc := 26) h 2 (dk dt_X1_someWait 14 rfl) rfl ?_
          exact VV.loc (ih (i + 1) (by omega) (fun t ht => by rcases Nat.lt_succ_iff_lt_or_eq.mp ht with z | z; exact q t z; rw [z]; exact c18)) ⟨rfl, rfl, trivial⟩
        ·
          refine v_iconst (pc := 21) h (dk dt_X1_someWait 11 rfl) ?_
          exact v_zret (pc := 22) h r (dk dt_X1_someWait 12 rfl) (Nat.le_of_ble_eq_true rfl) (Nat.le_of_ble_eq_true rfl) (by omega) ⟨by rw [if_pos ⟨i, by omega, c18⟩], rfl⟩
  refine v_iconst (pc := 0) h (dk dt_X1_someWait 0 rfl) ?_
  refine v_istore_n (lv' := [(1, _), (0, _)]) (pc := 1) h (dk dt_X1_someWait 1 rfl) (Nat.le_of_ble_eq_true rfl) rfl ?_
  exact VV.loc (loop (μ 1 9).toNat 0 (by omega) (fun t ht => absurd ht (by omega))) ⟨rfl, rfl, trivial⟩
def mstretch (μ : Mm) (j : Nat) (y f t : Int) : Mm := mup (mup (mup (mup μ 15 (3 * j + (μ 13 j).toNat) y) 17 (3 * j + (μ 13 j).toNat) f) 19 (3 * j + (μ 13 j).toNat) t) 13 j (μ 13 j + 1)
theorem c_X1_addStretch (hst : l.stackTraces = false) {j : Nat} (hj : j < 12) (hk : 0 ≤ μ 13 j ∧ μ 13 j < 3) {y f t : Int} :
    Ct l B D E yX1_addStretch (.code yX1_addStretch cX1_addStretch 7 (some .int)) rm_X1_addStretch [.ref (pl B 1), iI (j : Int), iI y, iI f, iI t] μ (ri (μ 13 j + 1) (mstretch μ j y f t)) NX := by
  have e : ((j : Int) * 3 + μ 13 j) = ((3 * j + (μ 13 j).toNat : Nat) : Int) := by omega
  refine ct_of (own := RX1) (lv := [(0, _), (1, _), (2, _), (3, _), (4, _)]) hst (by decide) rfl rfl (Nat.le_of_ble_eq_true rfl) fun a h r t => ?_
  refine v_aload_n (pc := 0) h (dk dt_X1_addStretch 0 rfl) rfl ?_
  refine v_getr (pc := 1) h ci1 sh1 (Nat.le_of_ble_eq_true rfl) (j := 5) wF_X1_35 rfl (dk dt_X1_addStretch 1 rfl) ?_
  refine v_iload_n (pc := 4) h (dk dt_X1_addStretch 2 rfl) rfl ?_
  refine v_cVi (pc := 5) h (c_X7_atn h.quiet jr5 (o1 := 13) rfl (Nat.le_of_ble_eq_true rfl) (by omega)) kv_X7_at jr5.1 wM_X1_55 rfl rfl (Nat.le_of_ble_eq_true rfl) (RM.of rfl) rfl rfl (dk dt_X1_addStretch 3 rfl) ?_
  refine v_istore (lv' := [(5, _), (0, _), (1, _), (2, _), (3, _), (4, _)]) (pc := 8) h (dk dt_X1_addStretch 4 rfl) (Nat.le_of_ble_eq_true rfl) rfl ?_
  refine v_iload_n (pc := 10) h (dk dt_X1_addStretch 5 rfl) rfl ?_
  refine v_iconst (pc := 11) h (dk dt_X1_addStretch 6 rfl) ?_
  refine v_imul (pc := 12) h (dk dt_X1_addStretch 7 rfl) ?_
  refine v_iload (pc := 13) h (dk dt_X1_addStretch 8 rfl) rfl ?_
  refine v_iadd (pc := 15) h (dk dt_X1_addStretch 9 rfl) ?_
  rw [e]
  refine v_istore (lv' := [(6, _), (5, _), (0, _), (1, _), (2, _), (3, _), (4, _)]) (pc := 16) h (dk dt_X1_addStretch 10 rfl) (Nat.le_of_ble_eq_true rfl) rfl ?_
  refine v_aload_n (pc := 18) h (dk dt_X1_addStretch 11 rfl) rfl ?_
  refine v_getr (pc := 19) h ci1 sh1 (Nat.le_of_ble_eq_true rfl) (j := 6) wF_X1_38 rfl (dk dt_X1_addStretch 12 rfl) ?_
  refine v_iload (pc := 22) h (dk dt_X1_addStretch 13 rfl) rfl ?_
  refine v_iload_n (pc := 24) h (dk dt_X1_addStretch 14 rfl) rfl ?_
  refine v_cVv (pc := 25) h (c_X7_putn h.quiet jr6 (o1 := 15) rfl (Nat.le_of_ble_eq_true rfl) (by omega)) kv_X7_put jr6.1 wM_X1_51 rfl rfl (Nat.le_of_ble_eq_true rfl) (RM.of rfl) rfl rfl (dk dt_X1_addStretch 15 rfl) ?_
  refine v_aload_n (pc := 28) h (dk dt_X1_addStretch 16 rfl) rfl ?_
  refine v_getr (pc := 29) h ci1 sh1 (Nat.le_of_ble_eq_true rfl) (j := 7) wF_X1_41 rfl (dk dt_X1_addStretch 17 rfl) ?_
  refine v_iload (pc := 32) h (dk dt_X1_addStretch 18 rfl) rfl ?_
  refine v_iload_n (pc := 34) h (dk dt_X1_addStretch 19 rfl) rfl ?_
  refine v_cVv (pc := 35) h (c_X7_putn h.quiet jr7 (o1 := 17) rfl (Nat.le_of_ble_eq_true rfl) (by omega)) kv_X7_put jr7.1 wM_X1_51 rfl rfl (Nat.le_of_ble_eq_true rfl) (RM.of rfl) rfl rfl (dk dt_X1_addStretch 20 rfl) ?_
  refine v_aload_n (pc := 38) h (dk dt_X1_addStretch 21 rfl) rfl ?_
  refine v_getr (pc := 39) h ci1 sh1 (Nat.le_of_ble_eq_true rfl) (j := 8) wF_X1_44 rfl (dk dt_X1_addStretch 22 rfl) ?_
  refine v_iload (pc := 42) h (dk dt_X1_addStretch 23 rfl) rfl ?_
  refine v_iload (pc := 44) h (dk dt_X1_addStretch 24 rfl) rfl ?_
  refine v_cVv (pc := 46) h (c_X7_putn h.quiet jr8 (o1 := 19) rfl (Nat.le_of_ble_eq_true rfl) (by omega)) kv_X7_put jr8.1 wM_X1_51 rfl rfl (Nat.le_of_ble_eq_true rfl) (RM.of rfl) rfl rfl (dk dt_X1_addStretch 25 rfl) ?_
  refine v_aload_n (pc := 49) h (dk dt_X1_addStretch 26 rfl) rfl ?_
  refine v_getr (pc := 50) h ci1 sh1 (Nat.le_of_ble_eq_true rfl) (j := 5) wF_X1_35 rfl (dk dt_X1_addStretch 27 rfl) ?_
  refine v_iload_n (pc := 53) h (dk dt_X1_addStretch 28 rfl) rfl ?_
  refine v_iload (pc := 54) h (dk dt_X1_addStretch 29 rfl) rfl ?_
  refine v_iconst (pc := 56) h (dk dt_X1_addStretch 30 rfl) ?_
  refine v_iadd (pc := 57) h (dk dt_X1_addStretch 31 rfl) ?_
  refine v_cVv (pc := 58) h (c_X7_putn h.quiet jr5 (o1 := 13) rfl (Nat.le_of_ble_eq_true rfl) (by omega)) kv_X7_put jr5.1 wM_X1_51 rfl rfl (Nat.le_of_ble_eq_true rfl) (RM.of rfl) rfl rfl (dk dt_X1_addStretch 32 rfl) ?_
  refine v_iload (pc := 61) h (dk dt_X1_addStretch 33 rfl) rfl ?_
  refine v_iconst (pc := 63) h (dk dt_X1_addStretch 34 rfl) ?_
  refine v_iadd (pc := 64) h (dk dt_X1_addStretch 35 rfl) ?_
  exact v_iret (pc := 65) h r (dk dt_X1_addStretch 36 rfl) (Nat.le_of_ble_eq_true rfl) (Nat.le_of_ble_eq_true rfl) ⟨rfl, rfl⟩
theorem c_X1_overlaps (hst : l.stackTraces = false) (hs : okJ μ) {j : Nat} (hj : (j : Int) < μ 1 9) {f u : Int} (hf : InR f ∧ InR u) :
    Ct l B D E yX1_overlaps (.code yX1_overlaps cX1_overlaps 6 (some .boolean)) rm_X1_overlaps [.ref (pl B 1), iI (j : Int), iI f, iI u] μ (ri (if ∃ i : Nat, i < (μ 13 j).toNat ∧ f < μ 19 (3 * j + i) ∧ μ 17 (3 * j + i) < u then 1 else 0) μ) NX := by
  have hb := hs.1
  have hq := hs.2 j hj
  refine ct_of (own := RX1) (lv := [(0, _), (1, _), (2, _), (3, _)]) hst (by decide) rfl rfl (Nat.le_of_ble_eq_true rfl) fun a h r t => ?_
  have loop : ∀ (d i : Nat), i + d = (μ 13 j).toNat → (∀ z : Nat, z < i → ¬ (f < μ 19 (3 * j + z) ∧ μ 17 (3 * j + z) < u)) → VV a B (SP B D E μ) 0 0 8 [(5, iI (i : Int)), (4, iI ((3 * j : Nat) : Int)), (0, .ref (pl B 1)), (1, iI (j : Int)), (2, iI f), (3, iI u)] [] := by
    intro d
    induction d with
    | zero =>
      intro i hi q
      refine v_iload (pc := 8) h (dk dt_X1_overlaps 6 rfl) rfl ?_
      refine v_aload_n (pc := 10) h (dk dt_X1_overlaps 7 rfl) rfl ?_
      refine v_getr (pc := 11) h ci1 sh1 (Nat.le_of_ble_eq_true rfl) (j := 5) wF_X1_35 rfl (dk dt_X1_overlaps 8 rfl) ?_
      refine v_iload_n (pc := 14) h (dk dt_X1_overlaps 9 rfl) rfl ?_
      refine v_cVi (pc := 15) h (c_X7_atn h.quiet jr5 (o1 := 13) rfl (Nat.le_of_ble_eq_true rfl) (by omega)) kv_X7_at jr5.1 wM_X1_55 rfl rfl (Nat.le_of_ble_eq_true rfl) (RM.of rfl) rfl rfl (dk dt_X1_overlaps 10 rfl) ?_
      refine v_icmp_ge (pc := 18) h 61 (dk dt_X1_overlaps 11 rfl) rfl (by omega) (fun c18 => ?_) (fun c18 => ?_)
      ·
        refine v_iconst (pc := 61) h (dk dt_X1_overlaps 32 rfl) ?_
        exact v_zret (pc := 62) h r (dk dt_X1_overlaps 33 rfl) (Nat.le_of_ble_eq_true rfl) (Nat.le_of_ble_eq_true rfl) (by omega) ⟨by rw [if_neg (fun z => by obtain ⟨x, h1, h2⟩ := z; exact q x (by omega) h2)], rfl⟩
      ·
        exact absurd c18 (by omega)
    | succ d ih =>
      intro i hi q
      have hg := hq.2.2.2.2.2.2.1 i (by omega)
      have e : (((3 * j : Nat) : Int) + (i : Int)) = ((3 * j + i : Nat) : Int) := by omega
      refine v_iload (pc := 8) h (dk dt_X1_overlaps 6 rfl) rfl ?_
      refine v_aload_n (pc := 10) h (dk dt_X1_overlaps 7 rfl) rfl ?_
      refine v_getr (pc := 11) h ci1 sh1 (Nat.le_of_ble_eq_true rfl) (j := 5) wF_X1_35 rfl (dk dt_X1_overlaps 8 rfl) ?_
      refine v_iload_n (pc := 14) h (dk dt_X1_overlaps 9 rfl) rfl ?_
      refine v_cVi (pc := 15) h (c_X7_atn h.quiet jr5 (o1 := 13) rfl (Nat.le_of_ble_eq_true rfl) (by omega)) kv_X7_at jr5.1 wM_X1_55 rfl rfl (Nat.le_of_ble_eq_true rfl) (RM.of rfl) rfl rfl (dk dt_X1_overlaps 10 rfl) ?_
      refine v_icmp_ge (pc := 18) h 61 (dk dt_X1_overlaps 11 rfl) rfl (by omega) (fun c18 => ?_) (fun c18 => ?_)
      ·
        exact absurd c18 (by omega)
      ·
        refine v_iload_n (pc := 21) h (dk dt_X1_overlaps 12 rfl) rfl ?_
        refine v_aload_n (pc := 22) h (dk dt_X1_overlaps 13 rfl) rfl ?_
        refine v_getr (pc := 23) h ci1 sh1 (Nat.le_of_ble_eq_true rfl) (j := 8) wF_X1_44 rfl (dk dt_X1_overlaps 14 rfl) ?_
        refine v_iload (pc := 26) h (dk dt_X1_overlaps 15 rfl) rfl ?_
        refine v_iload (pc := 28) h (dk dt_X1_overlaps 16 rfl) rfl ?_
        refine v_iadd (pc := 30) h (dk dt_X1_overlaps 17 rfl) ?_
        rw [e]
        refine v_cVi (pc := 31) h (c_X7_atn h.quiet jr8 (o1 := 19) rfl (Nat.le_of_ble_eq_true rfl) (by omega)) kv_X7_at jr8.1 wM_X1_55 rfl rfl (Nat.le_of_ble_eq_true rfl) (RM.of rfl) rfl rfl (dk dt_X1_overlaps 18 rfl) ?_
        refine v_icmp_ge (pc := 34) h 55 (dk dt_X1_overlaps 19 rfl) rfl (by omega) (fun c34 => ?_) (fun c34 => ?_)
        ·
          refine v_iinc (lv' := [(5, _), (4, _), (0, _), (1, _), (2, _), (3, _)]) (pc := 55) h (dk dt_X1_overlaps 30 rfl) rfl (Nat.le_of_ble_eq_true rfl) rfl ?_
          refine v_goto (pc := 58) h 8 (dk dt_X1_overlaps 31 rfl) rfl ?_
          exact VV.loc (ih (i + 1) (by omega) (fun x hx => by rcases Nat.lt_succ_iff_lt_or_eq.mp hx with z | z; exact q x z; rw [z]; omega)) ⟨rfl, rfl, rfl, rfl, rfl, rfl, trivial⟩
        ·
          refine v_aload_n (pc := 37) h (dk dt_X1_overlaps 20 rfl) rfl ?_
          refine v_getr (pc := 38) h ci1 sh1 (Nat.le_of_ble_eq_true rfl) (j := 7) wF_X1_41 rfl (dk dt_X1_overlaps 21 rfl) ?_
          refine v_iload (pc := 41) h (dk dt_X1_overlaps 22 rfl) rfl ?_
          refine v_iload (pc := 43) h (dk dt_X1_overlaps 23 rfl) rfl ?_
          refine v_iadd (pc := 45) h (dk dt_X1_overlaps 24 rfl) ?_
          rw [e]
          refine v_cVi (pc := 46) h (c_X7_atn h.quiet jr7 (o1 := 17) rfl (Nat.le_of_ble_eq_true rfl) (by omega)) kv_X7_at jr7.1 wM_X1_55 rfl rfl (Nat.le_of_ble_eq_true rfl) (RM.of rfl) rfl rfl (dk dt_X1_overlaps 25 rfl) ?_
          refine v_iload_n (pc := 49) h (dk dt_X1_overlaps 26 rfl) rfl ?_
          refine v_icmp_ge (pc := 50) h 55 (dk dt_X1_overlaps 27 rfl) rfl (by omega) (fun c50 => ?_) (fun c50 => ?_)
          ·
            refine v_iinc (lv' := [(5, _), (4, _), (0, _), (1, _), (2, _), (3, _)]) (pc := 55) h (dk dt_X1_overlaps 30 rfl) rfl (Nat.le_of_ble_eq_true rfl) rfl ?_
            refine v_goto (pc := 58) h 8 (dk dt_X1_overlaps 31 rfl) rfl ?_
            exact VV.loc (ih (i + 1) (by omega) (fun x hx => by rcases Nat.lt_succ_iff_lt_or_eq.mp hx with z | z; exact q x z; rw [z]; omega)) ⟨rfl, rfl, rfl, rfl, rfl, rfl, trivial⟩
          ·
            refine v_iconst (pc := 53) h (dk dt_X1_overlaps 28 rfl) ?_
            exact v_zret (pc := 54) h r (dk dt_X1_overlaps 29 rfl) (Nat.le_of_ble_eq_true rfl) (Nat.le_of_ble_eq_true rfl) (by omega) ⟨by rw [if_pos ⟨i, by omega, c34, c50⟩], rfl⟩
  refine v_iload_n (pc := 0) h (dk dt_X1_overlaps 0 rfl) rfl ?_
  refine v_iconst (pc := 1) h (dk dt_X1_overlaps 1 rfl) ?_
  refine v_imul (pc := 2) h (dk dt_X1_overlaps 2 rfl) ?_
  refine v_istore (lv' := [(4, _), (0, _), (1, _), (2, _), (3, _)]) (pc := 3) h (dk dt_X1_overlaps 3 rfl) (Nat.le_of_ble_eq_true rfl) rfl ?_
  refine v_iconst (pc := 5) h (dk dt_X1_overlaps 4 rfl) ?_
  refine v_istore (lv' := [(5, _), (4, _), (0, _), (1, _), (2, _), (3, _)]) (pc := 6) h (dk dt_X1_overlaps 5 rfl) (Nat.le_of_ble_eq_true rfl) rfl ?_
  exact VV.loc (loop (μ 13 j).toNat 0 (by omega) (fun t ht => absurd ht (by omega))) ⟨rfl, lvI (by omega), rfl, rfl, rfl, rfl, trivial⟩
theorem c_X1_lockAt (hst : l.stackTraces = false) (hs : okJ μ) {j : Nat} (hj : (j : Int) < μ 1 9) {dn b : Int} (hd : 0 ≤ dn ∧ dn ≤ 30) (hb2 : b = 0 ∨ b = 1) :
    Ct l B D E yX1_lockAt (.code yX1_lockAt cX1_lockAt 7 (some .int)) rm_X1_lockAt [.ref (pl B 1), iI (j : Int), iI dn, iI b] μ (ri (lkAt (μ 15) (μ 17) (μ 19) j (dn - b) dn (μ 13 j).toNat 0) μ) NX := by
  have hb := hs.1
  have hq := hs.2 j hj
  refine ct_of (own := RX1) (lv := [(0, _), (1, _), (2, _), (3, _)]) hst (by decide) rfl rfl (Nat.le_of_ble_eq_true rfl) fun a h r t => ?_
  have loop : ∀ (d i : Nat), i + d = (μ 13 j).toNat → lkAt (μ 15) (μ 17) (μ 19) j (dn - b) dn (μ 13 j).toNat 0 = lkAt (μ 15) (μ 17) (μ 19) j (dn - b) dn d i → VV a B (SP B D E μ) 0 0 21 [(6, iI (i : Int)), (5, iI (dn - b)), (4, iI ((3 * j : Nat) : Int)), (0, .ref (pl B 1)), (1, iI (j : Int)), (2, iI dn), (3, iI b)] [] := by
    intro d
    induction d with
    | zero =>
      intro i hi q
      refine v_iload (pc := 21) h (dk dt_X1_lockAt 14 rfl) rfl ?_
      refine v_aload_n (pc := 23) h (dk dt_X1_lockAt 15 rfl) rfl ?_
      refine v_getr (pc := 24) h ci1 sh1 (Nat.le_of_ble_eq_true rfl) (j := 5) wF_X1_35 rfl (dk dt_X1_lockAt 16 rfl) ?_
      refine v_iload_n (pc := 27) h (dk dt_X1_lockAt 17 rfl) rfl ?_
      refine v_cVi (pc := 28) h (c_X7_atn h.quiet jr5 (o1 := 13) rfl (Nat.le_of_ble_eq_true rfl) (by omega)) kv_X7_at jr5.1 wM_X1_55 rfl rfl (Nat.le_of_ble_eq_true rfl) (RM.of rfl) rfl rfl (dk dt_X1_lockAt 18 rfl) ?_
      refine v_icmp_ge (pc := 31) h 86 (dk dt_X1_lockAt 19 rfl) rfl (by omega) (fun c31 => ?_) (fun c31 => ?_)
      ·
        refine v_iconst (pc := 86) h (dk dt_X1_lockAt 45 rfl) ?_
        exact v_iret (pc := 87) h r (dk dt_X1_lockAt 46 rfl) (Nat.le_of_ble_eq_true rfl) (Nat.le_of_ble_eq_true rfl) ⟨by rw [q, lkAt], rfl⟩
      ·
        exact absurd c31 (by omega)
    | succ d ih =>
      intro i hi q
      have hg := hq.2.2.2.2.2.2.1 i (by omega)
      have e : (((3 * j : Nat) : Int) + (i : Int)) = ((3 * j + i : Nat) : Int) := by omega
      refine v_iload (pc := 21) h (dk dt_X1_lockAt 14 rfl) rfl ?_
      refine v_aload_n (pc := 23) h (dk dt_X1_lockAt 15 rfl) rfl ?_
      refine v_getr (pc := 24) h ci1 sh1 (Nat.le_of_ble_eq_true rfl) (j := 5) wF_X1_35 rfl (dk dt_X1_lockAt 16 rfl) ?_
      refine v_iload_n (pc := 27) h (dk dt_X1_lockAt 17 rfl) rfl ?_
      refine v_cVi (pc := 28) h (c_X7_atn h.quiet jr5 (o1 := 13) rfl (Nat.le_of_ble_eq_true rfl) (by omega)) kv_X7_at jr5.1 wM_X1_55 rfl rfl (Nat.le_of_ble_eq_true rfl) (RM.of rfl) rfl rfl (dk dt_X1_lockAt 18 rfl) ?_
      refine v_icmp_ge (pc := 31) h 86 (dk dt_X1_lockAt 19 rfl) rfl (by omega) (fun c31 => ?_) (fun c31 => ?_)
      ·
        exact absurd c31 (by omega)
      ·
        refine v_aload_n (pc := 34) h (dk dt_X1_lockAt 20 rfl) rfl ?_
        refine v_getr (pc := 35) h ci1 sh1 (Nat.le_of_ble_eq_true rfl) (j := 7) wF_X1_41 rfl (dk dt_X1_lockAt 21 rfl) ?_
        refine v_iload (pc := 38) h (dk dt_X1_lockAt 22 rfl) rfl ?_
        refine v_iload (pc := 40) h (dk dt_X1_lockAt 23 rfl) rfl ?_
        refine v_iadd (pc := 42) h (dk dt_X1_lockAt 24 rfl) ?_
        rw [e]
        refine v_cVi (pc := 43) h (c_X7_atn h.quiet jr7 (o1 := 17) rfl (Nat.le_of_ble_eq_true rfl) (by omega)) kv_X7_at jr7.1 wM_X1_55 rfl rfl (Nat.le_of_ble_eq_true rfl) (RM.of rfl) rfl rfl (dk dt_X1_lockAt 25 rfl) ?_
        refine v_iload (pc := 46) h (dk dt_X1_lockAt 26 rfl) rfl ?_
        refine v_icmp_gt (pc := 48) h 80 (dk dt_X1_lockAt 27 rfl) rfl (by omega) (fun c48 => ?_) (fun c48 => ?_)
        ·
          refine v_iinc (lv' := [(6, _), (5, _), (4, _), (0, _), (1, _), (2, _), (3, _)]) (pc := 80) h (dk dt_X1_lockAt 43 rfl) rfl (Nat.le_of_ble_eq_true rfl) rfl ?_
          refine v_goto (pc := 83) h 21 (dk dt_X1_lockAt 44 rfl) rfl ?_
          exact VV.loc (ih (i + 1) (by omega) (by rw [q, lkAt, if_neg (by omega)])) ⟨rfl, rfl, rfl, rfl, rfl, rfl, rfl, trivial⟩
        ·
          refine v_iload_n (pc := 51) h (dk dt_X1_lockAt 28 rfl) rfl ?_
          refine v_aload_n (pc := 52) h (dk dt_X1_lockAt 29 rfl) rfl ?_
          refine v_getr (pc := 53) h ci1 sh1 (Nat.le_of_ble_eq_true rfl) (j := 8) wF_X1_44 rfl (dk dt_X1_lockAt 30 rfl) ?_
          refine v_iload (pc := 56) h (dk dt_X1_lockAt 31 rfl) rfl ?_
          refine v_iload (pc := 58) h (dk dt_X1_lockAt 32 rfl) rfl ?_
          refine v_iadd (pc := 60) h (dk dt_X1_lockAt 33 rfl) ?_
          rw [e]
          refine v_cVi (pc := 61) h (c_X7_atn h.quiet jr8 (o1 := 19) rfl (Nat.le_of_ble_eq_true rfl) (by omega)) kv_X7_at jr8.1 wM_X1_55 rfl rfl (Nat.le_of_ble_eq_true rfl) (RM.of rfl) rfl rfl (dk dt_X1_lockAt 34 rfl) ?_
          refine v_icmp_ge (pc := 64) h 80 (dk dt_X1_lockAt 35 rfl) rfl (by omega) (fun c64 => ?_) (fun c64 => ?_)
          ·
            refine v_iinc (lv' := [(6, _), (5, _), (4, _), (0, _), (1, _), (2, _), (3, _)]) (pc := 80) h (dk dt_X1_lockAt 43 rfl) rfl (Nat.le_of_ble_eq_true rfl) rfl ?_
            refine v_goto (pc := 83) h 21 (dk dt_X1_lockAt 44 rfl) rfl ?_
            exact VV.loc (ih (i + 1) (by omega) (by rw [q, lkAt, if_neg (by omega)])) ⟨rfl, rfl, rfl, rfl, rfl, rfl, rfl, trivial⟩
          ·
            refine v_aload_n (pc := 67) h (dk dt_X1_lockAt 36 rfl) rfl ?_
            refine v_getr (pc := 68) h ci1 sh1 (Nat.le_of_ble_eq_true rfl) (j := 6) wF_X1_38 rfl (dk dt_X1_lockAt 37 rfl) ?_
            refine v_iload (pc := 71) h (dk dt_X1_lockAt 38 rfl) rfl ?_
            refine v_iload (pc := 73) h (dk dt_X1_lockAt 39 rfl) rfl ?_
            refine v_iadd (pc := 75) h (dk dt_X1_lockAt 40 rfl) ?_
            rw [e]
            refine v_cVi (pc := 76) h (c_X7_atn h.quiet jr6 (o1 := 15) rfl (Nat.le_of_ble_eq_true rfl) (by omega)) kv_X7_at jr6.1 wM_X1_55 rfl rfl (Nat.le_of_ble_eq_true rfl) (RM.of rfl) rfl rfl (dk dt_X1_lockAt 41 rfl) ?_
            exact v_iret (pc := 79) h r (dk dt_X1_lockAt 42 rfl) (Nat.le_of_ble_eq_true rfl) (Nat.le_of_ble_eq_true rfl) ⟨by rw [q, lkAt, if_pos (by omega)], rfl⟩
  refine v_iload_n (pc := 0) h (dk dt_X1_lockAt 0 rfl) rfl ?_
  refine v_iconst (pc := 1) h (dk dt_X1_lockAt 1 rfl) ?_
  refine v_imul (pc := 2) h (dk dt_X1_lockAt 2 rfl) ?_
  refine v_istore (lv' := [(4, _), (0, _), (1, _), (2, _), (3, _)]) (pc := 3) h (dk dt_X1_lockAt 3 rfl) (Nat.le_of_ble_eq_true rfl) rfl ?_
  refine v_iload_n (pc := 5) h (dk dt_X1_lockAt 4 rfl) rfl ?_
  refine v_if_eq (pc := 6) h 15 (dk dt_X1_lockAt 5 rfl) rfl (by omega) (fun c6 => ?_) (fun c6 => ?_)
  ·
    refine v_iload_n (pc := 15) h (dk dt_X1_lockAt 10 rfl) rfl ?_
    refine v_istore (lv' := [(5, _), (4, _), (0, _), (1, _), (2, _), (3, _)]) (pc := 16) h (dk dt_X1_lockAt 11 rfl) (Nat.le_of_ble_eq_true rfl) rfl ?_
    refine v_iconst (pc := 18) h (dk dt_X1_lockAt 12 rfl) ?_
    refine v_istore (lv' := [(6, _), (5, _), (4, _), (0, _), (1, _), (2, _), (3, _)]) (pc := 19) h (dk dt_X1_lockAt 13 rfl) (Nat.le_of_ble_eq_true rfl) rfl ?_
    exact VV.loc (loop (μ 13 j).toNat 0 (by omega) rfl) ⟨rfl, lvI (by omega), lvI (by omega), rfl, rfl, rfl, rfl, trivial⟩
  ·
    refine v_iload_n (pc := 9) h (dk dt_X1_lockAt 6 rfl) rfl ?_
    refine v_iconst (pc := 10) h (dk dt_X1_lockAt 7 rfl) ?_
    refine v_isub (pc := 11) h (dk dt_X1_lockAt 8 rfl) ?_
    refine v_goto (pc := 12) h 16 (dk dt_X1_lockAt 9 rfl) rfl ?_
    refine v_istore (lv' := [(5, _), (4, _), (0, _), (1, _), (2, _), (3, _)]) (pc := 16) h (dk dt_X1_lockAt 11 rfl) (Nat.le_of_ble_eq_true rfl) rfl ?_
    refine v_iconst (pc := 18) h (dk dt_X1_lockAt 12 rfl) ?_
    refine v_istore (lv' := [(6, _), (5, _), (4, _), (0, _), (1, _), (2, _), (3, _)]) (pc := 19) h (dk dt_X1_lockAt 13 rfl) (Nat.le_of_ble_eq_true rfl) rfl ?_
    exact VV.loc (loop (μ 13 j).toNat 0 (by omega) rfl) ⟨rfl, lvI (by omega), lvI (by omega), rfl, rfl, rfl, rfl, trivial⟩
theorem c_X1_highest (hst : l.stackTraces = false) (hs : okJ μ) :
    Ct l B D E yX1_highest (.code yX1_highest cX1_highest 5 (some .int)) rm_X1_highest [.ref (pl B 1)] μ (ri (higF (μ 9) (μ 1 9).toNat).2 μ) NX := by
  have hb := hs.1
  have hw : ∀ j : Nat, j < (μ 1 9).toNat → 1 ≤ μ 9 j ∧ μ 9 j ≤ 9 := fun j hj => (hs.2 j (by omega)).2.2.2.1
  refine ct_of (own := RX1) (lv := [(0, _)]) hst (by decide) rfl rfl (Nat.le_of_ble_eq_true rfl) fun a h r t => ?_
  have loop : ∀ (d i : Nat), i + d = (μ 1 9).toNat → VV a B (SP B D E μ) 0 0 6 [(3, iI (i : Int)), (2, iI (higF (μ 9) i).2), (1, iI (higF (μ 9) i).1), (0, .ref (pl B 1))] [] := by
    intro d
    induction d with
    | zero =>
      intro i hi
      refine v_iload_n (pc := 6) h (dk dt_X1_highest 6 rfl) rfl ?_
      refine v_aload_n (pc := 7) h (dk dt_X1_highest 7 rfl) rfl ?_
      refine v_geti (pc := 8) h ci1 sh1 (Nat.le_of_ble_eq_true rfl) (j := 9) wF_X1_47 rfl (dk dt_X1_highest 8 rfl) ?_
      refine v_icmp_ge (pc := 11) h 52 (dk dt_X1_highest 9 rfl) rfl (by omega) (fun c11 => ?_) (fun c11 => ?_)
      ·
        refine v_iload_n (pc := 52) h (dk dt_X1_highest 30 rfl) rfl ?_
        exact v_iret (pc := 53) h r (dk dt_X1_highest 31 rfl) (Nat.le_of_ble_eq_true rfl) (Nat.le_of_ble_eq_true rfl) ⟨by rw [show (μ 1 9).toNat = i by omega], rfl⟩
      ·
        exact absurd c11 (by omega)
    | succ d ih =>
      intro i hi
      have h1 := hw i (by omega)
      have h2 := higF_b hw i (by omega)
      refine v_iload_n (pc := 6) h (dk dt_X1_highest 6 rfl) rfl ?_
      refine v_aload_n (pc := 7) h (dk dt_X1_highest 7 rfl) rfl ?_
      refine v_geti (pc := 8) h ci1 sh1 (Nat.le_of_ble_eq_true rfl) (j := 9) wF_X1_47 rfl (dk dt_X1_highest 8 rfl) ?_
      refine v_icmp_ge (pc := 11) h 52 (dk dt_X1_highest 9 rfl) rfl (by omega) (fun c11 => ?_) (fun c11 => ?_)
      ·
        exact absurd c11 (by omega)
      ·
        refine v_aload_n (pc := 14) h (dk dt_X1_highest 10 rfl) rfl ?_
        refine v_getr (pc := 15) h ci1 sh1 (Nat.le_of_ble_eq_true rfl) (j := 3) wF_X1_29 rfl (dk dt_X1_highest 11 rfl) ?_
        refine v_iload_n (pc := 18) h (dk dt_X1_highest 12 rfl) rfl ?_
        refine v_cVi (pc := 19) h (c_X7_atn h.quiet jr3 (o1 := 9) rfl (Nat.le_of_ble_eq_true rfl) (by omega)) kv_X7_at jr3.1 wM_X1_55 rfl rfl (Nat.le_of_ble_eq_true rfl) (RM.of rfl) rfl rfl (dk dt_X1_highest 13 rfl) ?_
        refine v_istore (lv' := [(4, _), (3, _), (2, _), (1, _), (0, _)]) (pc := 22) h (dk dt_X1_highest 14 rfl) (Nat.le_of_ble_eq_true rfl) rfl ?_
        refine v_iload (pc := 24) h (dk dt_X1_highest 15 rfl) rfl ?_
        refine v_iload_n (pc := 26) h (dk dt_X1_highest 16 rfl) rfl ?_
        refine v_icmp_le (pc := 27) h 38 (dk dt_X1_highest 17 rfl) rfl (by omega) (fun c27 => ?_) (fun c27 => ?_)
        ·
          have e : higF (μ 9) (i + 1) = if μ 9 i = (higF (μ 9) i).1 then ((higF (μ 9) i).1, -1) else higF (μ 9) i := by rw [higF, if_neg (by omega)]
          refine v_iload (pc := 38) h (dk dt_X1_highest 23 rfl) rfl ?_
          refine v_iload_n (pc := 40) h (dk dt_X1_highest 24 rfl) rfl ?_
          refine v_icmp_ne (pc := 41) h 46 (dk dt_X1_highest 25 rfl) rfl (by omega) (fun c41 => ?_) (fun c41 => ?_)
          ·
            rw [if_neg c41] at e
            refine v_iinc (lv' := [(3, _), (4, _), (2, _), (1, _), (0, _)]) (pc := 46) h (dk dt_X1_highest 28 rfl) rfl (Nat.le_of_ble_eq_true rfl) rfl ?_
            refine v_goto (pc := 49) h 6 (dk dt_X1_highest 29 rfl) rfl ?_
            exact VV.loc (ih (i + 1) (by omega)) ⟨rfl, lvI (by rw [e]), lvI (by rw [e]), rfl, trivial⟩
          ·
            rw [if_pos c41] at e
            refine v_iconst (pc := 44) h (dk dt_X1_highest 26 rfl) ?_
            refine v_istore_n (lv' := [(2, _), (4, _), (3, _), (1, _), (0, _)]) (pc := 45) h (dk dt_X1_highest 27 rfl) (Nat.le_of_ble_eq_true rfl) rfl ?_
            refine v_iinc (lv' := [(3, _), (2, _), (4, _), (1, _), (0, _)]) (pc := 46) h (dk dt_X1_highest 28 rfl) rfl (Nat.le_of_ble_eq_true rfl) rfl ?_
            refine v_goto (pc := 49) h 6 (dk dt_X1_highest 29 rfl) rfl ?_
            exact VV.loc (ih (i + 1) (by omega)) ⟨rfl, lvI (by rw [e]), lvI (by rw [e]), rfl, trivial⟩
        ·
          have e : higF (μ 9) (i + 1) = (μ 9 i, (i : Int)) := by rw [higF, if_pos c27]
          refine v_iload (pc := 30) h (dk dt_X1_highest 18 rfl) rfl ?_
          refine v_istore_n (lv' := [(1, _), (4, _), (3, _), (2, _), (0, _)]) (pc := 32) h (dk dt_X1_highest 19 rfl) (Nat.le_of_ble_eq_true rfl) rfl ?_
          refine v_iload_n (pc := 33) h (dk dt_X1_highest 20 rfl) rfl ?_
          refine v_istore_n (lv' := [(2, _), (1, _), (4, _), (3, _), (0, _)]) (pc := 34) h (dk dt_X1_highest 21 rfl) (Nat.le_of_ble_eq_true rfl) rfl ?_
          refine v_goto (pc := 35) h 46 (dk dt_X1_highest 22 rfl) rfl ?_
          refine v_iinc (lv' := [(3, _), (2, _), (1, _), (4, _), (0, _)]) (pc := 46) h (dk dt_X1_highest 28 rfl) rfl (Nat.le_of_ble_eq_true rfl) rfl ?_
          refine v_goto (pc := 49) h 6 (dk dt_X1_highest 29 rfl) rfl ?_
          exact VV.loc (ih (i + 1) (by omega)) ⟨rfl, lvI (by rw [e]), lvI (by rw [e]), rfl, trivial⟩
  refine v_iconst (pc := 0) h (dk dt_X1_highest 0 rfl) ?_
  refine v_istore_n (lv' := [(1, _), (0, _)]) (pc := 1) h (dk dt_X1_highest 1 rfl) (Nat.le_of_ble_eq_true rfl) rfl ?_
  refine v_iconst (pc := 2) h (dk dt_X1_highest 2 rfl) ?_
  refine v_istore_n (lv' := [(2, _), (1, _), (0, _)]) (pc := 3) h (dk dt_X1_highest 3 rfl) (Nat.le_of_ble_eq_true rfl) rfl ?_
  refine v_iconst (pc := 4) h (dk dt_X1_highest 4 rfl) ?_
  refine v_istore_n (lv' := [(3, _), (2, _), (1, _), (0, _)]) (pc := 5) h (dk dt_X1_highest 5 rfl) (Nat.le_of_ble_eq_true rfl) rfl ?_
  exact VV.loc (loop (μ 1 9).toNat 0 (by omega)) ⟨rfl, rfl, rfl, rfl, trivial⟩
theorem c_X1_longestRest (hst : l.stackTraces = false) (hs : okJ μ) {j : Nat} (hj : (j : Int) < μ 1 9) {y : Int} (hy : InR y) :
    Ct l B D E yX1_longestRest (.code yX1_longestRest cX1_longestRest 7 (some .int)) rm_X1_longestRest [.ref (pl B 1), iI (j : Int), iI y] μ (ri (lRest (μ 13) (μ 15) (μ 17) (μ 19) j y (3 * (μ 1 9).toNat)) μ) NX := by
  have hb := hs.1
  refine ct_of (own := RX1) (lv := [(0, _), (1, _), (2, _)]) hst (by decide) rfl rfl (Nat.le_of_ble_eq_true rfl) fun a h r t => ?_
  have loop : ∀ (d i : Nat), i + d = 3 * (μ 1 9).toNat → (0 ≤ lRest (μ 13) (μ 15) (μ 17) (μ 19) j y i ∧ lRest (μ 13) (μ 15) (μ 17) (μ 19) j y i ≤ 30) → VV a B (SP B D E μ) 0 0 5 [(4, iI (i : Int)), (3, iI (lRest (μ 13) (μ 15) (μ 17) (μ 19) j y i)), (0, .ref (pl B 1)), (1, iI (j : Int)), (2, iI y)] [] := by
    intro d
    induction d with
    | zero =>
      intro i hi hr
      refine v_iload (pc := 5) h (dk dt_X1_longestRest 4 rfl) rfl ?_
      refine v_aload_n (pc := 7) h (dk dt_X1_longestRest 5 rfl) rfl ?_
      refine v_geti (pc := 8) h ci1 sh1 (Nat.le_of_ble_eq_true rfl) (j := 9) wF_X1_47 rfl (dk dt_X1_longestRest 6 rfl) ?_
      refine v_iconst (pc := 11) h (dk dt_X1_longestRest 7 rfl) ?_
      refine v_imul (pc := 12) h (dk dt_X1_longestRest 8 rfl) ?_
      refine v_icmp_ge (pc := 13) h 101 (dk dt_X1_longestRest 9 rfl) rfl (by omega) (fun c13 => ?_) (fun c13 => ?_)
      ·
        refine v_iload_n (pc := 101) h (dk dt_X1_longestRest 53 rfl) rfl ?_
        exact v_iret (pc := 102) h r (dk dt_X1_longestRest 54 rfl) (Nat.le_of_ble_eq_true rfl) (Nat.le_of_ble_eq_true rfl) ⟨by rw [show 3 * (μ 1 9).toNat = i by omega], rfl⟩
      ·
        exact absurd c13 (by omega)
    | succ d ih =>
      intro i hi hr
      have hq := hs.2 (i / 3) (by omega)
      have hg := hq.2.2.2.2.2.2.1 (i % 3)
      rw [show 3 * (i / 3) + i % 3 = i by omega] at hg
      refine v_iload (pc := 5) h (dk dt_X1_longestRest 4 rfl) rfl ?_
      refine v_aload_n (pc := 7) h (dk dt_X1_longestRest 5 rfl) rfl ?_
      refine v_geti (pc := 8) h ci1 sh1 (Nat.le_of_ble_eq_true rfl) (j := 9) wF_X1_47 rfl (dk dt_X1_longestRest 6 rfl) ?_
      refine v_iconst (pc := 11) h (dk dt_X1_longestRest 7 rfl) ?_
      refine v_imul (pc := 12) h (dk dt_X1_longestRest 8 rfl) ?_
      refine v_icmp_ge (pc := 13) h 101 (dk dt_X1_longestRest 9 rfl) rfl (by omega) (fun c13 => ?_) (fun c13 => ?_)
      ·
        exact absurd c13 (by omega)
      ·
        refine v_iload (pc := 16) h (dk dt_X1_longestRest 10 rfl) rfl ?_
        refine v_iconst (pc := 18) h (dk dt_X1_longestRest 11 rfl) ?_
        refine v_idiv (pc := 19) h (dk dt_X1_longestRest 12 rfl) (by omega) (by omega) ?_
        rw [show (i : Int) / 3 = ((i / 3 : Nat) : Int) from rfl]
        refine v_istore (lv' := [(5, _), (4, _), (3, _), (0, _), (1, _), (2, _)]) (pc := 20) h (dk dt_X1_longestRest 13 rfl) (Nat.le_of_ble_eq_true rfl) rfl ?_
        refine v_iload (pc := 22) h (dk dt_X1_longestRest 14 rfl) rfl ?_
        refine v_iconst (pc := 24) h (dk dt_X1_longestRest 15 rfl) ?_
        refine v_irem (pc := 25) h (dk dt_X1_longestRest 16 rfl) (by omega) (by omega) ?_
        rw [show (i : Int) % 3 = ((i % 3 : Nat) : Int) from rfl]
        refine v_aload_n (pc := 26) h (dk dt_X1_longestRest 17 rfl) rfl ?_
        refine v_getr (pc := 27) h ci1 sh1 (Nat.le_of_ble_eq_true rfl) (j := 5) wF_X1_35 rfl (dk dt_X1_longestRest 18 rfl) ?_
        refine v_iload (pc := 30) h (dk dt_X1_longestRest 19 rfl) rfl ?_
        refine v_cVi (pc := 32) h (c_X7_atn h.quiet jr5 (o1 := 13) rfl (Nat.le_of_ble_eq_true rfl) (by omega)) kv_X7_at jr5.1 wM_X1_55 rfl rfl (Nat.le_of_ble_eq_true rfl) (RM.of rfl) rfl rfl (dk dt_X1_longestRest 20 rfl) ?_
        refine v_icmp_ge (pc := 35) h 42 (dk dt_X1_longestRest 21 rfl) rfl (by omega) (fun c35 => ?_) (fun c35 => ?_)
        ·
          have d35 : ¬ ((i % 3 : Nat) : Int) < μ 13 (i / 3) := Int.not_lt.mpr c35
          refine v_iconst (pc := 42) h (dk dt_X1_longestRest 24 rfl) ?_
          refine v_istore (lv' := [(6, _), (5, _), (4, _), (3, _), (0, _), (1, _), (2, _)]) (pc := 43) h (dk dt_X1_longestRest 25 rfl) (Nat.le_of_ble_eq_true rfl) rfl ?_
          refine v_iload (pc := 45) h (dk dt_X1_longestRest 26 rfl) rfl ?_
          refine v_if_eq (pc := 47) h 95 (dk dt_X1_longestRest 27 rfl) rfl (by omega) (fun c47 => ?_) (fun c47 => ?_)
          ·
            have e : lRest (μ 13) (μ 15) (μ 17) (μ 19) j y (i + 1) = lRest (μ 13) (μ 15) (μ 17) (μ 19) j y i := by first | exact absurd c47 (by decide) | rw [lRest, if_neg (fun z => d35 z.1)]
            refine v_iinc (lv' := [(4, _), (6, _), (5, _), (3, _), (0, _), (1, _), (2, _)]) (pc := 95) h (dk dt_X1_longestRest 51 rfl) rfl (Nat.le_of_ble_eq_true rfl) rfl ?_
            refine v_goto (pc := 98) h 5 (dk dt_X1_longestRest 52 rfl) rfl ?_
            first
              | exact absurd rfl c47
              | exact VV.loc (ih (i + 1) (by omega) (by rw [e]; first | exact hr | (split <;> omega))) ⟨rfl, lvI e.symm, rfl, rfl, rfl, trivial⟩
          ·
            have d47 : ((i % 3 : Nat) : Int) < μ 13 (i / 3) := by first | exact absurd rfl c47 | exact c35
            refine v_iload (pc := 50) h (dk dt_X1_longestRest 28 rfl) rfl ?_
            refine v_iload_n (pc := 52) h (dk dt_X1_longestRest 29 rfl) rfl ?_
            refine v_icmp_eq (pc := 53) h 95 (dk dt_X1_longestRest 30 rfl) rfl (by omega) (fun c53 => ?_) (fun c53 => ?_)
            ·
              have e : lRest (μ 13) (μ 15) (μ 17) (μ 19) j y (i + 1) = lRest (μ 13) (μ 15) (μ 17) (μ 19) j y i := by rw [lRest, if_neg (fun z => z.2.1 (by omega))]
              refine v_iinc (lv' := [(4, _), (6, _), (5, _), (3, _), (0, _), (1, _), (2, _)]) (pc := 95) h (dk dt_X1_longestRest 51 rfl) rfl (Nat.le_of_ble_eq_true rfl) rfl ?_
              refine v_goto (pc := 98) h 5 (dk dt_X1_longestRest 52 rfl) rfl ?_
              first
                | exact absurd rfl c47
                | exact VV.loc (ih (i + 1) (by omega) (by rw [e]; first | exact hr | (split <;> omega))) ⟨rfl, lvI e.symm, rfl, rfl, rfl, trivial⟩
            ·
              refine v_aload_n (pc := 56) h (dk dt_X1_longestRest 31 rfl) rfl ?_
              refine v_getr (pc := 57) h ci1 sh1 (Nat.le_of_ble_eq_true rfl) (j := 6) wF_X1_38 rfl (dk dt_X1_longestRest 32 rfl) ?_
              refine v_iload (pc := 60) h (dk dt_X1_longestRest 33 rfl) rfl ?_
              refine v_cVi (pc := 62) h (c_X7_atn h.quiet jr6 (o1 := 15) rfl (Nat.le_of_ble_eq_true rfl) (by omega)) kv_X7_at jr6.1 wM_X1_55 rfl rfl (Nat.le_of_ble_eq_true rfl) (RM.of rfl) rfl rfl (dk dt_X1_longestRest 34 rfl) ?_
              refine v_iload_n (pc := 65) h (dk dt_X1_longestRest 35 rfl) rfl ?_
              refine v_icmp_ne (pc := 66) h 95 (dk dt_X1_longestRest 36 rfl) rfl (by omega) (fun c66 => ?_) (fun c66 => ?_)
              ·
                have e : lRest (μ 13) (μ 15) (μ 17) (μ 19) j y (i + 1) = lRest (μ 13) (μ 15) (μ 17) (μ 19) j y i := by rw [lRest, if_neg (fun z => c66 z.2.2)]
                refine v_iinc (lv' := [(4, _), (6, _), (5, _), (3, _), (0, _), (1, _), (2, _)]) (pc := 95) h (dk dt_X1_longestRest 51 rfl) rfl (Nat.le_of_ble_eq_true rfl) rfl ?_
                refine v_goto (pc := 98) h 5 (dk dt_X1_longestRest 52 rfl) rfl ?_
                first
                  | exact absurd rfl c47
                  | exact VV.loc (ih (i + 1) (by omega) (by rw [e]; first | exact hr | (split <;> omega))) ⟨rfl, lvI e.symm, rfl, rfl, rfl, trivial⟩
              ·
                have e : lRest (μ 13) (μ 15) (μ 17) (μ 19) j y (i + 1) = if lRest (μ 13) (μ 15) (μ 17) (μ 19) j y i < μ 19 i - μ 17 i - 1 then μ 19 i - μ 17 i - 1 else lRest (μ 13) (μ 15) (μ 17) (μ 19) j y i := by rw [lRest, if_pos ⟨d47, by omega, c66⟩]
                refine v_iload_n (pc := 69) h (dk dt_X1_longestRest 37 rfl) rfl ?_
                refine v_aload_n (pc := 70) h (dk dt_X1_longestRest 38 rfl) rfl ?_
                refine v_getr (pc := 71) h ci1 sh1 (Nat.le_of_ble_eq_true rfl) (j := 8) wF_X1_44 rfl (dk dt_X1_longestRest 39 rfl) ?_
                refine v_iload (pc := 74) h (dk dt_X1_longestRest 40 rfl) rfl ?_
                refine v_cVi (pc := 76) h (c_X7_atn h.quiet jr8 (o1 := 19) rfl (Nat.le_of_ble_eq_true rfl) (by omega)) kv_X7_at jr8.1 wM_X1_55 rfl rfl (Nat.le_of_ble_eq_true rfl) (RM.of rfl) rfl rfl (dk dt_X1_longestRest 41 rfl) ?_
                refine v_aload_n (pc := 79) h (dk dt_X1_longestRest 42 rfl) rfl ?_
                refine v_getr (pc := 80) h ci1 sh1 (Nat.le_of_ble_eq_true rfl) (j := 7) wF_X1_41 rfl (dk dt_X1_longestRest 43 rfl) ?_
                refine v_iload (pc := 83) h (dk dt_X1_longestRest 44 rfl) rfl ?_
                refine v_cVi (pc := 85) h (c_X7_atn h.quiet jr7 (o1 := 17) rfl (Nat.le_of_ble_eq_true rfl) (by omega)) kv_X7_at jr7.1 wM_X1_55 rfl rfl (Nat.le_of_ble_eq_true rfl) (RM.of rfl) rfl rfl (dk dt_X1_longestRest 45 rfl) ?_
                refine v_isub (pc := 88) h (dk dt_X1_longestRest 46 rfl) ?_
                refine v_iconst (pc := 89) h (dk dt_X1_longestRest 47 rfl) ?_
                refine v_isub (pc := 90) h (dk dt_X1_longestRest 48 rfl) ?_
                refine v_max (pc := 91) h km_max wM_X1_68 (by omega) (Nat.le_of_ble_eq_true rfl) ⟨Nat.le_of_ble_eq_true rfl, Nat.le_of_ble_eq_true rfl, Nat.le_of_ble_eq_true rfl, Nat.le_of_ble_eq_true rfl⟩ (dk dt_X1_longestRest 49 rfl) ?_
                refine v_istore_n (lv' := [(3, _), (6, _), (5, _), (4, _), (0, _), (1, _), (2, _)]) (pc := 94) h (dk dt_X1_longestRest 50 rfl) (Nat.le_of_ble_eq_true rfl) rfl ?_
                refine v_iinc (lv' := [(4, _), (3, _), (6, _), (5, _), (0, _), (1, _), (2, _)]) (pc := 95) h (dk dt_X1_longestRest 51 rfl) rfl (Nat.le_of_ble_eq_true rfl) rfl ?_
                refine v_goto (pc := 98) h 5 (dk dt_X1_longestRest 52 rfl) rfl ?_
                first
                  | exact absurd rfl c47
                  | exact VV.loc (ih (i + 1) (by omega) (by rw [e]; first | exact hr | (split <;> omega))) ⟨rfl, lvI e.symm, rfl, rfl, rfl, trivial⟩
        ·
          have hg := hg c35
          refine v_iconst (pc := 38) h (dk dt_X1_longestRest 22 rfl) ?_
          refine v_goto (pc := 39) h 43 (dk dt_X1_longestRest 23 rfl) rfl ?_
          refine v_istore (lv' := [(6, _), (5, _), (4, _), (3, _), (0, _), (1, _), (2, _)]) (pc := 43) h (dk dt_X1_longestRest 25 rfl) (Nat.le_of_ble_eq_true rfl) rfl ?_
          refine v_iload (pc := 45) h (dk dt_X1_longestRest 26 rfl) rfl ?_
          refine v_if_eq (pc := 47) h 95 (dk dt_X1_longestRest 27 rfl) rfl (by omega) (fun c47 => ?_) (fun c47 => ?_)
          ·
            have e : lRest (μ 13) (μ 15) (μ 17) (μ 19) j y (i + 1) = lRest (μ 13) (μ 15) (μ 17) (μ 19) j y i := by first | exact absurd c47 (by decide) | rw [lRest, if_neg (fun z => d35 z.1)]
            refine v_iinc (lv' := [(4, _), (6, _), (5, _), (3, _), (0, _), (1, _), (2, _)]) (pc := 95) h (dk dt_X1_longestRest 51 rfl) rfl (Nat.le_of_ble_eq_true rfl) rfl ?_
            refine v_goto (pc := 98) h 5 (dk dt_X1_longestRest 52 rfl) rfl ?_
            first
              | exact absurd rfl c47
              | exact VV.loc (ih (i + 1) (by omega) (by rw [e]; first | exact hr | (split <;> omega))) ⟨rfl, lvI e.symm, rfl, rfl, rfl, trivial⟩
          ·
            have d47 : ((i % 3 : Nat) : Int) < μ 13 (i / 3) := by first | exact absurd rfl c47 | exact c35
            refine v_iload (pc := 50) h (dk dt_X1_longestRest 28 rfl) rfl ?_
            refine v_iload_n (pc := 52) h (dk dt_X1_longestRest 29 rfl) rfl ?_
            refine v_icmp_eq (pc := 53) h 95 (dk dt_X1_longestRest 30 rfl) rfl (by omega) (fun c53 => ?_) (fun c53 => ?_)
            ·
              have e : lRest (μ 13) (μ 15) (μ 17) (μ 19) j y (i + 1) = lRest (μ 13) (μ 15) (μ 17) (μ 19) j y i := by rw [lRest, if_neg (fun z => z.2.1 (by omega))]
              refine v_iinc (lv' := [(4, _), (6, _), (5, _), (3, _), (0, _), (1, _), (2, _)]) (pc := 95) h (dk dt_X1_longestRest 51 rfl) rfl (Nat.le_of_ble_eq_true rfl) rfl ?_
              refine v_goto (pc := 98) h 5 (dk dt_X1_longestRest 52 rfl) rfl ?_
              first
                | exact absurd rfl c47
                | exact VV.loc (ih (i + 1) (by omega) (by rw [e]; first | exact hr | (split <;> omega))) ⟨rfl, lvI e.symm, rfl, rfl, rfl, trivial⟩
            ·
              refine v_aload_n (pc := 56) h (dk dt_X1_longestRest 31 rfl) rfl ?_
              refine v_getr (pc := 57) h ci1 sh1 (Nat.le_of_ble_eq_true rfl) (j := 6) wF_X1_38 rfl (dk dt_X1_longestRest 32 rfl) ?_
              refine v_iload (pc := 60) h (dk dt_X1_longestRest 33 rfl) rfl ?_
              refine v_cVi (pc := 62) h (c_X7_atn h.quiet jr6 (o1 := 15) rfl (Nat.le_of_ble_eq_true rfl) (by omega)) kv_X7_at jr6.1 wM_X1_55 rfl rfl (Nat.le_of_ble_eq_true rfl) (RM.of rfl) rfl rfl (dk dt_X1_longestRest 34 rfl) ?_
              refine v_iload_n (pc := 65) h (dk dt_X1_longestRest 35 rfl) rfl ?_
              refine v_icmp_ne (pc := 66) h 95 (dk dt_X1_longestRest 36 rfl) rfl (by omega) (fun c66 => ?_) (fun c66 => ?_)
              ·
                have e : lRest (μ 13) (μ 15) (μ 17) (μ 19) j y (i + 1) = lRest (μ 13) (μ 15) (μ 17) (μ 19) j y i := by rw [lRest, if_neg (fun z => c66 z.2.2)]
                refine v_iinc (lv' := [(4, _), (6, _), (5, _), (3, _), (0, _), (1, _), (2, _)]) (pc := 95) h (dk dt_X1_longestRest 51 rfl) rfl (Nat.le_of_ble_eq_true rfl) rfl ?_
                refine v_goto (pc := 98) h 5 (dk dt_X1_longestRest 52 rfl) rfl ?_
                first
                  | exact absurd rfl c47
                  | exact VV.loc (ih (i + 1) (by omega) (by rw [e]; first | exact hr | (split <;> omega))) ⟨rfl, lvI e.symm, rfl, rfl, rfl, trivial⟩
              ·
                have e : lRest (μ 13) (μ 15) (μ 17) (μ 19) j y (i + 1) = if lRest (μ 13) (μ 15) (μ 17) (μ 19) j y i < μ 19 i - μ 17 i - 1 then μ 19 i - μ 17 i - 1 else lRest (μ 13) (μ 15) (μ 17) (μ 19) j y i := by rw [lRest, if_pos ⟨d47, by omega, c66⟩]
                refine v_iload_n (pc := 69) h (dk dt_X1_longestRest 37 rfl) rfl ?_
                refine v_aload_n (pc := 70) h (dk dt_X1_longestRest 38 rfl) rfl ?_
                refine v_getr (pc := 71) h ci1 sh1 (Nat.le_of_ble_eq_true rfl) (j := 8) wF_X1_44 rfl (dk dt_X1_longestRest 39 rfl) ?_
                refine v_iload (pc := 74) h (dk dt_X1_longestRest 40 rfl) rfl ?_
                refine v_cVi (pc := 76) h (c_X7_atn h.quiet jr8 (o1 := 19) rfl (Nat.le_of_ble_eq_true rfl) (by omega)) kv_X7_at jr8.1 wM_X1_55 rfl rfl (Nat.le_of_ble_eq_true rfl) (RM.of rfl) rfl rfl (dk dt_X1_longestRest 41 rfl) ?_
                refine v_aload_n (pc := 79) h (dk dt_X1_longestRest 42 rfl) rfl ?_
                refine v_getr (pc := 80) h ci1 sh1 (Nat.le_of_ble_eq_true rfl) (j := 7) wF_X1_41 rfl (dk dt_X1_longestRest 43 rfl) ?_
                refine v_iload (pc := 83) h (dk dt_X1_longestRest 44 rfl) rfl ?_
                refine v_cVi (pc := 85) h (c_X7_atn h.quiet jr7 (o1 := 17) rfl (Nat.le_of_ble_eq_true rfl) (by omega)) kv_X7_at jr7.1 wM_X1_55 rfl rfl (Nat.le_of_ble_eq_true rfl) (RM.of rfl) rfl rfl (dk dt_X1_longestRest 45 rfl) ?_
                refine v_isub (pc := 88) h (dk dt_X1_longestRest 46 rfl) ?_
                refine v_iconst (pc := 89) h (dk dt_X1_longestRest 47 rfl) ?_
                refine v_isub (pc := 90) h (dk dt_X1_longestRest 48 rfl) ?_
                refine v_max (pc := 91) h km_max wM_X1_68 (by omega) (Nat.le_of_ble_eq_true rfl) ⟨Nat.le_of_ble_eq_true rfl, Nat.le_of_ble_eq_true rfl, Nat.le_of_ble_eq_true rfl, Nat.le_of_ble_eq_true rfl⟩ (dk dt_X1_longestRest 49 rfl) ?_
                refine v_istore_n (lv' := [(3, _), (6, _), (5, _), (4, _), (0, _), (1, _), (2, _)]) (pc := 94) h (dk dt_X1_longestRest 50 rfl) (Nat.le_of_ble_eq_true rfl) rfl ?_
                refine v_iinc (lv' := [(4, _), (3, _), (6, _), (5, _), (0, _), (1, _), (2, _)]) (pc := 95) h (dk dt_X1_longestRest 51 rfl) rfl (Nat.le_of_ble_eq_true rfl) rfl ?_
                refine v_goto (pc := 98) h 5 (dk dt_X1_longestRest 52 rfl) rfl ?_
                first
                  | exact absurd rfl c47
                  | exact VV.loc (ih (i + 1) (by omega) (by rw [e]; first | exact hr | (split <;> omega))) ⟨rfl, lvI e.symm, rfl, rfl, rfl, trivial⟩
  refine v_iconst (pc := 0) h (dk dt_X1_longestRest 0 rfl) ?_
  refine v_istore_n (lv' := [(3, _), (0, _), (1, _), (2, _)]) (pc := 1) h (dk dt_X1_longestRest 1 rfl) (Nat.le_of_ble_eq_true rfl) rfl ?_
  refine v_iconst (pc := 2) h (dk dt_X1_longestRest 2 rfl) ?_
  refine v_istore (lv' := [(4, _), (3, _), (0, _), (1, _), (2, _)]) (pc := 3) h (dk dt_X1_longestRest 3 rfl) (Nat.le_of_ble_eq_true rfl) rfl ?_
  exact VV.loc (loop (3 * (μ 1 9).toNat) 0 (by omega) (by simp [lRest])) ⟨rfl, rfl, rfl, rfl, rfl, trivial⟩
theorem c_X1_mostKept (hst : l.stackTraces = false) (hs : okJ μ) {j : Nat} (hj : (j : Int) < μ 1 9) :
    Ct l B D E yX1_mostKept (.code yX1_mostKept cX1_mostKept 5 (some .int)) rm_X1_mostKept [.ref (pl B 1), iI (j : Int)] μ (ri (lMost (μ 13) (μ 15) (μ 17) (μ 19) (μ 1 9).toNat j (μ 13 j).toNat) μ) NX := by
  have hb := hs.1
  have hq := hs.2 j hj
  refine ct_of (own := RX1) (lv := [(0, _), (1, _)]) hst (by decide) rfl rfl (Nat.le_of_ble_eq_true rfl) fun a h r t => ?_
  have loop : ∀ (d i : Nat), i + d = (μ 13 j).toNat → VV a B (SP B D E μ) 0 0 9 [(4, iI (i : Int)), (3, iI ((3 * j : Nat) : Int)), (2, iI (lMost (μ 13) (μ 15) (μ 17) (μ 19) (μ 1 9).toNat j i)), (0, .ref (pl B 1)), (1, iI (j : Int))] [] := by
    intro d
    induction d with
    | zero =>
      intro i hi
      refine v_iload (pc := 9) h (dk dt_X1_mostKept 8 rfl) rfl ?_
      refine v_aload_n (pc := 11) h (dk dt_X1_mostKept 9 rfl) rfl ?_
      refine v_getr (pc := 12) h ci1 sh1 (Nat.le_of_ble_eq_true rfl) (j := 5) wF_X1_35 rfl (dk dt_X1_mostKept 10 rfl) ?_
      refine v_iload_n (pc := 15) h (dk dt_X1_mostKept 11 rfl) rfl ?_
      refine v_cVi (pc := 16) h (c_X7_atn h.quiet jr5 (o1 := 13) rfl (Nat.le_of_ble_eq_true rfl) (by omega)) kv_X7_at jr5.1 wM_X1_55 rfl rfl (Nat.le_of_ble_eq_true rfl) (RM.of rfl) rfl rfl (dk dt_X1_mostKept 12 rfl) ?_
      refine v_icmp_ge (pc := 19) h 47 (dk dt_X1_mostKept 13 rfl) rfl (by omega) (fun c19 => ?_) (fun c19 => ?_)
      ·
        refine v_iload_n (pc := 47) h (dk dt_X1_mostKept 28 rfl) rfl ?_
        exact v_iret (pc := 48) h r (dk dt_X1_mostKept 29 rfl) (Nat.le_of_ble_eq_true rfl) (Nat.le_of_ble_eq_true rfl) ⟨by rw [show (μ 13 j).toNat = i by omega], rfl⟩
      ·
        exact absurd c19 (by omega)
    | succ d ih =>
      intro i hi
      have hg := hq.2.2.2.2.2.2.1 i (by omega)
      have e : (((3 * j : Nat) : Int) + (i : Int)) = ((3 * j + i : Nat) : Int) := by omega
      refine v_iload (pc := 9) h (dk dt_X1_mostKept 8 rfl) rfl ?_
      refine v_aload_n (pc := 11) h (dk dt_X1_mostKept 9 rfl) rfl ?_
      refine v_getr (pc := 12) h ci1 sh1 (Nat.le_of_ble_eq_true rfl) (j := 5) wF_X1_35 rfl (dk dt_X1_mostKept 10 rfl) ?_
      refine v_iload_n (pc := 15) h (dk dt_X1_mostKept 11 rfl) rfl ?_
      refine v_cVi (pc := 16) h (c_X7_atn h.quiet jr5 (o1 := 13) rfl (Nat.le_of_ble_eq_true rfl) (by omega)) kv_X7_at jr5.1 wM_X1_55 rfl rfl (Nat.le_of_ble_eq_true rfl) (RM.of rfl) rfl rfl (dk dt_X1_mostKept 12 rfl) ?_
      refine v_icmp_ge (pc := 19) h 47 (dk dt_X1_mostKept 13 rfl) rfl (by omega) (fun c19 => ?_) (fun c19 => ?_)
      ·
        exact absurd c19 (by omega)
      ·
        refine v_iload_n (pc := 22) h (dk dt_X1_mostKept 14 rfl) rfl ?_
        refine v_aload_n (pc := 23) h (dk dt_X1_mostKept 15 rfl) rfl ?_
        refine v_iload_n (pc := 24) h (dk dt_X1_mostKept 16 rfl) rfl ?_
        refine v_aload_n (pc := 25) h (dk dt_X1_mostKept 17 rfl) rfl ?_
        refine v_getr (pc := 26) h ci1 sh1 (Nat.le_of_ble_eq_true rfl) (j := 6) wF_X1_38 rfl (dk dt_X1_mostKept 18 rfl) ?_
        refine v_iload_n (pc := 29) h (dk dt_X1_mostKept 19 rfl) rfl ?_
        refine v_iload (pc := 30) h (dk dt_X1_mostKept 20 rfl) rfl ?_
        refine v_iadd (pc := 32) h (dk dt_X1_mostKept 21 rfl) ?_
        rw [e]
        refine v_cVi (pc := 33) h (c_X7_atn h.quiet jr6 (o1 := 15) rfl (Nat.le_of_ble_eq_true rfl) (by omega)) kv_X7_at jr6.1 wM_X1_55 rfl rfl (Nat.le_of_ble_eq_true rfl) (RM.of rfl) rfl rfl (dk dt_X1_mostKept 22 rfl) ?_
        refine v_cVi (pc := 36) h (c_X1_longestRest h.quiet (by assumption) (by omega) (by omega)) kv_X1_longestRest sh1 wM_X1_64 rfl rfl (Nat.le_of_ble_eq_true rfl) (RM.of rfl) rfl rfl (dk dt_X1_mostKept 23 rfl) ?_
        refine v_iadd (pc := 39) h (dk dt_X1_mostKept 24 rfl) ?_
        refine v_istore_n (lv' := [(2, _), (4, _), (3, _), (0, _), (1, _)]) (pc := 40) h (dk dt_X1_mostKept 25 rfl) (Nat.le_of_ble_eq_true rfl) rfl ?_
        refine v_iinc (lv' := [(4, _), (2, _), (3, _), (0, _), (1, _)]) (pc := 41) h (dk dt_X1_mostKept 26 rfl) rfl (Nat.le_of_ble_eq_true rfl) rfl ?_
        refine v_goto (pc := 44) h 9 (dk dt_X1_mostKept 27 rfl) rfl ?_
        exact VV.loc (ih (i + 1) (by omega)) ⟨rfl, rfl, rfl, rfl, rfl, trivial⟩
  refine v_iconst (pc := 0) h (dk dt_X1_mostKept 0 rfl) ?_
  refine v_istore_n (lv' := [(2, _), (0, _), (1, _)]) (pc := 1) h (dk dt_X1_mostKept 1 rfl) (Nat.le_of_ble_eq_true rfl) rfl ?_
  refine v_iload_n (pc := 2) h (dk dt_X1_mostKept 2 rfl) rfl ?_
  refine v_iconst (pc := 3) h (dk dt_X1_mostKept 3 rfl) ?_
  refine v_imul (pc := 4) h (dk dt_X1_mostKept 4 rfl) ?_
  refine v_istore_n (lv' := [(3, _), (2, _), (0, _), (1, _)]) (pc := 5) h (dk dt_X1_mostKept 5 rfl) (Nat.le_of_ble_eq_true rfl) rfl ?_
  refine v_iconst (pc := 6) h (dk dt_X1_mostKept 6 rfl) ?_
  refine v_istore (lv' := [(4, _), (3, _), (2, _), (0, _), (1, _)]) (pc := 7) h (dk dt_X1_mostKept 7 rfl) (Nat.le_of_ble_eq_true rfl) rfl ?_
  exact VV.loc (loop (μ 13 j).toNat 0 (by omega)) ⟨rfl, lvI (by omega), rfl, rfl, rfl, trivial⟩
theorem c_X1_workBetween (hst : l.stackTraces = false) (hs : okJ μ) {f u : Int} (hf : InR f ∧ InR u) :
    Ct l B D E yX1_workBetween (.code yX1_workBetween cX1_workBetween 6 (some .int)) rm_X1_workBetween [.ref (pl B 1), iI f, iI u] μ (ri (wbtF (μ 3) (μ 5) (μ 7) f u (μ 1 9).toNat) μ) NX := by
  have hb := hs.1
  refine ct_of (own := RX1) (lv := [(0, _), (1, _), (2, _)]) hst (by decide) rfl rfl (Nat.le_of_ble_eq_true rfl) fun a h r t => ?_
  have loop : ∀ (d i : Nat), i + d = (μ 1 9).toNat → VV a B (SP B D E μ) 0 0 5 [(4, iI (i : Int)), (3, iI (wbtF (μ 3) (μ 5) (μ 7) f u i)), (0, .ref (pl B 1)), (1, iI f), (2, iI u)] [] := by
    intro d
    induction d with
    | zero =>
      intro i hi
      refine v_iload (pc := 5) h (dk dt_X1_workBetween 4 rfl) rfl ?_
      refine v_aload_n (pc := 7) h (dk dt_X1_workBetween 5 rfl) rfl ?_
      refine v_geti (pc := 8) h ci1 sh1 (Nat.le_of_ble_eq_true rfl) (j := 9) wF_X1_47 rfl (dk dt_X1_workBetween 6 rfl) ?_
      refine v_icmp_ge (pc := 11) h 67 (dk dt_X1_workBetween 7 rfl) rfl (by omega) (fun c11 => ?_) (fun c11 => ?_)
      ·
        refine v_iload_n (pc := 67) h (dk dt_X1_workBetween 33 rfl) rfl ?_
        exact v_iret (pc := 68) h r (dk dt_X1_workBetween 34 rfl) (Nat.le_of_ble_eq_true rfl) (Nat.le_of_ble_eq_true rfl) ⟨by rw [show (μ 1 9).toNat = i by omega], rfl⟩
      ·
        exact absurd c11 (by omega)
    | succ d ih =>
      intro i hi
      have hq := hs.2 i (by omega)
      refine v_iload (pc := 5) h (dk dt_X1_workBetween 4 rfl) rfl ?_
      refine v_aload_n (pc := 7) h (dk dt_X1_workBetween 5 rfl) rfl ?_
      refine v_geti (pc := 8) h ci1 sh1 (Nat.le_of_ble_eq_true rfl) (j := 9) wF_X1_47 rfl (dk dt_X1_workBetween 6 rfl) ?_
      refine v_icmp_ge (pc := 11) h 67 (dk dt_X1_workBetween 7 rfl) rfl (by omega) (fun c11 => ?_) (fun c11 => ?_)
      ·
        exact absurd c11 (by omega)
      ·
        refine v_aload_n (pc := 14) h (dk dt_X1_workBetween 8 rfl) rfl ?_
        refine v_getr (pc := 15) h ci1 sh1 (Nat.le_of_ble_eq_true rfl) (j := 2) wF_X1_23 rfl (dk dt_X1_workBetween 9 rfl) ?_
        refine v_iload (pc := 18) h (dk dt_X1_workBetween 10 rfl) rfl ?_
        refine v_cVi (pc := 20) h (c_X7_atn h.quiet jr2 (o1 := 7) rfl (Nat.le_of_ble_eq_true rfl) (by omega)) kv_X7_at jr2.1 wM_X1_55 rfl rfl (Nat.le_of_ble_eq_true rfl) (RM.of rfl) rfl rfl (dk dt_X1_workBetween 11 rfl) ?_
        refine v_istore (lv' := [(5, _), (4, _), (3, _), (0, _), (1, _), (2, _)]) (pc := 23) h (dk dt_X1_workBetween 12 rfl) (Nat.le_of_ble_eq_true rfl) rfl ?_
        refine v_aload_n (pc := 25) h (dk dt_X1_workBetween 13 rfl) rfl ?_
        refine v_getr (pc := 26) h ci1 sh1 (Nat.le_of_ble_eq_true rfl) (j := 0) wF_X1_14 rfl (dk dt_X1_workBetween 14 rfl) ?_
        refine v_iload (pc := 29) h (dk dt_X1_workBetween 15 rfl) rfl ?_
        refine v_cVi (pc := 31) h (c_X7_atn h.quiet jr0 (o1 := 3) rfl (Nat.le_of_ble_eq_true rfl) (by omega)) kv_X7_at jr0.1 wM_X1_55 rfl rfl (Nat.le_of_ble_eq_true rfl) (RM.of rfl) rfl rfl (dk dt_X1_workBetween 16 rfl) ?_
        refine v_iload_n (pc := 34) h (dk dt_X1_workBetween 17 rfl) rfl ?_
        refine v_icmp_lt (pc := 35) h 61 (dk dt_X1_workBetween 18 rfl) rfl (by omega) (fun c35 => ?_) (fun c35 => ?_)
        ·
          refine v_iinc (lv' := [(4, _), (5, _), (3, _), (0, _), (1, _), (2, _)]) (pc := 61) h (dk dt_X1_workBetween 31 rfl) rfl (Nat.le_of_ble_eq_true rfl) rfl ?_
          refine v_goto (pc := 64) h 5 (dk dt_X1_workBetween 32 rfl) rfl ?_
          first
            | exact VV.loc (lv' := [(4, _), (3, _), (0, _), (1, _), (2, _)]) (ih (i + 1) (by omega)) ⟨rfl, lvI (by rw [wbtF, if_pos (by omega)]), rfl, rfl, rfl, trivial⟩
            | exact VV.loc (lv' := [(4, _), (3, _), (0, _), (1, _), (2, _)]) (ih (i + 1) (by omega)) ⟨rfl, lvI (by rw [wbtF, if_neg (by omega), Int.add_zero]), rfl, rfl, rfl, trivial⟩
        ·
          refine v_iload (pc := 38) h (dk dt_X1_workBetween 19 rfl) rfl ?_
          refine v_if_le (pc := 40) h 61 (dk dt_X1_workBetween 20 rfl) rfl (by omega) (fun c40 => ?_) (fun c40 => ?_)
          ·
            refine v_iinc (lv' := [(4, _), (5, _), (3, _), (0, _), (1, _), (2, _)]) (pc := 61) h (dk dt_X1_workBetween 31 rfl) rfl (Nat.le_of_ble_eq_true rfl) rfl ?_
            refine v_goto (pc := 64) h 5 (dk dt_X1_workBetween 32 rfl) rfl ?_
            first
              | exact VV.loc (lv' := [(4, _), (3, _), (0, _), (1, _), (2, _)]) (ih (i + 1) (by omega)) ⟨rfl, lvI (by rw [wbtF, if_pos (by omega)]), rfl, rfl, rfl, trivial⟩
              | exact VV.loc (lv' := [(4, _), (3, _), (0, _), (1, _), (2, _)]) (ih (i + 1) (by omega)) ⟨rfl, lvI (by rw [wbtF, if_neg (by omega), Int.add_zero]), rfl, rfl, rfl, trivial⟩
          ·
            refine v_iload (pc := 43) h (dk dt_X1_workBetween 21 rfl) rfl ?_
            refine v_iload_n (pc := 45) h (dk dt_X1_workBetween 22 rfl) rfl ?_
            refine v_icmp_gt (pc := 46) h 61 (dk dt_X1_workBetween 23 rfl) rfl (by omega) (fun c46 => ?_) (fun c46 => ?_)
            ·
              refine v_iinc (lv' := [(4, _), (5, _), (3, _), (0, _), (1, _), (2, _)]) (pc := 61) h (dk dt_X1_workBetween 31 rfl) rfl (Nat.le_of_ble_eq_true rfl) rfl ?_
              refine v_goto (pc := 64) h 5 (dk dt_X1_workBetween 32 rfl) rfl ?_
              first
                | exact VV.loc (lv' := [(4, _), (3, _), (0, _), (1, _), (2, _)]) (ih (i + 1) (by omega)) ⟨rfl, lvI (by rw [wbtF, if_pos (by omega)]), rfl, rfl, rfl, trivial⟩
                | exact VV.loc (lv' := [(4, _), (3, _), (0, _), (1, _), (2, _)]) (ih (i + 1) (by omega)) ⟨rfl, lvI (by rw [wbtF, if_neg (by omega), Int.add_zero]), rfl, rfl, rfl, trivial⟩
            ·
              refine v_iload_n (pc := 49) h (dk dt_X1_workBetween 24 rfl) rfl ?_
              refine v_aload_n (pc := 50) h (dk dt_X1_workBetween 25 rfl) rfl ?_
              refine v_getr (pc := 51) h ci1 sh1 (Nat.le_of_ble_eq_true rfl) (j := 1) wF_X1_20 rfl (dk dt_X1_workBetween 26 rfl) ?_
              refine v_iload (pc := 54) h (dk dt_X1_workBetween 27 rfl) rfl ?_
              refine v_cVi (pc := 56) h (c_X7_atn h.quiet jr1 (o1 := 5) rfl (Nat.le_of_ble_eq_true rfl) (by omega)) kv_X7_at jr1.1 wM_X1_55 rfl rfl (Nat.le_of_ble_eq_true rfl) (RM.of rfl) rfl rfl (dk dt_X1_workBetween 28 rfl) ?_
              refine v_iadd (pc := 59) h (dk dt_X1_workBetween 29 rfl) ?_
              refine v_istore_n (lv' := [(3, _), (5, _), (4, _), (0, _), (1, _), (2, _)]) (pc := 60) h (dk dt_X1_workBetween 30 rfl) (Nat.le_of_ble_eq_true rfl) rfl ?_
              refine v_iinc (lv' := [(4, _), (3, _), (5, _), (0, _), (1, _), (2, _)]) (pc := 61) h (dk dt_X1_workBetween 31 rfl) rfl (Nat.le_of_ble_eq_true rfl) rfl ?_
              refine v_goto (pc := 64) h 5 (dk dt_X1_workBetween 32 rfl) rfl ?_
              first
                | exact VV.loc (lv' := [(4, _), (3, _), (0, _), (1, _), (2, _)]) (ih (i + 1) (by omega)) ⟨rfl, lvI (by rw [wbtF, if_pos (by omega)]), rfl, rfl, rfl, trivial⟩
                | exact VV.loc (lv' := [(4, _), (3, _), (0, _), (1, _), (2, _)]) (ih (i + 1) (by omega)) ⟨rfl, lvI (by rw [wbtF, if_neg (by omega), Int.add_zero]), rfl, rfl, rfl, trivial⟩
  refine v_iconst (pc := 0) h (dk dt_X1_workBetween 0 rfl) ?_
  refine v_istore_n (lv' := [(3, _), (0, _), (1, _), (2, _)]) (pc := 1) h (dk dt_X1_workBetween 1 rfl) (Nat.le_of_ble_eq_true rfl) rfl ?_
  refine v_iconst (pc := 2) h (dk dt_X1_workBetween 2 rfl) ?_
  refine v_istore (lv' := [(4, _), (3, _), (0, _), (1, _), (2, _)]) (pc := 3) h (dk dt_X1_workBetween 3 rfl) (Nat.le_of_ble_eq_true rfl) rfl ?_
  exact VV.loc (loop (μ 1 9).toNat 0 (by omega)) ⟨rfl, rfl, rfl, rfl, rfl, trivial⟩
theorem c_X1_fullEnd (hst : l.stackTraces = false) (hs : okJ μ) {f : Int} (hf : 0 ≤ f ∧ f ≤ 99) :
    Ct l B D E yX1_fullEnd (.code yX1_fullEnd cX1_fullEnd 6 (some .int)) rm_X1_fullEnd [.ref (pl B 1), iI f] μ (ri (fenF (μ 3) (μ 5) (μ 7) (μ 1 9).toNat f (μ 1 9).toNat) μ) NX := by
  have hb := hs.1
  have hl : ∀ j : Nat, j < (μ 1 9).toNat → 0 ≤ μ 5 j ∧ μ 5 j ≤ 30 := fun j hj => by have := (hs.2 j (by omega)).2.1; omega
  have hd : ∀ j : Nat, j < (μ 1 9).toNat → 0 ≤ μ 7 j ∧ μ 7 j ≤ 400 := fun j hj => by have := (hs.2 j (by omega)).2.2.1; omega
  refine ct_of (own := RX1) (lv := [(0, _), (1, _)]) hst (by decide) rfl rfl (Nat.le_of_ble_eq_true rfl) fun a h r t => ?_
  have loop : ∀ (d i : Nat), i + d = (μ 1 9).toNat → VV a B (SP B D E μ) 0 0 4 [(3, iI (i : Int)), (2, iI (fenF (μ 3) (μ 5) (μ 7) (μ 1 9).toNat f i)), (0, .ref (pl B 1)), (1, iI f)] [] := by
    intro d
    induction d with
    | zero =>
      intro i hi
      refine v_iload_n (pc := 4) h (dk dt_X1_fullEnd 4 rfl) rfl ?_
      refine v_aload_n (pc := 5) h (dk dt_X1_fullEnd 5 rfl) rfl ?_
      refine v_geti (pc := 6) h ci1 sh1 (Nat.le_of_ble_eq_true rfl) (j := 9) wF_X1_47 rfl (dk dt_X1_fullEnd 6 rfl) ?_
      refine v_icmp_ge (pc := 9) h 95 (dk dt_X1_fullEnd 7 rfl) rfl (by omega) (fun c9 => ?_) (fun c9 => ?_)
      ·
        refine v_iload_n (pc := 95) h (dk dt_X1_fullEnd 50 rfl) rfl ?_
        exact v_iret (pc := 96) h r (dk dt_X1_fullEnd 51 rfl) (Nat.le_of_ble_eq_true rfl) (Nat.le_of_ble_eq_true rfl) ⟨by rw [show fenF (μ 3) (μ 5) (μ 7) (μ 1 9).toNat f (μ 1 9).toNat = fenF (μ 3) (μ 5) (μ 7) (μ 1 9).toNat f i from by rw [show i = (μ 1 9).toNat by omega]], rfl⟩
      ·
        exact absurd c9 (by omega)
    | succ d ih =>
      intro i hi
      have hq := hs.2 i (by omega)
      have h2 := fenF_b (c := μ 3) (l := μ 5) (d := μ 7) (n := (μ 1 9).toNat) hf hd i (by omega)
      generalize hto : (if f < μ 7 i then μ 7 i else f) = to
      have hto2 : 0 ≤ to ∧ to ≤ 400 := by rw [← hto]; split <;> omega
      have h3 := wbtF_b (c := μ 3) (d := μ 7) (a := f) (b := to) hl (μ 1 9).toNat (Nat.le_refl _)
      have e0 : fenF (μ 3) (μ 5) (μ 7) (μ 1 9).toNat f (i + 1) = if (0 < μ 7 i ∧ f ≤ μ 3 i) ∧ (fenF (μ 3) (μ 5) (μ 7) (μ 1 9).toNat f i = -1 ∨ to < fenF (μ 3) (μ 5) (μ 7) (μ 1 9).toNat f i) ∧ to - f < wbtF (μ 3) (μ 5) (μ 7) f to (μ 1 9).toNat then to else fenF (μ 3) (μ 5) (μ 7) (μ 1 9).toNat f i := by rw [fenF, hto]
      refine v_iload_n (pc := 4) h (dk dt_X1_fullEnd 4 rfl) rfl ?_
      refine v_aload_n (pc := 5) h (dk dt_X1_fullEnd 5 rfl) rfl ?_
      refine v_geti (pc := 6) h ci1 sh1 (Nat.le_of_ble_eq_true rfl) (j := 9) wF_X1_47 rfl (dk dt_X1_fullEnd 6 rfl) ?_
      refine v_icmp_ge (pc := 9) h 95 (dk dt_X1_fullEnd 7 rfl) rfl (by omega) (fun c9 => ?_) (fun c9 => ?_)
      ·
        exact absurd c9 (by omega)
      ·
        refine v_iload_n (pc := 12) h (dk dt_X1_fullEnd 8 rfl) rfl ?_
        refine v_aload_n (pc := 13) h (dk dt_X1_fullEnd 9 rfl) rfl ?_
        refine v_getr (pc := 14) h ci1 sh1 (Nat.le_of_ble_eq_true rfl) (j := 2) wF_X1_23 rfl (dk dt_X1_fullEnd 10 rfl) ?_
        refine v_iload_n (pc := 17) h (dk dt_X1_fullEnd 11 rfl) rfl ?_
        refine v_cVi (pc := 18) h (c_X7_atn h.quiet jr2 (o1 := 7) rfl (Nat.le_of_ble_eq_true rfl) (by omega)) kv_X7_at jr2.1 wM_X1_55 rfl rfl (Nat.le_of_ble_eq_true rfl) (RM.of rfl) rfl rfl (dk dt_X1_fullEnd 12 rfl) ?_
        refine v_max (pc := 21) h km_max wM_X1_68 (by omega) (Nat.le_of_ble_eq_true rfl) ⟨Nat.le_of_ble_eq_true rfl, Nat.le_of_ble_eq_true rfl, Nat.le_of_ble_eq_true rfl, Nat.le_of_ble_eq_true rfl⟩ (dk dt_X1_fullEnd 13 rfl) ?_
        rw [hto]
        refine v_istore (lv' := [(4, _), (3, _), (2, _), (0, _), (1, _)]) (pc := 24) h (dk dt_X1_fullEnd 14 rfl) (Nat.le_of_ble_eq_true rfl) rfl ?_
        refine v_aload_n (pc := 26) h (dk dt_X1_fullEnd 15 rfl) rfl ?_
        refine v_getr (pc := 27) h ci1 sh1 (Nat.le_of_ble_eq_true rfl) (j := 2) wF_X1_23 rfl (dk dt_X1_fullEnd 16 rfl) ?_
        refine v_iload_n (pc := 30) h (dk dt_X1_fullEnd 17 rfl) rfl ?_
        refine v_cVi (pc := 31) h (c_X7_atn h.quiet jr2 (o1 := 7) rfl (Nat.le_of_ble_eq_true rfl) (by omega)) kv_X7_at jr2.1 wM_X1_55 rfl rfl (Nat.le_of_ble_eq_true rfl) (RM.of rfl) rfl rfl (dk dt_X1_fullEnd 18 rfl) ?_
        refine v_if_le (pc := 34) h 53 (dk dt_X1_fullEnd 19 rfl) rfl (by omega) (fun c34 => ?_) (fun c34 => ?_)
        ·
          refine v_iconst (pc := 53) h (dk dt_X1_fullEnd 28 rfl) ?_
          refine v_istore (lv' := [(5, _), (4, _), (3, _), (2, _), (0, _), (1, _)]) (pc := 54) h (dk dt_X1_fullEnd 29 rfl) (Nat.le_of_ble_eq_true rfl) rfl ?_
          refine v_iload (pc := 56) h (dk dt_X1_fullEnd 30 rfl) rfl ?_
          refine v_if_eq (pc := 58) h 89 (dk dt_X1_fullEnd 31 rfl) rfl (by omega) (fun c58 => ?_) (fun c58 => ?_)
          ·
            refine v_iinc (lv' := [(3, _), (5, _), (4, _), (2, _), (0, _), (1, _)]) (pc := 89) h (dk dt_X1_fullEnd 48 rfl) rfl (Nat.le_of_ble_eq_true rfl) rfl ?_
            refine v_goto (pc := 92) h 4 (dk dt_X1_fullEnd 49 rfl) rfl ?_
            first
              | exact absurd c58 (by omega)
              | exact VV.loc (lv' := [(3, _), (2, _), (0, _), (1, _)]) (ih (i + 1) (by omega)) ⟨rfl, lvI (by rw [e0, if_pos (by omega)]), rfl, rfl, trivial⟩
              | exact VV.loc (lv' := [(3, _), (2, _), (0, _), (1, _)]) (ih (i + 1) (by omega)) ⟨rfl, lvI (by rw [e0, if_neg (by omega)]), rfl, rfl, trivial⟩
          ·
            refine v_iload_n (pc := 61) h (dk dt_X1_fullEnd 32 rfl) rfl ?_
            refine v_iconst (pc := 62) h (dk dt_X1_fullEnd 33 rfl) ?_
            refine v_icmp_eq (pc := 63) h 72 (dk dt_X1_fullEnd 34 rfl) rfl (by omega) (fun c63 => ?_) (fun c63 => ?_)
            ·
              refine v_aload_n (pc := 72) h (dk dt_X1_fullEnd 38 rfl) rfl ?_
              refine v_iload_n (pc := 73) h (dk dt_X1_fullEnd 39 rfl) rfl ?_
              refine v_iload (pc := 74) h (dk dt_X1_fullEnd 40 rfl) rfl ?_
              refine v_cVi (pc := 76) h (c_X1_workBetween h.quiet (by assumption) (by omega)) kv_X1_workBetween sh1 wM_X1_73 rfl rfl (Nat.le_of_ble_eq_true rfl) (RM.of rfl) rfl rfl (dk dt_X1_fullEnd 41 rfl) ?_
              refine v_iload (pc := 79) h (dk dt_X1_fullEnd 42 rfl) rfl ?_
              refine v_iload_n (pc := 81) h (dk dt_X1_fullEnd 43 rfl) rfl ?_
              refine v_isub (pc := 82) h (dk dt_X1_fullEnd 44 rfl) ?_
              refine v_icmp_le (pc := 83) h 89 (dk dt_X1_fullEnd 45 rfl) rfl (by omega) (fun c83 => ?_) (fun c83 => ?_)
              ·
                refine v_iinc (lv' := [(3, _), (5, _), (4, _), (2, _), (0, _), (1, _)]) (pc := 89) h (dk dt_X1_fullEnd 48 rfl) rfl (Nat.le_of_ble_eq_true rfl) rfl ?_
                refine v_goto (pc := 92) h 4 (dk dt_X1_fullEnd 49 rfl) rfl ?_
                first
                  | exact absurd c58 (by omega)
                  | exact VV.loc (lv' := [(3, _), (2, _), (0, _), (1, _)]) (ih (i + 1) (by omega)) ⟨rfl, lvI (by rw [e0, if_pos (by omega)]), rfl, rfl, trivial⟩
                  | exact VV.loc (lv' := [(3, _), (2, _), (0, _), (1, _)]) (ih (i + 1) (by omega)) ⟨rfl, lvI (by rw [e0, if_neg (by omega)]), rfl, rfl, trivial⟩
              ·
                refine v_iload (pc := 86) h (dk dt_X1_fullEnd 46 rfl) rfl ?_
                refine v_istore_n (lv' := [(2, _), (5, _), (4, _), (3, _), (0, _), (1, _)]) (pc := 88) h (dk dt_X1_fullEnd 47 rfl) (Nat.le_of_ble_eq_true rfl) rfl ?_
                refine v_iinc (lv' := [(3, _), (2, _), (5, _), (4, _), (0, _), (1, _)]) (pc := 89) h (dk dt_X1_fullEnd 48 rfl) rfl (Nat.le_of_ble_eq_true rfl) rfl ?_
                refine v_goto (pc := 92) h 4 (dk dt_X1_fullEnd 49 rfl) rfl ?_
                first
                  | exact absurd c58 (by omega)
                  | exact VV.loc (lv' := [(3, _), (2, _), (0, _), (1, _)]) (ih (i + 1) (by omega)) ⟨rfl, lvI (by rw [e0, if_pos (by omega)]), rfl, rfl, trivial⟩
                  | exact VV.loc (lv' := [(3, _), (2, _), (0, _), (1, _)]) (ih (i + 1) (by omega)) ⟨rfl, lvI (by rw [e0, if_neg (by omega)]), rfl, rfl, trivial⟩
            ·
              refine v_iload (pc := 66) h (dk dt_X1_fullEnd 35 rfl) rfl ?_
              refine v_iload_n (pc := 68) h (dk dt_X1_fullEnd 36 rfl) rfl ?_
              refine v_icmp_ge (pc := 69) h 89 (dk dt_X1_fullEnd 37 rfl) rfl (by omega) (fun c69 => ?_) (fun c69 => ?_)
              ·
                refine v_iinc (lv' := [(3, _), (5, _), (4, _), (2, _), (0, _), (1, _)]) (pc := 89) h (dk dt_X1_fullEnd 48 rfl) rfl (Nat.le_of_ble_eq_true rfl) rfl ?_
                refine v_goto (pc := 92) h 4 (dk dt_X1_fullEnd 49 rfl) rfl ?_
                first
                  | exact absurd c58 (by omega)
                  | exact VV.loc (lv' := [(3, _), (2, _), (0, _), (1, _)]) (ih (i + 1) (by omega)) ⟨rfl, lvI (by rw [e0, if_pos (by omega)]), rfl, rfl, trivial⟩
                  | exact VV.loc (lv' := [(3, _), (2, _), (0, _), (1, _)]) (ih (i + 1) (by omega)) ⟨rfl, lvI (by rw [e0, if_neg (by omega)]), rfl, rfl, trivial⟩
              ·
                refine v_aload_n (pc := 72) h (dk dt_X1_fullEnd 38 rfl) rfl ?_
                refine v_iload_n (pc := 73) h (dk dt_X1_fullEnd 39 rfl) rfl ?_
                refine v_iload (pc := 74) h (dk dt_X1_fullEnd 40 rfl) rfl ?_
                refine v_cVi (pc := 76) h (c_X1_workBetween h.quiet (by assumption) (by omega)) kv_X1_workBetween sh1 wM_X1_73 rfl rfl (Nat.le_of_ble_eq_true rfl) (RM.of rfl) rfl rfl (dk dt_X1_fullEnd 41 rfl) ?_
                refine v_iload (pc := 79) h (dk dt_X1_fullEnd 42 rfl) rfl ?_
                refine v_iload_n (pc := 81) h (dk dt_X1_fullEnd 43 rfl) rfl ?_
                refine v_isub (pc := 82) h (dk dt_X1_fullEnd 44 rfl) ?_
                refine v_icmp_le (pc := 83) h 89 (dk dt_X1_fullEnd 45 rfl) rfl (by omega) (fun c83 => ?_) (fun c83 => ?_)
                ·
                  refine v_iinc (lv' := [(3, _), (5, _), (4, _), (2, _), (0, _), (1, _)]) (pc := 89) h (dk dt_X1_fullEnd 48 rfl) rfl (Nat.le_of_ble_eq_true rfl) rfl ?_
                  refine v_goto (pc := 92) h 4 (dk dt_X1_fullEnd 49 rfl) rfl ?_
                  first
                    | exact absurd c58 (by omega)
                    | exact VV.loc (lv' := [(3, _), (2, _), (0, _), (1, _)]) (ih (i + 1) (by omega)) ⟨rfl, lvI (by rw [e0, if_pos (by omega)]), rfl, rfl, trivial⟩
                    | exact VV.loc (lv' := [(3, _), (2, _), (0, _), (1, _)]) (ih (i + 1) (by omega)) ⟨rfl, lvI (by rw [e0, if_neg (by omega)]), rfl, rfl, trivial⟩
                ·
                  refine v_iload (pc := 86) h (dk dt_X1_fullEnd 46 rfl) rfl ?_
                  refine v_istore_n (lv' := [(2, _), (5, _), (4, _), (3, _), (0, _), (1, _)]) (pc := 88) h (dk dt_X1_fullEnd 47 rfl) (Nat.le_of_ble_eq_true rfl) rfl ?_
                  refine v_iinc (lv' := [(3, _), (2, _), (5, _), (4, _), (0, _), (1, _)]) (pc := 89) h (dk dt_X1_fullEnd 48 rfl) rfl (Nat.le_of_ble_eq_true rfl) rfl ?_
                  refine v_goto (pc := 92) h 4 (dk dt_X1_fullEnd 49 rfl) rfl ?_
                  first
                    | exact absurd c58 (by omega)
                    | exact VV.loc (lv' := [(3, _), (2, _), (0, _), (1, _)]) (ih (i + 1) (by omega)) ⟨rfl, lvI (by rw [e0, if_pos (by omega)]), rfl, rfl, trivial⟩
                    | exact VV.loc (lv' := [(3, _), (2, _), (0, _), (1, _)]) (ih (i + 1) (by omega)) ⟨rfl, lvI (by rw [e0, if_neg (by omega)]), rfl, rfl, trivial⟩
        ·
          refine v_aload_n (pc := 37) h (dk dt_X1_fullEnd 20 rfl) rfl ?_
          refine v_getr (pc := 38) h ci1 sh1 (Nat.le_of_ble_eq_true rfl) (j := 0) wF_X1_14 rfl (dk dt_X1_fullEnd 21 rfl) ?_
          refine v_iload_n (pc := 41) h (dk dt_X1_fullEnd 22 rfl) rfl ?_
          refine v_cVi (pc := 42) h (c_X7_atn h.quiet jr0 (o1 := 3) rfl (Nat.le_of_ble_eq_true rfl) (by omega)) kv_X7_at jr0.1 wM_X1_55 rfl rfl (Nat.le_of_ble_eq_true rfl) (RM.of rfl) rfl rfl (dk dt_X1_fullEnd 23 rfl) ?_
          refine v_iload_n (pc := 45) h (dk dt_X1_fullEnd 24 rfl) rfl ?_
          refine v_icmp_lt (pc := 46) h 53 (dk dt_X1_fullEnd 25 rfl) rfl (by omega) (fun c46 => ?_) (fun c46 => ?_)
          ·
            refine v_iconst (pc := 53) h (dk dt_X1_fullEnd 28 rfl) ?_
            refine v_istore (lv' := [(5, _), (4, _), (3, _), (2, _), (0, _), (1, _)]) (pc := 54) h (dk dt_X1_fullEnd 29 rfl) (Nat.le_of_ble_eq_true rfl) rfl ?_
            refine v_iload (pc := 56) h (dk dt_X1_fullEnd 30 rfl) rfl ?_
            refine v_if_eq (pc := 58) h 89 (dk dt_X1_fullEnd 31 rfl) rfl (by omega) (fun c58 => ?_) (fun c58 => ?_)
            ·
              refine v_iinc (lv' := [(3, _), (5, _), (4, _), (2, _), (0, _), (1, _)]) (pc := 89) h (dk dt_X1_fullEnd 48 rfl) rfl (Nat.le_of_ble_eq_true rfl) rfl ?_
              refine v_goto (pc := 92) h 4 (dk dt_X1_fullEnd 49 rfl) rfl ?_
              first
                | exact absurd c58 (by omega)
                | exact VV.loc (lv' := [(3, _), (2, _), (0, _), (1, _)]) (ih (i + 1) (by omega)) ⟨rfl, lvI (by rw [e0, if_pos (by omega)]), rfl, rfl, trivial⟩
                | exact VV.loc (lv' := [(3, _), (2, _), (0, _), (1, _)]) (ih (i + 1) (by omega)) ⟨rfl, lvI (by rw [e0, if_neg (by omega)]), rfl, rfl, trivial⟩
            ·
              refine v_iload_n (pc := 61) h (dk dt_X1_fullEnd 32 rfl) rfl ?_
              refine v_iconst (pc := 62) h (dk dt_X1_fullEnd 33 rfl) ?_
              refine v_icmp_eq (pc := 63) h 72 (dk dt_X1_fullEnd 34 rfl) rfl (by omega) (fun c63 => ?_) (fun c63 => ?_)
              ·
                refine v_aload_n (pc := 72) h (dk dt_X1_fullEnd 38 rfl) rfl ?_
                refine v_iload_n (pc := 73) h (dk dt_X1_fullEnd 39 rfl) rfl ?_
                refine v_iload (pc := 74) h (dk dt_X1_fullEnd 40 rfl) rfl ?_
                refine v_cVi (pc := 76) h (c_X1_workBetween h.quiet (by assumption) (by omega)) kv_X1_workBetween sh1 wM_X1_73 rfl rfl (Nat.le_of_ble_eq_true rfl) (RM.of rfl) rfl rfl (dk dt_X1_fullEnd 41 rfl) ?_
                refine v_iload (pc := 79) h (dk dt_X1_fullEnd 42 rfl) rfl ?_
                refine v_iload_n (pc := 81) h (dk dt_X1_fullEnd 43 rfl) rfl ?_
                refine v_isub (pc := 82) h (dk dt_X1_fullEnd 44 rfl) ?_
                refine v_icmp_le (pc := 83) h 89 (dk dt_X1_fullEnd 45 rfl) rfl (by omega) (fun c83 => ?_) (fun c83 => ?_)
                ·
                  refine v_iinc (lv' := [(3, _), (5, _), (4, _), (2, _), (0, _), (1, _)]) (pc := 89) h (dk dt_X1_fullEnd 48 rfl) rfl (Nat.le_of_ble_eq_true rfl) rfl ?_
                  refine v_goto (pc := 92) h 4 (dk dt_X1_fullEnd 49 rfl) rfl ?_
                  first
                    | exact absurd c58 (by omega)
                    | exact VV.loc (lv' := [(3, _), (2, _), (0, _), (1, _)]) (ih (i + 1) (by omega)) ⟨rfl, lvI (by rw [e0, if_pos (by omega)]), rfl, rfl, trivial⟩
                    | exact VV.loc (lv' := [(3, _), (2, _), (0, _), (1, _)]) (ih (i + 1) (by omega)) ⟨rfl, lvI (by rw [e0, if_neg (by omega)]), rfl, rfl, trivial⟩
                ·
                  refine v_iload (pc := 86) h (dk dt_X1_fullEnd 46 rfl) rfl ?_
                  refine v_istore_n (lv' := [(2, _), (5, _), (4, _), (3, _), (0, _), (1, _)]) (pc := 88) h (dk dt_X1_fullEnd 47 rfl) (Nat.le_of_ble_eq_true rfl) rfl ?_
                  refine v_iinc (lv' := [(3, _), (2, _), (5, _), (4, _), (0, _), (1, _)]) (pc := 89) h (dk dt_X1_fullEnd 48 rfl) rfl (Nat.le_of_ble_eq_true rfl) rfl ?_
                  refine v_goto (pc := 92) h 4 (dk dt_X1_fullEnd 49 rfl) rfl ?_
                  first
                    | exact absurd c58 (by omega)
                    | exact VV.loc (lv' := [(3, _), (2, _), (0, _), (1, _)]) (ih (i + 1) (by omega)) ⟨rfl, lvI (by rw [e0, if_pos (by omega)]), rfl, rfl, trivial⟩
                    | exact VV.loc (lv' := [(3, _), (2, _), (0, _), (1, _)]) (ih (i + 1) (by omega)) ⟨rfl, lvI (by rw [e0, if_neg (by omega)]), rfl, rfl, trivial⟩
              ·
                refine v_iload (pc := 66) h (dk dt_X1_fullEnd 35 rfl) rfl ?_
                refine v_iload_n (pc := 68) h (dk dt_X1_fullEnd 36 rfl) rfl ?_
                refine v_icmp_ge (pc := 69) h 89 (dk dt_X1_fullEnd 37 rfl) rfl (by omega) (fun c69 => ?_) (fun c69 => ?_)
                ·
                  refine v_iinc (lv' := [(3, _), (5, _), (4, _), (2, _), (0, _), (1, _)]) (pc := 89) h (dk dt_X1_fullEnd 48 rfl) rfl (Nat.le_of_ble_eq_true rfl) rfl ?_
                  refine v_goto (pc := 92) h 4 (dk dt_X1_fullEnd 49 rfl) rfl ?_
                  first
                    | exact absurd c58 (by omega)
                    | exact VV.loc (lv' := [(3, _), (2, _), (0, _), (1, _)]) (ih (i + 1) (by omega)) ⟨rfl, lvI (by rw [e0, if_pos (by omega)]), rfl, rfl, trivial⟩
                    | exact VV.loc (lv' := [(3, _), (2, _), (0, _), (1, _)]) (ih (i + 1) (by omega)) ⟨rfl, lvI (by rw [e0, if_neg (by omega)]), rfl, rfl, trivial⟩
                ·
                  refine v_aload_n (pc := 72) h (dk dt_X1_fullEnd 38 rfl) rfl ?_
                  refine v_iload_n (pc := 73) h (dk dt_X1_fullEnd 39 rfl) rfl ?_
                  refine v_iload (pc := 74) h (dk dt_X1_fullEnd 40 rfl) rfl ?_
                  refine v_cVi (pc := 76) h (c_X1_workBetween h.quiet (by assumption) (by omega)) kv_X1_workBetween sh1 wM_X1_73 rfl rfl (Nat.le_of_ble_eq_true rfl) (RM.of rfl) rfl rfl (dk dt_X1_fullEnd 41 rfl) ?_
                  refine v_iload (pc := 79) h (dk dt_X1_fullEnd 42 rfl) rfl ?_
                  refine v_iload_n (pc := 81) h (dk dt_X1_fullEnd 43 rfl) rfl ?_
                  refine v_isub (pc := 82) h (dk dt_X1_fullEnd 44 rfl) ?_
                  refine v_icmp_le (pc := 83) h 89 (dk dt_X1_fullEnd 45 rfl) rfl (by omega) (fun c83 => ?_) (fun c83 => ?_)
                  ·
                    refine v_iinc (lv' := [(3, _), (5, _), (4, _), (2, _), (0, _), (1, _)]) (pc := 89) h (dk dt_X1_fullEnd 48 rfl) rfl (Nat.le_of_ble_eq_true rfl) rfl ?_
                    refine v_goto (pc := 92) h 4 (dk dt_X1_fullEnd 49 rfl) rfl ?_
                    first
                      | exact absurd c58 (by omega)
                      | exact VV.loc (lv' := [(3, _), (2, _), (0, _), (1, _)]) (ih (i + 1) (by omega)) ⟨rfl, lvI (by rw [e0, if_pos (by omega)]), rfl, rfl, trivial⟩
                      | exact VV.loc (lv' := [(3, _), (2, _), (0, _), (1, _)]) (ih (i + 1) (by omega)) ⟨rfl, lvI (by rw [e0, if_neg (by omega)]), rfl, rfl, trivial⟩
                  ·
                    refine v_iload (pc := 86) h (dk dt_X1_fullEnd 46 rfl) rfl ?_
                    refine v_istore_n (lv' := [(2, _), (5, _), (4, _), (3, _), (0, _), (1, _)]) (pc := 88) h (dk dt_X1_fullEnd 47 rfl) (Nat.le_of_ble_eq_true rfl) rfl ?_
                    refine v_iinc (lv' := [(3, _), (2, _), (5, _), (4, _), (0, _), (1, _)]) (pc := 89) h (dk dt_X1_fullEnd 48 rfl) rfl (Nat.le_of_ble_eq_true rfl) rfl ?_
                    refine v_goto (pc := 92) h 4 (dk dt_X1_fullEnd 49 rfl) rfl ?_
                    first
                      | exact absurd c58 (by omega)
                      | exact VV.loc (lv' := [(3, _), (2, _), (0, _), (1, _)]) (ih (i + 1) (by omega)) ⟨rfl, lvI (by rw [e0, if_pos (by omega)]), rfl, rfl, trivial⟩
                      | exact VV.loc (lv' := [(3, _), (2, _), (0, _), (1, _)]) (ih (i + 1) (by omega)) ⟨rfl, lvI (by rw [e0, if_neg (by omega)]), rfl, rfl, trivial⟩
          ·
            refine v_iconst (pc := 49) h (dk dt_X1_fullEnd 26 rfl) ?_
            refine v_goto (pc := 50) h 54 (dk dt_X1_fullEnd 27 rfl) rfl ?_
            refine v_istore (lv' := [(5, _), (4, _), (3, _), (2, _), (0, _), (1, _)]) (pc := 54) h (dk dt_X1_fullEnd 29 rfl) (Nat.le_of_ble_eq_true rfl) rfl ?_
            refine v_iload (pc := 56) h (dk dt_X1_fullEnd 30 rfl) rfl ?_
            refine v_if_eq (pc := 58) h 89 (dk dt_X1_fullEnd 31 rfl) rfl (by omega) (fun c58 => ?_) (fun c58 => ?_)
            ·
              refine v_iinc (lv' := [(3, _), (5, _), (4, _), (2, _), (0, _), (1, _)]) (pc := 89) h (dk dt_X1_fullEnd 48 rfl) rfl (Nat.le_of_ble_eq_true rfl) rfl ?_
              refine v_goto (pc := 92) h 4 (dk dt_X1_fullEnd 49 rfl) rfl ?_
              first
                | exact absurd c58 (by omega)
                | exact VV.loc (lv' := [(3, _), (2, _), (0, _), (1, _)]) (ih (i + 1) (by omega)) ⟨rfl, lvI (by rw [e0, if_pos (by omega)]), rfl, rfl, trivial⟩
                | exact VV.loc (lv' := [(3, _), (2, _), (0, _), (1, _)]) (ih (i + 1) (by omega)) ⟨rfl, lvI (by rw [e0, if_neg (by omega)]), rfl, rfl, trivial⟩
            ·
              refine v_iload_n (pc := 61) h (dk dt_X1_fullEnd 32 rfl) rfl ?_
              refine v_iconst (pc := 62) h (dk dt_X1_fullEnd 33 rfl) ?_
              refine v_icmp_eq (pc := 63) h 72 (dk dt_X1_fullEnd 34 rfl) rfl (by omega) (fun c63 => ?_) (fun c63 => ?_)
              ·
                refine v_aload_n (pc := 72) h (dk dt_X1_fullEnd 38 rfl) rfl ?_
                refine v_iload_n (pc := 73) h (dk dt_X1_fullEnd 39 rfl) rfl ?_
                refine v_iload (pc := 74) h (dk dt_X1_fullEnd 40 rfl) rfl ?_
                refine v_cVi (pc := 76) h (c_X1_workBetween h.quiet (by assumption) (by omega)) kv_X1_workBetween sh1 wM_X1_73 rfl rfl (Nat.le_of_ble_eq_true rfl) (RM.of rfl) rfl rfl (dk dt_X1_fullEnd 41 rfl) ?_
                refine v_iload (pc := 79) h (dk dt_X1_fullEnd 42 rfl) rfl ?_
                refine v_iload_n (pc := 81) h (dk dt_X1_fullEnd 43 rfl) rfl ?_
                refine v_isub (pc := 82) h (dk dt_X1_fullEnd 44 rfl) ?_
                refine v_icmp_le (pc := 83) h 89 (dk dt_X1_fullEnd 45 rfl) rfl (by omega) (fun c83 => ?_) (fun c83 => ?_)
                ·
                  refine v_iinc (lv' := [(3, _), (5, _), (4, _), (2, _), (0, _), (1, _)]) (pc := 89) h (dk dt_X1_fullEnd 48 rfl) rfl (Nat.le_of_ble_eq_true rfl) rfl ?_
                  refine v_goto (pc := 92) h 4 (dk dt_X1_fullEnd 49 rfl) rfl ?_
                  first
                    | exact absurd c58 (by omega)
                    | exact VV.loc (lv' := [(3, _), (2, _), (0, _), (1, _)]) (ih (i + 1) (by omega)) ⟨rfl, lvI (by rw [e0, if_pos (by omega)]), rfl, rfl, trivial⟩
                    | exact VV.loc (lv' := [(3, _), (2, _), (0, _), (1, _)]) (ih (i + 1) (by omega)) ⟨rfl, lvI (by rw [e0, if_neg (by omega)]), rfl, rfl, trivial⟩
                ·
                  refine v_iload (pc := 86) h (dk dt_X1_fullEnd 46 rfl) rfl ?_
                  refine v_istore_n (lv' := [(2, _), (5, _), (4, _), (3, _), (0, _), (1, _)]) (pc := 88) h (dk dt_X1_fullEnd 47 rfl) (Nat.le_of_ble_eq_true rfl) rfl ?_
                  refine v_iinc (lv' := [(3, _), (2, _), (5, _), (4, _), (0, _), (1, _)]) (pc := 89) h (dk dt_X1_fullEnd 48 rfl) rfl (Nat.le_of_ble_eq_true rfl) rfl ?_
                  refine v_goto (pc := 92) h 4 (dk dt_X1_fullEnd 49 rfl) rfl ?_
                  first
                    | exact absurd c58 (by omega)
                    | exact VV.loc (lv' := [(3, _), (2, _), (0, _), (1, _)]) (ih (i + 1) (by omega)) ⟨rfl, lvI (by rw [e0, if_pos (by omega)]), rfl, rfl, trivial⟩
                    | exact VV.loc (lv' := [(3, _), (2, _), (0, _), (1, _)]) (ih (i + 1) (by omega)) ⟨rfl, lvI (by rw [e0, if_neg (by omega)]), rfl, rfl, trivial⟩
              ·
                refine v_iload (pc := 66) h (dk dt_X1_fullEnd 35 rfl) rfl ?_
                refine v_iload_n (pc := 68) h (dk dt_X1_fullEnd 36 rfl) rfl ?_
                refine v_icmp_ge (pc := 69) h 89 (dk dt_X1_fullEnd 37 rfl) rfl (by omega) (fun c69 => ?_) (fun c69 => ?_)
                ·
                  refine v_iinc (lv' := [(3, _), (5, _), (4, _), (2, _), (0, _), (1, _)]) (pc := 89) h (dk dt_X1_fullEnd 48 rfl) rfl (Nat.le_of_ble_eq_true rfl) rfl ?_
                  refine v_goto (pc := 92) h 4 (dk dt_X1_fullEnd 49 rfl) rfl ?_
                  first
                    | exact absurd c58 (by omega)
                    | exact VV.loc (lv' := [(3, _), (2, _), (0, _), (1, _)]) (ih (i + 1) (by omega)) ⟨rfl, lvI (by rw [e0, if_pos (by omega)]), rfl, rfl, trivial⟩
                    | exact VV.loc (lv' := [(3, _), (2, _), (0, _), (1, _)]) (ih (i + 1) (by omega)) ⟨rfl, lvI (by rw [e0, if_neg (by omega)]), rfl, rfl, trivial⟩
                ·
                  refine v_aload_n (pc := 72) h (dk dt_X1_fullEnd 38 rfl) rfl ?_
                  refine v_iload_n (pc := 73) h (dk dt_X1_fullEnd 39 rfl) rfl ?_
                  refine v_iload (pc := 74) h (dk dt_X1_fullEnd 40 rfl) rfl ?_
                  refine v_cVi (pc := 76) h (c_X1_workBetween h.quiet (by assumption) (by omega)) kv_X1_workBetween sh1 wM_X1_73 rfl rfl (Nat.le_of_ble_eq_true rfl) (RM.of rfl) rfl rfl (dk dt_X1_fullEnd 41 rfl) ?_
                  refine v_iload (pc := 79) h (dk dt_X1_fullEnd 42 rfl) rfl ?_
                  refine v_iload_n (pc := 81) h (dk dt_X1_fullEnd 43 rfl) rfl ?_
                  refine v_isub (pc := 82) h (dk dt_X1_fullEnd 44 rfl) ?_
                  refine v_icmp_le (pc := 83) h 89 (dk dt_X1_fullEnd 45 rfl) rfl (by omega) (fun c83 => ?_) (fun c83 => ?_)
                  ·
                    refine v_iinc (lv' := [(3, _), (5, _), (4, _), (2, _), (0, _), (1, _)]) (pc := 89) h (dk dt_X1_fullEnd 48 rfl) rfl (Nat.le_of_ble_eq_true rfl) rfl ?_
                    refine v_goto (pc := 92) h 4 (dk dt_X1_fullEnd 49 rfl) rfl ?_
                    first
                      | exact absurd c58 (by omega)
                      | exact VV.loc (lv' := [(3, _), (2, _), (0, _), (1, _)]) (ih (i + 1) (by omega)) ⟨rfl, lvI (by rw [e0, if_pos (by omega)]), rfl, rfl, trivial⟩
                      | exact VV.loc (lv' := [(3, _), (2, _), (0, _), (1, _)]) (ih (i + 1) (by omega)) ⟨rfl, lvI (by rw [e0, if_neg (by omega)]), rfl, rfl, trivial⟩
                  ·
                    refine v_iload (pc := 86) h (dk dt_X1_fullEnd 46 rfl) rfl ?_
                    refine v_istore_n (lv' := [(2, _), (5, _), (4, _), (3, _), (0, _), (1, _)]) (pc := 88) h (dk dt_X1_fullEnd 47 rfl) (Nat.le_of_ble_eq_true rfl) rfl ?_
                    refine v_iinc (lv' := [(3, _), (2, _), (5, _), (4, _), (0, _), (1, _)]) (pc := 89) h (dk dt_X1_fullEnd 48 rfl) rfl (Nat.le_of_ble_eq_true rfl) rfl ?_
                    refine v_goto (pc := 92) h 4 (dk dt_X1_fullEnd 49 rfl) rfl ?_
                    first
                      | exact absurd c58 (by omega)
                      | exact VV.loc (lv' := [(3, _), (2, _), (0, _), (1, _)]) (ih (i + 1) (by omega)) ⟨rfl, lvI (by rw [e0, if_pos (by omega)]), rfl, rfl, trivial⟩
                      | exact VV.loc (lv' := [(3, _), (2, _), (0, _), (1, _)]) (ih (i + 1) (by omega)) ⟨rfl, lvI (by rw [e0, if_neg (by omega)]), rfl, rfl, trivial⟩
  refine v_iconst (pc := 0) h (dk dt_X1_fullEnd 0 rfl) ?_
  refine v_istore_n (lv' := [(2, _), (0, _), (1, _)]) (pc := 1) h (dk dt_X1_fullEnd 1 rfl) (Nat.le_of_ble_eq_true rfl) rfl ?_
  refine v_iconst (pc := 2) h (dk dt_X1_fullEnd 2 rfl) ?_
  refine v_istore_n (lv' := [(3, _), (2, _), (0, _), (1, _)]) (pc := 3) h (dk dt_X1_fullEnd 3 rfl) (Nat.le_of_ble_eq_true rfl) rfl ?_
  exact VV.loc (loop (μ 1 9).toNat 0 (by omega)) ⟨rfl, rfl, rfl, rfl, trivial⟩
end
