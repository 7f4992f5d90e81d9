/-! ===== Row, Line, Levels ===== -/
/-- the first n places of object k hold v -/
def mfill (μ : Mm) (k n : Nat) (v : Int) : Mm := fun a b => if a = k ∧ b < n then v else μ a b
theorem mfill_0 (μ : Mm) (k : Nat) (v : Int) : mfill μ k 0 v = μ := by
  funext a b
  exact if_neg (fun z => by omega)
theorem mfill_s (μ : Mm) (k n : Nat) (v : Int) : mup (mfill μ k n v) k n v = mfill μ k (n + 1) v := by
  funext a b
  unfold mup mfill
  by_cases h : a = k ∧ b = n
  · rw [if_pos h, if_pos ⟨h.1, by omega⟩]
  · rw [if_neg h]
    by_cases h2 : a = k ∧ b < n
    · rw [if_pos h2, if_pos ⟨h2.1, by omega⟩]
    · rw [if_neg h2, if_neg (fun z => by omega)]
/-- the first s places of object k move one down -/
def mshift (μ : Mm) (k s : Nat) : Mm := fun a b => if a = k ∧ b + 1 < s then μ k (b + 1) else μ a b
theorem mshift_1 (μ : Mm) (k : Nat) : mshift μ k 1 = μ := by
  funext a b
  exact if_neg (fun z => by omega)
theorem mshift_s (μ : Mm) (k s : Nat) : mup (mshift μ k (s + 1)) k s (mshift μ k (s + 1) k (s + 1)) = mshift μ k (s + 2) := by
  funext a b
  unfold mup mshift
  by_cases h : a = k ∧ b = s
  · rw [if_pos h, if_neg (fun z => by omega), if_pos ⟨h.1, by omega⟩, h.2]
  · rw [if_neg h]
    by_cases h2 : a = k ∧ b + 1 < s + 1
    · rw [if_pos h2, if_pos ⟨h2.1, by omega⟩]
    · rw [if_neg h2, if_neg (fun z => by omega)]
section
variable {l : Launch} {B : Nat} {D : va_G} {E : Nat → ClassId} {μ : Mm}
theorem c_X7_at (hst : l.stackTraces = false) {o o1 n : Nat} (hr : isRw o o1 n) (hl : n ≤ 4000) {z : Int} (hz : 0 ≤ z ∧ z < (n : Int)) :
    Ct l B D E yX7_at (.code yX7_at cX7_at 2 (some .int)) rm_X7_at [.ref (pl B o), iI z] μ (ri (μ o1 z.toNat) μ) NX := by
  refine ct_of (own := RX7) (lv := [(0, _), (1, _)]) hst (by decide) rfl rfl (Nat.le_of_ble_eq_true rfl) fun a h r t => ?_
  refine v_iload_n (pc := 0) h (dk dt_X7_at 0 rfl) rfl ?_
  refine v_if_lt (pc := 1) h 22 (dk dt_X7_at 1 rfl) rfl (by omega) (fun c1 => ?_) (fun c1 => ?_)
  ·
    exact absurd c1 (by omega)
  ·
    refine v_iload_n (pc := 4) h (dk dt_X7_at 2 rfl) rfl ?_
    refine v_aload_n (pc := 5) h (dk dt_X7_at 3 rfl) rfl ?_
    refine v_getr (pc := 6) h ci7 hr.1 (Nat.le_of_ble_eq_true rfl) (j := 0) wF_X7_7 rfl (dk dt_X7_at 4 rfl) ?_
    refine v_alen (pc := 9) h hr.2 (dk dt_X7_at 5 rfl) ?_
    refine v_icmp_ge (pc := 10) h 22 (dk dt_X7_at 6 rfl) rfl (by omega) (fun c10 => ?_) (fun c10 => ?_)
    ·
      exact absurd c10 (by omega)
    ·
      refine v_aload_n (pc := 13) h (dk dt_X7_at 7 rfl) rfl ?_
      refine v_getr (pc := 14) h ci7 hr.1 (Nat.le_of_ble_eq_true rfl) (j := 0) wF_X7_7 rfl (dk dt_X7_at 8 rfl) ?_
      refine v_iload_n (pc := 17) h (dk dt_X7_at 9 rfl) rfl ?_
      refine v_iald (pc := 18) h hr.2 hl (by omega) (dk dt_X7_at 10 rfl) ?_
      refine v_goto (pc := 19) h 23 (dk dt_X7_at 11 rfl) rfl ?_
      exact v_iret (pc := 23) h r (dk dt_X7_at 13 rfl) (Nat.le_of_ble_eq_true rfl) (Nat.le_of_ble_eq_true rfl) ⟨rfl, rfl⟩
theorem c_X7_put (hst : l.stackTraces = false) {o o1 n : Nat} (hr : isRw o o1 n) (hl : n ≤ 4000) {z y : Int} (hz : 0 ≤ z ∧ z < (n : Int)) :
    Ct l B D E yX7_put (.code yX7_put cX7_put 3 none) rm_X7_put [.ref (pl B o), iI z, iI y] μ (rv (mup μ o1 z.toNat y)) NX := by
  refine ct_of (own := RX7) (lv := [(0, _), (1, _), (2, _)]) hst (by decide) rfl rfl (Nat.le_of_ble_eq_true rfl) fun a h r t => ?_
  refine v_iload_n (pc := 0) h (dk dt_X7_put 0 rfl) rfl ?_
  refine v_if_lt (pc := 1) h 20 (dk dt_X7_put 1 rfl) rfl (by omega) (fun c1 => ?_) (fun c1 => ?_)
  ·
    exact absurd c1 (by omega)
  ·
    refine v_iload_n (pc := 4) h (dk dt_X7_put 2 rfl) rfl ?_
    refine v_aload_n (pc := 5) h (dk dt_X7_put 3 rfl) rfl ?_
    refine v_getr (pc := 6) h ci7 hr.1 (Nat.le_of_ble_eq_true rfl) (j := 0) wF_X7_7 rfl (dk dt_X7_put 4 rfl) ?_
    refine v_alen (pc := 9) h hr.2 (dk dt_X7_put 5 rfl) ?_
    refine v_icmp_ge (pc := 10) h 20 (dk dt_X7_put 6 rfl) rfl (by omega) (fun c10 => ?_) (fun c10 => ?_)
    ·
      exact absurd c10 (by omega)
    ·
      refine v_aload_n (pc := 13) h (dk dt_X7_put 7 rfl) rfl ?_
      refine v_getr (pc := 14) h ci7 hr.1 (Nat.le_of_ble_eq_true rfl) (j := 0) wF_X7_7 rfl (dk dt_X7_put 8 rfl) ?_
      refine v_iload_n (pc := 17) h (dk dt_X7_put 9 rfl) rfl ?_
      refine v_iload_n (pc := 18) h (dk dt_X7_put 10 rfl) rfl ?_
      refine v_iast (pc := 19) h hr.2 hl (by omega) (dk dt_X7_put 11 rfl) ?_
      exact v_vret (pc := 20) h r (dk dt_X7_put 12 rfl) (Nat.le_of_ble_eq_true rfl) (Nat.le_of_ble_eq_true rfl) ⟨rfl, rfl⟩
theorem c_X7_add (hst : l.stackTraces = false) {o o1 n : Nat} (hr : isRw o o1 n) (hl : n ≤ 4000) {z y : Int} (hz : 0 ≤ z ∧ z < (n : Int)) :
    Ct l B D E yX7_add (.code yX7_add cX7_add 3 none) rm_X7_add [.ref (pl B o), iI z, iI y] μ (rv (mup μ o1 z.toNat (μ o1 z.toNat + y))) NX := by
  refine ct_of (own := RX7) (lv := [(0, _), (1, _), (2, _)]) hst (by decide) rfl rfl (Nat.le_of_ble_eq_true rfl) fun a h r t => ?_
  refine v_iload_n (pc := 0) h (dk dt_X7_add 0 rfl) rfl ?_
  refine v_if_lt (pc := 1) h 23 (dk dt_X7_add 1 rfl) rfl (by omega) (fun c1 => ?_) (fun c1 => ?_)
  ·
    exact absurd c1 (by omega)
  ·
    refine v_iload_n (pc := 4) h (dk dt_X7_add 2 rfl) rfl ?_
    refine v_aload_n (pc := 5) h (dk dt_X7_add 3 rfl) rfl ?_
    refine v_getr (pc := 6) h ci7 hr.1 (Nat.le_of_ble_eq_true rfl) (j := 0) wF_X7_7 rfl (dk dt_X7_add 4 rfl) ?_
    refine v_alen (pc := 9) h hr.2 (dk dt_X7_add 5 rfl) ?_
    refine v_icmp_ge (pc := 10) h 23 (dk dt_X7_add 6 rfl) rfl (by omega) (fun c10 => ?_) (fun c10 => ?_)
    ·
      exact absurd c10 (by omega)
    ·
      refine v_aload_n (pc := 13) h (dk dt_X7_add 7 rfl) rfl ?_
      refine v_getr (pc := 14) h ci7 hr.1 (Nat.le_of_ble_eq_true rfl) (j := 0) wF_X7_7 rfl (dk dt_X7_add 8 rfl) ?_
      refine v_iload_n (pc := 17) h (dk dt_X7_add 9 rfl) rfl ?_
      refine v_dup2 (pc := 18) h (dk dt_X7_add 10 rfl) rfl rfl ?_
      refine v_iald (pc := 19) h hr.2 hl (by omega) (dk dt_X7_add 11 rfl) ?_
      refine v_iload_n (pc := 20) h (dk dt_X7_add 12 rfl) rfl ?_
      refine v_iadd (pc := 21) h (dk dt_X7_add 13 rfl) ?_
      refine v_iast (pc := 22) h hr.2 hl (by omega) (dk dt_X7_add 14 rfl) ?_
      exact v_vret (pc := 23) h r (dk dt_X7_add 15 rfl) (Nat.le_of_ble_eq_true rfl) (Nat.le_of_ble_eq_true rfl) ⟨rfl, rfl⟩
theorem c_X7_fill (hst : l.stackTraces = false) {o o1 n : Nat} (hr : isRw o o1 n) (hl : n ≤ 4000) {v : Int} :
    Ct l B D E yX7_fill (.code yX7_fill cX7_fill 3 none) rm_X7_fill [.ref (pl B o), iI v] μ (rv (mfill μ o1 n v)) NX := by
  refine ct_of (own := RX7) (lv := [(0, _), (1, _)]) hst (by decide) rfl rfl (Nat.le_of_ble_eq_true rfl) fun a h r t => ?_
  have loop : ∀ (d i : Nat), i + d = n → VV a B (SP B D E (mfill μ o1 i v)) 0 0 2 [(2, iI (i : Int)), (0, .ref (pl B o)), (1, iI v)] [] := by
    intro d
    induction d with
    | zero =>
      intro i hi
      refine v_iload_n (pc := 2) h (dk dt_X7_fill 2 rfl) rfl ?_
      refine v_aload_n (pc := 3) h (dk dt_X7_fill 3 rfl) rfl ?_
      refine v_getr (pc := 4) h ci7 hr.1 (Nat.le_of_ble_eq_true rfl) (j := 0) wF_X7_7 rfl (dk dt_X7_fill 4 rfl) ?_
      refine v_alen (pc := 7) h hr.2 (dk dt_X7_fill 5 rfl) ?_
      refine v_icmp_ge (pc := 8) h 24 (dk dt_X7_fill 6 rfl) rfl (by omega) (fun c8 => ?_) (fun c8 => ?_)
      ·
        exact v_vret (pc := 24) h r (dk dt_X7_fill 14 rfl) (Nat.le_of_ble_eq_true rfl) (Nat.le_of_ble_eq_true rfl) ⟨rfl, by rw [show n = i by omega]⟩
      ·
        exact absurd c8 (by omega)
    | succ d ih =>
      intro i hi
      refine v_iload_n (pc := 2) h (dk dt_X7_fill 2 rfl) rfl ?_
      refine v_aload_n (pc := 3) h (dk dt_X7_fill 3 rfl) rfl ?_
      refine v_getr (pc := 4) h ci7 hr.1 (Nat.le_of_ble_eq_true rfl) (j := 0) wF_X7_7 rfl (dk dt_X7_fill 4 rfl) ?_
      refine v_alen (pc := 7) h hr.2 (dk dt_X7_fill 5 rfl) ?_
      refine v_icmp_ge (pc := 8) h 24 (dk dt_X7_fill 6 rfl) rfl (by omega) (fun c8 => ?_) (fun c8 => ?_)
      ·
        exact absurd c8 (by omega)
      ·
        refine v_aload_n (pc := 11) h (dk dt_X7_fill 7 rfl) rfl ?_
        refine v_getr (pc := 12) h ci7 hr.1 (Nat.le_of_ble_eq_true rfl) (j := 0) wF_X7_7 rfl (dk dt_X7_fill 8 rfl) ?_
        refine v_iload_n (pc := 15) h (dk dt_X7_fill 9 rfl) rfl ?_
        refine v_iload_n (pc := 16) h (dk dt_X7_fill 10 rfl) rfl ?_
        refine v_iast (pc := 17) h hr.2 hl (by omega) (dk dt_X7_fill 11 rfl) ?_
        refine v_iinc (lv' := [(2, _), (0, _), (1, _)]) (pc := 18) h (dk dt_X7_fill 12 rfl) rfl (Nat.le_of_ble_eq_true rfl) rfl ?_
        refine v_goto (pc := 21) h 2 (dk dt_X7_fill 13 rfl) rfl ?_
        rw [Int.toNat_natCast, mfill_s]
        exact VV.loc (ih (i + 1) (by omega)) ⟨rfl, rfl, rfl, trivial⟩
  refine v_iconst (pc := 0) h (dk dt_X7_fill 0 rfl) ?_
  refine v_istore_n (lv' := [(2, _), (0, _), (1, _)]) (pc := 1) h (dk dt_X7_fill 1 rfl) (Nat.le_of_ble_eq_true rfl) rfl ?_
  exact VV.of (loop n 0 (by omega)) (fun _ q => by rw [mfill_0]; exact q) ⟨rfl, rfl, rfl, trivial⟩
/-- the row of jobs that a line holds -/
def qis (μ : Mm) (k : Nat) (L : List Nat) : Prop := μ k 1 = (L.length : Int) ∧ ∀ (i j : Nat), L[i]? = some j → μ (k + 1) i = (j : Int)
theorem c_X3_empty (hst : l.stackTraces = false) {o : Nat} (hr : isLine o) :
    Ct l B D E yX3_empty (.code yX3_empty cX3_empty 1 none) rm_X3_empty [.ref (pl B o)] μ (rv (mup μ o 1 0)) NX := by
  refine ct_of (own := RX3) (lv := [(0, _)]) hst (by decide) rfl rfl (Nat.le_of_ble_eq_true rfl) fun a h r t => ?_
  refine v_aload_n (pc := 0) h (dk dt_X3_empty 0 rfl) rfl ?_
  refine v_iconst (pc := 1) h (dk dt_X3_empty 1 rfl) ?_
  refine v_put (pc := 2) h ci3 hr.1 (Nat.le_of_ble_eq_true rfl) (j := 1) wF_X3_15 rfl rfl rfl rfl (dk dt_X3_empty 2 rfl) ?_
  exact v_vret (pc := 5) h r (dk dt_X3_empty 3 rfl) (Nat.le_of_ble_eq_true rfl) (Nat.le_of_ble_eq_true rfl) ⟨rfl, rfl⟩
theorem c_X3_isEmpty (hst : l.stackTraces = false) {o : Nat} (hr : isLine o) (hs : InR (μ o 1)) :
    Ct l B D E yX3_isEmpty (.code yX3_isEmpty cX3_isEmpty 1 (some .boolean)) rm_X3_isEmpty [.ref (pl B o)] μ (ri (if μ o 1 = 0 then 1 else 0) μ) NX := by
  refine ct_of (own := RX3) (lv := [(0, _)]) hst (by decide) rfl rfl (Nat.le_of_ble_eq_true rfl) fun a h r t => ?_
  refine v_aload_n (pc := 0) h (dk dt_X3_isEmpty 0 rfl) rfl ?_
  refine v_geti (pc := 1) h ci3 hr.1 (Nat.le_of_ble_eq_true rfl) (j := 1) wF_X3_15 rfl (dk dt_X3_isEmpty 1 rfl) ?_
  refine v_if_ne (pc := 4) h 11 (dk dt_X3_isEmpty 2 rfl) rfl (by omega) (fun c4 => ?_) (fun c4 => ?_)
  ·
    refine v_iconst (pc := 11) h (dk dt_X3_isEmpty 5 rfl) ?_
    exact v_zret (pc := 12) h r (dk dt_X3_isEmpty 6 rfl) (Nat.le_of_ble_eq_true rfl) (Nat.le_of_ble_eq_true rfl) (by omega) ⟨by simp [c4], rfl⟩
  ·
    refine v_iconst (pc := 7) h (dk dt_X3_isEmpty 3 rfl) ?_
    refine v_goto (pc := 8) h 12 (dk dt_X3_isEmpty 4 rfl) rfl ?_
    exact v_zret (pc := 12) h r (dk dt_X3_isEmpty 6 rfl) (Nat.le_of_ble_eq_true rfl) (Nat.le_of_ble_eq_true rfl) (by omega) ⟨by simp [c4], rfl⟩
theorem c_X3_join (hst : l.stackTraces = false) {o : Nat} (hr : isLine o) (hs : 0 ≤ μ o 1 ∧ μ o 1 < 12) {x : Int} :
    Ct l B D E yX3_join (.code yX3_join cX3_join 2 none) rm_X3_join [.ref (pl B o), iI x] μ (rv (mup (mup μ (o + 1) (μ o 1).toNat x) o 1 (μ o 1 + 1))) NX := by
  refine ct_of (own := RX3) (lv := [(0, _), (1, _)]) hst (by decide) rfl rfl (Nat.le_of_ble_eq_true rfl) fun a h r t => ?_
  refine v_aload_n (pc := 0) h (dk dt_X3_join 0 rfl) rfl ?_
  refine v_geti (pc := 1) h ci3 hr.1 (Nat.le_of_ble_eq_true rfl) (j := 1) wF_X3_15 rfl (dk dt_X3_join 1 rfl) ?_
  refine v_if_lt (pc := 4) h 39 (dk dt_X3_join 2 rfl) rfl (by omega) (fun c4 => ?_) (fun c4 => ?_)
  ·
    exact absurd c4 (by omega)
  ·
    refine v_aload_n (pc := 7) h (dk dt_X3_join 3 rfl) rfl ?_
    refine v_geti (pc := 8) h ci3 hr.1 (Nat.le_of_ble_eq_true rfl) (j := 1) wF_X3_15 rfl (dk dt_X3_join 4 rfl) ?_
    refine v_aload_n (pc := 11) h (dk dt_X3_join 5 rfl) rfl ?_
    refine v_getr (pc := 12) h ci3 hr.1 (Nat.le_of_ble_eq_true rfl) (j := 0) wF_X3_9 rfl (dk dt_X3_join 6 rfl) ?_
    refine v_alen (pc := 15) h hr.2 (dk dt_X3_join 7 rfl) ?_
    refine v_icmp_ge (pc := 16) h 39 (dk dt_X3_join 8 rfl) rfl (by omega) (fun c16 => ?_) (fun c16 => ?_)
    ·
      exact absurd c16 (by omega)
    ·
      refine v_aload_n (pc := 19) h (dk dt_X3_join 9 rfl) rfl ?_
      refine v_getr (pc := 20) h ci3 hr.1 (Nat.le_of_ble_eq_true rfl) (j := 0) wF_X3_9 rfl (dk dt_X3_join 10 rfl) ?_
      refine v_aload_n (pc := 23) h (dk dt_X3_join 11 rfl) rfl ?_
      refine v_geti (pc := 24) h ci3 hr.1 (Nat.le_of_ble_eq_true rfl) (j := 1) wF_X3_15 rfl (dk dt_X3_join 12 rfl) ?_
      refine v_iload_n (pc := 27) h (dk dt_X3_join 13 rfl) rfl ?_
      refine v_iast (pc := 28) h hr.2 (Nat.le_of_ble_eq_true rfl) (by omega) (dk dt_X3_join 14 rfl) ?_
      refine v_aload_n (pc := 29) h (dk dt_X3_join 15 rfl) rfl ?_
      refine v_dup (pc := 30) h (dk dt_X3_join 16 rfl) rfl ?_
      refine v_geti (pc := 31) h ci3 hr.1 (Nat.le_of_ble_eq_true rfl) (j := 1) wF_X3_15 rfl (dk dt_X3_join 17 rfl) ?_
      refine v_iconst (pc := 34) h (dk dt_X3_join 18 rfl) ?_
      refine v_iadd (pc := 35) h (dk dt_X3_join 19 rfl) ?_
      refine v_put (pc := 36) h ci3 hr.1 (Nat.le_of_ble_eq_true rfl) (j := 1) wF_X3_15 rfl rfl rfl rfl (dk dt_X3_join 20 rfl) ?_
      exact v_vret (pc := 39) h r (dk dt_X3_join 21 rfl) (Nat.le_of_ble_eq_true rfl) (Nat.le_of_ble_eq_true rfl) ⟨rfl, by rw [mup_nk (a := o) (by omega)]⟩
/-- the first one taken out -/
def mtake (μ : Mm) (o : Nat) : Mm := mup (mshift μ (o + 1) (μ o 1).toNat) o 1 (μ o 1 - 1)
theorem c_X3_takeFirst (hst : l.stackTraces = false) {o : Nat} (hr : isLine o) (hs : 0 ≤ μ o 1 ∧ μ o 1 ≤ 12) :
    Ct l B D E yX3_takeFirst (.code yX3_takeFirst cX3_takeFirst 3 (some .int)) rm_X3_takeFirst [.ref (pl B o)] μ (fun v m => if μ o 1 = 0 then v = some (iI (-1)) ∧ m = μ else v = some (iI (μ (o + 1) 0)) ∧ m = mtake μ o) NX := by
  refine ct_of (own := RX3) (lv := [(0, _)]) hst (by decide) rfl rfl (Nat.le_of_ble_eq_true rfl) fun a h r t => ?_
  have e0 : ∀ k, mshift μ (o + 1) k o 1 = μ o 1 := fun k => if_neg (fun z => by omega)
  have loop : ∀ (d i : Nat), (i : Int) + d = μ o 1 → 1 ≤ i → VV a B (SP B D E (mshift μ (o + 1) i)) 0 0 18 [(2, iI (i : Int)), (1, iI (μ (o + 1) 0)), (0, .ref (pl B o))] [] := by
    intro d
    induction d with
    | zero =>
      intro i hi h1
      refine v_iload_n (pc := 18) h (dk dt_X3_takeFirst 12 rfl) rfl ?_
      refine v_aload_n (pc := 19) h (dk dt_X3_takeFirst 13 rfl) rfl ?_
      refine v_geti (pc := 20) h ci3 hr.1 (Nat.le_of_ble_eq_true rfl) (j := 1) wF_X3_15 rfl (dk dt_X3_takeFirst 14 rfl) ?_
      refine v_icmp_ge (pc := 23) h 55 (dk dt_X3_takeFirst 15 rfl) rfl (by rw [e0]; omega) (fun c23 => ?_) (fun c23 => ?_)
      ·
        refine v_aload_n (pc := 55) h (dk dt_X3_takeFirst 33 rfl) rfl ?_
        refine v_dup (pc := 56) h (dk dt_X3_takeFirst 34 rfl) rfl ?_
        refine v_geti (pc := 57) h ci3 hr.1 (Nat.le_of_ble_eq_true rfl) (j := 1) wF_X3_15 rfl (dk dt_X3_takeFirst 35 rfl) ?_
        refine v_iconst (pc := 60) h (dk dt_X3_takeFirst 36 rfl) ?_
        refine v_isub (pc := 61) h (dk dt_X3_takeFirst 37 rfl) ?_
        refine v_put (pc := 62) h ci3 hr.1 (Nat.le_of_ble_eq_true rfl) (j := 1) wF_X3_15 rfl rfl rfl rfl (dk dt_X3_takeFirst 38 rfl) ?_
        refine v_iload_n (pc := 65) h (dk dt_X3_takeFirst 39 rfl) rfl ?_
        exact v_iret (pc := 66) h r (dk dt_X3_takeFirst 40 rfl) (Nat.le_of_ble_eq_true rfl) (Nat.le_of_ble_eq_true rfl) (by rw [if_neg (by omega)]; exact ⟨rfl, by unfold mtake; rw [e0, show (μ o 1).toNat = i by omega]⟩)
      ·
        exact absurd c23 (by rw [e0]; omega)
    | succ d ih =>
      intro i hi h1
      refine v_iload_n (pc := 18) h (dk dt_X3_takeFirst 12 rfl) rfl ?_
      refine v_aload_n (pc := 19) h (dk dt_X3_takeFirst 13 rfl) rfl ?_
      refine v_geti (pc := 20) h ci3 hr.1 (Nat.le_of_ble_eq_true rfl) (j := 1) wF_X3_15 rfl (dk dt_X3_takeFirst 14 rfl) ?_
      refine v_icmp_ge (pc := 23) h 55 (dk dt_X3_takeFirst 15 rfl) rfl (by rw [e0]; omega) (fun c23 => ?_) (fun c23 => ?_)
      ·
        exact absurd c23 (by rw [e0]; omega)
      ·
        refine v_iload_n (pc := 26) h (dk dt_X3_takeFirst 16 rfl) rfl ?_
        refine v_aload_n (pc := 27) h (dk dt_X3_takeFirst 17 rfl) rfl ?_
        refine v_getr (pc := 28) h ci3 hr.1 (Nat.le_of_ble_eq_true rfl) (j := 0) wF_X3_9 rfl (dk dt_X3_takeFirst 18 rfl) ?_
        refine v_alen (pc := 31) h hr.2 (dk dt_X3_takeFirst 19 rfl) ?_
        refine v_icmp_ge (pc := 32) h 55 (dk dt_X3_takeFirst 20 rfl) rfl (by omega) (fun c32 => ?_) (fun c32 => ?_)
        ·
          exact absurd c32 (by omega)
        ·
          refine v_aload_n (pc := 35) h (dk dt_X3_takeFirst 21 rfl) rfl ?_
          refine v_getr (pc := 36) h ci3 hr.1 (Nat.le_of_ble_eq_true rfl) (j := 0) wF_X3_9 rfl (dk dt_X3_takeFirst 22 rfl) ?_
          refine v_iload_n (pc := 39) h (dk dt_X3_takeFirst 23 rfl) rfl ?_
          refine v_iconst (pc := 40) h (dk dt_X3_takeFirst 24 rfl) ?_
          refine v_isub (pc := 41) h (dk dt_X3_takeFirst 25 rfl) ?_
          refine v_aload_n (pc := 42) h (dk dt_X3_takeFirst 26 rfl) rfl ?_
          refine v_getr (pc := 43) h ci3 hr.1 (Nat.le_of_ble_eq_true rfl) (j := 0) wF_X3_9 rfl (dk dt_X3_takeFirst 27 rfl) ?_
          refine v_iload_n (pc := 46) h (dk dt_X3_takeFirst 28 rfl) rfl ?_
          refine v_iald (pc := 47) h hr.2 (Nat.le_of_ble_eq_true rfl) (by omega) (dk dt_X3_takeFirst 29 rfl) ?_
          refine v_iast (pc := 48) h hr.2 (Nat.le_of_ble_eq_true rfl) (by omega) (dk dt_X3_takeFirst 30 rfl) ?_
          refine v_iinc (lv' := [(2, _), (1, _), (0, _)]) (pc := 49) h (dk dt_X3_takeFirst 31 rfl) rfl (Nat.le_of_ble_eq_true rfl) rfl ?_
          refine v_goto (pc := 52) h 18 (dk dt_X3_takeFirst 32 rfl) rfl ?_
          obtain ⟨j, rfl⟩ : ∃ j, i = j + 1 := ⟨i - 1, by omega⟩
          rw [show (((j + 1 : Nat) : Int) - 1).toNat = j by omega, Int.toNat_natCast, mshift_s]
          exact VV.loc (ih (j + 2) (by omega) (by omega)) ⟨rfl, rfl, rfl, trivial⟩
  refine v_aload_n (pc := 0) h (dk dt_X3_takeFirst 0 rfl) rfl ?_
  refine v_geti (pc := 1) h ci3 hr.1 (Nat.le_of_ble_eq_true rfl) (j := 1) wF_X3_15 rfl (dk dt_X3_takeFirst 1 rfl) ?_
  refine v_if_gt (pc := 4) h 9 (dk dt_X3_takeFirst 2 rfl) rfl (by omega) (fun c4 => ?_) (fun c4 => ?_)
  ·
    refine v_aload_n (pc := 9) h (dk dt_X3_takeFirst 5 rfl) rfl ?_
    refine v_getr (pc := 10) h ci3 hr.1 (Nat.le_of_ble_eq_true rfl) (j := 0) wF_X3_9 rfl (dk dt_X3_takeFirst 6 rfl) ?_
    refine v_iconst (pc := 13) h (dk dt_X3_takeFirst 7 rfl) ?_
    refine v_iald (pc := 14) h hr.2 (Nat.le_of_ble_eq_true rfl) (by omega) (dk dt_X3_takeFirst 8 rfl) ?_
    refine v_istore_n (lv' := [(1, _), (0, _)]) (pc := 15) h (dk dt_X3_takeFirst 9 rfl) (Nat.le_of_ble_eq_true rfl) rfl ?_
    refine v_iconst (pc := 16) h (dk dt_X3_takeFirst 10 rfl) ?_
    refine v_istore_n (lv' := [(2, _), (1, _), (0, _)]) (pc := 17) h (dk dt_X3_takeFirst 11 rfl) (Nat.le_of_ble_eq_true rfl) rfl ?_
    exact VV.of (loop ((μ o 1).toNat - 1) 1 (by omega) (by omega)) (fun _ q => by rw [mshift_1]; exact q) ⟨rfl, rfl, rfl, trivial⟩
  ·
    refine v_iconst (pc := 7) h (dk dt_X3_takeFirst 3 rfl) ?_
    exact v_iret (pc := 8) h r (dk dt_X3_takeFirst 4 rfl) (Nat.le_of_ble_eq_true rfl) (Nat.le_of_ble_eq_true rfl) (by rw [if_pos (by omega)]; exact ⟨rfl, rfl⟩)
/-- i jobs of the line o join the line k -/
def mjoins (μ : Mm) (o k : Nat) : Nat → Mm
  | 0 => μ
  | i + 1 => mup (mup (mjoins μ o k i) (k + 1) (mjoins μ o k i k 1).toNat (μ (o + 1) i)) k 1 (mjoins μ o k i k 1 + 1)
theorem mjoins_size {o k : Nat} (i : Nat) : mjoins μ o k i k 1 = μ k 1 + i := by
  induction i with
  | zero => simp [mjoins]
  | succ i ih =>
    show mup _ k 1 _ k 1 = _
    rw [mup_eq, ih]
    omega
theorem mjoins_other {o k a b : Nat} (h1 : a ≠ k) (h2 : a ≠ k + 1) (i : Nat) : mjoins μ o k i a b = μ a b := by
  induction i with
  | zero => rfl
  | succ i ih =>
    show mup _ k 1 _ a b = _
    rw [mup_nk h1, mup_nk h2, ih]
theorem c_X3_moveTo (hst : l.stackTraces = false) {o k : Nat} (hr : isLine o) (hk : isLine k) (hne : o ≠ k ∧ o ≠ k + 1 ∧ o + 1 ≠ k) (hs : 0 ≤ μ o 1 ∧ 0 ≤ μ k 1 ∧ μ o 1 + μ k 1 ≤ 12) :
    Ct l B D E yX3_moveTo (.code yX3_moveTo cX3_moveTo 3 none) rm_X3_moveTo [.ref (pl B o), .ref (pl B k)] μ (rv (mup (mjoins μ o k (μ o 1).toNat) o 1 0)) NX := by
  refine ct_of (own := RX3) (lv := [(0, _), (1, _)]) hst (by decide) rfl rfl (Nat.le_of_ble_eq_true rfl) fun a h r t => ?_
  have e0 : ∀ i, mjoins μ o k i o 1 = μ o 1 := fun i => mjoins_other hne.1 hne.2.1 i
  have e1 : ∀ i j, mjoins μ o k i (o + 1) j = μ (o + 1) j := fun i j => mjoins_other hne.2.2 (by omega) i
  have e2 : ∀ i : Nat, mjoins μ o k i k 1 = μ k 1 + i := fun i => mjoins_size i
  have loop : ∀ (d i : Nat), (i : Int) + d = μ o 1 → VV a B (SP B D E (mjoins μ o k i)) 0 0 2 [(2, iI (i : Int)), (0, .ref (pl B o)), (1, .ref (pl B k))] [] := by
    intro d
    induction d with
    | zero =>
      intro i hi
      refine v_iload_n (pc := 2) h (dk dt_X3_moveTo 2 rfl) rfl ?_
      refine v_aload_n (pc := 3) h (dk dt_X3_moveTo 3 rfl) rfl ?_
      refine v_geti (pc := 4) h ci3 hr.1 (Nat.le_of_ble_eq_true rfl) (j := 1) wF_X3_15 rfl (dk dt_X3_moveTo 4 rfl) ?_
      refine v_icmp_ge (pc := 7) h 35 (dk dt_X3_moveTo 5 rfl) rfl (by rw [e0]; omega) (fun c7 => ?_) (fun c7 => ?_)
      ·
        refine v_aload_n (pc := 35) h (dk dt_X3_moveTo 19 rfl) rfl ?_
        refine v_iconst (pc := 36) h (dk dt_X3_moveTo 20 rfl) ?_
        refine v_put (pc := 37) h ci3 hr.1 (Nat.le_of_ble_eq_true rfl) (j := 1) wF_X3_15 rfl rfl rfl rfl (dk dt_X3_moveTo 21 rfl) ?_
        exact v_vret (pc := 40) h r (dk dt_X3_moveTo 22 rfl) (Nat.le_of_ble_eq_true rfl) (Nat.le_of_ble_eq_true rfl) ⟨rfl, by rw [show (μ o 1).toNat = i by omega]⟩
      ·
        exact absurd c7 (by rw [e0]; omega)
    | succ d ih =>
      intro i hi
      refine v_iload_n (pc := 2) h (dk dt_X3_moveTo 2 rfl) rfl ?_
      refine v_aload_n (pc := 3) h (dk dt_X3_moveTo 3 rfl) rfl ?_
      refine v_geti (pc := 4) h ci3 hr.1 (Nat.le_of_ble_eq_true rfl) (j := 1) wF_X3_15 rfl (dk dt_X3_moveTo 4 rfl) ?_
      refine v_icmp_ge (pc := 7) h 35 (dk dt_X3_moveTo 5 rfl) rfl (by rw [e0]; omega) (fun c7 => ?_) (fun c7 => ?_)
      ·
        exact absurd c7 (by rw [e0]; omega)
      ·
        refine v_iload_n (pc := 10) h (dk dt_X3_moveTo 6 rfl) rfl ?_
        refine v_aload_n (pc := 11) h (dk dt_X3_moveTo 7 rfl) rfl ?_
        refine v_getr (pc := 12) h ci3 hr.1 (Nat.le_of_ble_eq_true rfl) (j := 0) wF_X3_9 rfl (dk dt_X3_moveTo 8 rfl) ?_
        refine v_alen (pc := 15) h hr.2 (dk dt_X3_moveTo 9 rfl) ?_
        refine v_icmp_ge (pc := 16) h 35 (dk dt_X3_moveTo 10 rfl) rfl (by omega) (fun c16 => ?_) (fun c16 => ?_)
        ·
          exact absurd c16 (by omega)
        ·
          refine v_aload_n (pc := 19) h (dk dt_X3_moveTo 11 rfl) rfl ?_
          refine v_aload_n (pc := 20) h (dk dt_X3_moveTo 12 rfl) rfl ?_
          refine v_getr (pc := 21) h ci3 hr.1 (Nat.le_of_ble_eq_true rfl) (j := 0) wF_X3_9 rfl (dk dt_X3_moveTo 13 rfl) ?_
          refine v_iload_n (pc := 24) h (dk dt_X3_moveTo 14 rfl) rfl ?_
          refine v_iald (pc := 25) h hr.2 (Nat.le_of_ble_eq_true rfl) (by omega) (dk dt_X3_moveTo 15 rfl) ?_
          refine v_cVv (pc := 26) h (c_X3_join h.quiet hk (by rw [e2]; omega)) kv_X3_join hk.1 wM_X3_19 rfl rfl (Nat.le_of_ble_eq_true rfl) (RM.of rfl) rfl rfl (dk dt_X3_moveTo 16 rfl) ?_
          refine v_iinc (lv' := [(2, _), (0, _), (1, _)]) (pc := 29) h (dk dt_X3_moveTo 17 rfl) rfl (Nat.le_of_ble_eq_true rfl) rfl ?_
          refine v_goto (pc := 32) h 2 (dk dt_X3_moveTo 18 rfl) rfl ?_
          rw [e1, Int.toNat_natCast]
          exact VV.loc (ih (i + 1) (by omega)) ⟨rfl, rfl, rfl, trivial⟩
  refine v_iconst (pc := 0) h (dk dt_X3_moveTo 0 rfl) ?_
  refine v_istore_n (lv' := [(2, _), (0, _), (1, _)]) (pc := 1) h (dk dt_X3_moveTo 1 rfl) (Nat.le_of_ble_eq_true rfl) rfl ?_
  exact VV.loc (loop (μ o 1).toNat 0 (by omega)) ⟨rfl, rfl, rfl, trivial⟩
theorem c_X2_empty (hst : l.stackTraces = false) {o : Nat} (hr : isV o) :
    Ct l B D E yX2_empty (.code yX2_empty cX2_empty 1 none) rm_X2_empty [.ref (pl B o)] μ (rv (mup (mup (mup μ (o + 1) 1 0) (o + 3) 1 0) (o + 5) 1 0)) NX := by
  refine ct_of (own := RX2) (lv := [(0, _)]) hst (by decide) rfl rfl (Nat.le_of_ble_eq_true rfl) fun a h r t => ?_
  refine v_aload_n (pc := 0) h (dk dt_X2_empty 0 rfl) rfl ?_
  refine v_getr (pc := 1) h ci2 (V_hd hr) (Nat.le_of_ble_eq_true rfl) (j := 0) wF_X2_10 rfl (dk dt_X2_empty 1 rfl) ?_
  refine v_cVv (pc := 4) h (c_X3_empty h.quiet (V_low hr)) kv_X3_empty (V_low hr).1 wM_X2_22 rfl rfl (Nat.le_of_ble_eq_true rfl) (RM.of rfl) rfl rfl (dk dt_X2_empty 2 rfl) ?_
  refine v_aload_n (pc := 7) h (dk dt_X2_empty 3 rfl) rfl ?_
  refine v_getr (pc := 8) h ci2 (V_hd hr) (Nat.le_of_ble_eq_true rfl) (j := 1) wF_X2_16 rfl (dk dt_X2_empty 4 rfl) ?_
  refine v_cVv (pc := 11) h (c_X3_empty h.quiet (V_mid hr)) kv_X3_empty (V_mid hr).1 wM_X2_22 rfl rfl (Nat.le_of_ble_eq_true rfl) (RM.of rfl) rfl rfl (dk dt_X2_empty 5 rfl) ?_
  refine v_aload_n (pc := 14) h (dk dt_X2_empty 6 rfl) rfl ?_
  refine v_getr (pc := 15) h ci2 (V_hd hr) (Nat.le_of_ble_eq_true rfl) (j := 2) wF_X2_19 rfl (dk dt_X2_empty 7 rfl) ?_
  refine v_cVv (pc := 18) h (c_X3_empty h.quiet (V_high hr)) kv_X3_empty (V_high hr).1 wM_X2_22 rfl rfl (Nat.le_of_ble_eq_true rfl) (RM.of rfl) rfl rfl (dk dt_X2_empty 8 rfl) ?_
  exact v_vret (pc := 21) h r (dk dt_X2_empty 9 rfl) (Nat.le_of_ble_eq_true rfl) (Nat.le_of_ble_eq_true rfl) ⟨rfl, rfl⟩
def lineAt (o : Nat) (z : Int) : Nat := if z ≤ 0 then o + 1 else if z = 1 then o + 3 else o + 5
theorem lineAt_is {o : Nat} (hr : isV o) (z : Int) : isLine (lineAt o z) := by
  unfold lineAt
  split
  · exact V_low hr
  · split
    · exact V_mid hr
    · exact V_high hr
theorem c_X2_lineOf (hst : l.stackTraces = false) {o : Nat} (hr : isV o) {z : Int} (hz : InR z) :
    Ct l B D E yX2_lineOf (.code yX2_lineOf cX2_lineOf 2 (some (.object "Slicehouse$Line"))) rm_X2_lineOf [.ref (pl B o), iI z] μ (dr (some (.ref (pl B (lineAt o z)))) μ) NX := by
  refine ct_of (own := RX2) (lv := [(0, _), (1, _)]) hst (by decide) rfl rfl (Nat.le_of_ble_eq_true rfl) fun a h r t => ?_
  refine v_iload_n (pc := 0) h (dk dt_X2_lineOf 0 rfl) rfl ?_
  refine v_if_gt (pc := 1) h 11 (dk dt_X2_lineOf 1 rfl) rfl (by omega) (fun c1 => ?_) (fun c1 => ?_)
  ·
    have d1 : ¬ z ≤ 0 := by omega
    refine v_iload_n (pc := 11) h (dk dt_X2_lineOf 5 rfl) rfl ?_
    refine v_iconst (pc := 12) h (dk dt_X2_lineOf 6 rfl) ?_
    refine v_icmp_ne (pc := 13) h 23 (dk dt_X2_lineOf 7 rfl) rfl (by omega) (fun c13 => ?_) (fun c13 => ?_)
    ·
      refine v_aload_n (pc := 23) h (dk dt_X2_lineOf 11 rfl) rfl ?_
      refine v_getr (pc := 24) h ci2 (V_hd hr) (Nat.le_of_ble_eq_true rfl) (j := 2) wF_X2_19 rfl (dk dt_X2_lineOf 12 rfl) ?_
      exact v_aret (pc := 27) h r (dk dt_X2_lineOf 13 rfl) (Nat.le_of_ble_eq_true rfl) (Nat.le_of_ble_eq_true rfl) ⟨by simp [lineAt, d1, c13], rfl⟩
    ·
      refine v_aload_n (pc := 16) h (dk dt_X2_lineOf 8 rfl) rfl ?_
      refine v_getr (pc := 17) h ci2 (V_hd hr) (Nat.le_of_ble_eq_true rfl) (j := 1) wF_X2_16 rfl (dk dt_X2_lineOf 9 rfl) ?_
      refine v_goto (pc := 20) h 27 (dk dt_X2_lineOf 10 rfl) rfl ?_
      exact v_aret (pc := 27) h r (dk dt_X2_lineOf 13 rfl) (Nat.le_of_ble_eq_true rfl) (Nat.le_of_ble_eq_true rfl) ⟨by simp [lineAt, d1, c13], rfl⟩
  ·
    have d1 : z ≤ 0 := by omega
    have c13 : True := trivial
    refine v_aload_n (pc := 4) h (dk dt_X2_lineOf 2 rfl) rfl ?_
    refine v_getr (pc := 5) h ci2 (V_hd hr) (Nat.le_of_ble_eq_true rfl) (j := 0) wF_X2_10 rfl (dk dt_X2_lineOf 3 rfl) ?_
    refine v_goto (pc := 8) h 27 (dk dt_X2_lineOf 4 rfl) rfl ?_
    exact v_aret (pc := 27) h r (dk dt_X2_lineOf 13 rfl) (Nat.le_of_ble_eq_true rfl) (Nat.le_of_ble_eq_true rfl) ⟨by simp [lineAt, d1, c13], rfl⟩
theorem c_X2_lowest (hst : l.stackTraces = false) {o : Nat} (hr : isV o) (h1 : InR (μ (o + 1) 1)) (h2 : InR (μ (o + 3) 1)) :
    Ct l B D E yX2_lowest (.code yX2_lowest cX2_lowest 1 (some .int)) rm_X2_lowest [.ref (pl B o)] μ (ri (if μ (o + 1) 1 = 0 then if μ (o + 3) 1 = 0 then 2 else 1 else 0) μ) NX := by
  refine ct_of (own := RX2) (lv := [(0, _)]) hst (by decide) rfl rfl (Nat.le_of_ble_eq_true rfl) fun a h r t => ?_
  refine v_aload_n (pc := 0) h (dk dt_X2_lowest 0 rfl) rfl ?_
  refine v_getr (pc := 1) h ci2 (V_hd hr) (Nat.le_of_ble_eq_true rfl) (j := 0) wF_X2_10 rfl (dk dt_X2_lowest 1 rfl) ?_
  refine v_cVi (pc := 4) h (c_X3_isEmpty h.quiet (V_low hr) (by omega)) kv_X3_isEmpty (V_low hr).1 wM_X2_29 rfl rfl (Nat.le_of_ble_eq_true rfl) (RM.of rfl) rfl rfl (dk dt_X2_lowest 2 rfl) ?_
  refine v_if_ne (pc := 7) h 14 (dk dt_X2_lowest 3 rfl) rfl (by split <;> omega) (fun c7 => ?_) (fun c7 => ?_)
  ·
    have d7 : μ (o + 1) 1 = 0 := by split at c7 <;> first | assumption | omega
    refine v_aload_n (pc := 14) h (dk dt_X2_lowest 6 rfl) rfl ?_
    refine v_getr (pc := 15) h ci2 (V_hd hr) (Nat.le_of_ble_eq_true rfl) (j := 1) wF_X2_16 rfl (dk dt_X2_lowest 7 rfl) ?_
    refine v_cVi (pc := 18) h (c_X3_isEmpty h.quiet (V_mid hr) (by omega)) kv_X3_isEmpty (V_mid hr).1 wM_X2_29 rfl rfl (Nat.le_of_ble_eq_true rfl) (RM.of rfl) rfl rfl (dk dt_X2_lowest 8 rfl) ?_
    refine v_if_ne (pc := 21) h 28 (dk dt_X2_lowest 9 rfl) rfl (by split <;> omega) (fun c21 => ?_) (fun c21 => ?_)
    ·
      have d21 : μ (o + 3) 1 = 0 := by split at c21 <;> first | assumption | omega
      refine v_iconst (pc := 28) h (dk dt_X2_lowest 12 rfl) ?_
      exact v_iret (pc := 29) h r (dk dt_X2_lowest 13 rfl) (Nat.le_of_ble_eq_true rfl) (Nat.le_of_ble_eq_true rfl) ⟨by simp [d7, d21], rfl⟩
    ·
      have d21 : ¬ μ (o + 3) 1 = 0 := by split at c21 <;> first | assumption | omega
      refine v_iconst (pc := 24) h (dk dt_X2_lowest 10 rfl) ?_
      refine v_goto (pc := 25) h 29 (dk dt_X2_lowest 11 rfl) rfl ?_
      exact v_iret (pc := 29) h r (dk dt_X2_lowest 13 rfl) (Nat.le_of_ble_eq_true rfl) (Nat.le_of_ble_eq_true rfl) ⟨by simp [d7, d21], rfl⟩
  ·
    have d7 : ¬ μ (o + 1) 1 = 0 := by split at c7 <;> first | assumption | omega
    have d21 : True := trivial
    refine v_iconst (pc := 10) h (dk dt_X2_lowest 4 rfl) ?_
    refine v_goto (pc := 11) h 29 (dk dt_X2_lowest 5 rfl) rfl ?_
    exact v_iret (pc := 29) h r (dk dt_X2_lowest 13 rfl) (Nat.le_of_ble_eq_true rfl) (Nat.le_of_ble_eq_true rfl) ⟨by simp [d7, d21], rfl⟩
end
