/-! ===== the house: calls that tell, calls that ask of the latest run ===== -/
theorem hd28 : shapes[28]? = some (.inl (10, [some 40, some 47, some 29, some 1, some 27, some 31, some 38, some 50, none, none, none, none, none, none, none, none, none, none])) := rfl
theorem hd40 : shapes[40]? = some (.inl (6, [some 41, some 43, some 45, none, some 1, none, none])) := rfl
theorem hd47 : shapes[47]? = some (.inl (0, [none, some 48, some 1])) := rfl
theorem hd57 : shapes[57]? = some (.inl (10, [some 69, some 76, some 58, some 1, some 27, some 60, some 67, some 79, none, none, none, none, none, none, none, none, none, none])) := rfl
theorem hd69 : shapes[69]? = some (.inl (6, [some 70, some 72, some 74, none, some 1, none, none])) := rfl
theorem hd76 : shapes[76]? = some (.inl (0, [none, some 77, some 1])) := rfl
theorem hd86 : shapes[86]? = some (.inl (10, [some 98, some 105, some 87, some 1, some 27, some 89, some 96, some 108, none, none, none, none, none, none, none, none, none, none])) := rfl
theorem hd98 : shapes[98]? = some (.inl (6, [some 99, some 101, some 103, none, some 1, none, none])) := rfl
theorem hd105 : shapes[105]? = some (.inl (0, [none, some 106, some 1])) := rfl
abbrev okWy (μ : Mm) : Prop := (1 ≤ μ 27 0 ∧ μ 27 0 ≤ 20) ∧ (0 ≤ μ 27 1 ∧ μ 27 1 ≤ 5) ∧ (0 ≤ μ 27 2 ∧ μ 27 2 ≤ 99) ∧ (μ 27 4 = 0 ∨ μ 27 4 = 1)
/-- the latest run's numbers are in order -/
def okRn (μ : Mm) : Prop := okC μ 47 ∧ ∀ j : Nat, (j : Int) < μ 1 9 → (μ 3 j < μ 44 j ∧ μ 44 j ≤ 2304) ∧ (0 ≤ μ 46 j ∧ μ 46 j ≤ 2304) ∧ (0 ≤ μ 30 j ∧ μ 30 j ≤ 2304)
/-- the house's memory is in order -/
def hOK (μ : Mm) : Prop := okJ μ ∧ okTk μ ∧ okWy μ ∧ (μ 0 7 = 0 ∨ μ 0 7 = 1) ∧ (μ 0 7 = 1 → okRn μ)
theorem hOK.J {μ : Mm} (h : hOK μ) : okJ μ := h.1
theorem hOK.T {μ : Mm} (h : hOK μ) : okTk μ := h.2.1
theorem hOK.W {μ : Mm} (h : hOK μ) : okWy μ := h.2.2.1
theorem hOK.h {μ : Mm} (h : hOK μ) : μ 0 7 = 0 ∨ μ 0 7 = 1 := h.2.2.2.1
theorem hOK.R {μ : Mm} (h : hOK μ) : μ 0 7 = 1 → okRn μ := h.2.2.2.2
def kof (r s c le ri : Int) : Nat → Int
  | 0 => r
  | 1 => s
  | 2 => c
  | 3 => le
  | 4 => ri
  | _ + 5 => 0
abbrev kM (μ : Mm) (r : Int) : Nat → Int := kof r (μ 27 0) (μ 27 1) (μ 27 4) (μ 27 2)
def rcJob (n c l d w : Int) : Int := if ¬ ((0 ≤ c ∧ c ≤ 99) ∧ (1 ≤ l ∧ l ≤ 30) ∧ (0 ≤ d ∧ d ≤ 400) ∧ (1 ≤ w ∧ w ≤ 9)) then 1 else if 12 ≤ n then 2 else 0
def rcAft (n j o : Int) : Int := if ¬ (0 ≤ j ∧ j < n) ∨ ¬ (0 ≤ o ∧ o < n) then 1 else if j ≤ o then 2 else 0
abbrev ovl (k lf lt : Nat → Int) (j : Nat) (f u : Int) : Prop := ∃ i : Nat, i < (k j).toNat ∧ f < lt (3 * j + i) ∧ lf (3 * j + i) < u
def rcLk (n : Int) (ln k lf lt : Nat → Int) (j y f u : Int) : Int := if ¬ (0 ≤ j ∧ j < n) ∨ ¬ (0 ≤ y ∧ y ≤ 2) then 1 else if ¬ (0 ≤ f ∧ f < u ∧ u ≤ ln j.toNat) ∨ ovl k lf lt j.toNat f u then 2 else if 3 ≤ k j.toNat then 3 else 0
def rcTn (s c ri : Int) : Int := if ¬ ((1 ≤ s ∧ s ≤ 20) ∧ (0 ≤ c ∧ c ≤ 5) ∧ (0 ≤ ri ∧ ri ≤ 99)) then 1 else 0
def mturn (μ : Mm) (s c ri sd le : Int) : Mm := mup (mup (mup (mup (mup (mup μ 27 0 s) 27 1 c) 27 2 ri) 27 3 sd) 27 4 le) 0 7 0
def rcR1 (r : Int) : Int := if ¬ (0 ≤ r ∧ r ≤ 8) then 1 else 0
/-- a moment, a run -/
def rcM (hr z : Int) : Int := if ¬ 0 ≤ z then 1 else if ¬ hr = 1 then 2 else 0
/-- a job, a run -/
def rcJ (n hr j : Int) : Int := if ¬ (0 ≤ j ∧ j < n) then 1 else if ¬ hr = 1 then 2 else 0
def rcL (n hr j z : Int) : Int := if ¬ (0 ≤ j ∧ j < n) then 1 else if ¬ 0 ≤ z then 2 else if ¬ hr = 1 then 3 else 0
def rcN (hr : Int) : Int := if ¬ hr = 1 then 1 else 0
def lfF (ln lg : Nat → Int) (T : Int) (j : Nat) (z : Int) : Int := ln j - cntJ lg (j : Int) (if z < T then z else T).toNat
def wkS (c ln lg : Nat → Int) (T z : Int) : Nat → Int
  | 0 => 0
  | j + 1 => wkS c ln lg T z j + if c j ≤ z then lfF ln lg T j z else 0
def ckS (lg : Nat → Int) : Nat → Int
  | 0 => 0
  | t + 1 => 31 * ckS lg t + 3 + lg t
/-- the greatest stretch of i jobs: above the line, below it -/
def slF (e c ln : Nat → Int) : Nat → Nat × Nat
  | 0 => (0, 1)
  | j + 1 => if (slF e c ln j).1 * (ln j).toNat < (e j - c j).toNat * (slF e c ln j).2 then ((e j - c j).toNat, (ln j).toNat) else slF e c ln j
def rcSl (hr n : Int) : Int := if ¬ hr = 1 ∨ n = 0 then 1 else 0
def anSl (p : Nat × Nat) (b : Int) : Int := if b = 0 then ((p.1 / Nat.gcd p.1 p.2 : Nat) : Int) else ((p.2 / Nat.gcd p.2 p.1 : Nat) : Int)
def bgZ (lg : Nat → Int) (T x : Int) : Int := bBeg lg x T.toNat 0 0
def rcB (hr : Int) (lg : Nat → Int) (T x : Int) : Int := if ¬ hr = 1 then 1 else if x = -1 then 0 else if bgZ lg T x = -1 then 2 else 0
def anB (lg : Nat → Int) (T x e : Int) : Int := if x = -1 then cntB lg T.toNat else if e = 0 then bgZ lg T x else (bEnd lg (T.toNat - (bgZ lg T x).toNat) (bgZ lg T x).toNat : Nat)
/-- the first beginning from a on, of d, of a stretch that is too full -/
def fuB (c l d : Nat → Int) (n : Nat) : Nat → Nat → Int
  | 0, _ => -1
  | k + 1, a => if fenF c l d n (a : Int) n ≠ -1 then (a : Int) else fuB c l d n k (a + 1)
def fullC (c l d : Nat → Int) (n : Nat) (x : Int) : Int :=
  if fuB c l d n 100 0 = -1 then -1 else if x = 0 then fuB c l d n 100 0 else if x = 1 then fenF c l d n (fuB c l d n 100 0) n else wbtF c l d (fuB c l d n 100 0) (fenF c l d n (fuB c l d n 100 0) n) n
def rcF (x : Int) : Int := if ¬ (0 ≤ x ∧ x ≤ 2) then 1 else 0
def rcTk (n p le d : Int) : Int := if ¬ ((1 ≤ p ∧ p ≤ 60) ∧ (1 ≤ le ∧ le ≤ 30) ∧ le ≤ p ∧ (le ≤ d ∧ d ≤ p)) then 1 else if 5 ≤ n then 2 else 0
/-- the load of k tasks: above the line, below it -/
def ldF (p le : Nat → Int) : Nat → Nat × Nat
  | 0 => (0, 1)
  | k + 1 => ((ldF p le k).1 * (p k).toNat + (ldF p le k).2 * (le k).toNat, (ldF p le k).2 * (p k).toNat)
def rcRs (n j : Int) : Int := if ¬ (0 ≤ j ∧ j < n) then 1 else 0
def rsT (p le d : Nat → Int) (n k : Nat) : Nat → Nat → Int
  | 0, _ => -1
  | i + 1, r => if wahF p le d k (r : Int) n = (r : Int) then (r : Int) else rsT p le d n k i (r + 1)
theorem ldF_b {p le d : Nat → Int} {n : Int} (h : okK5 p le d n) : ∀ k : Nat, (k : Int) ≤ n → ((ldF p le k).1 ≤ k * 60 ^ k ∧ (ldF p le k).2 ≤ 60 ^ k) := by
  intro k
  induction k with
  | zero => intro _; simp [ldF]
  | succ k ih =>
    intro hk
    obtain ⟨h1, h2⟩ := ih (by omega)
    have h3 := h.2 k (by omega)
    have hp : (p k).toNat ≤ 60 := by omega
    have hl : (le k).toNat ≤ 60 := by omega
    simp only [ldF]
    refine ⟨?_, ?_⟩
    · have a1 := Nat.mul_le_mul h1 hp
      have a2 := Nat.mul_le_mul h2 hl
      have e : k * 60 ^ k * 60 + 60 ^ k * 60 = (k + 1) * 60 ^ (k + 1) := by rw [Nat.pow_succ, Nat.add_mul, Nat.one_mul, Nat.mul_assoc]
      omega
    · rw [Nat.pow_succ]; exact Nat.mul_le_mul h2 hp
theorem slF_b {e c ln : Nat → Int} {n : Nat} (h : ∀ j, j < n → 1 ≤ ln j ∧ ln j ≤ 30 ∧ 0 ≤ c j ∧ e j ≤ 2304) : ∀ j, j ≤ n → (slF e c ln j).1 ≤ 2304 ∧ 1 ≤ (slF e c ln j).2 ∧ (slF e c ln j).2 ≤ 30 := by
  intro j
  induction j with
  | zero => intro _; simp [slF]
  | succ j ih =>
    intro hj
    have h1 := ih (by omega)
    have h2 := h j (by omega)
    simp only [slF]
    split
    · simp only; omega
    · exact h1
theorem lfF_b {lg : Nat → Int} {ln : Nat → Int} {T z : Int} {j : Nat} (h1 : 1 ≤ ln j ∧ ln j ≤ 30) (hT : 0 ≤ T ∧ T ≤ 2304) (hz : 0 ≤ z) : -3000 ≤ lfF ln lg T j z ∧ lfF ln lg T j z ≤ 3000 := by
  unfold lfF
  have := cntJ_b lg (j : Int) (if z < T then z else T).toNat
  have h3 : (if z < T then z else T) ≤ 2304 := by split <;> omega
  omega
section
variable {l : Launch} {B : Nat} {D : va_G} {E : Nat → ClassId} {μ m σ : Mm} {w n : Nat} {K : Nat → Int} {s : St} {J : Mm}
theorem c_X11_job (hst : l.stackTraces = false) (hO : hOK μ) {c le d we : Int} (hc : InR c ∧ InR le) (hd : InR d ∧ InR we) :
    Ct l B D E yX11_job (.code yX11_job cX11_job 5 (some .int)) rm_X11_job [.ref (pl B 0), iI c, iI le, iI d, iI we] μ (PX (rcJob (μ 1 9) c le d we) (some (iI (μ 1 9))) (mtell (mup μ 0 7 0) c le d we)) (XX (rcJob (μ 1 9) c le d we) [eA, eS] μ) := by
  have hb := hO.J.1
  have e1 : (mup μ 0 7 0) 1 9 = μ 1 9 := mup_nk (by omega)
  refine ct_of (own := RX11) (lv := [(0, _), (1, _), (2, _), (3, _), (4, _)]) hst (by decide) rfl rfl (Nat.le_of_ble_eq_true rfl) fun a h r t => ?_
  refine v_iload_n (pc := 0) h (dk dt_X11_job 0 rfl) rfl ?_
  refine v_iconst (pc := 1) h (dk dt_X11_job 1 rfl) ?_
  refine v_bipush (pc := 2) h (dk dt_X11_job 2 rfl) rfl ?_
  refine v_cSi (pc := 4) h (c_X11_isOutside h.quiet (by omega) (by omega)) kv_X11_isOutside wM_X11_58 rfl rfl (Nat.le_of_ble_eq_true rfl) (RM.of rfl) rfl rfl (dk dt_X11_job 3 rfl) ?_
  refine v_if_ne (pc := 7) h 42 (dk dt_X11_job 4 rfl) rfl (by split <;> omega) (fun c7 => ?_) (fun c7 => ?_)
  ·
    have d7 : ¬ (0 ≤ c ∧ c ≤ 99) := fun q => by rw [if_neg (by omega)] at c7; omega
    exact v_throw (pc := 42) h r t kt_X11_62 (dk dt_X11_job 20 rfl) (dk dt_X11_job 21 rfl) (dk dt_X11_job 22 rfl) (dk dt_X11_job 23 rfl) ⟨Nat.le_of_ble_eq_true rfl, Nat.le_of_ble_eq_true rfl, Nat.le_of_ble_eq_true rfl, Nat.le_of_ble_eq_true rfl⟩ (Nat.le_of_ble_eq_true rfl) (Nat.le_of_ble_eq_true rfl) (Nat.le_of_ble_eq_true rfl) ⟨⟨0, by unfold rcJob; rw [if_pos (by omega)]; rfl, rfl⟩, rfl⟩
  ·
    have d7 : 0 ≤ c ∧ c ≤ 99 := by by_cases q : c < 0 ∨ 99 < c; rw [if_pos q] at c7; omega; omega
    refine v_iload_n (pc := 10) h (dk dt_X11_job 5 rfl) rfl ?_
    refine v_iconst (pc := 11) h (dk dt_X11_job 6 rfl) ?_
    refine v_bipush (pc := 12) h (dk dt_X11_job 7 rfl) rfl ?_
    refine v_cSi (pc := 14) h (c_X11_isOutside h.quiet (by omega) (by omega)) kv_X11_isOutside wM_X11_58 rfl rfl (Nat.le_of_ble_eq_true rfl) (RM.of rfl) rfl rfl (dk dt_X11_job 8 rfl) ?_
    refine v_if_ne (pc := 17) h 42 (dk dt_X11_job 9 rfl) rfl (by split <;> omega) (fun c17 => ?_) (fun c17 => ?_)
    ·
      have d17 : ¬ (1 ≤ le ∧ le ≤ 30) := fun q => by rw [if_neg (by omega)] at c17; omega
      exact v_throw (pc := 42) h r t kt_X11_62 (dk dt_X11_job 20 rfl) (dk dt_X11_job 21 rfl) (dk dt_X11_job 22 rfl) (dk dt_X11_job 23 rfl) ⟨Nat.le_of_ble_eq_true rfl, Nat.le_of_ble_eq_true rfl, Nat.le_of_ble_eq_true rfl, Nat.le_of_ble_eq_true rfl⟩ (Nat.le_of_ble_eq_true rfl) (Nat.le_of_ble_eq_true rfl) (Nat.le_of_ble_eq_true rfl) ⟨⟨0, by unfold rcJob; rw [if_pos (by omega)]; rfl, rfl⟩, rfl⟩
    ·
      have d17 : 1 ≤ le ∧ le ≤ 30 := by by_cases q : le < 1 ∨ 30 < le; rw [if_pos q] at c17; omega; omega
      refine v_iload_n (pc := 20) h (dk dt_X11_job 10 rfl) rfl ?_
      refine v_iconst (pc := 21) h (dk dt_X11_job 11 rfl) ?_
      refine v_sipush (pc := 22) h (dk dt_X11_job 12 rfl) rfl ?_
      refine v_cSi (pc := 25) h (c_X11_isOutside h.quiet (by omega) (by omega)) kv_X11_isOutside wM_X11_58 rfl rfl (Nat.le_of_ble_eq_true rfl) (RM.of rfl) rfl rfl (dk dt_X11_job 13 rfl) ?_
      refine v_if_ne (pc := 28) h 42 (dk dt_X11_job 14 rfl) rfl (by split <;> omega) (fun c28 => ?_) (fun c28 => ?_)
      ·
        have d28 : ¬ (0 ≤ d ∧ d ≤ 400) := fun q => by rw [if_neg (by omega)] at c28; omega
        exact v_throw (pc := 42) h r t kt_X11_62 (dk dt_X11_job 20 rfl) (dk dt_X11_job 21 rfl) (dk dt_X11_job 22 rfl) (dk dt_X11_job 23 rfl) ⟨Nat.le_of_ble_eq_true rfl, Nat.le_of_ble_eq_true rfl, Nat.le_of_ble_eq_true rfl, Nat.le_of_ble_eq_true rfl⟩ (Nat.le_of_ble_eq_true rfl) (Nat.le_of_ble_eq_true rfl) (Nat.le_of_ble_eq_true rfl) ⟨⟨0, by unfold rcJob; rw [if_pos (by omega)]; rfl, rfl⟩, rfl⟩
      ·
        have d28 : 0 ≤ d ∧ d ≤ 400 := by by_cases q : d < 0 ∨ 400 < d; rw [if_pos q] at c28; omega; omega
        refine v_iload (pc := 31) h (dk dt_X11_job 15 rfl) rfl ?_
        refine v_iconst (pc := 33) h (dk dt_X11_job 16 rfl) ?_
        refine v_bipush (pc := 34) h (dk dt_X11_job 17 rfl) rfl ?_
        refine v_cSi (pc := 36) h (c_X11_isOutside h.quiet (by omega) (by omega)) kv_X11_isOutside wM_X11_58 rfl rfl (Nat.le_of_ble_eq_true rfl) (RM.of rfl) rfl rfl (dk dt_X11_job 18 rfl) ?_
        refine v_if_eq (pc := 39) h 50 (dk dt_X11_job 19 rfl) rfl (by split <;> omega) (fun c39 => ?_) (fun c39 => ?_)
        ·
          have d39 : 1 ≤ we ∧ we ≤ 9 := by by_cases q : we < 1 ∨ 9 < we; rw [if_pos q] at c39; omega; omega
          refine v_aload_n (pc := 50) h (dk dt_X11_job 24 rfl) rfl ?_
          refine v_getr (pc := 51) h ci11 sh0 (Nat.le_of_ble_eq_true rfl) (j := 0) wF_X11_10 rfl (dk dt_X11_job 25 rfl) ?_
          refine v_geti (pc := 54) h ci1 sh1 (Nat.le_of_ble_eq_true rfl) (j := 9) wF_X11_65 rfl (dk dt_X11_job 26 rfl) ?_
          refine v_bipush (pc := 57) h (dk dt_X11_job 27 rfl) rfl ?_
          refine v_icmp_lt (pc := 59) h 70 (dk dt_X11_job 28 rfl) rfl (by omega) (fun c59 => ?_) (fun c59 => ?_)
          ·
            refine v_aload_n (pc := 70) h (dk dt_X11_job 33 rfl) rfl ?_
            refine v_iconst (pc := 71) h (dk dt_X11_job 34 rfl) ?_
            refine v_put (pc := 72) h ci11 sh0 (Nat.le_of_ble_eq_true rfl) (j := 7) wF_X11_54 rfl rfl (narZ (by omega)) (fitZ (by omega)) (dk dt_X11_job 35 rfl) ?_
            refine v_aload_n (pc := 75) h (dk dt_X11_job 36 rfl) rfl ?_
            refine v_getr (pc := 76) h ci11 sh0 (Nat.le_of_ble_eq_true rfl) (j := 0) wF_X11_10 rfl (dk dt_X11_job 37 rfl) ?_
            refine v_iload_n (pc := 79) h (dk dt_X11_job 38 rfl) rfl ?_
            refine v_iload_n (pc := 80) h (dk dt_X11_job 39 rfl) rfl ?_
            refine v_iload_n (pc := 81) h (dk dt_X11_job 40 rfl) rfl ?_
            refine v_iload (pc := 82) h (dk dt_X11_job 41 rfl) rfl ?_
            refine v_cVi (pc := 84) h (c_X1_tell h.quiet (by omega) (by omega)) kv_X1_tell sh1 wM_X11_72 rfl rfl (Nat.le_of_ble_eq_true rfl) (RM.of rfl) rfl rfl (dk dt_X11_job 42 rfl) ?_
            rw [e1]
            exact v_iret (pc := 87) h r (dk dt_X11_job 43 rfl) (Nat.le_of_ble_eq_true rfl) (Nat.le_of_ble_eq_true rfl) ⟨by unfold rcJob; rw [if_neg (by omega), if_neg (by omega)], rfl, rfl⟩
          ·
            exact v_throw (pc := 62) h r t kt_X11_69 (dk dt_X11_job 29 rfl) (dk dt_X11_job 30 rfl) (dk dt_X11_job 31 rfl) (dk dt_X11_job 32 rfl) ⟨Nat.le_of_ble_eq_true rfl, Nat.le_of_ble_eq_true rfl, Nat.le_of_ble_eq_true rfl, Nat.le_of_ble_eq_true rfl⟩ (Nat.le_of_ble_eq_true rfl) (Nat.le_of_ble_eq_true rfl) (Nat.le_of_ble_eq_true rfl) ⟨⟨1, by unfold rcJob; rw [if_neg (by omega), if_pos (by omega)]; rfl, rfl⟩, rfl⟩
        ·
          have d39 : ¬ (1 ≤ we ∧ we ≤ 9) := fun q => by rw [if_neg (by omega)] at c39; omega
          exact v_throw (pc := 42) h r t kt_X11_62 (dk dt_X11_job 20 rfl) (dk dt_X11_job 21 rfl) (dk dt_X11_job 22 rfl) (dk dt_X11_job 23 rfl) ⟨Nat.le_of_ble_eq_true rfl, Nat.le_of_ble_eq_true rfl, Nat.le_of_ble_eq_true rfl, Nat.le_of_ble_eq_true rfl⟩ (Nat.le_of_ble_eq_true rfl) (Nat.le_of_ble_eq_true rfl) (Nat.le_of_ble_eq_true rfl) ⟨⟨0, by unfold rcJob; rw [if_pos (by omega)]; rfl, rfl⟩, rfl⟩
theorem c_X11_after (hst : l.stackTraces = false) (hO : hOK μ) {j o : Int} (hj : InR j ∧ InR o) :
    Ct l B D E yX11_after (.code yX11_after cX11_after 3 (some .int)) rm_X11_after [.ref (pl B 0), iI j, iI o] μ (PX (rcAft (μ 1 9) j o) (some (iI (pcN ((μ 11 j.toNat).toNat ||| 2 ^ o.toNat) 12))) (mup (mup μ 0 7 0) 11 j.toNat (((μ 11 j.toNat).toNat ||| 2 ^ o.toNat : Nat) : Int))) (XX (rcAft (μ 1 9) j o) [eB, eA] μ) := by
  have hb := hO.J.1
  have hx : 0 ≤ j → j < μ 1 9 → 0 ≤ μ 11 j.toNat ∧ μ 11 j.toNat < 4096 := fun q1 q2 => by
    have h1 := (hO.J.2 j.toNat (by omega)).2.2.2.2.1
    have h2 : 2 ^ j.toNat ≤ 2 ^ 11 := p2lt (by omega)
    omega
  refine ct_of (own := RX11) (lv := [(0, _), (1, _), (2, _)]) hst (by decide) rfl rfl (Nat.le_of_ble_eq_true rfl) fun a h r t => ?_
  have go23 : 0 ≤ j ∧ j < μ 1 9 → 0 ≤ o ∧ o < j → VV a B (SP B D E μ) 2 12 23 [(0, .ref (pl B 0)), (1, iI j), (2, iI o)] [] := by
    intro h1 h2
    have h3 := hx h1.1 h1.2
    obtain ⟨j', rfl⟩ : ∃ k : Nat, j = (k : Int) := ⟨j.toNat, by omega⟩
    obtain ⟨o', rfl⟩ : ∃ k : Nat, o = (k : Int) := ⟨o.toNat, by omega⟩
    have e11 : (mup μ 0 7 0) 11 j' = μ 11 j' := mup_nk (by omega)
    rw [Int.toNat_natCast] at h3
    refine v_aload_n (pc := 23) h (dk dt_X11_after 13 rfl) rfl ?_
    refine v_iconst (pc := 24) h (dk dt_X11_after 14 rfl) ?_
    refine v_put (pc := 25) h ci11 sh0 (Nat.le_of_ble_eq_true rfl) (j := 7) wF_X11_54 rfl rfl (narZ (by omega)) (fitZ (by omega)) (dk dt_X11_after 15 rfl) ?_
    refine v_aload_n (pc := 28) h (dk dt_X11_after 16 rfl) rfl ?_
    refine v_getr (pc := 29) h ci11 sh0 (Nat.le_of_ble_eq_true rfl) (j := 0) wF_X11_10 rfl (dk dt_X11_after 17 rfl) ?_
    refine v_iload_n (pc := 32) h (dk dt_X11_after 18 rfl) rfl ?_
    refine v_iload_n (pc := 33) h (dk dt_X11_after 19 rfl) rfl ?_
    refine v_cVi (pc := 34) h (c_X1_letWait h.quiet (by omega) (by omega) (by omega)) kv_X1_letWait sh1 wM_X11_80 rfl rfl (Nat.le_of_ble_eq_true rfl) (RM.of rfl) rfl rfl (dk dt_X11_after 20 rfl) ?_
    rw [e11]
    exact v_iret (pc := 37) h r (dk dt_X11_after 21 rfl) (Nat.le_of_ble_eq_true rfl) (Nat.le_of_ble_eq_true rfl) ⟨by unfold rcAft; rw [if_neg (by omega), if_neg (by omega)], rfl, rfl⟩
  refine v_aload_n (pc := 0) h (dk dt_X11_after 0 rfl) rfl ?_
  refine v_iload_n (pc := 1) h (dk dt_X11_after 1 rfl) rfl ?_
  refine v_callVX (pc := 2) h (c_X11_needJob h.quiet (by omega) (by omega)) kv_X11_needJob sh0 wM_X11_76 rfl rfl (Nat.le_of_ble_eq_true rfl) (RM.of rfl) (dk dt_X11_after 2 rfl) (fun e2 μ2 p2 => ?_) (fun v2 μ2 p2 => ?_)
  ·
    obtain ⟨rfl, rfl, q2⟩ := p2
    exact v_out h r t (Nat.le_of_ble_eq_true rfl) (Nat.le_of_ble_eq_true rfl) ⟨⟨0, by unfold rcAft; rw [if_pos (Or.inl q2)]; rfl, rfl⟩, rfl⟩
  ·
    obtain ⟨rfl, e2, q2⟩ := p2
    rw [e2]
    refine v_aload_n (pc := 5) h (dk dt_X11_after 3 rfl) rfl ?_
    refine v_iload_n (pc := 6) h (dk dt_X11_after 4 rfl) rfl ?_
    refine v_callVX (pc := 7) h (c_X11_needJob h.quiet (by omega) (by omega)) kv_X11_needJob sh0 wM_X11_76 rfl rfl (Nat.le_of_ble_eq_true rfl) (RM.of rfl) (dk dt_X11_after 5 rfl) (fun e7 μ7 p7 => ?_) (fun v7 μ7 p7 => ?_)
    ·
      obtain ⟨rfl, rfl, q7⟩ := p7
      exact v_out h r t (Nat.le_of_ble_eq_true rfl) (Nat.le_of_ble_eq_true rfl) ⟨⟨0, by unfold rcAft; rw [if_pos (Or.inr q7)]; rfl, rfl⟩, rfl⟩
    ·
      obtain ⟨rfl, e7, q7⟩ := p7
      rw [e7]
      refine v_iload_n (pc := 10) h (dk dt_X11_after 6 rfl) rfl ?_
      refine v_iload_n (pc := 11) h (dk dt_X11_after 7 rfl) rfl ?_
      refine v_icmp_lt (pc := 12) h 23 (dk dt_X11_after 8 rfl) rfl (by omega) (fun c12 => ?_) (fun c12 => ?_)
      ·
        exact VV.loc (go23 q2 (by omega)) ⟨rfl, rfl, rfl, trivial⟩
      ·
        exact v_throw (pc := 15) h r t kt_X11_62 (dk dt_X11_after 9 rfl) (dk dt_X11_after 10 rfl) (dk dt_X11_after 11 rfl) (dk dt_X11_after 12 rfl) ⟨Nat.le_of_ble_eq_true rfl, Nat.le_of_ble_eq_true rfl, Nat.le_of_ble_eq_true rfl, Nat.le_of_ble_eq_true rfl⟩ (Nat.le_of_ble_eq_true rfl) (Nat.le_of_ble_eq_true rfl) (Nat.le_of_ble_eq_true rfl) ⟨⟨1, by unfold rcAft; rw [if_neg (by omega), if_pos (by omega)]; rfl, rfl⟩, rfl⟩
theorem c_X11_lock (hst : l.stackTraces = false) (hO : hOK μ) {j y f u : Int} (hj : InR j ∧ InR y) (hf : InR f ∧ InR u) :
    Ct l B D E yX11_lock (.code yX11_lock cX11_lock 5 (some .int)) rm_X11_lock [.ref (pl B 0), iI j, iI y, iI f, iI u] μ (PX (rcLk (μ 1 9) (μ 5) (μ 13) (μ 17) (μ 19) j y f u) (some (iI (μ 13 j.toNat + 1))) (mstretch (mup μ 0 7 0) j.toNat y f u)) (XX (rcLk (μ 1 9) (μ 5) (μ 13) (μ 17) (μ 19) j y f u) [eB, eA, eS] μ) := by
  have hb := hO.J.1
  refine ct_of (own := RX11) (lv := [(0, _), (1, _), (2, _), (3, _), (4, _)]) hst (by decide) rfl rfl (Nat.le_of_ble_eq_true rfl) fun a h r t => ?_
  have go5 : 0 ≤ j ∧ j < μ 1 9 → VV a B (SP B D E μ) 1 6 5 [(0, .ref (pl B 0)), (1, iI j), (2, iI y), (3, iI f), (4, iI u)] [] := by
    intro h1
    obtain ⟨j', rfl⟩ : ∃ k : Nat, j = (k : Int) := ⟨j.toNat, by omega⟩
    have hs := hO.J.2 j' (by omega)
    have e13 : (mup μ 0 7 0) 13 j' = μ 13 j' := mup_nk (by omega)
    have hJ := hO.J
    refine v_iload_n (pc := 5) h (dk dt_X11_lock 3 rfl) rfl ?_
    refine v_iconst (pc := 6) h (dk dt_X11_lock 4 rfl) ?_
    refine v_iconst (pc := 7) h (dk dt_X11_lock 5 rfl) ?_
    refine v_cSi (pc := 8) h (c_X11_isOutside h.quiet (by omega) (by omega)) kv_X11_isOutside wM_X11_58 rfl rfl (Nat.le_of_ble_eq_true rfl) (RM.of rfl) rfl rfl (dk dt_X11_lock 6 rfl) ?_
    refine v_if_eq (pc := 11) h 22 (dk dt_X11_lock 7 rfl) rfl (by split <;> omega) (fun c11 => ?_) (fun c11 => ?_)
    ·
      have d11 : 0 ≤ y ∧ y ≤ 2 := by by_cases q : y < 0 ∨ 2 < y; rw [if_pos q] at c11; omega; omega
      refine v_iload_n (pc := 22) h (dk dt_X11_lock 12 rfl) rfl ?_
      refine v_if_lt (pc := 23) h 62 (dk dt_X11_lock 13 rfl) rfl (by omega) (fun c23 => ?_) (fun c23 => ?_)
      ·
        exact v_throw (pc := 62) h r t kt_X11_62 (dk dt_X11_lock 31 rfl) (dk dt_X11_lock 32 rfl) (dk dt_X11_lock 33 rfl) (dk dt_X11_lock 34 rfl) ⟨Nat.le_of_ble_eq_true rfl, Nat.le_of_ble_eq_true rfl, Nat.le_of_ble_eq_true rfl, Nat.le_of_ble_eq_true rfl⟩ (Nat.le_of_ble_eq_true rfl) (Nat.le_of_ble_eq_true rfl) (Nat.le_of_ble_eq_true rfl) ⟨⟨1, by unfold rcLk; rw [if_neg (by omega), Int.toNat_natCast]; first | (rw [if_pos (Or.inr d59)]; rfl) | (rw [if_pos (Or.inl (by omega))]; rfl), rfl⟩, rfl⟩
      ·
        refine v_iload (pc := 26) h (dk dt_X11_lock 14 rfl) rfl ?_
        refine v_iload_n (pc := 28) h (dk dt_X11_lock 15 rfl) rfl ?_
        refine v_icmp_le (pc := 29) h 62 (dk dt_X11_lock 16 rfl) rfl (by omega) (fun c29 => ?_) (fun c29 => ?_)
        ·
          exact v_throw (pc := 62) h r t kt_X11_62 (dk dt_X11_lock 31 rfl) (dk dt_X11_lock 32 rfl) (dk dt_X11_lock 33 rfl) (dk dt_X11_lock 34 rfl) ⟨Nat.le_of_ble_eq_true rfl, Nat.le_of_ble_eq_true rfl, Nat.le_of_ble_eq_true rfl, Nat.le_of_ble_eq_true rfl⟩ (Nat.le_of_ble_eq_true rfl) (Nat.le_of_ble_eq_true rfl) (Nat.le_of_ble_eq_true rfl) ⟨⟨1, by unfold rcLk; rw [if_neg (by omega), Int.toNat_natCast]; first | (rw [if_pos (Or.inr d59)]; rfl) | (rw [if_pos (Or.inl (by omega))]; rfl), rfl⟩, rfl⟩
        ·
          refine v_iload (pc := 32) h (dk dt_X11_lock 17 rfl) rfl ?_
          refine v_aload_n (pc := 34) h (dk dt_X11_lock 18 rfl) rfl ?_
          refine v_getr (pc := 35) h ci11 sh0 (Nat.le_of_ble_eq_true rfl) (j := 0) wF_X11_10 rfl (dk dt_X11_lock 19 rfl) ?_
          refine v_getr (pc := 38) h ci1 sh1 (Nat.le_of_ble_eq_true rfl) (j := 1) wF_X11_87 rfl (dk dt_X11_lock 20 rfl) ?_
          refine v_iload_n (pc := 41) h (dk dt_X11_lock 21 rfl) rfl ?_
          refine v_cVi (pc := 42) h (c_X7_atn h.quiet jr1 (o1 := 5) rfl (Nat.le_of_ble_eq_true rfl) (by omega)) kv_X7_at jr1.1 wM_X11_91 rfl rfl (Nat.le_of_ble_eq_true rfl) (RM.of rfl) rfl rfl (dk dt_X11_lock 22 rfl) ?_
          refine v_icmp_gt (pc := 45) h 62 (dk dt_X11_lock 23 rfl) rfl (by omega) (fun c45 => ?_) (fun c45 => ?_)
          ·
            exact v_throw (pc := 62) h r t kt_X11_62 (dk dt_X11_lock 31 rfl) (dk dt_X11_lock 32 rfl) (dk dt_X11_lock 33 rfl) (dk dt_X11_lock 34 rfl) ⟨Nat.le_of_ble_eq_true rfl, Nat.le_of_ble_eq_true rfl, Nat.le_of_ble_eq_true rfl, Nat.le_of_ble_eq_true rfl⟩ (Nat.le_of_ble_eq_true rfl) (Nat.le_of_ble_eq_true rfl) (Nat.le_of_ble_eq_true rfl) ⟨⟨1, by unfold rcLk; rw [if_neg (by omega), Int.toNat_natCast]; first | (rw [if_pos (Or.inr d59)]; rfl) | (rw [if_pos (Or.inl (by omega))]; rfl), rfl⟩, rfl⟩
          ·
            refine v_aload_n (pc := 48) h (dk dt_X11_lock 24 rfl) rfl ?_
            refine v_getr (pc := 49) h ci11 sh0 (Nat.le_of_ble_eq_true rfl) (j := 0) wF_X11_10 rfl (dk dt_X11_lock 25 rfl) ?_
            refine v_iload_n (pc := 52) h (dk dt_X11_lock 26 rfl) rfl ?_
            refine v_iload_n (pc := 53) h (dk dt_X11_lock 27 rfl) rfl ?_
            refine v_iload (pc := 54) h (dk dt_X11_lock 28 rfl) rfl ?_
            refine v_cVi (pc := 56) h (c_X1_overlaps h.quiet hJ (by omega) (by omega)) kv_X1_overlaps sh1 wM_X11_97 rfl rfl (Nat.le_of_ble_eq_true rfl) (RM.of rfl) rfl rfl (dk dt_X11_lock 29 rfl) ?_
            refine v_if_eq (pc := 59) h 70 (dk dt_X11_lock 30 rfl) rfl (by split <;> omega) (fun c59 => ?_) (fun c59 => ?_)
            ·
              have d59 : ¬ ovl (μ 13) (μ 17) (μ 19) j' f u := fun q => by rw [if_pos q] at c59; omega
              refine v_aload_n (pc := 70) h (dk dt_X11_lock 35 rfl) rfl ?_
              refine v_getr (pc := 71) h ci11 sh0 (Nat.le_of_ble_eq_true rfl) (j := 0) wF_X11_10 rfl (dk dt_X11_lock 36 rfl) ?_
              refine v_getr (pc := 74) h ci1 sh1 (Nat.le_of_ble_eq_true rfl) (j := 5) wF_X11_100 rfl (dk dt_X11_lock 37 rfl) ?_
              refine v_iload_n (pc := 77) h (dk dt_X11_lock 38 rfl) rfl ?_
              refine v_cVi (pc := 78) h (c_X7_atn h.quiet jr5 (o1 := 13) rfl (Nat.le_of_ble_eq_true rfl) (by omega)) kv_X7_at jr5.1 wM_X11_91 rfl rfl (Nat.le_of_ble_eq_true rfl) (RM.of rfl) rfl rfl (dk dt_X11_lock 39 rfl) ?_
              refine v_iconst (pc := 81) h (dk dt_X11_lock 40 rfl) ?_
              refine v_icmp_lt (pc := 82) h 93 (dk dt_X11_lock 41 rfl) rfl (by omega) (fun c82 => ?_) (fun c82 => ?_)
              ·
                refine v_aload_n (pc := 93) h (dk dt_X11_lock 46 rfl) rfl ?_
                refine v_iconst (pc := 94) h (dk dt_X11_lock 47 rfl) ?_
                refine v_put (pc := 95) h ci11 sh0 (Nat.le_of_ble_eq_true rfl) (j := 7) wF_X11_54 rfl rfl (narZ (by omega)) (fitZ (by omega)) (dk dt_X11_lock 48 rfl) ?_
                refine v_aload_n (pc := 98) h (dk dt_X11_lock 49 rfl) rfl ?_
                refine v_getr (pc := 99) h ci11 sh0 (Nat.le_of_ble_eq_true rfl) (j := 0) wF_X11_10 rfl (dk dt_X11_lock 50 rfl) ?_
                refine v_iload_n (pc := 102) h (dk dt_X11_lock 51 rfl) rfl ?_
                refine v_iload_n (pc := 103) h (dk dt_X11_lock 52 rfl) rfl ?_
                refine v_iload_n (pc := 104) h (dk dt_X11_lock 53 rfl) rfl ?_
                refine v_iload (pc := 105) h (dk dt_X11_lock 54 rfl) rfl ?_
                refine v_cVi (pc := 107) h (c_X1_addStretch h.quiet (by omega) (by omega)) kv_X1_addStretch sh1 wM_X11_103 rfl rfl (Nat.le_of_ble_eq_true rfl) (RM.of rfl) rfl rfl (dk dt_X11_lock 55 rfl) ?_
                rw [e13]
                exact v_iret (pc := 110) h r (dk dt_X11_lock 56 rfl) (Nat.le_of_ble_eq_true rfl) (Nat.le_of_ble_eq_true rfl) ⟨by unfold rcLk; rw [if_neg (by omega), Int.toNat_natCast, if_neg (fun q => by rcases q with q | q; omega; exact d59 q), if_neg (by omega)], rfl, rfl⟩
              ·
                exact v_throw (pc := 85) h r t kt_X11_69 (dk dt_X11_lock 42 rfl) (dk dt_X11_lock 43 rfl) (dk dt_X11_lock 44 rfl) (dk dt_X11_lock 45 rfl) ⟨Nat.le_of_ble_eq_true rfl, Nat.le_of_ble_eq_true rfl, Nat.le_of_ble_eq_true rfl, Nat.le_of_ble_eq_true rfl⟩ (Nat.le_of_ble_eq_true rfl) (Nat.le_of_ble_eq_true rfl) (Nat.le_of_ble_eq_true rfl) ⟨⟨2, by unfold rcLk; rw [if_neg (by omega), Int.toNat_natCast, if_neg (fun q => by rcases q with q | q; omega; exact d59 q), if_pos (by omega)]; rfl, rfl⟩, rfl⟩
            ·
              have d59 : ovl (μ 13) (μ 17) (μ 19) j' f u := by by_cases q : ovl (μ 13) (μ 17) (μ 19) j' f u; exact q; rw [if_neg q] at c59; omega
              exact v_throw (pc := 62) h r t kt_X11_62 (dk dt_X11_lock 31 rfl) (dk dt_X11_lock 32 rfl) (dk dt_X11_lock 33 rfl) (dk dt_X11_lock 34 rfl) ⟨Nat.le_of_ble_eq_true rfl, Nat.le_of_ble_eq_true rfl, Nat.le_of_ble_eq_true rfl, Nat.le_of_ble_eq_true rfl⟩ (Nat.le_of_ble_eq_true rfl) (Nat.le_of_ble_eq_true rfl) (Nat.le_of_ble_eq_true rfl) ⟨⟨1, by unfold rcLk; rw [if_neg (by omega), Int.toNat_natCast]; first | (rw [if_pos (Or.inr d59)]; rfl) | (rw [if_pos (Or.inl (by omega))]; rfl), rfl⟩, rfl⟩
    ·
      have d11 : ¬ (0 ≤ y ∧ y ≤ 2) := fun q => by rw [if_neg (by omega)] at c11; omega
      exact v_throw (pc := 14) h r t kt_X11_84 (dk dt_X11_lock 8 rfl) (dk dt_X11_lock 9 rfl) (dk dt_X11_lock 10 rfl) (dk dt_X11_lock 11 rfl) ⟨Nat.le_of_ble_eq_true rfl, Nat.le_of_ble_eq_true rfl, Nat.le_of_ble_eq_true rfl, Nat.le_of_ble_eq_true rfl⟩ (Nat.le_of_ble_eq_true rfl) (Nat.le_of_ble_eq_true rfl) (Nat.le_of_ble_eq_true rfl) ⟨⟨0, by unfold rcLk; rw [if_pos (by omega)]; rfl, rfl⟩, rfl⟩
  refine v_aload_n (pc := 0) h (dk dt_X11_lock 0 rfl) rfl ?_
  refine v_iload_n (pc := 1) h (dk dt_X11_lock 1 rfl) rfl ?_
  refine v_callVX (pc := 2) h (c_X11_needJob h.quiet (by omega) (by omega)) kv_X11_needJob sh0 wM_X11_76 rfl rfl (Nat.le_of_ble_eq_true rfl) (RM.of rfl) (dk dt_X11_lock 2 rfl) (fun e2 μ2 p2 => ?_) (fun v2 μ2 p2 => ?_)
  ·
    obtain ⟨rfl, rfl, q2⟩ := p2
    exact v_out h r t (Nat.le_of_ble_eq_true rfl) (Nat.le_of_ble_eq_true rfl) ⟨⟨0, by unfold rcLk; rw [if_pos (Or.inl q2)]; rfl, rfl⟩, rfl⟩
  ·
    obtain ⟨rfl, e2, q2⟩ := p2
    rw [e2]
    exact VV.loc (go5 q2) ⟨rfl, rfl, rfl, rfl, rfl, trivial⟩
theorem c_X11_turns (hst : l.stackTraces = false) (hO : hOK μ) {s c ri sd le : Int} (hs : InR s ∧ InR c) (hr : InR ri) (hle : le = 0 ∨ le = 1) :
    Ct l B D E yX11_turns (.code yX11_turns cX11_turns 7 (some .int)) rm_X11_turns [.ref (pl B 0), iI s, iI c, iI ri, iI sd, iI le] μ (PX (rcTn s c ri) (some (iI (μ 27 0))) (mturn μ s c ri sd le)) (XX (rcTn s c ri) [eA] μ) := by
  refine ct_of (own := RX11) (lv := [(0, _), (1, _), (2, _), (3, _), (4, _), (5, _)]) hst (by decide) rfl rfl (Nat.le_of_ble_eq_true rfl) fun a h r t => ?_
  refine v_iload_n (pc := 0) h (dk dt_X11_turns 0 rfl) rfl ?_
  refine v_iconst (pc := 1) h (dk dt_X11_turns 1 rfl) ?_
  refine v_bipush (pc := 2) h (dk dt_X11_turns 2 rfl) rfl ?_
  refine v_cSi (pc := 4) h (c_X11_isOutside h.quiet (by omega) (by omega)) kv_X11_isOutside wM_X11_58 rfl rfl (Nat.le_of_ble_eq_true rfl) (RM.of rfl) rfl rfl (dk dt_X11_turns 3 rfl) ?_
  refine v_if_ne (pc := 7) h 29 (dk dt_X11_turns 4 rfl) rfl (by split <;> omega) (fun c7 => ?_) (fun c7 => ?_)
  ·
    have d7 : ¬ (1 ≤ s ∧ s ≤ 20) := fun q => by rw [if_neg (by omega)] at c7; omega
    exact v_throw (pc := 29) h r t kt_X11_62 (dk dt_X11_turns 15 rfl) (dk dt_X11_turns 16 rfl) (dk dt_X11_turns 17 rfl) (dk dt_X11_turns 18 rfl) ⟨Nat.le_of_ble_eq_true rfl, Nat.le_of_ble_eq_true rfl, Nat.le_of_ble_eq_true rfl, Nat.le_of_ble_eq_true rfl⟩ (Nat.le_of_ble_eq_true rfl) (Nat.le_of_ble_eq_true rfl) (Nat.le_of_ble_eq_true rfl) ⟨⟨0, by unfold rcTn; rw [if_pos (by omega)]; rfl, rfl⟩, rfl⟩
  ·
    have d7 : 1 ≤ s ∧ s ≤ 20 := by by_cases q : s < 1 ∨ 20 < s; rw [if_pos q] at c7; omega; omega
    refine v_iload_n (pc := 10) h (dk dt_X11_turns 5 rfl) rfl ?_
    refine v_iconst (pc := 11) h (dk dt_X11_turns 6 rfl) ?_
    refine v_iconst (pc := 12) h (dk dt_X11_turns 7 rfl) ?_
    refine v_cSi (pc := 13) h (c_X11_isOutside h.quiet (by omega) (by omega)) kv_X11_isOutside wM_X11_58 rfl rfl (Nat.le_of_ble_eq_true rfl) (RM.of rfl) rfl rfl (dk dt_X11_turns 8 rfl) ?_
    refine v_if_ne (pc := 16) h 29 (dk dt_X11_turns 9 rfl) rfl (by split <;> omega) (fun c16 => ?_) (fun c16 => ?_)
    ·
      have d16 : ¬ (0 ≤ c ∧ c ≤ 5) := fun q => by rw [if_neg (by omega)] at c16; omega
      exact v_throw (pc := 29) h r t kt_X11_62 (dk dt_X11_turns 15 rfl) (dk dt_X11_turns 16 rfl) (dk dt_X11_turns 17 rfl) (dk dt_X11_turns 18 rfl) ⟨Nat.le_of_ble_eq_true rfl, Nat.le_of_ble_eq_true rfl, Nat.le_of_ble_eq_true rfl, Nat.le_of_ble_eq_true rfl⟩ (Nat.le_of_ble_eq_true rfl) (Nat.le_of_ble_eq_true rfl) (Nat.le_of_ble_eq_true rfl) ⟨⟨0, by unfold rcTn; rw [if_pos (by omega)]; rfl, rfl⟩, rfl⟩
    ·
      have d16 : 0 ≤ c ∧ c ≤ 5 := by by_cases q : c < 0 ∨ 5 < c; rw [if_pos q] at c16; omega; omega
      refine v_iload_n (pc := 19) h (dk dt_X11_turns 10 rfl) rfl ?_
      refine v_iconst (pc := 20) h (dk dt_X11_turns 11 rfl) ?_
      refine v_bipush (pc := 21) h (dk dt_X11_turns 12 rfl) rfl ?_
      refine v_cSi (pc := 23) h (c_X11_isOutside h.quiet (by omega) (by omega)) kv_X11_isOutside wM_X11_58 rfl rfl (Nat.le_of_ble_eq_true rfl) (RM.of rfl) rfl rfl (dk dt_X11_turns 13 rfl) ?_
      refine v_if_eq (pc := 26) h 37 (dk dt_X11_turns 14 rfl) rfl (by split <;> omega) (fun c26 => ?_) (fun c26 => ?_)
      ·
        have d26 : 0 ≤ ri ∧ ri ≤ 99 := by by_cases q : ri < 0 ∨ 99 < ri; rw [if_pos q] at c26; omega; omega
        refine v_aload_n (pc := 37) h (dk dt_X11_turns 19 rfl) rfl ?_
        refine v_getr (pc := 38) h ci11 sh0 (Nat.le_of_ble_eq_true rfl) (j := 2) wF_X11_26 rfl (dk dt_X11_turns 20 rfl) ?_
        refine v_geti (pc := 41) h ci9 sh27 (Nat.le_of_ble_eq_true rfl) (j := 0) wF_X11_106 rfl (dk dt_X11_turns 21 rfl) ?_
        refine v_istore (lv' := [(6, _), (0, _), (1, _), (2, _), (3, _), (4, _), (5, _)]) (pc := 44) h (dk dt_X11_turns 22 rfl) (Nat.le_of_ble_eq_true rfl) rfl ?_
        refine v_aload_n (pc := 46) h (dk dt_X11_turns 23 rfl) rfl ?_
        refine v_getr (pc := 47) h ci11 sh0 (Nat.le_of_ble_eq_true rfl) (j := 2) wF_X11_26 rfl (dk dt_X11_turns 24 rfl) ?_
        refine v_iload_n (pc := 50) h (dk dt_X11_turns 25 rfl) rfl ?_
        refine v_put (pc := 51) h ci9 sh27 (Nat.le_of_ble_eq_true rfl) (j := 0) wF_X11_106 rfl rfl rfl rfl (dk dt_X11_turns 26 rfl) ?_
        refine v_aload_n (pc := 54) h (dk dt_X11_turns 27 rfl) rfl ?_
        refine v_getr (pc := 55) h ci11 sh0 (Nat.le_of_ble_eq_true rfl) (j := 2) wF_X11_26 rfl (dk dt_X11_turns 28 rfl) ?_
        refine v_iload_n (pc := 58) h (dk dt_X11_turns 29 rfl) rfl ?_
        refine v_put (pc := 59) h ci9 sh27 (Nat.le_of_ble_eq_true rfl) (j := 1) wF_X11_109 rfl rfl rfl rfl (dk dt_X11_turns 30 rfl) ?_
        refine v_aload_n (pc := 62) h (dk dt_X11_turns 31 rfl) rfl ?_
        refine v_getr (pc := 63) h ci11 sh0 (Nat.le_of_ble_eq_true rfl) (j := 2) wF_X11_26 rfl (dk dt_X11_turns 32 rfl) ?_
        refine v_iload_n (pc := 66) h (dk dt_X11_turns 33 rfl) rfl ?_
        refine v_put (pc := 67) h ci9 sh27 (Nat.le_of_ble_eq_true rfl) (j := 2) wF_X11_112 rfl rfl rfl rfl (dk dt_X11_turns 34 rfl) ?_
        refine v_aload_n (pc := 70) h (dk dt_X11_turns 35 rfl) rfl ?_
        refine v_getr (pc := 71) h ci11 sh0 (Nat.le_of_ble_eq_true rfl) (j := 2) wF_X11_26 rfl (dk dt_X11_turns 36 rfl) ?_
        refine v_iload (pc := 74) h (dk dt_X11_turns 37 rfl) rfl ?_
        refine v_put (pc := 76) h ci9 sh27 (Nat.le_of_ble_eq_true rfl) (j := 3) wF_X11_115 rfl rfl rfl rfl (dk dt_X11_turns 38 rfl) ?_
        refine v_aload_n (pc := 79) h (dk dt_X11_turns 39 rfl) rfl ?_
        refine v_getr (pc := 80) h ci11 sh0 (Nat.le_of_ble_eq_true rfl) (j := 2) wF_X11_26 rfl (dk dt_X11_turns 40 rfl) ?_
        refine v_iload (pc := 83) h (dk dt_X11_turns 41 rfl) rfl ?_
        refine v_put (pc := 85) h ci9 sh27 (Nat.le_of_ble_eq_true rfl) (j := 4) wF_X11_118 rfl rfl (narZ hle) (fitZ hle) (dk dt_X11_turns 42 rfl) ?_
        refine v_aload_n (pc := 88) h (dk dt_X11_turns 43 rfl) rfl ?_
        refine v_iconst (pc := 89) h (dk dt_X11_turns 44 rfl) ?_
        refine v_put (pc := 90) h ci11 sh0 (Nat.le_of_ble_eq_true rfl) (j := 7) wF_X11_54 rfl rfl (narZ (by omega)) (fitZ (by omega)) (dk dt_X11_turns 45 rfl) ?_
        refine v_iload (pc := 93) h (dk dt_X11_turns 46 rfl) rfl ?_
        exact v_iret (pc := 95) h r (dk dt_X11_turns 47 rfl) (Nat.le_of_ble_eq_true rfl) (Nat.le_of_ble_eq_true rfl) ⟨by unfold rcTn; rw [if_neg (by omega)], rfl, rfl⟩
      ·
        have d26 : ¬ (0 ≤ ri ∧ ri ≤ 99) := fun q => by rw [if_neg (by omega)] at c26; omega
        exact v_throw (pc := 29) h r t kt_X11_62 (dk dt_X11_turns 15 rfl) (dk dt_X11_turns 16 rfl) (dk dt_X11_turns 17 rfl) (dk dt_X11_turns 18 rfl) ⟨Nat.le_of_ble_eq_true rfl, Nat.le_of_ble_eq_true rfl, Nat.le_of_ble_eq_true rfl, Nat.le_of_ble_eq_true rfl⟩ (Nat.le_of_ble_eq_true rfl) (Nat.le_of_ble_eq_true rfl) (Nat.le_of_ble_eq_true rfl) ⟨⟨0, by unfold rcTn; rw [if_pos (by omega)]; rfl, rfl⟩, rfl⟩
theorem c_X11_clear (hst : l.stackTraces = false) :
    Ct l B D E yX11_clear (.code yX11_clear cX11_clear 2 (some .int)) rm_X11_clear [.ref (pl B 0)] μ (ri (μ 1 9) (mup (mup μ 1 9 0) 0 7 0)) NX := by
  refine ct_of (own := RX11) (lv := [(0, _)]) hst (by decide) rfl rfl (Nat.le_of_ble_eq_true rfl) fun a h r t => ?_
  refine v_aload_n (pc := 0) h (dk dt_X11_clear 0 rfl) rfl ?_
  refine v_getr (pc := 1) h ci11 sh0 (Nat.le_of_ble_eq_true rfl) (j := 0) wF_X11_10 rfl (dk dt_X11_clear 1 rfl) ?_
  refine v_geti (pc := 4) h ci1 sh1 (Nat.le_of_ble_eq_true rfl) (j := 9) wF_X11_65 rfl (dk dt_X11_clear 2 rfl) ?_
  refine v_istore_n (lv' := [(1, _), (0, _)]) (pc := 7) h (dk dt_X11_clear 3 rfl) (Nat.le_of_ble_eq_true rfl) rfl ?_
  refine v_aload_n (pc := 8) h (dk dt_X11_clear 4 rfl) rfl ?_
  refine v_getr (pc := 9) h ci11 sh0 (Nat.le_of_ble_eq_true rfl) (j := 0) wF_X11_10 rfl (dk dt_X11_clear 5 rfl) ?_
  refine v_iconst (pc := 12) h (dk dt_X11_clear 6 rfl) ?_
  refine v_put (pc := 13) h ci1 sh1 (Nat.le_of_ble_eq_true rfl) (j := 9) wF_X11_65 rfl rfl rfl rfl (dk dt_X11_clear 7 rfl) ?_
  refine v_aload_n (pc := 16) h (dk dt_X11_clear 8 rfl) rfl ?_
  refine v_iconst (pc := 17) h (dk dt_X11_clear 9 rfl) ?_
  refine v_put (pc := 18) h ci11 sh0 (Nat.le_of_ble_eq_true rfl) (j := 7) wF_X11_54 rfl rfl (narZ (by omega)) (fitZ (by omega)) (dk dt_X11_clear 10 rfl) ?_
  refine v_iload_n (pc := 21) h (dk dt_X11_clear 11 rfl) rfl ?_
  exact v_iret (pc := 22) h r (dk dt_X11_clear 12 rfl) (Nat.le_of_ble_eq_true rfl) (Nat.le_of_ble_eq_true rfl) ⟨rfl, rfl⟩
theorem c_X11_running (hst : l.stackTraces = false) (hO : hOK μ) {z : Int} (hz : InR z) :
    Ct l B D E yX11_running (.code yX11_running cX11_running 2 (some .int)) rm_X11_running [.ref (pl B 0), iI z] μ (PX (rcM (μ 0 7) z) (some (iI (doF (μ 49) (μ 47 0) z))) μ) (XX (rcM (μ 0 7) z) [eA, eS] μ) := by
  have hrn := hO.h
  refine ct_of (own := RX11) (lv := [(0, _), (1, _)]) hst (by decide) rfl rfl (Nat.le_of_ble_eq_true rfl) fun a h r t => ?_
  refine v_aload_n (pc := 0) h (dk dt_X11_running 0 rfl) rfl ?_
  refine v_iload_n (pc := 1) h (dk dt_X11_running 1 rfl) rfl ?_
  refine v_callVX (pc := 2) h (c_X11_needMoment h.quiet (by omega)) kv_X11_needMoment sh0 wM_X11_134 rfl rfl (Nat.le_of_ble_eq_true rfl) (RM.of rfl) (dk dt_X11_running 2 rfl) (fun e2 μ2 p2 => ?_) (fun v2 μ2 p2 => ?_)
  ·
    obtain ⟨rfl, rfl, q2⟩ := p2
    exact v_out h r t (Nat.le_of_ble_eq_true rfl) (Nat.le_of_ble_eq_true rfl) ⟨⟨0, by unfold rcM; rw [if_pos q2]; rfl, rfl⟩, rfl⟩
  ·
    obtain ⟨rfl, e2, q2⟩ := p2
    rw [e2]
    refine v_aload_n (pc := 5) h (dk dt_X11_running 3 rfl) rfl ?_
    refine v_callVX (pc := 6) h (c_X11_needRun h.quiet hrn) kv_X11_needRun sh0 wM_X11_137 rfl rfl (Nat.le_of_ble_eq_true rfl) (RM.of rfl) (dk dt_X11_running 4 rfl) (fun e6 μ6 p6 => ?_) (fun v6 μ6 p6 => ?_)
    ·
      obtain ⟨rfl, rfl, q6⟩ := p6
      exact v_out h r t (Nat.le_of_ble_eq_true rfl) (Nat.le_of_ble_eq_true rfl) ⟨⟨1, by unfold rcM; rw [if_neg (by omega), if_pos q6]; rfl, rfl⟩, rfl⟩
    ·
      obtain ⟨rfl, e6, q6⟩ := p6
      rw [e6]
      refine v_aload_n (pc := 9) h (dk dt_X11_running 5 rfl) rfl ?_
      refine v_getr (pc := 10) h ci11 sh0 (Nat.le_of_ble_eq_true rfl) (j := 3) wF_X11_35 rfl (dk dt_X11_running 6 rfl) ?_
      refine v_getr (pc := 13) h ci10 hd28 (Nat.le_of_ble_eq_true rfl) (j := 1) wF_X11_125 rfl (dk dt_X11_running 7 rfl) ?_
      refine v_iload_n (pc := 16) h (dk dt_X11_running 8 rfl) rfl ?_
      refine v_cVi (pc := 17) h (c_X0_doingAt h.quiet (W_course W28) (hO.R q6).1 hz) kv_X0_doingAt hd47 wM_X11_140 rfl rfl (Nat.le_of_ble_eq_true rfl) (RM.of rfl) rfl rfl (dk dt_X11_running 9 rfl) ?_
      exact v_iret (pc := 20) h r (dk dt_X11_running 10 rfl) (Nat.le_of_ble_eq_true rfl) (Nat.le_of_ble_eq_true rfl) ⟨by unfold rcM; rw [if_neg (by omega), if_neg (by omega)], rfl, rfl⟩
theorem c_X11_left (hst : l.stackTraces = false) (hO : hOK μ) {j z : Int} (hj : InR j) (hz : InR z) :
    Ct l B D E yX11_left (.code yX11_left cX11_left 3 (some .int)) rm_X11_left [.ref (pl B 0), iI j, iI z] μ (PX (rcL (μ 1 9) (μ 0 7) j z) (some (iI (lfF (μ 5) (μ 49) (μ 47 0) j.toNat z))) μ) (XX (rcL (μ 1 9) (μ 0 7) j z) [eB, eA, eS] μ) := by
  have hb := hO.J.1
  have hrn := hO.h
  refine ct_of (own := RX11) (lv := [(0, _), (1, _), (2, _)]) hst (by decide) rfl rfl (Nat.le_of_ble_eq_true rfl) fun a h r t => ?_
  have go14 : 0 ≤ j ∧ j < μ 1 9 → 0 ≤ z → μ 0 7 = 1 → VV a B (SP B D E μ) 3 18 14 [(0, .ref (pl B 0)), (1, iI j), (2, iI z)] [] := by
    intro h1 h2 h3
    obtain ⟨j', rfl⟩ : ∃ k : Nat, j = (k : Int) := ⟨j.toNat, by omega⟩
    refine v_aload_n (pc := 14) h (dk dt_X11_left 8 rfl) rfl ?_
    refine v_getr (pc := 15) h ci11 sh0 (Nat.le_of_ble_eq_true rfl) (j := 3) wF_X11_35 rfl (dk dt_X11_left 9 rfl) ?_
    refine v_getr (pc := 18) h ci10 hd28 (Nat.le_of_ble_eq_true rfl) (j := 1) wF_X11_125 rfl (dk dt_X11_left 10 rfl) ?_
    refine v_iload_n (pc := 21) h (dk dt_X11_left 11 rfl) rfl ?_
    refine v_iload_n (pc := 22) h (dk dt_X11_left 12 rfl) rfl ?_
    refine v_cVi (pc := 23) h (c_X0_leftOf h.quiet (W_course W28) (hO.R h3).1 (by omega) (by omega)) kv_X0_leftOf hd47 wM_X11_143 rfl rfl (Nat.le_of_ble_eq_true rfl) (RM.of rfl) rfl rfl (dk dt_X11_left 13 rfl) ?_
    exact v_iret (pc := 26) h r (dk dt_X11_left 14 rfl) (Nat.le_of_ble_eq_true rfl) (Nat.le_of_ble_eq_true rfl) ⟨by unfold rcL; rw [if_neg (by omega), if_neg (by omega), if_neg (by omega)], rfl, rfl⟩
  refine v_aload_n (pc := 0) h (dk dt_X11_left 0 rfl) rfl ?_
  refine v_iload_n (pc := 1) h (dk dt_X11_left 1 rfl) rfl ?_
  refine v_callVX (pc := 2) h (c_X11_needJob h.quiet (by omega) (by omega)) kv_X11_needJob sh0 wM_X11_76 rfl rfl (Nat.le_of_ble_eq_true rfl) (RM.of rfl) (dk dt_X11_left 2 rfl) (fun e2 μ2 p2 => ?_) (fun v2 μ2 p2 => ?_)
  ·
    obtain ⟨rfl, rfl, q2⟩ := p2
    exact v_out h r t (Nat.le_of_ble_eq_true rfl) (Nat.le_of_ble_eq_true rfl) ⟨⟨0, by unfold rcL; rw [if_pos q2]; rfl, rfl⟩, rfl⟩
  ·
    obtain ⟨rfl, e2, q2⟩ := p2
    rw [e2]
    refine v_aload_n (pc := 5) h (dk dt_X11_left 3 rfl) rfl ?_
    refine v_iload_n (pc := 6) h (dk dt_X11_left 4 rfl) rfl ?_
    refine v_callVX (pc := 7) h (c_X11_needMoment h.quiet (by omega)) kv_X11_needMoment sh0 wM_X11_134 rfl rfl (Nat.le_of_ble_eq_true rfl) (RM.of rfl) (dk dt_X11_left 5 rfl) (fun e7 μ7 p7 => ?_) (fun v7 μ7 p7 => ?_)
    ·
      obtain ⟨rfl, rfl, q7⟩ := p7
      exact v_out h r t (Nat.le_of_ble_eq_true rfl) (Nat.le_of_ble_eq_true rfl) ⟨⟨1, by unfold rcL; rw [if_neg (by omega), if_pos q7]; rfl, rfl⟩, rfl⟩
    ·
      obtain ⟨rfl, e7, q7⟩ := p7
      rw [e7]
      refine v_aload_n (pc := 10) h (dk dt_X11_left 6 rfl) rfl ?_
      refine v_callVX (pc := 11) h (c_X11_needRun h.quiet hrn) kv_X11_needRun sh0 wM_X11_137 rfl rfl (Nat.le_of_ble_eq_true rfl) (RM.of rfl) (dk dt_X11_left 7 rfl) (fun e11 μ11 p11 => ?_) (fun v11 μ11 p11 => ?_)
      ·
        obtain ⟨rfl, rfl, q11⟩ := p11
        exact v_out h r t (Nat.le_of_ble_eq_true rfl) (Nat.le_of_ble_eq_true rfl) ⟨⟨2, by unfold rcL; rw [if_neg (by omega), if_neg (by omega), if_pos q11]; rfl, rfl⟩, rfl⟩
      ·
        obtain ⟨rfl, e11, q11⟩ := p11
        rw [e11]
        exact VV.loc (go14 q2 q7 q11) ⟨rfl, rfl, rfl, trivial⟩
theorem c_X11_end (hst : l.stackTraces = false) (hO : hOK μ) {j : Int} (hj : InR j) :
    Ct l B D E yX11_end (.code yX11_end cX11_end 2 (some .int)) rm_X11_end [.ref (pl B 0), iI j] μ (PX (rcJ (μ 1 9) (μ 0 7) j) (some (iI (μ 44 j.toNat))) μ) (XX (rcJ (μ 1 9) (μ 0 7) j) [eB, eS] μ) := by
  have hb := hO.J.1
  have hrn := hO.h
  refine ct_of (own := RX11) (lv := [(0, _), (1, _)]) hst (by decide) rfl rfl (Nat.le_of_ble_eq_true rfl) fun a h r t => ?_
  have go9 : 0 ≤ j ∧ j < μ 1 9 → μ 0 7 = 1 → VV a B (SP B D E μ) 2 12 9 [(0, .ref (pl B 0)), (1, iI j)] [] := by
    intro h1 h3
    have hR := hO.R h3
    obtain ⟨j', rfl⟩ : ∃ k : Nat, j = (k : Int) := ⟨j.toNat, by omega⟩
    have hRj := hR.2 j' (by omega)
    have hJj := hO.J.2 j' (by omega)
    refine v_aload_n (pc := 9) h (dk dt_X11_end 5 rfl) rfl ?_
    refine v_getr (pc := 10) h ci11 sh0 (Nat.le_of_ble_eq_true rfl) (j := 3) wF_X11_35 rfl (dk dt_X11_end 6 rfl) ?_
    refine v_getr (pc := 13) h ci10 hd28 (Nat.le_of_ble_eq_true rfl) (j := 0) wF_X11_149 rfl (dk dt_X11_end 7 rfl) ?_
    refine v_getr (pc := 16) h ci6 hd40 (Nat.le_of_ble_eq_true rfl) (j := 1) wF_X11_153 rfl (dk dt_X11_end 8 rfl) ?_
    refine v_iload_n (pc := 19) h (dk dt_X11_end 9 rfl) rfl ?_
    refine v_cVi (pc := 20) h (c_X7_atn h.quiet (P_ends (W_prog W28)) (o1 := 44) rfl (Nat.le_of_ble_eq_true rfl) (by omega)) kv_X7_at (P_ends (W_prog W28)).1 wM_X11_91 rfl rfl (Nat.le_of_ble_eq_true rfl) (RM.of rfl) rfl rfl (dk dt_X11_end 10 rfl) ?_
    exact v_iret (pc := 23) h r (dk dt_X11_end 11 rfl) (Nat.le_of_ble_eq_true rfl) (Nat.le_of_ble_eq_true rfl) ⟨by unfold rcJ; rw [if_neg (by omega), if_neg (by omega)], rfl, rfl⟩
  refine v_aload_n (pc := 0) h (dk dt_X11_end 0 rfl) rfl ?_
  refine v_iload_n (pc := 1) h (dk dt_X11_end 1 rfl) rfl ?_
  refine v_callVX (pc := 2) h (c_X11_needJob h.quiet (by omega) (by omega)) kv_X11_needJob sh0 wM_X11_76 rfl rfl (Nat.le_of_ble_eq_true rfl) (RM.of rfl) (dk dt_X11_end 2 rfl) (fun e2 μ2 p2 => ?_) (fun v2 μ2 p2 => ?_)
  ·
    obtain ⟨rfl, rfl, q2⟩ := p2
    exact v_out h r t (Nat.le_of_ble_eq_true rfl) (Nat.le_of_ble_eq_true rfl) ⟨⟨0, by unfold rcJ; rw [if_pos q2]; rfl, rfl⟩, rfl⟩
  ·
    obtain ⟨rfl, e2, q2⟩ := p2
    rw [e2]
    refine v_aload_n (pc := 5) h (dk dt_X11_end 3 rfl) rfl ?_
    refine v_callVX (pc := 6) h (c_X11_needRun h.quiet hrn) kv_X11_needRun sh0 wM_X11_137 rfl rfl (Nat.le_of_ble_eq_true rfl) (RM.of rfl) (dk dt_X11_end 4 rfl) (fun e6 μ6 p6 => ?_) (fun v6 μ6 p6 => ?_)
    ·
      obtain ⟨rfl, rfl, q6⟩ := p6
      exact v_out h r t (Nat.le_of_ble_eq_true rfl) (Nat.le_of_ble_eq_true rfl) ⟨⟨1, by unfold rcJ; rw [if_neg (by omega), if_pos q6]; rfl, rfl⟩, rfl⟩
    ·
      obtain ⟨rfl, e6, q6⟩ := p6
      rw [e6]
      exact VV.loc (go9 q2 q6) ⟨rfl, rfl, trivial⟩
theorem c_X11_blocked (hst : l.stackTraces = false) (hO : hOK μ) {j : Int} (hj : InR j) :
    Ct l B D E yX11_blocked (.code yX11_blocked cX11_blocked 2 (some .int)) rm_X11_blocked [.ref (pl B 0), iI j] μ (PX (rcJ (μ 1 9) (μ 0 7) j) (some (iI (μ 30 j.toNat))) μ) (XX (rcJ (μ 1 9) (μ 0 7) j) [eB, eS] μ) := by
  have hb := hO.J.1
  have hrn := hO.h
  refine ct_of (own := RX11) (lv := [(0, _), (1, _)]) hst (by decide) rfl rfl (Nat.le_of_ble_eq_true rfl) fun a h r t => ?_
  have go9 : 0 ≤ j ∧ j < μ 1 9 → μ 0 7 = 1 → VV a B (SP B D E μ) 2 12 9 [(0, .ref (pl B 0)), (1, iI j)] [] := by
    intro h1 h3
    have hR := hO.R h3
    obtain ⟨j', rfl⟩ : ∃ k : Nat, j = (k : Int) := ⟨j.toNat, by omega⟩
    have hRj := hR.2 j' (by omega)
    have hJj := hO.J.2 j' (by omega)
    refine v_aload_n (pc := 9) h (dk dt_X11_blocked 5 rfl) rfl ?_
    refine v_getr (pc := 10) h ci11 sh0 (Nat.le_of_ble_eq_true rfl) (j := 3) wF_X11_35 rfl (dk dt_X11_blocked 6 rfl) ?_
    refine v_getr (pc := 13) h ci10 hd28 (Nat.le_of_ble_eq_true rfl) (j := 2) wF_X11_168 rfl (dk dt_X11_blocked 7 rfl) ?_
    refine v_iload_n (pc := 16) h (dk dt_X11_blocked 8 rfl) rfl ?_
    refine v_cVi (pc := 17) h (c_X7_atn h.quiet (W_kept W28) (o1 := 30) rfl (Nat.le_of_ble_eq_true rfl) (by omega)) kv_X7_at (W_kept W28).1 wM_X11_91 rfl rfl (Nat.le_of_ble_eq_true rfl) (RM.of rfl) rfl rfl (dk dt_X11_blocked 9 rfl) ?_
    exact v_iret (pc := 20) h r (dk dt_X11_blocked 10 rfl) (Nat.le_of_ble_eq_true rfl) (Nat.le_of_ble_eq_true rfl) ⟨by unfold rcJ; rw [if_neg (by omega), if_neg (by omega)], rfl, rfl⟩
  refine v_aload_n (pc := 0) h (dk dt_X11_blocked 0 rfl) rfl ?_
  refine v_iload_n (pc := 1) h (dk dt_X11_blocked 1 rfl) rfl ?_
  refine v_callVX (pc := 2) h (c_X11_needJob h.quiet (by omega) (by omega)) kv_X11_needJob sh0 wM_X11_76 rfl rfl (Nat.le_of_ble_eq_true rfl) (RM.of rfl) (dk dt_X11_blocked 2 rfl) (fun e2 μ2 p2 => ?_) (fun v2 μ2 p2 => ?_)
  ·
    obtain ⟨rfl, rfl, q2⟩ := p2
    exact v_out h r t (Nat.le_of_ble_eq_true rfl) (Nat.le_of_ble_eq_true rfl) ⟨⟨0, by unfold rcJ; rw [if_pos q2]; rfl, rfl⟩, rfl⟩
  ·
    obtain ⟨rfl, e2, q2⟩ := p2
    rw [e2]
    refine v_aload_n (pc := 5) h (dk dt_X11_blocked 3 rfl) rfl ?_
    refine v_callVX (pc := 6) h (c_X11_needRun h.quiet hrn) kv_X11_needRun sh0 wM_X11_137 rfl rfl (Nat.le_of_ble_eq_true rfl) (RM.of rfl) (dk dt_X11_blocked 4 rfl) (fun e6 μ6 p6 => ?_) (fun v6 μ6 p6 => ?_)
    ·
      obtain ⟨rfl, rfl, q6⟩ := p6
      exact v_out h r t (Nat.le_of_ble_eq_true rfl) (Nat.le_of_ble_eq_true rfl) ⟨⟨1, by unfold rcJ; rw [if_neg (by omega), if_pos q6]; rfl, rfl⟩, rfl⟩
    ·
      obtain ⟨rfl, e6, q6⟩ := p6
      rw [e6]
      exact VV.loc (go9 q2 q6) ⟨rfl, rfl, trivial⟩
theorem c_X11_late (hst : l.stackTraces = false) (hO : hOK μ) {j : Int} (hj : InR j) :
    Ct l B D E yX11_late (.code yX11_late cX11_late 2 (some .int)) rm_X11_late [.ref (pl B 0), iI j] μ (PX (rcJ (μ 1 9) (μ 0 7) j) (some (iI (lat (μ 7 j.toNat) (μ 44 j.toNat)))) μ) (XX (rcJ (μ 1 9) (μ 0 7) j) [eB, eS] μ) := by
  have hb := hO.J.1
  have hrn := hO.h
  refine ct_of (own := RX11) (lv := [(0, _), (1, _)]) hst (by decide) rfl rfl (Nat.le_of_ble_eq_true rfl) fun a h r t => ?_
  have go9 : 0 ≤ j ∧ j < μ 1 9 → μ 0 7 = 1 → VV a B (SP B D E μ) 2 12 9 [(0, .ref (pl B 0)), (1, iI j)] [] := by
    intro h1 h3
    have hR := hO.R h3
    obtain ⟨j', rfl⟩ : ∃ k : Nat, j = (k : Int) := ⟨j.toNat, by omega⟩
    have hRj := hR.2 j' (by omega)
    have hJj := hO.J.2 j' (by omega)
    refine v_aload_n (pc := 9) h (dk dt_X11_late 5 rfl) rfl ?_
    refine v_getr (pc := 10) h ci11 sh0 (Nat.le_of_ble_eq_true rfl) (j := 3) wF_X11_35 rfl (dk dt_X11_late 6 rfl) ?_
    refine v_getr (pc := 13) h ci10 hd28 (Nat.le_of_ble_eq_true rfl) (j := 0) wF_X11_149 rfl (dk dt_X11_late 7 rfl) ?_
    refine v_iload_n (pc := 16) h (dk dt_X11_late 8 rfl) rfl ?_
    refine v_cVi (pc := 17) h (c_X6_lateness (g := 40) h.quiet (W_prog W28) (by omega) (show 0 ≤ μ 44 j' ∧ μ 44 j' ≤ 4000 by omega) (by omega)) kv_X6_lateness hd40 wM_X11_171 rfl rfl (Nat.le_of_ble_eq_true rfl) (RM.of rfl) rfl rfl (dk dt_X11_late 9 rfl) ?_
    exact v_iret (pc := 20) h r (dk dt_X11_late 10 rfl) (Nat.le_of_ble_eq_true rfl) (Nat.le_of_ble_eq_true rfl) ⟨by unfold rcJ; rw [if_neg (by omega), if_neg (by omega)], rfl, rfl⟩
  refine v_aload_n (pc := 0) h (dk dt_X11_late 0 rfl) rfl ?_
  refine v_iload_n (pc := 1) h (dk dt_X11_late 1 rfl) rfl ?_
  refine v_callVX (pc := 2) h (c_X11_needJob h.quiet (by omega) (by omega)) kv_X11_needJob sh0 wM_X11_76 rfl rfl (Nat.le_of_ble_eq_true rfl) (RM.of rfl) (dk dt_X11_late 2 rfl) (fun e2 μ2 p2 => ?_) (fun v2 μ2 p2 => ?_)
  ·
    obtain ⟨rfl, rfl, q2⟩ := p2
    exact v_out h r t (Nat.le_of_ble_eq_true rfl) (Nat.le_of_ble_eq_true rfl) ⟨⟨0, by unfold rcJ; rw [if_pos q2]; rfl, rfl⟩, rfl⟩
  ·
    obtain ⟨rfl, e2, q2⟩ := p2
    rw [e2]
    refine v_aload_n (pc := 5) h (dk dt_X11_late 3 rfl) rfl ?_
    refine v_callVX (pc := 6) h (c_X11_needRun h.quiet hrn) kv_X11_needRun sh0 wM_X11_137 rfl rfl (Nat.le_of_ble_eq_true rfl) (RM.of rfl) (dk dt_X11_late 4 rfl) (fun e6 μ6 p6 => ?_) (fun v6 μ6 p6 => ?_)
    ·
      obtain ⟨rfl, rfl, q6⟩ := p6
      exact v_out h r t (Nat.le_of_ble_eq_true rfl) (Nat.le_of_ble_eq_true rfl) ⟨⟨1, by unfold rcJ; rw [if_neg (by omega), if_pos q6]; rfl, rfl⟩, rfl⟩
    ·
      obtain ⟨rfl, e6, q6⟩ := p6
      rw [e6]
      exact VV.loc (go9 q2 q6) ⟨rfl, rfl, trivial⟩
theorem c_X11_waits (hst : l.stackTraces = false) (hO : hOK μ) {j : Int} (hj : InR j) :
    Ct l B D E yX11_waits (.code yX11_waits cX11_waits 2 (some .int)) rm_X11_waits [.ref (pl B 0), iI j] μ (PX (rcJ (μ 1 9) (μ 0 7) j) (some (iI (gapJ (μ 49) (j.toNat : Int) ((μ 47 0).toNat - (μ 46 j.toNat).toNat) (μ 46 j.toNat).toNat ((μ 46 j.toNat).toNat : Int) 0))) μ) (XX (rcJ (μ 1 9) (μ 0 7) j) [eB, eS] μ) := by
  have hb := hO.J.1
  have hrn := hO.h
  refine ct_of (own := RX11) (lv := [(0, _), (1, _)]) hst (by decide) rfl rfl (Nat.le_of_ble_eq_true rfl) fun a h r t => ?_
  have go9 : 0 ≤ j ∧ j < μ 1 9 → μ 0 7 = 1 → VV a B (SP B D E μ) 2 12 9 [(0, .ref (pl B 0)), (1, iI j)] [] := by
    intro h1 h3
    have hR := hO.R h3
    obtain ⟨j', rfl⟩ : ∃ k : Nat, j = (k : Int) := ⟨j.toNat, by omega⟩
    have hRj := hR.2 j' (by omega)
    have hJj := hO.J.2 j' (by omega)
    refine v_aload_n (pc := 9) h (dk dt_X11_waits 5 rfl) rfl ?_
    refine v_getr (pc := 10) h ci11 sh0 (Nat.le_of_ble_eq_true rfl) (j := 3) wF_X11_35 rfl (dk dt_X11_waits 6 rfl) ?_
    refine v_getr (pc := 13) h ci10 hd28 (Nat.le_of_ble_eq_true rfl) (j := 1) wF_X11_125 rfl (dk dt_X11_waits 7 rfl) ?_
    refine v_iload_n (pc := 16) h (dk dt_X11_waits 8 rfl) rfl ?_
    refine v_aload_n (pc := 17) h (dk dt_X11_waits 9 rfl) rfl ?_
    refine v_getr (pc := 18) h ci11 sh0 (Nat.le_of_ble_eq_true rfl) (j := 3) wF_X11_35 rfl (dk dt_X11_waits 10 rfl) ?_
    refine v_getr (pc := 21) h ci10 hd28 (Nat.le_of_ble_eq_true rfl) (j := 0) wF_X11_149 rfl (dk dt_X11_waits 11 rfl) ?_
    refine v_getr (pc := 24) h ci6 hd40 (Nat.le_of_ble_eq_true rfl) (j := 2) wF_X11_162 rfl (dk dt_X11_waits 12 rfl) ?_
    refine v_iload_n (pc := 27) h (dk dt_X11_waits 13 rfl) rfl ?_
    refine v_cVi (pc := 28) h (c_X7_atn h.quiet (P_since (W_prog W28)) (o1 := 46) rfl (Nat.le_of_ble_eq_true rfl) (by omega)) kv_X7_at (P_since (W_prog W28)).1 wM_X11_91 rfl rfl (Nat.le_of_ble_eq_true rfl) (RM.of rfl) rfl rfl (dk dt_X11_waits 14 rfl) ?_
    rw [show μ 46 j' = (((μ 46 j').toNat : Nat) : Int) by omega]
    refine v_cVi (pc := 31) h (c_X0_longestGap h.quiet (W_course W28) hR.1 (by omega) (by omega)) kv_X0_longestGap hd47 wM_X11_165 rfl rfl (Nat.le_of_ble_eq_true rfl) (RM.of rfl) rfl rfl (dk dt_X11_waits 15 rfl) ?_
    exact v_iret (pc := 34) h r (dk dt_X11_waits 16 rfl) (Nat.le_of_ble_eq_true rfl) (Nat.le_of_ble_eq_true rfl) ⟨by unfold rcJ; rw [if_neg (by omega), if_neg (by omega)], rfl, rfl⟩
  refine v_aload_n (pc := 0) h (dk dt_X11_waits 0 rfl) rfl ?_
  refine v_iload_n (pc := 1) h (dk dt_X11_waits 1 rfl) rfl ?_
  refine v_callVX (pc := 2) h (c_X11_needJob h.quiet (by omega) (by omega)) kv_X11_needJob sh0 wM_X11_76 rfl rfl (Nat.le_of_ble_eq_true rfl) (RM.of rfl) (dk dt_X11_waits 2 rfl) (fun e2 μ2 p2 => ?_) (fun v2 μ2 p2 => ?_)
  ·
    obtain ⟨rfl, rfl, q2⟩ := p2
    exact v_out h r t (Nat.le_of_ble_eq_true rfl) (Nat.le_of_ble_eq_true rfl) ⟨⟨0, by unfold rcJ; rw [if_pos q2]; rfl, rfl⟩, rfl⟩
  ·
    obtain ⟨rfl, e2, q2⟩ := p2
    rw [e2]
    refine v_aload_n (pc := 5) h (dk dt_X11_waits 3 rfl) rfl ?_
    refine v_callVX (pc := 6) h (c_X11_needRun h.quiet hrn) kv_X11_needRun sh0 wM_X11_137 rfl rfl (Nat.le_of_ble_eq_true rfl) (RM.of rfl) (dk dt_X11_waits 4 rfl) (fun e6 μ6 p6 => ?_) (fun v6 μ6 p6 => ?_)
    ·
      obtain ⟨rfl, rfl, q6⟩ := p6
      exact v_out h r t (Nat.le_of_ble_eq_true rfl) (Nat.le_of_ble_eq_true rfl) ⟨⟨1, by unfold rcJ; rw [if_neg (by omega), if_pos q6]; rfl, rfl⟩, rfl⟩
    ·
      obtain ⟨rfl, e6, q6⟩ := p6
      rw [e6]
      exact VV.loc (go9 q2 q6) ⟨rfl, rfl, trivial⟩
theorem c_X11_sumOfEnds (hst : l.stackTraces = false) (hO : hOK μ) (hn : μ 1 9 = (n : Int)) :
    Ct l B D E yX11_sumOfEnds (.code yX11_sumOfEnds cX11_sumOfEnds 1 (some .int)) rm_X11_sumOfEnds [.ref (pl B 0)] μ (PX (rcN (μ 0 7)) (some (iI (smF (μ 44) n))) μ) (XX (rcN (μ 0 7)) [eS] μ) := by
  have hb := hO.J.1
  have hrn := hO.h
  refine ct_of (own := RX11) (lv := [(0, _)]) hst (by decide) rfl rfl (Nat.le_of_ble_eq_true rfl) fun a h r t => ?_
  refine v_aload_n (pc := 0) h (dk dt_X11_sumOfEnds 0 rfl) rfl ?_
  refine v_callVX (pc := 1) h (c_X11_needRun h.quiet hrn) kv_X11_needRun sh0 wM_X11_137 rfl rfl (Nat.le_of_ble_eq_true rfl) (RM.of rfl) (dk dt_X11_sumOfEnds 1 rfl) (fun e1 μ1 p1 => ?_) (fun v1 μ1 p1 => ?_)
  ·
    obtain ⟨rfl, rfl, q1⟩ := p1
    exact v_out h r t (Nat.le_of_ble_eq_true rfl) (Nat.le_of_ble_eq_true rfl) ⟨⟨0, by unfold rcN; rw [if_pos q1]; rfl, rfl⟩, rfl⟩
  ·
    obtain ⟨rfl, e1, q1⟩ := p1
    rw [e1]
    refine v_aload_n (pc := 4) h (dk dt_X11_sumOfEnds 2 rfl) rfl ?_
    refine v_getr (pc := 5) h ci11 sh0 (Nat.le_of_ble_eq_true rfl) (j := 3) wF_X11_35 rfl (dk dt_X11_sumOfEnds 3 rfl) ?_
    refine v_getr (pc := 8) h ci10 hd28 (Nat.le_of_ble_eq_true rfl) (j := 0) wF_X11_149 rfl (dk dt_X11_sumOfEnds 4 rfl) ?_
    refine v_cVi (pc := 11) h (c_X6_endsTogether h.quiet (W_prog W28) hO.J hn (fun j hj => by have := (hO.R q1).2 j (by omega); have := (hO.J.2 j (by omega)).1; show 0 ≤ μ 44 j ∧ μ 44 j ≤ 4000; omega)) kv_X6_endsTogether hd40 wM_X11_158 rfl rfl (Nat.le_of_ble_eq_true rfl) (RM.of rfl) rfl rfl (dk dt_X11_sumOfEnds 5 rfl) ?_
    exact v_iret (pc := 14) h r (dk dt_X11_sumOfEnds 6 rfl) (Nat.le_of_ble_eq_true rfl) (Nat.le_of_ble_eq_true rfl) ⟨by unfold rcN; rw [if_neg (by omega)], rfl, rfl⟩
theorem c_X11_checksum (hst : l.stackTraces = false) (hO : hOK μ) :
    Ct l B D E yX11_checksum (.code yX11_checksum cX11_checksum 3 (some .int)) rm_X11_checksum [.ref (pl B 0)] μ (PX (rcN (μ 0 7)) (some (iI (ckS (μ 49) (μ 47 0).toNat))) μ) (XX (rcN (μ 0 7)) [eS] μ) := by
  have hb := hO.J.1
  have hrn := hO.h
  refine ct_of (own := RX11) (lv := [(0, _)]) hst (by decide) rfl rfl (Nat.le_of_ble_eq_true rfl) fun a h r t => ?_
  have loop : μ 0 7 = 1 → ∀ (d i : Nat), i + d = (μ 47 0).toNat → VV a B (SP B D E μ) 1 6 8 [(2, iI (i : Int)), (1, iI (ckS (μ 49) i)), (0, .ref (pl B 0))] [] := by
    intro h1 d
    have hR := hO.R h1
    have hc := hR.1.1
    induction d with
    | zero =>
      intro i hi
      refine v_iload_n (pc := 8) h (dk dt_X11_checksum 6 rfl) rfl ?_
      refine v_aload_n (pc := 9) h (dk dt_X11_checksum 7 rfl) rfl ?_
      refine v_getr (pc := 10) h ci11 sh0 (Nat.le_of_ble_eq_true rfl) (j := 3) wF_X11_35 rfl (dk dt_X11_checksum 8 rfl) ?_
      refine v_getr (pc := 13) h ci10 hd28 (Nat.le_of_ble_eq_true rfl) (j := 1) wF_X11_125 rfl (dk dt_X11_checksum 9 rfl) ?_
      refine v_geti (pc := 16) h ci0 hd47 (Nat.le_of_ble_eq_true rfl) (j := 0) wF_X11_129 rfl (dk dt_X11_checksum 10 rfl) ?_
      refine v_icmp_ge (pc := 19) h 47 (dk dt_X11_checksum 11 rfl) rfl (by omega) (fun c19 => ?_) (fun c19 => ?_)
      ·
        refine v_iload_n (pc := 47) h (dk dt_X11_checksum 26 rfl) rfl ?_
        exact v_iret (pc := 48) h r (dk dt_X11_checksum 27 rfl) (Nat.le_of_ble_eq_true rfl) (Nat.le_of_ble_eq_true rfl) ⟨by unfold rcN; rw [if_neg (by omega)], by rw [show (μ 47 0).toNat = i by omega], rfl⟩
      ·
        exact absurd c19 (by omega)
    | succ d ih =>
      intro i hi
      have e : doF (μ 49) (μ 47 0) (i : Int) = μ 49 i := by unfold doF; rw [if_pos (by omega), Int.toNat_natCast]
      refine v_iload_n (pc := 8) h (dk dt_X11_checksum 6 rfl) rfl ?_
      refine v_aload_n (pc := 9) h (dk dt_X11_checksum 7 rfl) rfl ?_
      refine v_getr (pc := 10) h ci11 sh0 (Nat.le_of_ble_eq_true rfl) (j := 3) wF_X11_35 rfl (dk dt_X11_checksum 8 rfl) ?_
      refine v_getr (pc := 13) h ci10 hd28 (Nat.le_of_ble_eq_true rfl) (j := 1) wF_X11_125 rfl (dk dt_X11_checksum 9 rfl) ?_
      refine v_geti (pc := 16) h ci0 hd47 (Nat.le_of_ble_eq_true rfl) (j := 0) wF_X11_129 rfl (dk dt_X11_checksum 10 rfl) ?_
      refine v_icmp_ge (pc := 19) h 47 (dk dt_X11_checksum 11 rfl) rfl (by omega) (fun c19 => ?_) (fun c19 => ?_)
      ·
        exact absurd c19 (by omega)
      ·
        refine v_bipush (pc := 22) h (dk dt_X11_checksum 12 rfl) rfl ?_
        refine v_iload_n (pc := 24) h (dk dt_X11_checksum 13 rfl) rfl ?_
        refine v_imul (pc := 25) h (dk dt_X11_checksum 14 rfl) ?_
        refine v_iconst (pc := 26) h (dk dt_X11_checksum 15 rfl) ?_
        refine v_iadd (pc := 27) h (dk dt_X11_checksum 16 rfl) ?_
        refine v_aload_n (pc := 28) h (dk dt_X11_checksum 17 rfl) rfl ?_
        refine v_getr (pc := 29) h ci11 sh0 (Nat.le_of_ble_eq_true rfl) (j := 3) wF_X11_35 rfl (dk dt_X11_checksum 18 rfl) ?_
        refine v_getr (pc := 32) h ci10 hd28 (Nat.le_of_ble_eq_true rfl) (j := 1) wF_X11_125 rfl (dk dt_X11_checksum 19 rfl) ?_
        refine v_iload_n (pc := 35) h (dk dt_X11_checksum 20 rfl) rfl ?_
        refine v_cVi (pc := 36) h (c_X0_doingAt h.quiet (W_course W28) hR.1 (by omega)) kv_X0_doingAt hd47 wM_X11_140 rfl rfl (Nat.le_of_ble_eq_true rfl) (RM.of rfl) rfl rfl (dk dt_X11_checksum 21 rfl) ?_
        rw [e]
        refine v_iadd (pc := 39) h (dk dt_X11_checksum 22 rfl) ?_
        refine v_istore_n (lv' := [(1, _), (2, _), (0, _)]) (pc := 40) h (dk dt_X11_checksum 23 rfl) (Nat.le_of_ble_eq_true rfl) rfl ?_
        refine v_iinc (lv' := [(2, _), (1, _), (0, _)]) (pc := 41) h (dk dt_X11_checksum 24 rfl) rfl (Nat.le_of_ble_eq_true rfl) rfl ?_
        refine v_goto (pc := 44) h 8 (dk dt_X11_checksum 25 rfl) rfl ?_
        exact VV.loc (ih (i + 1) (by omega)) ⟨rfl, rfl, rfl, trivial⟩
  refine v_aload_n (pc := 0) h (dk dt_X11_checksum 0 rfl) rfl ?_
  refine v_callVX (pc := 1) h (c_X11_needRun h.quiet hrn) kv_X11_needRun sh0 wM_X11_137 rfl rfl (Nat.le_of_ble_eq_true rfl) (RM.of rfl) (dk dt_X11_checksum 1 rfl) (fun e1 μ1 p1 => ?_) (fun v1 μ1 p1 => ?_)
  ·
    obtain ⟨rfl, rfl, q1⟩ := p1
    exact v_out h r t (Nat.le_of_ble_eq_true rfl) (Nat.le_of_ble_eq_true rfl) ⟨⟨0, by unfold rcN; rw [if_pos q1]; rfl, rfl⟩, rfl⟩
  ·
    obtain ⟨rfl, e1, q1⟩ := p1
    rw [e1]
    refine v_iconst (pc := 4) h (dk dt_X11_checksum 2 rfl) ?_
    refine v_istore_n (lv' := [(1, _), (0, _)]) (pc := 5) h (dk dt_X11_checksum 3 rfl) (Nat.le_of_ble_eq_true rfl) rfl ?_
    refine v_iconst (pc := 6) h (dk dt_X11_checksum 4 rfl) ?_
    refine v_istore_n (lv' := [(2, _), (1, _), (0, _)]) (pc := 7) h (dk dt_X11_checksum 5 rfl) (Nat.le_of_ble_eq_true rfl) rfl ?_
    exact VV.loc (loop q1 (μ 47 0).toNat 0 (by omega)) ⟨rfl, rfl, rfl, trivial⟩
theorem c_X11_work (hst : l.stackTraces = false) (hO : hOK μ) (hn : μ 1 9 = (n : Int)) {z : Int} (hz : InR z) :
    Ct l B D E yX11_work (.code yX11_work cX11_work 4 (some .int)) rm_X11_work [.ref (pl B 0), iI z] μ (PX (rcM (μ 0 7) z) (some (iI (wkS (μ 3) (μ 5) (μ 49) (μ 47 0) z n))) μ) (XX (rcM (μ 0 7) z) [eA, eS] μ) := by
  have hb := hO.J.1
  have hrn := hO.h
  refine ct_of (own := RX11) (lv := [(0, _), (1, _)]) hst (by decide) rfl rfl (Nat.le_of_ble_eq_true rfl) fun a h r t => ?_
  have loop : μ 0 7 = 1 → 0 ≤ z → ∀ (d i : Nat), i + d = n → VV a B (SP B D E μ) 2 12 13 [(3, iI (i : Int)), (2, iI (wkS (μ 3) (μ 5) (μ 49) (μ 47 0) z i)), (0, .ref (pl B 0)), (1, iI z)] [] := by
    intro h1 h0 d
    have hR := hO.R h1
    have hc := hR.1.1
    induction d with
    | zero =>
      intro i hi
      refine v_iload_n (pc := 13) h (dk dt_X11_work 9 rfl) rfl ?_
      refine v_aload_n (pc := 14) h (dk dt_X11_work 10 rfl) rfl ?_
      refine v_getr (pc := 15) h ci11 sh0 (Nat.le_of_ble_eq_true rfl) (j := 0) wF_X11_10 rfl (dk dt_X11_work 11 rfl) ?_
      refine v_geti (pc := 18) h ci1 sh1 (Nat.le_of_ble_eq_true rfl) (j := 9) wF_X11_65 rfl (dk dt_X11_work 12 rfl) ?_
      refine v_icmp_ge (pc := 21) h 60 (dk dt_X11_work 13 rfl) rfl (by omega) (fun c21 => ?_) (fun c21 => ?_)
      ·
        refine v_iload_n (pc := 60) h (dk dt_X11_work 32 rfl) rfl ?_
        exact v_iret (pc := 61) h r (dk dt_X11_work 33 rfl) (Nat.le_of_ble_eq_true rfl) (Nat.le_of_ble_eq_true rfl) ⟨by unfold rcM; rw [if_neg (by omega), if_neg (by omega)], by rw [show n = i by omega], rfl⟩
      ·
        exact absurd c21 (by omega)
    | succ d ih =>
      intro i hi
      have hJ := hO.J.2 i (by omega)
      have hl := lfF_b (lg := μ 49) (ln := μ 5) (T := μ 47 0) (j := i) hJ.2.1 hc h0
      have eN : ¬ μ 3 i ≤ z → wkS (μ 3) (μ 5) (μ 49) (μ 47 0) z (i + 1) = wkS (μ 3) (μ 5) (μ 49) (μ 47 0) z i := fun q => by rw [wkS, if_neg q, Int.add_zero]
      have eY : μ 3 i ≤ z → wkS (μ 3) (μ 5) (μ 49) (μ 47 0) z (i + 1) = wkS (μ 3) (μ 5) (μ 49) (μ 47 0) z i + lfF (μ 5) (μ 49) (μ 47 0) i z := fun q => by rw [wkS, if_pos q]
      refine v_iload_n (pc := 13) h (dk dt_X11_work 9 rfl) rfl ?_
      refine v_aload_n (pc := 14) h (dk dt_X11_work 10 rfl) rfl ?_
      refine v_getr (pc := 15) h ci11 sh0 (Nat.le_of_ble_eq_true rfl) (j := 0) wF_X11_10 rfl (dk dt_X11_work 11 rfl) ?_
      refine v_geti (pc := 18) h ci1 sh1 (Nat.le_of_ble_eq_true rfl) (j := 9) wF_X11_65 rfl (dk dt_X11_work 12 rfl) ?_
      refine v_icmp_ge (pc := 21) h 60 (dk dt_X11_work 13 rfl) rfl (by omega) (fun c21 => ?_) (fun c21 => ?_)
      ·
        exact absurd c21 (by omega)
      ·
        refine v_aload_n (pc := 24) h (dk dt_X11_work 14 rfl) rfl ?_
        refine v_getr (pc := 25) h ci11 sh0 (Nat.le_of_ble_eq_true rfl) (j := 0) wF_X11_10 rfl (dk dt_X11_work 15 rfl) ?_
        refine v_getr (pc := 28) h ci1 sh1 (Nat.le_of_ble_eq_true rfl) (j := 0) wF_X11_146 rfl (dk dt_X11_work 16 rfl) ?_
        refine v_iload_n (pc := 31) h (dk dt_X11_work 17 rfl) rfl ?_
        refine v_cVi (pc := 32) h (c_X7_atn h.quiet jr0 (o1 := 3) rfl (Nat.le_of_ble_eq_true rfl) (by omega)) kv_X7_at jr0.1 wM_X11_91 rfl rfl (Nat.le_of_ble_eq_true rfl) (RM.of rfl) rfl rfl (dk dt_X11_work 18 rfl) ?_
        refine v_iload_n (pc := 35) h (dk dt_X11_work 19 rfl) rfl ?_
        refine v_icmp_gt (pc := 36) h 54 (dk dt_X11_work 20 rfl) rfl (by omega) (fun c36 => ?_) (fun c36 => ?_)
        ·
          refine v_iinc (lv' := [(3, _), (2, _), (0, _), (1, _)]) (pc := 54) h (dk dt_X11_work 30 rfl) rfl (Nat.le_of_ble_eq_true rfl) rfl ?_
          refine v_goto (pc := 57) h 13 (dk dt_X11_work 31 rfl) rfl ?_
          first
            | exact VV.loc (lv' := [(3, _), (2, _), (0, _), (1, _)]) (ih (i + 1) (by omega)) ⟨rfl, lvI (eN (by omega)).symm, rfl, rfl, trivial⟩
            | exact VV.loc (lv' := [(3, _), (2, _), (0, _), (1, _)]) (ih (i + 1) (by omega)) ⟨rfl, lvI (eY (by omega)).symm, rfl, rfl, trivial⟩
        ·
          refine v_iload_n (pc := 39) h (dk dt_X11_work 21 rfl) rfl ?_
          refine v_aload_n (pc := 40) h (dk dt_X11_work 22 rfl) rfl ?_
          refine v_getr (pc := 41) h ci11 sh0 (Nat.le_of_ble_eq_true rfl) (j := 3) wF_X11_35 rfl (dk dt_X11_work 23 rfl) ?_
          refine v_getr (pc := 44) h ci10 hd28 (Nat.le_of_ble_eq_true rfl) (j := 1) wF_X11_125 rfl (dk dt_X11_work 24 rfl) ?_
          refine v_iload_n (pc := 47) h (dk dt_X11_work 25 rfl) rfl ?_
          refine v_iload_n (pc := 48) h (dk dt_X11_work 26 rfl) rfl ?_
          refine v_cVi (pc := 49) h (c_X0_leftOf h.quiet (W_course W28) hR.1 (by omega) (by omega)) kv_X0_leftOf hd47 wM_X11_143 rfl rfl (Nat.le_of_ble_eq_true rfl) (RM.of rfl) rfl rfl (dk dt_X11_work 27 rfl) ?_
          refine v_iadd (pc := 52) h (dk dt_X11_work 28 rfl) ?_
          refine v_istore_n (lv' := [(2, _), (3, _), (0, _), (1, _)]) (pc := 53) h (dk dt_X11_work 29 rfl) (Nat.le_of_ble_eq_true rfl) rfl ?_
          refine v_iinc (lv' := [(3, _), (2, _), (0, _), (1, _)]) (pc := 54) h (dk dt_X11_work 30 rfl) rfl (Nat.le_of_ble_eq_true rfl) rfl ?_
          refine v_goto (pc := 57) h 13 (dk dt_X11_work 31 rfl) rfl ?_
          first
            | exact VV.loc (lv' := [(3, _), (2, _), (0, _), (1, _)]) (ih (i + 1) (by omega)) ⟨rfl, lvI (eN (by omega)).symm, rfl, rfl, trivial⟩
            | exact VV.loc (lv' := [(3, _), (2, _), (0, _), (1, _)]) (ih (i + 1) (by omega)) ⟨rfl, lvI (eY (by omega)).symm, rfl, rfl, trivial⟩
  refine v_aload_n (pc := 0) h (dk dt_X11_work 0 rfl) rfl ?_
  refine v_iload_n (pc := 1) h (dk dt_X11_work 1 rfl) rfl ?_
  refine v_callVX (pc := 2) h (c_X11_needMoment h.quiet (by omega)) kv_X11_needMoment sh0 wM_X11_134 rfl rfl (Nat.le_of_ble_eq_true rfl) (RM.of rfl) (dk dt_X11_work 2 rfl) (fun e2 μ2 p2 => ?_) (fun v2 μ2 p2 => ?_)
  ·
    obtain ⟨rfl, rfl, q2⟩ := p2
    exact v_out h r t (Nat.le_of_ble_eq_true rfl) (Nat.le_of_ble_eq_true rfl) ⟨⟨0, by unfold rcM; rw [if_pos q2]; rfl, rfl⟩, rfl⟩
  ·
    obtain ⟨rfl, e2, q2⟩ := p2
    rw [e2]
    refine v_aload_n (pc := 5) h (dk dt_X11_work 3 rfl) rfl ?_
    refine v_callVX (pc := 6) h (c_X11_needRun h.quiet hrn) kv_X11_needRun sh0 wM_X11_137 rfl rfl (Nat.le_of_ble_eq_true rfl) (RM.of rfl) (dk dt_X11_work 4 rfl) (fun e6 μ6 p6 => ?_) (fun v6 μ6 p6 => ?_)
    ·
      obtain ⟨rfl, rfl, q6⟩ := p6
      exact v_out h r t (Nat.le_of_ble_eq_true rfl) (Nat.le_of_ble_eq_true rfl) ⟨⟨1, by unfold rcM; rw [if_neg (by omega), if_pos q6]; rfl, rfl⟩, rfl⟩
    ·
      obtain ⟨rfl, e6, q6⟩ := p6
      rw [e6]
      refine v_iconst (pc := 9) h (dk dt_X11_work 5 rfl) ?_
      refine v_istore_n (lv' := [(2, _), (0, _), (1, _)]) (pc := 10) h (dk dt_X11_work 6 rfl) (Nat.le_of_ble_eq_true rfl) rfl ?_
      refine v_iconst (pc := 11) h (dk dt_X11_work 7 rfl) ?_
      refine v_istore_n (lv' := [(3, _), (2, _), (0, _), (1, _)]) (pc := 12) h (dk dt_X11_work 8 rfl) (Nat.le_of_ble_eq_true rfl) rfl ?_
      exact VV.loc (loop q6 q2 n 0 (by omega)) ⟨rfl, rfl, rfl, rfl, trivial⟩
theorem c_X11_slowest (hst : l.stackTraces = false) (hO : hOK μ) (hn : μ 1 9 = (n : Int)) {b : Int} (hb01 : b = 0 ∨ b = 1) :
    Ct l B D E yX11_slowest (.code yX11_slowest cX11_slowest 7 (some .int)) rm_X11_slowest [.ref (pl B 0), iI b] μ (PX (rcSl (μ 0 7) (μ 1 9)) (some (iI (anSl (slF (μ 44) (μ 3) (μ 5) n) b))) μ) (XX (rcSl (μ 0 7) (μ 1 9)) [eS] μ) := by
  have hb := hO.J.1
  have hrn := hO.h
  refine ct_of (own := RX11) (lv := [(0, _), (1, _)]) hst (by decide) rfl rfl (Nat.le_of_ble_eq_true rfl) fun a h r t => ?_
  have loop : μ 0 7 = 1 → μ 1 9 ≠ 0 → ∀ (d i : Nat), i + d = n → VV a B (SP B D E μ) 1 6 29 [(4, iI (i : Int)), (3, iI ((slF (μ 44) (μ 3) (μ 5) i).2 : Int)), (2, iI ((slF (μ 44) (μ 3) (μ 5) i).1 : Int)), (0, .ref (pl B 0)), (1, iI b)] [] := by
    intro h1 h0 d
    have hR := hO.R h1
    have hbd : ∀ j, j < n → 1 ≤ μ 5 j ∧ μ 5 j ≤ 30 ∧ 0 ≤ μ 3 j ∧ μ 44 j ≤ 2304 := fun j hj => by
      have q1 := hO.J.2 j (by omega)
      have q2 := hR.2 j (by omega)
      omega
    induction d with
    | zero =>
      intro i hi
      have hsb := slF_b hbd i (by omega)
      have e : n = i := by omega
      have hd1 : (slF (μ 44) (μ 3) (μ 5) i).2 / Nat.gcd (slF (μ 44) (μ 3) (μ 5) i).2 (slF (μ 44) (μ 3) (μ 5) i).1 ≤ (slF (μ 44) (μ 3) (μ 5) i).2 := Nat.div_le_self _ _
      have hd2 : (slF (μ 44) (μ 3) (μ 5) i).1 / Nat.gcd (slF (μ 44) (μ 3) (μ 5) i).1 (slF (μ 44) (μ 3) (μ 5) i).2 ≤ (slF (μ 44) (μ 3) (μ 5) i).1 := Nat.div_le_self _ _
      have ean : ∀ b, anSl (slF (μ 44) (μ 3) (μ 5) n) b = if b = 0 then (((slF (μ 44) (μ 3) (μ 5) i).1 / Nat.gcd (slF (μ 44) (μ 3) (μ 5) i).1 (slF (μ 44) (μ 3) (μ 5) i).2 : Nat) : Int) else (((slF (μ 44) (μ 3) (μ 5) i).2 / Nat.gcd (slF (μ 44) (μ 3) (μ 5) i).2 (slF (μ 44) (μ 3) (μ 5) i).1 : Nat) : Int) := fun b => by rw [e]; rfl
      generalize slF (μ 44) (μ 3) (μ 5) i = P at *
      obtain ⟨x, y⟩ := P
      simp only at *
      generalize hg1 : y / Nat.gcd y x = g1 at *
      generalize hg2 : x / Nat.gcd x y = g2 at *
      rcases hb01 with rfl | rfl
      ·
        refine v_iload (pc := 29) h (dk dt_X11_slowest 16 rfl) rfl ?_
        refine v_aload_n (pc := 31) h (dk dt_X11_slowest 17 rfl) rfl ?_
        refine v_getr (pc := 32) h ci11 sh0 (Nat.le_of_ble_eq_true rfl) (j := 0) wF_X11_10 rfl (dk dt_X11_slowest 18 rfl) ?_
        refine v_geti (pc := 35) h ci1 sh1 (Nat.le_of_ble_eq_true rfl) (j := 9) wF_X11_65 rfl (dk dt_X11_slowest 19 rfl) ?_
        refine v_icmp_ge (pc := 38) h 108 (dk dt_X11_slowest 20 rfl) rfl (by omega) (fun c38 => ?_) (fun c38 => ?_)
        ·
          refine v_iload_n (pc := 108) h (dk dt_X11_slowest 53 rfl) rfl ?_
          refine v_if_eq (pc := 109) h 117 (dk dt_X11_slowest 54 rfl) rfl (by omega) (fun c109 => ?_) (fun c109 => ?_)
          ·
            refine v_iload_n (pc := 117) h (dk dt_X11_slowest 58 rfl) rfl ?_
            refine v_i2l (pc := 118) h (dk dt_X11_slowest 59 rfl) (by omega) ?_
            refine v_iload_n (pc := 119) h (dk dt_X11_slowest 60 rfl) rfl ?_
            refine v_if_eq (pc := 120) h 128 (dk dt_X11_slowest 61 rfl) rfl (by omega) (fun c120 => ?_) (fun c120 => ?_)
            ·
              refine v_iload_n (pc := 128) h (dk dt_X11_slowest 65 rfl) rfl ?_
              refine v_i2l (pc := 129) h (dk dt_X11_slowest 66 rfl) (by omega) ?_
              refine v_cSi (pc := 130) h (c_X11_reduced h.quiet (by omega) (by omega)) kv_X11_reduced wM_X11_174 rfl rfl (Nat.le_of_ble_eq_true rfl) (RM.of rfl) rfl rfl (dk dt_X11_slowest 67 rfl) ?_
              rw [hg2]
              refine v_l2i (pc := 133) h (dk dt_X11_slowest 68 rfl) (by omega) ?_
              exact v_iret (pc := 134) h r (dk dt_X11_slowest 69 rfl) (Nat.le_of_ble_eq_true rfl) (Nat.le_of_ble_eq_true rfl) ⟨by unfold rcSl; rw [if_neg (by omega)], by rw [ean, if_pos rfl], rfl⟩
            ·
              exact absurd rfl c120
          ·
            exact absurd rfl c109
        ·
          exact absurd c38 (by omega)
      ·
        refine v_iload (pc := 29) h (dk dt_X11_slowest 16 rfl) rfl ?_
        refine v_aload_n (pc := 31) h (dk dt_X11_slowest 17 rfl) rfl ?_
        refine v_getr (pc := 32) h ci11 sh0 (Nat.le_of_ble_eq_true rfl) (j := 0) wF_X11_10 rfl (dk dt_X11_slowest 18 rfl) ?_
        refine v_geti (pc := 35) h ci1 sh1 (Nat.le_of_ble_eq_true rfl) (j := 9) wF_X11_65 rfl (dk dt_X11_slowest 19 rfl) ?_
        refine v_icmp_ge (pc := 38) h 108 (dk dt_X11_slowest 20 rfl) rfl (by omega) (fun c38 => ?_) (fun c38 => ?_)
        ·
          refine v_iload_n (pc := 108) h (dk dt_X11_slowest 53 rfl) rfl ?_
          refine v_if_eq (pc := 109) h 117 (dk dt_X11_slowest 54 rfl) rfl (by omega) (fun c109 => ?_) (fun c109 => ?_)
          ·
            exact absurd c109 (by decide)
          ·
            refine v_iload_n (pc := 112) h (dk dt_X11_slowest 55 rfl) rfl ?_
            refine v_i2l (pc := 113) h (dk dt_X11_slowest 56 rfl) (by omega) ?_
            refine v_goto (pc := 114) h 119 (dk dt_X11_slowest 57 rfl) rfl ?_
            refine v_iload_n (pc := 119) h (dk dt_X11_slowest 60 rfl) rfl ?_
            refine v_if_eq (pc := 120) h 128 (dk dt_X11_slowest 61 rfl) rfl (by omega) (fun c120 => ?_) (fun c120 => ?_)
            ·
              exact absurd c120 (by decide)
            ·
              refine v_iload_n (pc := 123) h (dk dt_X11_slowest 62 rfl) rfl ?_
              refine v_i2l (pc := 124) h (dk dt_X11_slowest 63 rfl) (by omega) ?_
              refine v_goto (pc := 125) h 130 (dk dt_X11_slowest 64 rfl) rfl ?_
              refine v_cSi (pc := 130) h (c_X11_reduced h.quiet (by omega) (by omega)) kv_X11_reduced wM_X11_174 rfl rfl (Nat.le_of_ble_eq_true rfl) (RM.of rfl) rfl rfl (dk dt_X11_slowest 67 rfl) ?_
              rw [hg1]
              refine v_l2i (pc := 133) h (dk dt_X11_slowest 68 rfl) (by omega) ?_
              exact v_iret (pc := 134) h r (dk dt_X11_slowest 69 rfl) (Nat.le_of_ble_eq_true rfl) (Nat.le_of_ble_eq_true rfl) ⟨by unfold rcSl; rw [if_neg (by omega)], by rw [ean, if_neg (by decide)], rfl⟩
        ·
          exact absurd c38 (by omega)
    | succ d ih =>
      intro i hi
      have hsb := slF_b hbd i (by omega)
      have hbi := hbd i (by omega)
      have q1 := hO.J.2 i (by omega)
      have q2 := hR.2 i (by omega)
      have eN : ¬ (slF (μ 44) (μ 3) (μ 5) i).1 * (μ 5 i).toNat < (μ 44 i - μ 3 i).toNat * (slF (μ 44) (μ 3) (μ 5) i).2 → slF (μ 44) (μ 3) (μ 5) (i + 1) = slF (μ 44) (μ 3) (μ 5) i := fun q => by rw [slF, if_neg q]
      have eY : (slF (μ 44) (μ 3) (μ 5) i).1 * (μ 5 i).toNat < (μ 44 i - μ 3 i).toNat * (slF (μ 44) (μ 3) (μ 5) i).2 → slF (μ 44) (μ 3) (μ 5) (i + 1) = ((μ 44 i - μ 3 i).toNat, (μ 5 i).toNat) := fun q => by rw [slF, if_pos q]
      have hio := ih (i + 1) (by omega)
      have m1 : (slF (μ 44) (μ 3) (μ 5) i).1 * (μ 5 i).toNat ≤ 2304 * 30 := Nat.mul_le_mul hsb.1 (by omega)
      have m2 : (μ 44 i - μ 3 i).toNat * (slF (μ 44) (μ 3) (μ 5) i).2 ≤ 2304 * 30 := Nat.mul_le_mul (by omega) hsb.2.2
      have n1 : ((slF (μ 44) (μ 3) (μ 5) i).1 : Int) * μ 5 i = (((slF (μ 44) (μ 3) (μ 5) i).1 * (μ 5 i).toNat : Nat) : Int) := by rw [Int.natCast_mul, Int.toNat_of_nonneg (by omega)]
      have n2 : (μ 44 i - μ 3 i) * ((slF (μ 44) (μ 3) (μ 5) i).2 : Int) = (((μ 44 i - μ 3 i).toNat * (slF (μ 44) (μ 3) (μ 5) i).2 : Nat) : Int) := by rw [Int.natCast_mul, Int.toNat_of_nonneg (by omega)]
      generalize hA : (slF (μ 44) (μ 3) (μ 5) i).1 * (μ 5 i).toNat = A at *
      generalize hB' : (μ 44 i - μ 3 i).toNat * (slF (μ 44) (μ 3) (μ 5) i).2 = B' at *
      refine v_iload (pc := 29) h (dk dt_X11_slowest 16 rfl) rfl ?_
      refine v_aload_n (pc := 31) h (dk dt_X11_slowest 17 rfl) rfl ?_
      refine v_getr (pc := 32) h ci11 sh0 (Nat.le_of_ble_eq_true rfl) (j := 0) wF_X11_10 rfl (dk dt_X11_slowest 18 rfl) ?_
      refine v_geti (pc := 35) h ci1 sh1 (Nat.le_of_ble_eq_true rfl) (j := 9) wF_X11_65 rfl (dk dt_X11_slowest 19 rfl) ?_
      refine v_icmp_ge (pc := 38) h 108 (dk dt_X11_slowest 20 rfl) rfl (by omega) (fun c38 => ?_) (fun c38 => ?_)
      ·
        exact absurd c38 (by omega)
      ·
        refine v_aload_n (pc := 41) h (dk dt_X11_slowest 21 rfl) rfl ?_
        refine v_getr (pc := 42) h ci11 sh0 (Nat.le_of_ble_eq_true rfl) (j := 3) wF_X11_35 rfl (dk dt_X11_slowest 22 rfl) ?_
        refine v_getr (pc := 45) h ci10 hd28 (Nat.le_of_ble_eq_true rfl) (j := 0) wF_X11_149 rfl (dk dt_X11_slowest 23 rfl) ?_
        refine v_getr (pc := 48) h ci6 hd40 (Nat.le_of_ble_eq_true rfl) (j := 1) wF_X11_153 rfl (dk dt_X11_slowest 24 rfl) ?_
        refine v_iload (pc := 51) h (dk dt_X11_slowest 25 rfl) rfl ?_
        refine v_cVi (pc := 53) h (c_X7_atn h.quiet (P_ends (W_prog W28)) (o1 := 44) rfl (Nat.le_of_ble_eq_true rfl) (by omega)) kv_X7_at (P_ends (W_prog W28)).1 wM_X11_91 rfl rfl (Nat.le_of_ble_eq_true rfl) (RM.of rfl) rfl rfl (dk dt_X11_slowest 26 rfl) ?_
        refine v_aload_n (pc := 56) h (dk dt_X11_slowest 27 rfl) rfl ?_
        refine v_getr (pc := 57) h ci11 sh0 (Nat.le_of_ble_eq_true rfl) (j := 0) wF_X11_10 rfl (dk dt_X11_slowest 28 rfl) ?_
        refine v_getr (pc := 60) h ci1 sh1 (Nat.le_of_ble_eq_true rfl) (j := 0) wF_X11_146 rfl (dk dt_X11_slowest 29 rfl) ?_
        refine v_iload (pc := 63) h (dk dt_X11_slowest 30 rfl) rfl ?_
        refine v_cVi (pc := 65) h (c_X7_atn h.quiet jr0 (o1 := 3) rfl (Nat.le_of_ble_eq_true rfl) (by omega)) kv_X7_at jr0.1 wM_X11_91 rfl rfl (Nat.le_of_ble_eq_true rfl) (RM.of rfl) rfl rfl (dk dt_X11_slowest 31 rfl) ?_
        refine v_isub (pc := 68) h (dk dt_X11_slowest 32 rfl) ?_
        refine v_istore (lv' := [(5, _), (4, _), (3, _), (2, _), (0, _), (1, _)]) (pc := 69) h (dk dt_X11_slowest 33 rfl) (Nat.le_of_ble_eq_true rfl) rfl ?_
        refine v_aload_n (pc := 71) h (dk dt_X11_slowest 34 rfl) rfl ?_
        refine v_getr (pc := 72) h ci11 sh0 (Nat.le_of_ble_eq_true rfl) (j := 0) wF_X11_10 rfl (dk dt_X11_slowest 35 rfl) ?_
        refine v_getr (pc := 75) h ci1 sh1 (Nat.le_of_ble_eq_true rfl) (j := 1) wF_X11_87 rfl (dk dt_X11_slowest 36 rfl) ?_
        refine v_iload (pc := 78) h (dk dt_X11_slowest 37 rfl) rfl ?_
        refine v_cVi (pc := 80) h (c_X7_atn h.quiet jr1 (o1 := 5) rfl (Nat.le_of_ble_eq_true rfl) (by omega)) kv_X7_at jr1.1 wM_X11_91 rfl rfl (Nat.le_of_ble_eq_true rfl) (RM.of rfl) rfl rfl (dk dt_X11_slowest 38 rfl) ?_
        refine v_istore (lv' := [(6, _), (5, _), (4, _), (3, _), (2, _), (0, _), (1, _)]) (pc := 83) h (dk dt_X11_slowest 39 rfl) (Nat.le_of_ble_eq_true rfl) rfl ?_
        refine v_iload (pc := 85) h (dk dt_X11_slowest 40 rfl) rfl ?_
        refine v_iload_n (pc := 87) h (dk dt_X11_slowest 41 rfl) rfl ?_
        refine v_imul (pc := 88) h (dk dt_X11_slowest 42 rfl) ?_
        rw [n2]
        refine v_iload_n (pc := 89) h (dk dt_X11_slowest 43 rfl) rfl ?_
        refine v_iload (pc := 90) h (dk dt_X11_slowest 44 rfl) rfl ?_
        refine v_imul (pc := 92) h (dk dt_X11_slowest 45 rfl) ?_
        rw [n1]
        refine v_icmp_le (pc := 93) h 102 (dk dt_X11_slowest 46 rfl) rfl (by omega) (fun c93 => ?_) (fun c93 => ?_)
        ·
          refine v_iinc (lv' := [(4, _), (6, _), (5, _), (3, _), (2, _), (0, _), (1, _)]) (pc := 102) h (dk dt_X11_slowest 51 rfl) rfl (Nat.le_of_ble_eq_true rfl) rfl ?_
          refine v_goto (pc := 105) h 29 (dk dt_X11_slowest 52 rfl) rfl ?_
          first
            | (rw [eN (by omega)] at hio; exact VV.loc hio ⟨rfl, rfl, rfl, rfl, rfl, trivial⟩)
            | (rw [eY (by omega)] at hio; exact VV.loc hio ⟨rfl, lvI (by show _ = (((μ 5 i).toNat : Nat) : Int); omega), lvI (by show _ = (((μ 44 i - μ 3 i).toNat : Nat) : Int); omega), rfl, rfl, trivial⟩)
        ·
          refine v_iload (pc := 96) h (dk dt_X11_slowest 47 rfl) rfl ?_
          refine v_istore_n (lv' := [(2, _), (6, _), (5, _), (4, _), (3, _), (0, _), (1, _)]) (pc := 98) h (dk dt_X11_slowest 48 rfl) (Nat.le_of_ble_eq_true rfl) rfl ?_
          refine v_iload (pc := 99) h (dk dt_X11_slowest 49 rfl) rfl ?_
          refine v_istore_n (lv' := [(3, _), (2, _), (6, _), (5, _), (4, _), (0, _), (1, _)]) (pc := 101) h (dk dt_X11_slowest 50 rfl) (Nat.le_of_ble_eq_true rfl) rfl ?_
          refine v_iinc (lv' := [(4, _), (3, _), (2, _), (6, _), (5, _), (0, _), (1, _)]) (pc := 102) h (dk dt_X11_slowest 51 rfl) rfl (Nat.le_of_ble_eq_true rfl) rfl ?_
          refine v_goto (pc := 105) h 29 (dk dt_X11_slowest 52 rfl) rfl ?_
          first
            | (rw [eN (by omega)] at hio; exact VV.loc hio ⟨rfl, rfl, rfl, rfl, rfl, trivial⟩)
            | (rw [eY (by omega)] at hio; exact VV.loc hio ⟨rfl, lvI (by show _ = (((μ 5 i).toNat : Nat) : Int); omega), lvI (by show _ = (((μ 44 i - μ 3 i).toNat : Nat) : Int); omega), rfl, rfl, trivial⟩)
  refine v_aload_n (pc := 0) h (dk dt_X11_slowest 0 rfl) rfl ?_
  refine v_callVX (pc := 1) h (c_X11_needRun h.quiet hrn) kv_X11_needRun sh0 wM_X11_137 rfl rfl (Nat.le_of_ble_eq_true rfl) (RM.of rfl) (dk dt_X11_slowest 1 rfl) (fun e1 μ1 p1 => ?_) (fun v1 μ1 p1 => ?_)
  ·
    obtain ⟨rfl, rfl, q1⟩ := p1
    exact v_out h r t (Nat.le_of_ble_eq_true rfl) (Nat.le_of_ble_eq_true rfl) ⟨⟨0, by unfold rcSl; rw [if_pos (Or.inl q1)]; rfl, rfl⟩, rfl⟩
  ·
    obtain ⟨rfl, e1, q1⟩ := p1
    rw [e1]
    refine v_aload_n (pc := 4) h (dk dt_X11_slowest 2 rfl) rfl ?_
    refine v_getr (pc := 5) h ci11 sh0 (Nat.le_of_ble_eq_true rfl) (j := 0) wF_X11_10 rfl (dk dt_X11_slowest 3 rfl) ?_
    refine v_geti (pc := 8) h ci1 sh1 (Nat.le_of_ble_eq_true rfl) (j := 9) wF_X11_65 rfl (dk dt_X11_slowest 4 rfl) ?_
    refine v_if_ne (pc := 11) h 22 (dk dt_X11_slowest 5 rfl) rfl (by omega) (fun c11 => ?_) (fun c11 => ?_)
    ·
      refine v_iconst (pc := 22) h (dk dt_X11_slowest 10 rfl) ?_
      refine v_istore_n (lv' := [(2, _), (0, _), (1, _)]) (pc := 23) h (dk dt_X11_slowest 11 rfl) (Nat.le_of_ble_eq_true rfl) rfl ?_
      refine v_iconst (pc := 24) h (dk dt_X11_slowest 12 rfl) ?_
      refine v_istore_n (lv' := [(3, _), (2, _), (0, _), (1, _)]) (pc := 25) h (dk dt_X11_slowest 13 rfl) (Nat.le_of_ble_eq_true rfl) rfl ?_
      refine v_iconst (pc := 26) h (dk dt_X11_slowest 14 rfl) ?_
      refine v_istore (lv' := [(4, _), (3, _), (2, _), (0, _), (1, _)]) (pc := 27) h (dk dt_X11_slowest 15 rfl) (Nat.le_of_ble_eq_true rfl) rfl ?_
      exact VV.loc (loop q1 (by omega) n 0 (by omega)) ⟨rfl, rfl, rfl, rfl, rfl, trivial⟩
    ·
      exact v_throw (pc := 14) h r t kt_X11_69 (dk dt_X11_slowest 6 rfl) (dk dt_X11_slowest 7 rfl) (dk dt_X11_slowest 8 rfl) (dk dt_X11_slowest 9 rfl) ⟨Nat.le_of_ble_eq_true rfl, Nat.le_of_ble_eq_true rfl, Nat.le_of_ble_eq_true rfl, Nat.le_of_ble_eq_true rfl⟩ (Nat.le_of_ble_eq_true rfl) (Nat.le_of_ble_eq_true rfl) (Nat.le_of_ble_eq_true rfl) ⟨⟨0, by unfold rcSl; rw [if_pos (Or.inr (by omega))]; rfl, rfl⟩, rfl⟩
end
