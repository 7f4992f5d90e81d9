/-! ===== Course.isAsBusyAs, Tasks ===== -/
theorem asB_b (f f' : Nat → Int) (d : Nat) : ∀ t m, asB f f' d t m = 0 ∨ asB f f' d t m = 1 := by
  induction d with
  | zero => intro t m; simp only [asB]; split <;> simp
  | succ d ih => intro t m; simp only [asB]; split; exact Or.inl rfl; exact ih _ _
theorem doF_b {μ : Mm} {o : Nat} (hs : okC μ o) (x : Int) : -2 ≤ doF (μ (o + 2)) (μ o 0) x ∧ doF (μ (o + 2)) (μ o 0) x < 12 := by
  unfold doF
  split
  · rename_i h
    have := hs.2 x.toNat (by omega)
    exact this
  · omega
def bsy (μ : Mm) (o o' : Nat) : Int := asB (fun t => doF (μ (o + 2)) (μ o 0) (t : Int)) (fun t => doF (μ (o' + 2)) (μ o' 0) (t : Int)) (if μ o 0 < μ o' 0 then μ o' 0 else μ o 0).toNat 0 0
/-- what is told of the tasks is in order -/
def okK5 (p le d : Nat → Int) (n : Int) : Prop := (0 ≤ n ∧ n ≤ 5) ∧ ∀ j : Nat, (j : Int) < n → (1 ≤ p j ∧ p j ≤ 60) ∧ (1 ≤ le j ∧ le j ≤ 30) ∧ le j ≤ d j ∧ d j ≤ p j
abbrev okTk (μ : Mm) : Prop := okK5 (μ 22) (μ 24) (μ 26) (μ 20 3)
abbrev ahd (d : Nat → Int) (o t : Nat) : Prop := d o < d t ∨ d o = d t ∧ o < t
def wahF (p le d : Nat → Int) (k : Nat) (r : Int) : Nat → Int
  | 0 => le k
  | o + 1 => if ahd d o k then wahF p le d k r o + le o * ((r + p o - 1) / p o) else wahF p le d k r o
theorem wahF_b {p le d : Nat → Int} {n : Int} (h : okK5 p le d n) {k : Nat} (hk : (k : Int) < n) {r : Int} (hr : 1 ≤ r ∧ r ≤ 60) : ∀ o : Nat, (o : Int) ≤ n → 0 ≤ wahF p le d k r o ∧ wahF p le d k r o ≤ 30 + 3600 * o := by
  intro o
  induction o with
  | zero => intro _; have := h.2 k hk; simp only [wahF]; omega
  | succ o ih =>
    intro ho
    have h1 := ih (by omega)
    have h2 := h.2 o (by omega)
    simp only [wahF]
    split
    · have h3 : 0 ≤ (r + p o - 1) / p o := Int.ediv_nonneg (by omega) (by omega)
      have h4 : (r + p o - 1) / p o ≤ r + p o - 1 := Int.ediv_le_self _ (by omega)
      have h5 : le o * ((r + p o - 1) / p o) ≤ 30 * 119 := Int.mul_le_mul h2.2.1.2 (by omega) h3 (by omega)
      have h6 : 0 ≤ le o * ((r + p o - 1) / p o) := Int.mul_nonneg (by omega) h3
      omega
    · omega
section
variable {l : Launch} {B : Nat} {D : va_G} {E : Nat → ClassId} {μ m σ : Mm} {w n : Nat} {K : Nat → Int} {s : St} {J : Mm}
theorem c_X0_isAsBusyAs (hst : l.stackTraces = false) {o o' : Nat} (hr : isC o) (hr' : isC o') (hs : okC μ o) (hs' : okC μ o') :
    Ct l B D E yX0_isAsBusyAs (.code yX0_isAsBusyAs cX0_isAsBusyAs 6 (some .boolean)) rm_X0_isAsBusyAs [.ref (pl B o), .ref (pl B o')] μ (ri (bsy μ o o') μ) NX := by
  have hb := hs.1
  have hb' := hs'.1
  have hd := doF_b hs
  have hd' := doF_b hs'
  have h01 := asB_b (fun t => doF (μ (o + 2)) (μ o 0) (t : Int)) (fun t => doF (μ (o' + 2)) (μ o' 0) (t : Int))
  have hT : 0 ≤ (if μ o 0 < μ o' 0 then μ o' 0 else μ o 0) ∧ (if μ o 0 < μ o' 0 then μ o' 0 else μ o 0) ≤ 2304 := by split <;> omega
  have hbs : bsy μ o o' = asB (fun t => doF (μ (o + 2)) (μ o 0) (t : Int)) (fun t => doF (μ (o' + 2)) (μ o' 0) (t : Int)) (if μ o 0 < μ o' 0 then μ o' 0 else μ o 0).toNat 0 0 := rfl
  refine ct_of (own := RX0) (lv := [(0, _), (1, _)]) hst (by decide) rfl rfl (Nat.le_of_ble_eq_true rfl) fun a h r t => ?_
  have loop : ∀ (d i : Nat) (x : Int), (i : Int) + d = (if μ o 0 < μ o' 0 then μ o' 0 else μ o 0) → (-(i : Int) ≤ x ∧ x ≤ i) → bsy μ o o' = asB (fun t => doF (μ (o + 2)) (μ o 0) (t : Int)) (fun t => doF (μ (o' + 2)) (μ o' 0) (t : Int)) d i x → VV a B (SP B D E μ) 0 0 4 [(3, iI (i : Int)), (2, iI x), (0, .ref (pl B o)), (1, .ref (pl B o'))] [] := by
    intro d
    induction d with
    | zero =>
      intro i x hi hx e
      refine v_iload_n (pc := 4) h (dk dt_X0_isAsBusyAs 4 rfl) rfl ?_
      refine v_aload_n (pc := 5) h (dk dt_X0_isAsBusyAs 5 rfl) rfl ?_
      refine v_geti (pc := 6) h ci0 (C_hd hr) (Nat.le_of_ble_eq_true rfl) (j := 0) wF_X0_9 rfl (dk dt_X0_isAsBusyAs 6 rfl) ?_
      refine v_aload_n (pc := 9) h (dk dt_X0_isAsBusyAs 7 rfl) rfl ?_
      refine v_geti (pc := 10) h ci0 (C_hd hr') (Nat.le_of_ble_eq_true rfl) (j := 0) wF_X0_9 rfl (dk dt_X0_isAsBusyAs 8 rfl) ?_
      refine v_max (pc := 13) h km_max wM_X0_41 (by omega) (Nat.le_of_ble_eq_true rfl) ⟨Nat.le_of_ble_eq_true rfl, Nat.le_of_ble_eq_true rfl, Nat.le_of_ble_eq_true rfl, Nat.le_of_ble_eq_true rfl⟩ (dk dt_X0_isAsBusyAs 9 rfl) ?_
      refine v_icmp_ge (pc := 16) h 94 (dk dt_X0_isAsBusyAs 10 rfl) rfl (by omega) (fun c16 => ?_) (fun c16 => ?_)
      ·
        refine v_iload_n (pc := 94) h (dk dt_X0_isAsBusyAs 52 rfl) rfl ?_
        refine v_if_ne (pc := 95) h 102 (dk dt_X0_isAsBusyAs 53 rfl) rfl (by omega) (fun c95 => ?_) (fun c95 => ?_)
        ·
          refine v_iconst (pc := 102) h (dk dt_X0_isAsBusyAs 56 rfl) ?_
          exact v_zret (pc := 103) h r (dk dt_X0_isAsBusyAs 57 rfl) (Nat.le_of_ble_eq_true rfl) (Nat.le_of_ble_eq_true rfl) (by omega) ⟨by rw [e]; simp only [asB]; first | rw [if_pos c95] | rw [if_neg c95], rfl⟩
        ·
          refine v_iconst (pc := 98) h (dk dt_X0_isAsBusyAs 54 rfl) ?_
          refine v_goto (pc := 99) h 103 (dk dt_X0_isAsBusyAs 55 rfl) rfl ?_
          exact v_zret (pc := 103) h r (dk dt_X0_isAsBusyAs 57 rfl) (Nat.le_of_ble_eq_true rfl) (Nat.le_of_ble_eq_true rfl) (by omega) ⟨by rw [e]; simp only [asB]; first | rw [if_pos c95] | rw [if_neg c95], rfl⟩
      ·
        exact absurd c16 (by omega)
    | succ d ih =>
      intro i x hi hx e
      have d1 := hd i
      have d2 := hd' i
      have eN : (x ≠ 0 ∨ ¬ (doF (μ (o + 2)) (μ o 0) (i : Int) = -1 ↔ doF (μ (o' + 2)) (μ o' 0) (i : Int) = -1)) → bsy μ o o' = 0 := fun q => by rw [e, asB, if_pos q]
      have eY : ¬ (x ≠ 0 ∨ ¬ (doF (μ (o + 2)) (μ o 0) (i : Int) = -1 ↔ doF (μ (o' + 2)) (μ o' 0) (i : Int) = -1)) → bsy μ o o' = asB (fun t => doF (μ (o + 2)) (μ o 0) (t : Int)) (fun t => doF (μ (o' + 2)) (μ o' 0) (t : Int)) d (i + 1) (x + ((if 0 ≤ doF (μ (o + 2)) (μ o 0) (i : Int) then 1 else 0) - (if 0 ≤ doF (μ (o' + 2)) (μ o' 0) (i : Int) then 1 else 0))) := fun q => by rw [e, asB, if_neg q]
      generalize hA : doF (μ (o + 2)) (μ o 0) (i : Int) = A at *
      generalize hA' : doF (μ (o' + 2)) (μ o' 0) (i : Int) = A' at *
      have go64 : A = -1 ∧ A' = -1 ∨ A ≠ -1 ∧ A' ≠ -1 → x = 0 → VV a B (SP B D E μ) 0 0 64 [(5, iI A'), (4, iI A), (3, iI (i : Int)), (2, iI x), (0, .ref (pl B o)), (1, .ref (pl B o'))] [] := by
        intro q1 q2
        have eY := eY (by omega)
        refine v_iload_n (pc := 64) h (dk dt_X0_isAsBusyAs 36 rfl) rfl ?_
        refine v_iload (pc := 65) h (dk dt_X0_isAsBusyAs 37 rfl) rfl ?_
        refine v_if_lt (pc := 67) h 74 (dk dt_X0_isAsBusyAs 38 rfl) rfl (by omega) (fun c67 => ?_) (fun c67 => ?_)
        ·
          rw [if_neg (by omega)] at eY
          refine v_iconst (pc := 74) h (dk dt_X0_isAsBusyAs 41 rfl) ?_
          refine v_iload (pc := 75) h (dk dt_X0_isAsBusyAs 42 rfl) rfl ?_
          refine v_if_lt (pc := 77) h 84 (dk dt_X0_isAsBusyAs 43 rfl) rfl (by omega) (fun c77 => ?_) (fun c77 => ?_)
          ·
            rw [if_neg (by omega)] at eY
            refine v_iconst (pc := 84) h (dk dt_X0_isAsBusyAs 46 rfl) ?_
            refine v_isub (pc := 85) h (dk dt_X0_isAsBusyAs 47 rfl) ?_
            refine v_iadd (pc := 86) h (dk dt_X0_isAsBusyAs 48 rfl) ?_
            refine v_istore_n (lv' := [(2, _), (5, _), (4, _), (3, _), (0, _), (1, _)]) (pc := 87) h (dk dt_X0_isAsBusyAs 49 rfl) (Nat.le_of_ble_eq_true rfl) rfl ?_
            refine v_iinc (lv' := [(3, _), (2, _), (5, _), (4, _), (0, _), (1, _)]) (pc := 88) h (dk dt_X0_isAsBusyAs 50 rfl) rfl (Nat.le_of_ble_eq_true rfl) rfl ?_
            refine v_goto (pc := 91) h 4 (dk dt_X0_isAsBusyAs 51 rfl) rfl ?_
            exact VV.loc (ih (i + 1) _ (by omega) (by omega) eY) ⟨rfl, rfl, rfl, rfl, trivial⟩
          ·
            rw [if_pos (by omega)] at eY
            refine v_iconst (pc := 80) h (dk dt_X0_isAsBusyAs 44 rfl) ?_
            refine v_goto (pc := 81) h 85 (dk dt_X0_isAsBusyAs 45 rfl) rfl ?_
            refine v_isub (pc := 85) h (dk dt_X0_isAsBusyAs 47 rfl) ?_
            refine v_iadd (pc := 86) h (dk dt_X0_isAsBusyAs 48 rfl) ?_
            refine v_istore_n (lv' := [(2, _), (5, _), (4, _), (3, _), (0, _), (1, _)]) (pc := 87) h (dk dt_X0_isAsBusyAs 49 rfl) (Nat.le_of_ble_eq_true rfl) rfl ?_
            refine v_iinc (lv' := [(3, _), (2, _), (5, _), (4, _), (0, _), (1, _)]) (pc := 88) h (dk dt_X0_isAsBusyAs 50 rfl) rfl (Nat.le_of_ble_eq_true rfl) rfl ?_
            refine v_goto (pc := 91) h 4 (dk dt_X0_isAsBusyAs 51 rfl) rfl ?_
            exact VV.loc (ih (i + 1) _ (by omega) (by omega) eY) ⟨rfl, rfl, rfl, rfl, trivial⟩
        ·
          rw [if_pos (by omega)] at eY
          refine v_iconst (pc := 70) h (dk dt_X0_isAsBusyAs 39 rfl) ?_
          refine v_goto (pc := 71) h 75 (dk dt_X0_isAsBusyAs 40 rfl) rfl ?_
          refine v_iload (pc := 75) h (dk dt_X0_isAsBusyAs 42 rfl) rfl ?_
          refine v_if_lt (pc := 77) h 84 (dk dt_X0_isAsBusyAs 43 rfl) rfl (by omega) (fun c77 => ?_) (fun c77 => ?_)
          ·
            rw [if_neg (by omega)] at eY
            refine v_iconst (pc := 84) h (dk dt_X0_isAsBusyAs 46 rfl) ?_
            refine v_isub (pc := 85) h (dk dt_X0_isAsBusyAs 47 rfl) ?_
            refine v_iadd (pc := 86) h (dk dt_X0_isAsBusyAs 48 rfl) ?_
            refine v_istore_n (lv' := [(2, _), (5, _), (4, _), (3, _), (0, _), (1, _)]) (pc := 87) h (dk dt_X0_isAsBusyAs 49 rfl) (Nat.le_of_ble_eq_true rfl) rfl ?_
            refine v_iinc (lv' := [(3, _), (2, _), (5, _), (4, _), (0, _), (1, _)]) (pc := 88) h (dk dt_X0_isAsBusyAs 50 rfl) rfl (Nat.le_of_ble_eq_true rfl) rfl ?_
            refine v_goto (pc := 91) h 4 (dk dt_X0_isAsBusyAs 51 rfl) rfl ?_
            exact VV.loc (ih (i + 1) _ (by omega) (by omega) eY) ⟨rfl, rfl, rfl, rfl, trivial⟩
          ·
            rw [if_pos (by omega)] at eY
            refine v_iconst (pc := 80) h (dk dt_X0_isAsBusyAs 44 rfl) ?_
            refine v_goto (pc := 81) h 85 (dk dt_X0_isAsBusyAs 45 rfl) rfl ?_
            refine v_isub (pc := 85) h (dk dt_X0_isAsBusyAs 47 rfl) ?_
            refine v_iadd (pc := 86) h (dk dt_X0_isAsBusyAs 48 rfl) ?_
            refine v_istore_n (lv' := [(2, _), (5, _), (4, _), (3, _), (0, _), (1, _)]) (pc := 87) h (dk dt_X0_isAsBusyAs 49 rfl) (Nat.le_of_ble_eq_true rfl) rfl ?_
            refine v_iinc (lv' := [(3, _), (2, _), (5, _), (4, _), (0, _), (1, _)]) (pc := 88) h (dk dt_X0_isAsBusyAs 50 rfl) rfl (Nat.le_of_ble_eq_true rfl) rfl ?_
            refine v_goto (pc := 91) h 4 (dk dt_X0_isAsBusyAs 51 rfl) rfl ?_
            exact VV.loc (ih (i + 1) _ (by omega) (by omega) eY) ⟨rfl, rfl, rfl, rfl, trivial⟩
      refine v_iload_n (pc := 4) h (dk dt_X0_isAsBusyAs 4 rfl) rfl ?_
      refine v_aload_n (pc := 5) h (dk dt_X0_isAsBusyAs 5 rfl) rfl ?_
      refine v_geti (pc := 6) h ci0 (C_hd hr) (Nat.le_of_ble_eq_true rfl) (j := 0) wF_X0_9 rfl (dk dt_X0_isAsBusyAs 6 rfl) ?_
      refine v_aload_n (pc := 9) h (dk dt_X0_isAsBusyAs 7 rfl) rfl ?_
      refine v_geti (pc := 10) h ci0 (C_hd hr') (Nat.le_of_ble_eq_true rfl) (j := 0) wF_X0_9 rfl (dk dt_X0_isAsBusyAs 8 rfl) ?_
      refine v_max (pc := 13) h km_max wM_X0_41 (by omega) (Nat.le_of_ble_eq_true rfl) ⟨Nat.le_of_ble_eq_true rfl, Nat.le_of_ble_eq_true rfl, Nat.le_of_ble_eq_true rfl, Nat.le_of_ble_eq_true rfl⟩ (dk dt_X0_isAsBusyAs 9 rfl) ?_
      refine v_icmp_ge (pc := 16) h 94 (dk dt_X0_isAsBusyAs 10 rfl) rfl (by omega) (fun c16 => ?_) (fun c16 => ?_)
      ·
        exact absurd c16 (by omega)
      ·
        refine v_aload_n (pc := 19) h (dk dt_X0_isAsBusyAs 11 rfl) rfl ?_
        refine v_iload_n (pc := 20) h (dk dt_X0_isAsBusyAs 12 rfl) rfl ?_
        refine v_cVi (pc := 21) h (c_X0_doingAt h.quiet hr (by assumption) (by omega)) kv_X0_doingAt (C_hd hr) wM_X0_51 rfl rfl (Nat.le_of_ble_eq_true rfl) (RM.of rfl) rfl rfl (dk dt_X0_isAsBusyAs 13 rfl) ?_
        rw [hA]
        refine v_istore (lv' := [(4, _), (3, _), (2, _), (0, _), (1, _)]) (pc := 24) h (dk dt_X0_isAsBusyAs 14 rfl) (Nat.le_of_ble_eq_true rfl) rfl ?_
        refine v_aload_n (pc := 26) h (dk dt_X0_isAsBusyAs 15 rfl) rfl ?_
        refine v_iload_n (pc := 27) h (dk dt_X0_isAsBusyAs 16 rfl) rfl ?_
        refine v_cVi (pc := 28) h (c_X0_doingAt h.quiet hr' (by assumption) (by omega)) kv_X0_doingAt (C_hd hr') wM_X0_51 rfl rfl (Nat.le_of_ble_eq_true rfl) (RM.of rfl) rfl rfl (dk dt_X0_isAsBusyAs 17 rfl) ?_
        rw [hA']
        refine v_istore (lv' := [(5, _), (4, _), (3, _), (2, _), (0, _), (1, _)]) (pc := 31) h (dk dt_X0_isAsBusyAs 18 rfl) (Nat.le_of_ble_eq_true rfl) rfl ?_
        refine v_iload_n (pc := 33) h (dk dt_X0_isAsBusyAs 19 rfl) rfl ?_
        refine v_if_ne (pc := 34) h 62 (dk dt_X0_isAsBusyAs 20 rfl) rfl (by omega) (fun c34 => ?_) (fun c34 => ?_)
        ·
          refine v_iconst (pc := 62) h (dk dt_X0_isAsBusyAs 34 rfl) ?_
          exact v_zret (pc := 63) h r (dk dt_X0_isAsBusyAs 35 rfl) (Nat.le_of_ble_eq_true rfl) (Nat.le_of_ble_eq_true rfl) (by omega) (by first | exact ⟨by rw [eN (Or.inl c34)], rfl⟩ | exact ⟨by rw [eN (Or.inr (by omega))], rfl⟩)
        ·
          refine v_iload (pc := 37) h (dk dt_X0_isAsBusyAs 21 rfl) rfl ?_
          refine v_iconst (pc := 39) h (dk dt_X0_isAsBusyAs 22 rfl) ?_
          refine v_icmp_ne (pc := 40) h 47 (dk dt_X0_isAsBusyAs 23 rfl) rfl (by omega) (fun c40 => ?_) (fun c40 => ?_)
          ·
            refine v_iconst (pc := 47) h (dk dt_X0_isAsBusyAs 26 rfl) ?_
            refine v_iload (pc := 48) h (dk dt_X0_isAsBusyAs 27 rfl) rfl ?_
            refine v_iconst (pc := 50) h (dk dt_X0_isAsBusyAs 28 rfl) ?_
            refine v_icmp_ne (pc := 51) h 58 (dk dt_X0_isAsBusyAs 29 rfl) rfl (by omega) (fun c51 => ?_) (fun c51 => ?_)
            ·
              refine v_iconst (pc := 58) h (dk dt_X0_isAsBusyAs 32 rfl) ?_
              refine v_icmp_eq (pc := 59) h 64 (dk dt_X0_isAsBusyAs 33 rfl) rfl (by omega) (fun c59 => ?_) (fun c59 => ?_)
              ·
                first
                  | exact VV.loc (go64 (by omega) c34) ⟨rfl, rfl, rfl, rfl, rfl, rfl, trivial⟩
                  | exact absurd c59 (by decide)
              ·
                refine v_iconst (pc := 62) h (dk dt_X0_isAsBusyAs 34 rfl) ?_
                exact v_zret (pc := 63) h r (dk dt_X0_isAsBusyAs 35 rfl) (Nat.le_of_ble_eq_true rfl) (Nat.le_of_ble_eq_true rfl) (by omega) (by first | exact ⟨by rw [eN (Or.inl c34)], rfl⟩ | exact ⟨by rw [eN (Or.inr (by omega))], rfl⟩)
            ·
              refine v_iconst (pc := 54) h (dk dt_X0_isAsBusyAs 30 rfl) ?_
              refine v_goto (pc := 55) h 59 (dk dt_X0_isAsBusyAs 31 rfl) rfl ?_
              refine v_icmp_eq (pc := 59) h 64 (dk dt_X0_isAsBusyAs 33 rfl) rfl (by omega) (fun c59 => ?_) (fun c59 => ?_)
              ·
                first
                  | exact VV.loc (go64 (by omega) c34) ⟨rfl, rfl, rfl, rfl, rfl, rfl, trivial⟩
                  | exact absurd c59 (by decide)
              ·
                refine v_iconst (pc := 62) h (dk dt_X0_isAsBusyAs 34 rfl) ?_
                exact v_zret (pc := 63) h r (dk dt_X0_isAsBusyAs 35 rfl) (Nat.le_of_ble_eq_true rfl) (Nat.le_of_ble_eq_true rfl) (by omega) (by first | exact ⟨by rw [eN (Or.inl c34)], rfl⟩ | exact ⟨by rw [eN (Or.inr (by omega))], rfl⟩)
          ·
            refine v_iconst (pc := 43) h (dk dt_X0_isAsBusyAs 24 rfl) ?_
            refine v_goto (pc := 44) h 48 (dk dt_X0_isAsBusyAs 25 rfl) rfl ?_
            refine v_iload (pc := 48) h (dk dt_X0_isAsBusyAs 27 rfl) rfl ?_
            refine v_iconst (pc := 50) h (dk dt_X0_isAsBusyAs 28 rfl) ?_
            refine v_icmp_ne (pc := 51) h 58 (dk dt_X0_isAsBusyAs 29 rfl) rfl (by omega) (fun c51 => ?_) (fun c51 => ?_)
            ·
              refine v_iconst (pc := 58) h (dk dt_X0_isAsBusyAs 32 rfl) ?_
              refine v_icmp_eq (pc := 59) h 64 (dk dt_X0_isAsBusyAs 33 rfl) rfl (by omega) (fun c59 => ?_) (fun c59 => ?_)
              ·
                first
                  | exact VV.loc (go64 (by omega) c34) ⟨rfl, rfl, rfl, rfl, rfl, rfl, trivial⟩
                  | exact absurd c59 (by decide)
              ·
                refine v_iconst (pc := 62) h (dk dt_X0_isAsBusyAs 34 rfl) ?_
                exact v_zret (pc := 63) h r (dk dt_X0_isAsBusyAs 35 rfl) (Nat.le_of_ble_eq_true rfl) (Nat.le_of_ble_eq_true rfl) (by omega) (by first | exact ⟨by rw [eN (Or.inl c34)], rfl⟩ | exact ⟨by rw [eN (Or.inr (by omega))], rfl⟩)
            ·
              refine v_iconst (pc := 54) h (dk dt_X0_isAsBusyAs 30 rfl) ?_
              refine v_goto (pc := 55) h 59 (dk dt_X0_isAsBusyAs 31 rfl) rfl ?_
              refine v_icmp_eq (pc := 59) h 64 (dk dt_X0_isAsBusyAs 33 rfl) rfl (by omega) (fun c59 => ?_) (fun c59 => ?_)
              ·
                first
                  | exact VV.loc (go64 (by omega) c34) ⟨rfl, rfl, rfl, rfl, rfl, rfl, trivial⟩
                  | exact absurd c59 (by decide)
              ·
                refine v_iconst (pc := 62) h (dk dt_X0_isAsBusyAs 34 rfl) ?_
                exact v_zret (pc := 63) h r (dk dt_X0_isAsBusyAs 35 rfl) (Nat.le_of_ble_eq_true rfl) (Nat.le_of_ble_eq_true rfl) (by omega) (by first | exact ⟨by rw [eN (Or.inl c34)], rfl⟩ | exact ⟨by rw [eN (Or.inr (by omega))], rfl⟩)
  refine v_iconst (pc := 0) h (dk dt_X0_isAsBusyAs 0 rfl) ?_
  refine v_istore_n (lv' := [(2, _), (0, _), (1, _)]) (pc := 1) h (dk dt_X0_isAsBusyAs 1 rfl) (Nat.le_of_ble_eq_true rfl) rfl ?_
  refine v_iconst (pc := 2) h (dk dt_X0_isAsBusyAs 2 rfl) ?_
  refine v_istore_n (lv' := [(3, _), (2, _), (0, _), (1, _)]) (pc := 3) h (dk dt_X0_isAsBusyAs 3 rfl) (Nat.le_of_ble_eq_true rfl) rfl ?_
  exact VV.loc (loop (if μ o 0 < μ o' 0 then μ o' 0 else μ o 0).toNat 0 0 (by omega) (by omega) rfl) ⟨rfl, rfl, rfl, rfl, trivial⟩
def mtask (μ : Mm) (p le d : Int) : Mm := mup (mup (mup (mup μ 22 (μ 20 3).toNat p) 24 (μ 20 3).toNat le) 26 (μ 20 3).toNat d) 20 3 (μ 20 3 + 1)
theorem c_X8_tell (hst : l.stackTraces = false) (hn : 0 ≤ μ 20 3 ∧ μ 20 3 < 5) {p le d : Int} :
    Ct l B D E yX8_tell (.code yX8_tell cX8_tell 5 (some .int)) rm_X8_tell [.ref (pl B 20), iI p, iI le, iI d] μ (ri (μ 20 3) (mtask μ p le d)) NX := by
  refine ct_of (own := RX8) (lv := [(0, _), (1, _), (2, _), (3, _)]) hst (by decide) rfl rfl (Nat.le_of_ble_eq_true rfl) fun a h r t => ?_
  refine v_aload_n (pc := 0) h (dk dt_X8_tell 0 rfl) rfl ?_
  refine v_geti (pc := 1) h ci8 sh20 (Nat.le_of_ble_eq_true rfl) (j := 3) wF_X8_26 rfl (dk dt_X8_tell 1 rfl) ?_
  refine v_istore (lv' := [(4, _), (0, _), (1, _), (2, _), (3, _)]) (pc := 4) h (dk dt_X8_tell 2 rfl) (Nat.le_of_ble_eq_true rfl) rfl ?_
  refine v_aload_n (pc := 6) h (dk dt_X8_tell 3 rfl) rfl ?_
  refine v_getr (pc := 7) h ci8 sh20 (Nat.le_of_ble_eq_true rfl) (j := 0) wF_X8_14 rfl (dk dt_X8_tell 4 rfl) ?_
  refine v_iload (pc := 10) h (dk dt_X8_tell 5 rfl) rfl ?_
  refine v_iload_n (pc := 12) h (dk dt_X8_tell 6 rfl) rfl ?_
  refine v_cVv (pc := 13) h (c_X7_puti h.quiet tr0 (o1 := 22) rfl (Nat.le_of_ble_eq_true rfl) (by omega)) kv_X7_put tr0.1 wM_X8_30 rfl rfl (Nat.le_of_ble_eq_true rfl) (RM.of rfl) rfl rfl (dk dt_X8_tell 7 rfl) ?_
  refine v_aload_n (pc := 16) h (dk dt_X8_tell 8 rfl) rfl ?_
  refine v_getr (pc := 17) h ci8 sh20 (Nat.le_of_ble_eq_true rfl) (j := 1) wF_X8_20 rfl (dk dt_X8_tell 9 rfl) ?_
  refine v_iload (pc := 20) h (dk dt_X8_tell 10 rfl) rfl ?_
  refine v_iload_n (pc := 22) h (dk dt_X8_tell 11 rfl) rfl ?_
  refine v_cVv (pc := 23) h (c_X7_puti h.quiet tr1 (o1 := 24) rfl (Nat.le_of_ble_eq_true rfl) (by omega)) kv_X7_put tr1.1 wM_X8_30 rfl rfl (Nat.le_of_ble_eq_true rfl) (RM.of rfl) rfl rfl (dk dt_X8_tell 12 rfl) ?_
  refine v_aload_n (pc := 26) h (dk dt_X8_tell 13 rfl) rfl ?_
  refine v_getr (pc := 27) h ci8 sh20 (Nat.le_of_ble_eq_true rfl) (j := 2) wF_X8_23 rfl (dk dt_X8_tell 14 rfl) ?_
  refine v_iload (pc := 30) h (dk dt_X8_tell 15 rfl) rfl ?_
  refine v_iload_n (pc := 32) h (dk dt_X8_tell 16 rfl) rfl ?_
  refine v_cVv (pc := 33) h (c_X7_puti h.quiet tr2 (o1 := 26) rfl (Nat.le_of_ble_eq_true rfl) (by omega)) kv_X7_put tr2.1 wM_X8_30 rfl rfl (Nat.le_of_ble_eq_true rfl) (RM.of rfl) rfl rfl (dk dt_X8_tell 17 rfl) ?_
  refine v_aload_n (pc := 36) h (dk dt_X8_tell 18 rfl) rfl ?_
  refine v_dup (pc := 37) h (dk dt_X8_tell 19 rfl) rfl ?_
  refine v_geti (pc := 38) h ci8 sh20 (Nat.le_of_ble_eq_true rfl) (j := 3) wF_X8_26 rfl (dk dt_X8_tell 20 rfl) ?_
  refine v_iconst (pc := 41) h (dk dt_X8_tell 21 rfl) ?_
  refine v_iadd (pc := 42) h (dk dt_X8_tell 22 rfl) ?_
  refine v_put (pc := 43) h ci8 sh20 (Nat.le_of_ble_eq_true rfl) (j := 3) wF_X8_26 rfl rfl rfl rfl (dk dt_X8_tell 23 rfl) ?_
  refine v_iload (pc := 46) h (dk dt_X8_tell 24 rfl) rfl ?_
  exact v_iret (pc := 48) h r (dk dt_X8_tell 25 rfl) (Nat.le_of_ble_eq_true rfl) (Nat.le_of_ble_eq_true rfl) ⟨rfl, rfl⟩
theorem c_X8_goesAhead (hst : l.stackTraces = false) (hs : okTk μ) {o t : Nat} (ho : (o : Int) < μ 20 3) (ht : (t : Int) < μ 20 3) :
    Ct l B D E yX8_goesAhead (.code yX8_goesAhead cX8_goesAhead 4 (some .boolean)) rm_X8_goesAhead [.ref (pl B 20), iI (o : Int), iI (t : Int)] μ (ri (if ahd (μ 26) o t then 1 else 0) μ) NX := by
  have hb := hs.1
  have h1 := hs.2 o ho
  have h2 := hs.2 t ht
  refine ct_of (own := RX8) (lv := [(0, _), (1, _), (2, _)]) hst (by decide) rfl rfl (Nat.le_of_ble_eq_true rfl) fun a h r t => ?_
  refine v_aload_n (pc := 0) h (dk dt_X8_goesAhead 0 rfl) rfl ?_
  refine v_getr (pc := 1) h ci8 sh20 (Nat.le_of_ble_eq_true rfl) (j := 2) wF_X8_23 rfl (dk dt_X8_goesAhead 1 rfl) ?_
  refine v_iload_n (pc := 4) h (dk dt_X8_goesAhead 2 rfl) rfl ?_
  refine v_cVi (pc := 5) h (c_X7_atn h.quiet tr2 (o1 := 26) rfl (Nat.le_of_ble_eq_true rfl) (by omega)) kv_X7_at tr2.1 wM_X8_34 rfl rfl (Nat.le_of_ble_eq_true rfl) (RM.of rfl) rfl rfl (dk dt_X8_goesAhead 3 rfl) ?_
  refine v_aload_n (pc := 8) h (dk dt_X8_goesAhead 4 rfl) rfl ?_
  refine v_getr (pc := 9) h ci8 sh20 (Nat.le_of_ble_eq_true rfl) (j := 2) wF_X8_23 rfl (dk dt_X8_goesAhead 5 rfl) ?_
  refine v_iload_n (pc := 12) h (dk dt_X8_goesAhead 6 rfl) rfl ?_
  refine v_cVi (pc := 13) h (c_X7_atn h.quiet tr2 (o1 := 26) rfl (Nat.le_of_ble_eq_true rfl) (by omega)) kv_X7_at tr2.1 wM_X8_34 rfl rfl (Nat.le_of_ble_eq_true rfl) (RM.of rfl) rfl rfl (dk dt_X8_goesAhead 7 rfl) ?_
  refine v_isub (pc := 16) h (dk dt_X8_goesAhead 8 rfl) ?_
  refine v_istore_n (lv' := [(3, _), (0, _), (1, _), (2, _)]) (pc := 17) h (dk dt_X8_goesAhead 9 rfl) (Nat.le_of_ble_eq_true rfl) rfl ?_
  refine v_iload_n (pc := 18) h (dk dt_X8_goesAhead 10 rfl) rfl ?_
  refine v_if_lt (pc := 19) h 31 (dk dt_X8_goesAhead 11 rfl) rfl (by omega) (fun c19 => ?_) (fun c19 => ?_)
  ·
    refine v_iconst (pc := 31) h (dk dt_X8_goesAhead 17 rfl) ?_
    refine v_goto (pc := 32) h 36 (dk dt_X8_goesAhead 18 rfl) rfl ?_
    exact v_zret (pc := 36) h r (dk dt_X8_goesAhead 20 rfl) (Nat.le_of_ble_eq_true rfl) (Nat.le_of_ble_eq_true rfl) (by omega) ⟨by first | rw [if_pos (by omega)] | rw [if_neg (by omega)], rfl⟩
  ·
    refine v_iload_n (pc := 22) h (dk dt_X8_goesAhead 12 rfl) rfl ?_
    refine v_if_ne (pc := 23) h 35 (dk dt_X8_goesAhead 13 rfl) rfl (by omega) (fun c23 => ?_) (fun c23 => ?_)
    ·
      refine v_iconst (pc := 35) h (dk dt_X8_goesAhead 19 rfl) ?_
      exact v_zret (pc := 36) h r (dk dt_X8_goesAhead 20 rfl) (Nat.le_of_ble_eq_true rfl) (Nat.le_of_ble_eq_true rfl) (by omega) ⟨by first | rw [if_pos (by omega)] | rw [if_neg (by omega)], rfl⟩
    ·
      refine v_iload_n (pc := 26) h (dk dt_X8_goesAhead 14 rfl) rfl ?_
      refine v_iload_n (pc := 27) h (dk dt_X8_goesAhead 15 rfl) rfl ?_
      refine v_icmp_ge (pc := 28) h 35 (dk dt_X8_goesAhead 16 rfl) rfl (by omega) (fun c28 => ?_) (fun c28 => ?_)
      ·
        refine v_iconst (pc := 35) h (dk dt_X8_goesAhead 19 rfl) ?_
        exact v_zret (pc := 36) h r (dk dt_X8_goesAhead 20 rfl) (Nat.le_of_ble_eq_true rfl) (Nat.le_of_ble_eq_true rfl) (by omega) ⟨by first | rw [if_pos (by omega)] | rw [if_neg (by omega)], rfl⟩
      ·
        refine v_iconst (pc := 31) h (dk dt_X8_goesAhead 17 rfl) ?_
        refine v_goto (pc := 32) h 36 (dk dt_X8_goesAhead 18 rfl) rfl ?_
        exact v_zret (pc := 36) h r (dk dt_X8_goesAhead 20 rfl) (Nat.le_of_ble_eq_true rfl) (Nat.le_of_ble_eq_true rfl) (by omega) ⟨by first | rw [if_pos (by omega)] | rw [if_neg (by omega)], rfl⟩
theorem c_X8_workAhead (hst : l.stackTraces = false) (hs : okTk μ) {k : Nat} (hk : (k : Int) < μ 20 3) {x : Int} (hx : 1 ≤ x ∧ x ≤ 60) :
    Ct l B D E yX8_workAhead (.code yX8_workAhead cX8_workAhead 6 (some .int)) rm_X8_workAhead [.ref (pl B 20), iI (k : Int), iI x] μ (ri (wahF (μ 22) (μ 24) (μ 26) k x (μ 20 3).toNat) μ) NX := by
  have hb := hs.1
  refine ct_of (own := RX8) (lv := [(0, _), (1, _), (2, _)]) hst (by decide) rfl rfl (Nat.le_of_ble_eq_true rfl) fun a h r t => ?_
  have loop : ∀ (d i : Nat), (i : Int) + d = μ 20 3 → VV a B (SP B D E μ) 0 0 12 [(4, iI (i : Int)), (3, iI (wahF (μ 22) (μ 24) (μ 26) k x i)), (0, .ref (pl B 20)), (1, iI (k : Int)), (2, iI x)] [] := by
    intro d
    induction d with
    | zero =>
      intro i hi
      refine v_iload (pc := 12) h (dk dt_X8_workAhead 7 rfl) rfl ?_
      refine v_aload_n (pc := 14) h (dk dt_X8_workAhead 8 rfl) rfl ?_
      refine v_geti (pc := 15) h ci8 sh20 (Nat.le_of_ble_eq_true rfl) (j := 3) wF_X8_26 rfl (dk dt_X8_workAhead 9 rfl) ?_
      refine v_icmp_ge (pc := 18) h 75 (dk dt_X8_workAhead 10 rfl) rfl (by omega) (fun c18 => ?_) (fun c18 => ?_)
      ·
        refine v_iload_n (pc := 75) h (dk dt_X8_workAhead 40 rfl) rfl ?_
        exact v_iret (pc := 76) h r (dk dt_X8_workAhead 41 rfl) (Nat.le_of_ble_eq_true rfl) (Nat.le_of_ble_eq_true rfl) ⟨by rw [show (μ 20 3).toNat = i by omega], rfl⟩
      ·
        exact absurd c18 (by omega)
    | succ d ih =>
      intro i hi
      have h1 := hs.2 i (by omega)
      have h2 := wahF_b hs hk hx i (by omega)
      have eN : ¬ ahd (μ 26) i k → wahF (μ 22) (μ 24) (μ 26) k x (i + 1) = wahF (μ 22) (μ 24) (μ 26) k x i := fun q => by rw [wahF, if_neg q]
      have eY : ahd (μ 26) i k → wahF (μ 22) (μ 24) (μ 26) k x (i + 1) = wahF (μ 22) (μ 24) (μ 26) k x i + μ 24 i * ((x + μ 22 i - 1) / μ 22 i) := fun q => by rw [wahF, if_pos q]
      refine v_iload (pc := 12) h (dk dt_X8_workAhead 7 rfl) rfl ?_
      refine v_aload_n (pc := 14) h (dk dt_X8_workAhead 8 rfl) rfl ?_
      refine v_geti (pc := 15) h ci8 sh20 (Nat.le_of_ble_eq_true rfl) (j := 3) wF_X8_26 rfl (dk dt_X8_workAhead 9 rfl) ?_
      refine v_icmp_ge (pc := 18) h 75 (dk dt_X8_workAhead 10 rfl) rfl (by omega) (fun c18 => ?_) (fun c18 => ?_)
      ·
        exact absurd c18 (by omega)
      ·
        refine v_aload_n (pc := 21) h (dk dt_X8_workAhead 11 rfl) rfl ?_
        refine v_getr (pc := 22) h ci8 sh20 (Nat.le_of_ble_eq_true rfl) (j := 0) wF_X8_14 rfl (dk dt_X8_workAhead 12 rfl) ?_
        refine v_iload (pc := 25) h (dk dt_X8_workAhead 13 rfl) rfl ?_
        refine v_cVi (pc := 27) h (c_X7_atn h.quiet tr0 (o1 := 22) rfl (Nat.le_of_ble_eq_true rfl) (by omega)) kv_X7_at tr0.1 wM_X8_34 rfl rfl (Nat.le_of_ble_eq_true rfl) (RM.of rfl) rfl rfl (dk dt_X8_workAhead 14 rfl) ?_
        refine v_istore (lv' := [(5, _), (4, _), (3, _), (0, _), (1, _), (2, _)]) (pc := 30) h (dk dt_X8_workAhead 15 rfl) (Nat.le_of_ble_eq_true rfl) rfl ?_
        refine v_aload_n (pc := 32) h (dk dt_X8_workAhead 16 rfl) rfl ?_
        refine v_iload (pc := 33) h (dk dt_X8_workAhead 17 rfl) rfl ?_
        refine v_iload_n (pc := 35) h (dk dt_X8_workAhead 18 rfl) rfl ?_
        refine v_cVi (pc := 36) h (c_X8_goesAhead h.quiet (by assumption) (by omega) (by omega)) kv_X8_goesAhead sh20 wM_X8_38 rfl rfl (Nat.le_of_ble_eq_true rfl) (RM.of rfl) rfl rfl (dk dt_X8_workAhead 19 rfl) ?_
        refine v_if_eq (pc := 39) h 69 (dk dt_X8_workAhead 20 rfl) rfl (by split <;> omega) (fun c39 => ?_) (fun c39 => ?_)
        ·
          have d39 : ¬ ahd (μ 26) i k := fun q => by rw [if_pos q] at c39; omega
          refine v_iinc (lv' := [(4, _), (5, _), (3, _), (0, _), (1, _), (2, _)]) (pc := 69) h (dk dt_X8_workAhead 38 rfl) rfl (Nat.le_of_ble_eq_true rfl) rfl ?_
          refine v_goto (pc := 72) h 12 (dk dt_X8_workAhead 39 rfl) rfl ?_
          first
            | exact VV.loc (lv' := [(4, _), (3, _), (0, _), (1, _), (2, _)]) (ih (i + 1) (by omega)) ⟨rfl, lvI (eN d39).symm, rfl, rfl, rfl, trivial⟩
            | exact VV.loc (lv' := [(4, _), (3, _), (0, _), (1, _), (2, _)]) (ih (i + 1) (by omega)) ⟨rfl, lvI (eY d39).symm, rfl, rfl, rfl, trivial⟩
        ·
          have d39 : ahd (μ 26) i k := by by_cases q : ahd (μ 26) i k; exact q; rw [if_neg q] at c39; omega
          refine v_iload (pc := 42) h (dk dt_X8_workAhead 21 rfl) rfl ?_
          refine v_if_le (pc := 44) h 69 (dk dt_X8_workAhead 22 rfl) rfl (by omega) (fun c44 => ?_) (fun c44 => ?_)
          ·
            exact absurd c44 (by omega)
          ·
            refine v_iload_n (pc := 47) h (dk dt_X8_workAhead 23 rfl) rfl ?_
            refine v_aload_n (pc := 48) h (dk dt_X8_workAhead 24 rfl) rfl ?_
            refine v_getr (pc := 49) h ci8 sh20 (Nat.le_of_ble_eq_true rfl) (j := 1) wF_X8_20 rfl (dk dt_X8_workAhead 25 rfl) ?_
            refine v_iload (pc := 52) h (dk dt_X8_workAhead 26 rfl) rfl ?_
            refine v_cVi (pc := 54) h (c_X7_atn h.quiet tr1 (o1 := 24) rfl (Nat.le_of_ble_eq_true rfl) (by omega)) kv_X7_at tr1.1 wM_X8_34 rfl rfl (Nat.le_of_ble_eq_true rfl) (RM.of rfl) rfl rfl (dk dt_X8_workAhead 27 rfl) ?_
            refine v_iload_n (pc := 57) h (dk dt_X8_workAhead 28 rfl) rfl ?_
            refine v_iload (pc := 58) h (dk dt_X8_workAhead 29 rfl) rfl ?_
            refine v_iadd (pc := 60) h (dk dt_X8_workAhead 30 rfl) ?_
            refine v_iconst (pc := 61) h (dk dt_X8_workAhead 31 rfl) ?_
            refine v_isub (pc := 62) h (dk dt_X8_workAhead 32 rfl) ?_
            refine v_iload (pc := 63) h (dk dt_X8_workAhead 33 rfl) rfl ?_
            refine v_idiv (pc := 65) h (dk dt_X8_workAhead 34 rfl) ⟨by omega, by omega⟩ ⟨by omega, by omega⟩ ?_
            refine v_imul (pc := 66) h (dk dt_X8_workAhead 35 rfl) ?_
            refine v_iadd (pc := 67) h (dk dt_X8_workAhead 36 rfl) ?_
            refine v_istore_n (lv' := [(3, _), (5, _), (4, _), (0, _), (1, _), (2, _)]) (pc := 68) h (dk dt_X8_workAhead 37 rfl) (Nat.le_of_ble_eq_true rfl) rfl ?_
            refine v_iinc (lv' := [(4, _), (3, _), (5, _), (0, _), (1, _), (2, _)]) (pc := 69) h (dk dt_X8_workAhead 38 rfl) rfl (Nat.le_of_ble_eq_true rfl) rfl ?_
            refine v_goto (pc := 72) h 12 (dk dt_X8_workAhead 39 rfl) rfl ?_
            first
              | exact VV.loc (lv' := [(4, _), (3, _), (0, _), (1, _), (2, _)]) (ih (i + 1) (by omega)) ⟨rfl, lvI (eN d39).symm, rfl, rfl, rfl, trivial⟩
              | exact VV.loc (lv' := [(4, _), (3, _), (0, _), (1, _), (2, _)]) (ih (i + 1) (by omega)) ⟨rfl, lvI (eY d39).symm, rfl, rfl, rfl, trivial⟩
  refine v_aload_n (pc := 0) h (dk dt_X8_workAhead 0 rfl) rfl ?_
  refine v_getr (pc := 1) h ci8 sh20 (Nat.le_of_ble_eq_true rfl) (j := 1) wF_X8_20 rfl (dk dt_X8_workAhead 1 rfl) ?_
  refine v_iload_n (pc := 4) h (dk dt_X8_workAhead 2 rfl) rfl ?_
  refine v_cVi (pc := 5) h (c_X7_atn h.quiet tr1 (o1 := 24) rfl (Nat.le_of_ble_eq_true rfl) (by omega)) kv_X7_at tr1.1 wM_X8_34 rfl rfl (Nat.le_of_ble_eq_true rfl) (RM.of rfl) rfl rfl (dk dt_X8_workAhead 3 rfl) ?_
  refine v_istore_n (lv' := [(3, _), (0, _), (1, _), (2, _)]) (pc := 8) h (dk dt_X8_workAhead 4 rfl) (Nat.le_of_ble_eq_true rfl) rfl ?_
  refine v_iconst (pc := 9) h (dk dt_X8_workAhead 5 rfl) ?_
  refine v_istore (lv' := [(4, _), (3, _), (0, _), (1, _), (2, _)]) (pc := 10) h (dk dt_X8_workAhead 6 rfl) (Nat.le_of_ble_eq_true rfl) rfl ?_
  exact VV.loc (loop (μ 20 3).toNat 0 (by omega)) ⟨rfl, rfl, rfl, rfl, rfl, trivial⟩
end
/-! ===== two workers: the run, told once for both ===== -/
def lsF (J : Mm) (n : Nat) (K : Nat → Int) (σ : Mm) (x : Int) : Nat → Int
  | 0 => -1
  | j + 1 => if (rdy σ j ∧ (j : Int) ≠ x) ∧ (lsF J n K σ x j = -1 ∨ keyR J n K σ j < keyR J n K σ (lsF J n K σ x j).toNat) then (j : Int) else lsF J n K σ x j
/-- a moment's work at c, if there is one -/
def p1N (σ : Mm) (c : Int) : Mm := fun a b => if c ≠ -1 ∧ b = c.toNat ∧ a = 0 then σ 0 b - 1 else if c ≠ -1 ∧ b = c.toNat ∧ a = 1 ∧ σ 0 b = 1 then σ 6 6 + 1 else σ a b
def w1N (J : Mm) (n : Nat) (K : Nat → Int) (σ : Mm) : Int := lsF J n K σ (-1) n
def w2N (J : Mm) (n : Nat) (K : Nat → Int) (σ : Mm) : Int := lsF J n K σ (w1N J n K σ) n
def tsN (J : Mm) (n : Nat) (K : Nat → Int) (σ : Mm) : Mm := mup (p1N (p1N (adN J n σ) (w1N J n K (adN J n σ))) (w2N J n K (adN J n σ))) 6 6 (σ 6 6 + 1)
def twF (J : Mm) (n : Nat) (K : Nat → Int) : Nat → Mm → Mm
  | 0, σ => σ
  | d + 1, σ => if ovr n σ then σ else twF J n K d (tsN J n K σ)
def K2 (le : Int) : Nat → Int := fun i => if i = 0 then (if le = 0 then 6 else 3) else if i = 1 then 1 else 0
def tnN (J : Mm) (n : Nat) (le : Int) : Mm := twF J n (K2 le) 2304 (inN J 0)
section
variable {J : Mm} {n : Nat} {σ σ' : Mm} {K : Nat → Int}
theorem lsF_is (J : Mm) (n : Nat) (K : Nat → Int) (σ : Mm) (x : Int) : ∀ m : Nat, (lsF J n K σ x m = -1 ∧ ∀ j, j < m → ¬ (rdy σ j ∧ (j : Int) ≠ x)) ∨ ∃ j, j < m ∧ lsF J n K σ x m = (j : Int) ∧ rdy σ j ∧ (j : Int) ≠ x := by
  intro m
  induction m with
  | zero => exact Or.inl ⟨rfl, fun j hj => absurd hj (by omega)⟩
  | succ m ih =>
    simp only [lsF]
    split
    · rename_i h
      exact Or.inr ⟨m, by omega, rfl, h.1.1, h.1.2⟩
    · rename_i h
      rcases ih with ⟨h1, h2⟩ | ⟨j, h1, h2, h3⟩
      · refine Or.inl ⟨h1, fun j hj q => ?_⟩
        by_cases e : j = m
        · subst e; exact h ⟨q, Or.inl h1⟩
        · exact h2 j (by omega) q
      · exact Or.inr ⟨j, by omega, h2, h3⟩
theorem vB_ad (hB : vB J n σ) : vB J n (adN J n σ) := by
  have e0 : adN J n σ 0 = σ 0 := ad_o (by decide) (by decide) (by decide)
  have e1 : adN J n σ 1 = σ 1 := ad_o (by decide) (by decide) (by decide)
  have e4 : adN J n σ 4 = σ 4 := ad_o (by decide) (by decide) (by decide)
  have e6 : adN J n σ 6 = σ 6 := ad_o (by decide) (by decide) (by decide)
  have hz := lcZ_b hB
  refine ⟨by rw [e6]; exact hB.1, fun j hj => ?_⟩
  have h1 := hB.2 j hj
  have h0 := hB.1
  unfold vBj
  rw [ad_5, ad_2, ad_3, e0, e1, e4, e6]
  by_cases c : comP J σ (σ 6 6) j
  · have := c.1
    have e := h1.2.2.1 (by rcases h1.1 with q | q; exact q; exact absurd q this)
    rw [if_pos ⟨hj, c⟩, if_pos ⟨hj, c⟩, if_pos ⟨hj, c⟩]
    exact ⟨Or.inr rfl, h1.2.1, fun z => absurd z (by decide), h1.2.2.2.1, h1.2.2.2.2.1, by omega, hz, h1.2.2.2.2.2.2.2⟩
  · rw [if_neg (fun z => c z.2), if_neg (fun z => c z.2), if_neg (fun z => c z.2)]
    exact h1
theorem vW_ad (hW : vW J n σ) : vW J n (adN J n σ) := by
  intro j hj
  have h1 := hW j hj
  unfold vWj
  rw [ad_5, ad_o (a := 0) (by decide) (by decide) (by decide), ad_o (a := 6) (by decide) (by decide) (by decide)]
  by_cases c : comP J σ (σ 6 6) j
  · exact fun _ => ⟨c.2.1, c.2.2⟩
  · rw [if_neg (fun z => c z.2)]; exact h1
theorem ad_no {j : Nat} (hj : j < n) : ¬ comP J (adN J n σ) (adN J n σ 6 6) j := by
  rw [ad_o (a := 6) (by decide) (by decide) (by decide)]
  rintro ⟨h1, h2, h3⟩
  rw [ad_5] at h1
  rw [ad_o (by decide) (by decide) (by decide)] at h3
  by_cases c : comP J σ (σ 6 6) j
  · rw [if_pos ⟨hj, c⟩] at h1; exact h1 rfl
  · rw [if_neg (fun z => c z.2)] at h1
    exact c ⟨h1, h2, h3⟩
theorem p1_0 (c : Int) (b : Nat) : p1N σ c 0 b = if c ≠ -1 ∧ b = c.toNat then σ 0 b - 1 else σ 0 b := by
  unfold p1N
  by_cases h : c ≠ -1 ∧ b = c.toNat
  · rw [if_pos ⟨h.1, h.2, rfl⟩, if_pos h]
  · rw [if_neg (fun z => h ⟨z.1, z.2.1⟩), if_neg (fun z => h ⟨z.1, z.2.1⟩), if_neg h]
theorem p1_1 (c : Int) (b : Nat) : p1N σ c 1 b = if c ≠ -1 ∧ b = c.toNat ∧ σ 0 b = 1 then σ 6 6 + 1 else σ 1 b := by
  unfold p1N
  rw [if_neg (fun z => by omega)]
  by_cases h : c ≠ -1 ∧ b = c.toNat ∧ σ 0 b = 1
  · rw [if_pos ⟨h.1, h.2.1, rfl, h.2.2⟩, if_pos h]
  · rw [if_neg (fun z => h ⟨z.1, z.2.1, z.2.2.2⟩), if_neg h]
theorem p1_o {a : Nat} (c : Int) (h0 : a ≠ 0) (h1 : a ≠ 1) : p1N σ c a = σ a := by
  funext b
  unfold p1N
  rw [if_neg (fun z => h0 z.2.2), if_neg (fun z => h1 z.2.2.1)]
/-- the numbers' order behind works at the moment t, told with the moment that follows -/
def vP (J : Mm) (n : Nat) (σ : Mm) : Prop := vB J n (mup σ 6 6 (σ 6 6 + 1)) ∧ vW J n (mup σ 6 6 (σ 6 6 + 1))
theorem vP_of (hB : vB J n σ) (hW : vW J n σ) : vP J n σ := by
  have o : ∀ a, a ≠ 6 → mup σ 6 6 (σ 6 6 + 1) a = σ a := fun a h => by funext b; exact mup_nk h
  have h0 := hB.1
  refine ⟨⟨by rw [mup_eq]; omega, fun j hj => ?_⟩, fun j hj => ?_⟩
  · have h1 := hB.2 j hj
    unfold vBj
    rw [o 0 (by decide), o 1 (by decide), o 2 (by decide), o 3 (by decide), o 4 (by decide), o 5 (by decide), mup_eq]
    exact ⟨h1.1, h1.2.1, h1.2.2.1, h1.2.2.2.1, fun z => by have := h1.2.2.2.2.1 z; omega, by omega, by omega, by omega⟩
  · have h1 := hW j hj
    unfold vWj
    rw [o 0 (by decide), o 5 (by decide), mup_eq]
    exact fun z => ⟨by have := (h1 z).1; omega, (h1 z).2⟩
theorem vP_w (h : vP J n σ) {c : Int} (hc : c ≠ -1 → ∃ j : Nat, c = (j : Int) ∧ j < n ∧ rdy σ j ∧ J 0 j ≤ σ 6 6) : vP J n (p1N σ c) := by
  obtain ⟨hB, hW⟩ := h
  have o : ∀ (τ : Mm) a, a ≠ 6 → mup τ 6 6 (τ 6 6 + 1) a = τ a := fun τ a h => by funext b; exact mup_nk h
  have e6 : p1N σ c 6 = σ 6 := p1_o c (by decide) (by decide)
  have h0 := hB.1
  rw [mup_eq] at h0
  refine ⟨⟨by rw [mup_eq, e6]; exact h0, fun j hj => ?_⟩, fun j hj => ?_⟩
  · have h1 := hB.2 j hj
    unfold vBj at h1 ⊢
    rw [o _ 0 (by decide), o _ 1 (by decide), o _ 2 (by decide), o _ 3 (by decide), o _ 4 (by decide), o _ 5 (by decide), mup_eq] at h1 ⊢
    rw [e6, p1_o c (a := 2) (by decide) (by decide), p1_o c (a := 3) (by decide) (by decide), p1_o c (a := 4) (by decide) (by decide), p1_o c (a := 5) (by decide) (by decide), p1_0, p1_1]
    by_cases q : c ≠ -1 ∧ j = c.toNat
    · obtain ⟨i, e, hi, hr, hJ⟩ := hc q.1
      have e2 : i = j := by omega
      subst e2
      have hr1 := hr.1
      have hr2 := hr.2
      rw [if_pos q]
      refine ⟨h1.1, by omega, fun z => by omega, fun z => ?_, fun z => ?_, h1.2.2.2.2.2.1, h1.2.2.2.2.2.2.1, h1.2.2.2.2.2.2.2⟩
      · rw [if_neg (fun y => by omega)]; exact h1.2.2.2.1 (by omega)
      · rw [if_pos ⟨q.1, q.2, by omega⟩]; omega
    · rw [if_neg q, if_neg (fun z => q ⟨z.1, z.2.1⟩)]
      exact h1
  · have h1 := hW j hj
    unfold vWj at h1 ⊢
    rw [o _ 0 (by decide), o _ 5 (by decide), mup_eq] at h1 ⊢
    rw [e6, p1_o c (a := 5) (by decide) (by decide)]
    intro z
    refine ⟨(h1 z).1, fun k hk hb => ?_⟩
    have h3 := (h1 z).2 k hk hb
    rw [p1_0]
    by_cases q : c ≠ -1 ∧ k = c.toNat
    · obtain ⟨i, e, hi, hr, -⟩ := hc q.1
      have := hr.2
      rw [show i = k by omega] at this
      omega
    · rw [if_neg q]; exact h3
theorem dn_p1 {c : Int} (hc : c ≠ -1 → ∃ j : Nat, c = (j : Int) ∧ j < n) : dnF J (p1N σ c) n = dnF J σ n + if c = -1 then 0 else 1 := by
  unfold dnF
  by_cases q : c = -1
  · rw [if_pos q, Int.add_zero]
    exact smF_cong (fun j _ => by rw [p1_0, if_neg (fun z => z.1 q)])
  · obtain ⟨i, e, hi⟩ := hc q
    rw [if_neg q]
    refine smF_upd hi (fun j _ hj => ?_) ?_
    · show J 1 j - p1N σ c 0 j = J 1 j - σ 0 j
      rw [p1_0, if_neg (fun z => hj (by omega))]
    · show J 1 i - p1N σ c 0 i = J 1 i - σ 0 i + 1
      rw [p1_0, if_pos ⟨q, by omega⟩]; omega
theorem w1_is : (w1N J n K σ = -1 ∧ ∀ j, j < n → ¬ rdy σ j) ∨ ∃ j, j < n ∧ w1N J n K σ = (j : Int) ∧ rdy σ j := by
  rcases lsF_is J n K σ (-1) n with ⟨h1, h2⟩ | ⟨j, h1, h2, h3, -⟩
  · exact Or.inl ⟨h1, fun j hj q => h2 j hj ⟨q, by omega⟩⟩
  · exact Or.inr ⟨j, h1, h2, h3⟩
theorem w2_is : w2N J n K σ = -1 ∨ ∃ j, j < n ∧ w2N J n K σ = (j : Int) ∧ rdy σ j ∧ (j : Int) ≠ w1N J n K σ := by
  rcases lsF_is J n K σ (w1N J n K σ) n with ⟨h1, h2⟩ | ⟨j, h1, h2, h3, h4⟩
  · exact Or.inl h1
  · exact Or.inr ⟨j, h1, h2, h3, h4⟩
theorem ts_66 : tsN J n K σ 6 6 = σ 6 6 + 1 := mup_eq _ _ _ _
theorem ts_v (hD : okD J n) (hB : vB J n σ) (hW : vW J n σ) (ho : ¬ ovr n σ) (ht : σ 6 6 ≤ 99 + dnF J σ n) : vB J n (tsN J n K σ) ∧ vW J n (tsN J n K σ) ∧ tsN J n K σ 6 6 ≤ 99 + dnF J (tsN J n K σ) n := by
  have hB1 := vB_ad hB
  have hW1 := vW_ad hW
  have e66 : adN J n σ 6 6 = σ 6 6 := by rw [ad_o (by decide) (by decide) (by decide)]
  have e0 : adN J n σ 0 = σ 0 := ad_o (by decide) (by decide) (by decide)
  have hno := fun j (hj : j < n) => ad_no (J := J) (σ := σ) hj
  generalize hs1 : adN J n σ = σ1 at *
  have hP0 := vP_of hB1 hW1
  have hc1 : w1N J n K σ1 ≠ -1 → ∃ j : Nat, w1N J n K σ1 = (j : Int) ∧ j < n ∧ rdy σ1 j ∧ J 0 j ≤ σ1 6 6 := by
    intro q
    rcases w1_is (J := J) (n := n) (K := K) (σ := σ1) with ⟨h, -⟩ | ⟨j, h1, h2, h3⟩
    · exact absurd h q
    · exact ⟨j, h2, h1, h3, (hW1 j h1 h3.1).1⟩
  have hP1 := vP_w hP0 hc1
  have hc2 : w2N J n K σ1 ≠ -1 → ∃ j : Nat, w2N J n K σ1 = (j : Int) ∧ j < n ∧ rdy (p1N σ1 (w1N J n K σ1)) j ∧ J 0 j ≤ p1N σ1 (w1N J n K σ1) 6 6 := by
    intro q
    rcases w2_is (J := J) (n := n) (K := K) (σ := σ1) with h | ⟨j, h1, h2, h3, h4⟩
    · exact absurd h q
    · refine ⟨j, h2, h1, ?_, ?_⟩
      · unfold rdy
        rw [p1_o _ (a := 5) (by decide) (by decide), p1_0, if_neg (fun z => by
          rcases w1_is (J := J) (n := n) (K := K) (σ := σ1) with ⟨y, -⟩ | ⟨i, -, y, -⟩ <;> omega)]
        exact h3
      · rw [p1_o _ (a := 6) (by decide) (by decide)]; exact (hW1 j h1 h3.1).1
  have hP2 := vP_w hP1 hc2
  have e66b : p1N (p1N σ1 (w1N J n K σ1)) (w2N J n K σ1) 6 6 = σ1 6 6 := by rw [p1_o _ (a := 6) (by decide) (by decide), p1_o _ (a := 6) (by decide) (by decide)]
  have ets : tsN J n K σ = mup (p1N (p1N σ1 (w1N J n K σ1)) (w2N J n K σ1)) 6 6 (p1N (p1N σ1 (w1N J n K σ1)) (w2N J n K σ1) 6 6 + 1) := by
    unfold tsN; rw [hs1, e66b, e66]
  have hd2 := dn_p1 (J := J) (n := n) (σ := p1N σ1 (w1N J n K σ1)) (c := w2N J n K σ1) (fun q => by obtain ⟨j, h1, h2, -⟩ := hc2 q; exact ⟨j, h1, h2⟩)
  have hd1 := dn_p1 (J := J) (n := n) (σ := σ1) (c := w1N J n K σ1) (fun q => by obtain ⟨j, h1, h2, -⟩ := hc1 q; exact ⟨j, h1, h2⟩)
  have hd0 : dnF J σ1 n = dnF J σ n := by unfold dnF; rw [e0]
  refine ⟨by rw [ets]; exact hP2.1, by rw [ets]; exact hP2.2, ?_⟩
  rw [ts_66]
  have hdt : dnF J (tsN J n K σ) n = dnF J (p1N (p1N σ1 (w1N J n K σ1)) (w2N J n K σ1)) n := by
    unfold dnF
    exact smF_cong (fun j _ => by rw [ets, mup_nk (by omega)])
  rw [hdt, hd2, hd1, hd0]
  have hN : 0 ≤ dnF J σ n := smF_nn (fun j hj => by have := (hB.2 j hj).2.1; omega)
  rcases w1_is (J := J) (n := n) (K := K) (σ := σ1) with ⟨h1, h2⟩ | ⟨j, h1, h2, h3⟩
  · have hlt := late_busy hD hB1 hno h2 (fun q => ho (fun j hj => by rw [← e0]; exact q j hj))
    rw [h1, if_pos rfl]
    split <;> omega
  · rw [if_neg (show ¬ w1N J n K σ1 = -1 by omega)]
    split <;> omega
theorem tw_v (hD : okD J n) : ∀ (d : Nat) (σ : Mm), vB J n σ → vW J n σ → σ 6 6 ≤ 99 + dnF J σ n → vB J n (twF J n K d σ) ∧ vW J n (twF J n K d σ) ∧ twF J n K d σ 6 6 ≤ 99 + dnF J (twF J n K d σ) n ∧ (ovr n (twF J n K d σ) ∨ twF J n K d σ 6 6 = σ 6 6 + d) := by
  intro d
  induction d with
  | zero => intro σ h1 h2 h3; exact ⟨h1, h2, h3, Or.inr (by simp [twF])⟩
  | succ d ih =>
    intro σ h1 h2 h3
    unfold twF
    by_cases c : ovr n σ
    · rw [if_pos c]; exact ⟨h1, h2, h3, Or.inl c⟩
    · rw [if_neg c]
      have q := ts_v (K := K) hD h1 h2 c h3
      have z := ih _ q.1 q.2.1 q.2.2
      refine ⟨z.1, z.2.1, z.2.2.1, ?_⟩
      rcases z.2.2.2 with y | y
      · exact Or.inl y
      · rw [ts_66] at y; exact Or.inr (by omega)
theorem tn_is (hD : okD J n) {le : Int} : vB J n (tnN J n le) ∧ ovr n (tnN J n le) ∧ tnN J n le 6 6 ≤ 460 := by
  have h := vS_in (K := K2 le) hD (z := 0)
  have e66 : inN J 0 6 6 = 0 := by simp [inN]
  have hN : 0 ≤ dnF J (inN J 0) n := smF_nn (fun j hj => by have := (h.1.2 j hj).2.1; show 0 ≤ J 1 j - (inS J 0).1 0 j; omega)
  have q := tw_v (K := K2 le) hD 2304 (inN J 0) h.1 h.2.1 (by omega)
  have h3 := dn_le hD q.1
  refine ⟨q.1, ?_, by show twF J n (K2 le) 2304 (inN J 0) 6 6 ≤ 460; omega⟩
  rcases q.2.2.2 with y | y
  · exact y
  · exfalso; omega
end
