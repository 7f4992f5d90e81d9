/-! ===== the model's run: rows of jobs, who becomes ready ===== -/
/-- row i of the model holds the jobs L, each of them on the level i -/
def bQ (μ : Mm) (i : Nat) (L : List Nat) : Prop := μ 148 i = (L.length : Int) ∧ ∀ k j : Nat, L[k]? = some j → μ 147 (12 * i + k) = (j : Int) ∧ μ 149 j = (i : Int)
def Mjn (μ : Mm) (i c : Nat) : Mm := mup (mup (mup μ 147 (12 * i + (μ 148 i).toNat) (c : Int)) 148 i (μ 148 i + 1)) 149 c (i : Int)
def Mtks (μ : Mm) (i t : Nat) : Mm := fun a b => if a = 147 ∧ 12 * i ≤ b ∧ b < 12 * i + t then μ 147 (b + 1) else if a = 148 ∧ b = i then μ 148 i - 1 else μ a b
section
variable {μ m σ σ' J : Mm} {n : Nat}
theorem bQ_c (h7 : m 147 = μ 147) (h8 : m 148 = μ 148) (h9 : m 149 = μ 149) {i : Nat} {L : List Nat} (h : bQ μ i L) : bQ m i L := by unfold bQ; rw [h7, h8, h9]; exact h
theorem bQ_j {i c : Nat} {L : List Nat} (h : bQ μ i L) : bQ (Mjn μ i c) i (L ++ [c]) := by
  have e : (μ 148 i).toNat = L.length := by rw [h.1]; rfl
  unfold Mjn
  refine ⟨?_, fun k j hk => ?_⟩
  · rw [mup_nk (by omega), mup_eq, h.1, List.length_append]; rfl
  · rw [mup_nk (by omega), mup_nk (by omega), mup_row, e, mup_row]
    by_cases q : k = L.length
    · subst q
      rw [List.getElem?_append_right (Nat.le_refl _), Nat.sub_self] at hk
      simp at hk
      rw [if_pos rfl, hk, if_pos rfl]
      exact ⟨rfl, rfl⟩
    · have hi : k < L.length := by
        have := (List.getElem?_eq_some_iff.mp hk).1
        rw [List.length_append] at this
        simp at this
        omega
      rw [List.getElem?_append_left hi] at hk
      have := h.2 k j hk
      rw [if_neg (by omega)]
      refine ⟨this.1, ?_⟩
      split
      · rfl
      · rw [mup_nk (by omega), mup_nk (by omega)]; exact this.2
theorem bQ_jo {i i' c : Nat} {L : List Nat} (hne : i' ≠ i) (hi : (μ 148 i).toNat < 12) (hl : L.length ≤ 12) (hc : c ∉ L) (h : bQ μ i' L) : bQ (Mjn μ i c) i' L := by
  unfold Mjn
  refine ⟨?_, fun k j hk => ?_⟩
  · rw [mup_nk (by omega), mup_ne (fun z => hne z.2), mup_nk (by omega)]; exact h.1
  · have hk2 := (List.getElem?_eq_some_iff.mp hk).1
    have := h.2 k j hk
    rw [mup_nk (by omega), mup_nk (by omega), mup_row, mup_row, if_neg (by omega)]
    refine ⟨this.1, ?_⟩
    rw [if_neg (fun z : j = c => hc (z ▸ List.mem_of_getElem? hk)), mup_nk (by omega), mup_nk (by omega)]
    exact this.2
theorem bQ_t {i c : Nat} {L : List Nat} (h : bQ μ i (c :: L)) : bQ (Mtks μ i L.length) i L := by
  have h1 : μ 148 i = (L.length : Int) + 1 := h.1
  refine ⟨?_, fun k j hk => ?_⟩
  · unfold Mtks; rw [if_neg (by omega), if_pos ⟨rfl, rfl⟩, h1]; omega
  · have hk2 := (List.getElem?_eq_some_iff.mp hk).1
    have := h.2 (k + 1) j (by simpa using hk)
    unfold Mtks
    rw [if_pos ⟨rfl, by omega, by omega⟩, if_neg (by omega), if_neg (by omega)]
    exact this
theorem bQ_to {i i' t : Nat} {L : List Nat} (hne : i' ≠ i) (ht : t < 12) (hl : L.length ≤ 12) (h : bQ μ i' L) : bQ (Mtks μ i t) i' L := by
  refine ⟨?_, fun k j hk => ?_⟩
  · unfold Mtks; rw [if_neg (by omega), if_neg (fun z => hne z.2)]; exact h.1
  · have hk2 := (List.getElem?_eq_some_iff.mp hk).1
    have := h.2 k j hk
    unfold Mtks
    rw [if_neg (by omega), if_neg (by omega), if_neg (by omega), if_neg (by omega)]
    exact this
theorem Mjn_o {i c a : Nat} (h : a < 147 ∨ 149 < a) : Mjn μ i c a = μ a := by
  funext b
  unfold Mjn
  rw [mup_nk (by omega), mup_nk (by omega), mup_nk (by omega)]
theorem Mtks_o {i t a : Nat} (h : a < 147 ∨ 148 < a) : Mtks μ i t a = μ a := by
  funext b
  unfold Mtks
  rw [if_neg (by omega), if_neg (by omega)]
end
section
variable {l : Launch} {B : Nat} {D : va_G} {E : Nat → ClassId} {μ m σ : Mm} {w n : Nat} {K : Nat → Int} {s : St} {J : Mm}
theorem c_X12_joins (hst : l.stackTraces = false) {i c : Nat} (hi : i < 3) (hc : c < 12) (hq : 0 ≤ μ 148 i ∧ μ 148 i < 12) :
    Ct l B D E yX12_joins (.code yX12_joins cX12_joins 3 none) rm_X12_joins [.ref (pl B 123), iI (i : Int), iI (c : Int)] μ (rv (Mjn μ i c)) NX := by
  obtain ⟨k, hk⟩ : ∃ k : Nat, μ 148 i = (k : Int) := ⟨(μ 148 i).toNat, by omega⟩
  have hM : Mjn μ i c = mup (mup (mup μ 147 (12 * i + k) (c : Int)) 148 i ((k : Int) + 1)) 149 c (i : Int) := by unfold Mjn; rw [hk, Int.toNat_natCast]
  refine ct_of (own := RX12) (lv := [(0, _), (1, _), (2, _)]) hst (by decide) rfl rfl (Nat.le_of_ble_eq_true rfl) fun a h r t => ?_
  refine v_aload_n (pc := 0) h (dk dt_X12_joins 0 rfl) rfl ?_
  refine v_getr (pc := 1) h ci12 sh123 (Nat.le_of_ble_eq_true rfl) (j := 36) wF_X12_93 rfl (dk dt_X12_joins 1 rfl) ?_
  refine v_bipush (pc := 4) h (dk dt_X12_joins 2 rfl) rfl ?_
  refine v_iload_n (pc := 6) h (dk dt_X12_joins 3 rfl) rfl ?_
  refine v_imul (pc := 7) h (dk dt_X12_joins 4 rfl) ?_
  refine v_aload_n (pc := 8) h (dk dt_X12_joins 5 rfl) rfl ?_
  refine v_getr (pc := 9) h ci12 sh123 (Nat.le_of_ble_eq_true rfl) (j := 37) wF_X12_96 rfl (dk dt_X12_joins 6 rfl) ?_
  refine v_iload_n (pc := 12) h (dk dt_X12_joins 7 rfl) rfl ?_
  refine v_iald (pc := 13) h sh148 (Nat.le_of_ble_eq_true rfl) (by omega) (dk dt_X12_joins 8 rfl) ?_
  rw [Int.toNat_natCast, hk]
  refine v_iadd (pc := 14) h (dk dt_X12_joins 9 rfl) ?_
  rw [show 12 * (i : Int) + (k : Int) = ((12 * i + k : Nat) : Int) by omega]
  refine v_iload_n (pc := 15) h (dk dt_X12_joins 10 rfl) rfl ?_
  refine v_iast (pc := 16) h sh147 (Nat.le_of_ble_eq_true rfl) (by omega) (dk dt_X12_joins 11 rfl) ?_
  rw [Int.toNat_natCast]
  refine v_aload_n (pc := 17) h (dk dt_X12_joins 12 rfl) rfl ?_
  refine v_getr (pc := 18) h ci12 sh123 (Nat.le_of_ble_eq_true rfl) (j := 37) wF_X12_96 rfl (dk dt_X12_joins 13 rfl) ?_
  refine v_iload_n (pc := 21) h (dk dt_X12_joins 14 rfl) rfl ?_
  refine v_dup2 (pc := 22) h (dk dt_X12_joins 15 rfl) rfl rfl ?_
  refine v_iald (pc := 23) h sh148 (Nat.le_of_ble_eq_true rfl) (by omega) (dk dt_X12_joins 16 rfl) ?_
  rw [Int.toNat_natCast, mup_nk (show (148 : Nat) ≠ 147 by decide), hk]
  refine v_iconst (pc := 24) h (dk dt_X12_joins 17 rfl) ?_
  refine v_iadd (pc := 25) h (dk dt_X12_joins 18 rfl) ?_
  refine v_iast (pc := 26) h sh148 (Nat.le_of_ble_eq_true rfl) (by omega) (dk dt_X12_joins 19 rfl) ?_
  rw [Int.toNat_natCast]
  refine v_aload_n (pc := 27) h (dk dt_X12_joins 20 rfl) rfl ?_
  refine v_getr (pc := 28) h ci12 sh123 (Nat.le_of_ble_eq_true rfl) (j := 38) wF_X12_99 rfl (dk dt_X12_joins 21 rfl) ?_
  refine v_iload_n (pc := 31) h (dk dt_X12_joins 22 rfl) rfl ?_
  refine v_iload_n (pc := 32) h (dk dt_X12_joins 23 rfl) rfl ?_
  refine v_iast (pc := 33) h sh149 (Nat.le_of_ble_eq_true rfl) (by omega) (dk dt_X12_joins 24 rfl) ?_
  rw [Int.toNat_natCast]
  exact v_vret (pc := 34) h r (dk dt_X12_joins 25 rfl) (Nat.le_of_ble_eq_true rfl) (Nat.le_of_ble_eq_true rfl) ⟨rfl, hM.symm⟩
theorem c_X12_takes (hst : l.stackTraces = false) {i te : Nat} (hi : i < 3) (hq : μ 148 i = (te : Int) + 1) (ht : te < 12) :
    Ct l B D E yX12_takes (.code yX12_takes cX12_takes 4 (some .int)) rm_X12_takes [.ref (pl B 123), iI (i : Int)] μ (ri (μ 147 (12 * i)) (Mtks μ i te)) NX := by
  have e48 : ∀ k, Mtks μ i k 148 i = (te : Int) := fun k => by unfold Mtks; rw [if_neg (by omega), if_pos ⟨rfl, rfl⟩, hq]; omega
  refine ct_of (own := RX12) (lv := [(0, _), (1, _)]) hst (by decide) rfl rfl (Nat.le_of_ble_eq_true rfl) fun a h r t => ?_
  have loop : ∀ (d k : Nat), k + d = te → VV a B (SP B D E (Mtks μ i k)) 0 0 22 [(3, iI (k : Int)), (2, iI (μ 147 (12 * i))), (0, .ref (pl B 123)), (1, iI (i : Int))] [] := by
    intro d
    induction d with
    | zero =>
      intro k hk
      refine v_iload_n (pc := 22) h (dk dt_X12_takes 17 rfl) rfl ?_
      refine v_aload_n (pc := 23) h (dk dt_X12_takes 18 rfl) rfl ?_
      refine v_getr (pc := 24) h ci12 sh123 (Nat.le_of_ble_eq_true rfl) (j := 37) wF_X12_96 rfl (dk dt_X12_takes 19 rfl) ?_
      refine v_iload_n (pc := 27) h (dk dt_X12_takes 20 rfl) rfl ?_
      refine v_iald (pc := 28) h sh148 (Nat.le_of_ble_eq_true rfl) (by omega) (dk dt_X12_takes 21 rfl) ?_
      rw [Int.toNat_natCast, e48]
      refine v_icmp_ge (pc := 29) h 62 (dk dt_X12_takes 22 rfl) rfl (by omega) (fun c29 => ?_) (fun c29 => ?_)
      ·
        refine v_iload_n (pc := 62) h (dk dt_X12_takes 43 rfl) rfl ?_
        exact v_iret (pc := 63) h r (dk dt_X12_takes 44 rfl) (Nat.le_of_ble_eq_true rfl) (Nat.le_of_ble_eq_true rfl) ⟨rfl, by rw [show te = k by omega]⟩
      ·
        exact absurd c29 (by omega)
    | succ d ih =>
      intro k hk
      have es : mup (Mtks μ i k) 147 (12 * i + k) (Mtks μ i k 147 (12 * i + k + 1)) = Mtks μ i (k + 1) := by
        funext a b
        simp only [mup, Mtks]
        grind
      refine v_iload_n (pc := 22) h (dk dt_X12_takes 17 rfl) rfl ?_
      refine v_aload_n (pc := 23) h (dk dt_X12_takes 18 rfl) rfl ?_
      refine v_getr (pc := 24) h ci12 sh123 (Nat.le_of_ble_eq_true rfl) (j := 37) wF_X12_96 rfl (dk dt_X12_takes 19 rfl) ?_
      refine v_iload_n (pc := 27) h (dk dt_X12_takes 20 rfl) rfl ?_
      refine v_iald (pc := 28) h sh148 (Nat.le_of_ble_eq_true rfl) (by omega) (dk dt_X12_takes 21 rfl) ?_
      rw [Int.toNat_natCast, e48]
      refine v_icmp_ge (pc := 29) h 62 (dk dt_X12_takes 22 rfl) rfl (by omega) (fun c29 => ?_) (fun c29 => ?_)
      ·
        exact absurd c29 (by omega)
      ·
        refine v_aload_n (pc := 32) h (dk dt_X12_takes 23 rfl) rfl ?_
        refine v_getr (pc := 33) h ci12 sh123 (Nat.le_of_ble_eq_true rfl) (j := 36) wF_X12_93 rfl (dk dt_X12_takes 24 rfl) ?_
        refine v_bipush (pc := 36) h (dk dt_X12_takes 25 rfl) rfl ?_
        refine v_iload_n (pc := 38) h (dk dt_X12_takes 26 rfl) rfl ?_
        refine v_imul (pc := 39) h (dk dt_X12_takes 27 rfl) ?_
        refine v_iload_n (pc := 40) h (dk dt_X12_takes 28 rfl) rfl ?_
        refine v_iadd (pc := 41) h (dk dt_X12_takes 29 rfl) ?_
        rw [show 12 * (i : Int) + (k : Int) = ((12 * i + k : Nat) : Int) by omega]
        refine v_aload_n (pc := 42) h (dk dt_X12_takes 30 rfl) rfl ?_
        refine v_getr (pc := 43) h ci12 sh123 (Nat.le_of_ble_eq_true rfl) (j := 36) wF_X12_93 rfl (dk dt_X12_takes 31 rfl) ?_
        refine v_bipush (pc := 46) h (dk dt_X12_takes 32 rfl) rfl ?_
        refine v_iload_n (pc := 48) h (dk dt_X12_takes 33 rfl) rfl ?_
        refine v_imul (pc := 49) h (dk dt_X12_takes 34 rfl) ?_
        refine v_iload_n (pc := 50) h (dk dt_X12_takes 35 rfl) rfl ?_
        refine v_iadd (pc := 51) h (dk dt_X12_takes 36 rfl) ?_
        refine v_iconst (pc := 52) h (dk dt_X12_takes 37 rfl) ?_
        refine v_iadd (pc := 53) h (dk dt_X12_takes 38 rfl) ?_
        rw [show 12 * (i : Int) + (k : Int) + 1 = ((12 * i + k + 1 : Nat) : Int) by omega]
        refine v_iald (pc := 54) h sh147 (Nat.le_of_ble_eq_true rfl) (by omega) (dk dt_X12_takes 39 rfl) ?_
        rw [Int.toNat_natCast]
        refine v_iast (pc := 55) h sh147 (Nat.le_of_ble_eq_true rfl) (by omega) (dk dt_X12_takes 40 rfl) ?_
        rw [Int.toNat_natCast, es]
        refine v_iinc (lv' := [(3, _), (2, _), (0, _), (1, _)]) (pc := 56) h (dk dt_X12_takes 41 rfl) rfl (Nat.le_of_ble_eq_true rfl) rfl ?_
        refine v_goto (pc := 59) h 22 (dk dt_X12_takes 42 rfl) rfl ?_
        exact VV.loc (ih (k + 1) (by omega)) ⟨rfl, rfl, rfl, rfl, trivial⟩
  have e0 : mup μ 148 i (te : Int) = Mtks μ i 0 := by
    funext a b
    simp only [mup, Mtks]
    grind
  refine v_aload_n (pc := 0) h (dk dt_X12_takes 0 rfl) rfl ?_
  refine v_getr (pc := 1) h ci12 sh123 (Nat.le_of_ble_eq_true rfl) (j := 36) wF_X12_93 rfl (dk dt_X12_takes 1 rfl) ?_
  refine v_bipush (pc := 4) h (dk dt_X12_takes 2 rfl) rfl ?_
  refine v_iload_n (pc := 6) h (dk dt_X12_takes 3 rfl) rfl ?_
  refine v_imul (pc := 7) h (dk dt_X12_takes 4 rfl) ?_
  rw [show 12 * (i : Int) = ((12 * i : Nat) : Int) by omega]
  refine v_iald (pc := 8) h sh147 (Nat.le_of_ble_eq_true rfl) (by omega) (dk dt_X12_takes 5 rfl) ?_
  rw [Int.toNat_natCast]
  refine v_istore_n (lv' := [(2, _), (0, _), (1, _)]) (pc := 9) h (dk dt_X12_takes 6 rfl) (Nat.le_of_ble_eq_true rfl) rfl ?_
  refine v_aload_n (pc := 10) h (dk dt_X12_takes 7 rfl) rfl ?_
  refine v_getr (pc := 11) h ci12 sh123 (Nat.le_of_ble_eq_true rfl) (j := 37) wF_X12_96 rfl (dk dt_X12_takes 8 rfl) ?_
  refine v_iload_n (pc := 14) h (dk dt_X12_takes 9 rfl) rfl ?_
  refine v_dup2 (pc := 15) h (dk dt_X12_takes 10 rfl) rfl rfl ?_
  refine v_iald (pc := 16) h sh148 (Nat.le_of_ble_eq_true rfl) (by omega) (dk dt_X12_takes 11 rfl) ?_
  rw [Int.toNat_natCast, hq]
  refine v_iconst (pc := 17) h (dk dt_X12_takes 12 rfl) ?_
  refine v_isub (pc := 18) h (dk dt_X12_takes 13 rfl) ?_
  rw [show (te : Int) + 1 - 1 = (te : Int) by omega]
  refine v_iast (pc := 19) h sh148 (Nat.le_of_ble_eq_true rfl) (by omega) (dk dt_X12_takes 14 rfl) ?_
  rw [Int.toNat_natCast, e0]
  refine v_iconst (pc := 20) h (dk dt_X12_takes 15 rfl) ?_
  refine v_istore_n (lv' := [(3, _), (2, _), (0, _), (1, _)]) (pc := 21) h (dk dt_X12_takes 16 rfl) (Nat.le_of_ble_eq_true rfl) rfl ?_
  exact VV.loc (loop te 0 (by omega)) ⟨rfl, rfl, rfl, rfl, trivial⟩
theorem c_X12_rises (hst : l.stackTraces = false) {L0 L1 L2 : List Nat} (q0 : bQ μ 0 L0) (q1 : bQ μ 1 L1) (q2 : bQ μ 2 L2) (hl : L0.length + (L1.length + L2.length) ≤ 12) (hnd : (L0 ++ (L1 ++ L2)).Nodup) (hlt : ∀ j, j ∈ L0 ++ (L1 ++ L2) → j < 12) :
    Ct l B D E yX12_rises (.code yX12_rises cX12_rises 2 none) rm_X12_rises [.ref (pl B 123)] μ (fun v m => v = none ∧ (∀ a, a < 147 ∨ 149 < a → m a = μ a) ∧ bQ m 0 (L0 ++ (L1 ++ L2)) ∧ bQ m 1 [] ∧ bQ m 2 [] ∧ ∀ j, j ∉ L1 ++ L2 → m 149 j = μ 149 j) NX := by
  refine ct_of (own := RX12) (lv := [(0, _)]) hst (by decide) rfl rfl (Nat.le_of_ble_eq_true rfl) fun a h r t => ?_
  -- the row i gives its first one to the row 0, again and again
  have move : ∀ (i i' : Nat), 1 ≤ i → i < 3 → 1 ≤ i' → i' < 3 → i' ≠ i → ∀ (Li L0' Lo : List Nat) (m : Mm), (∀ a, a < 147 ∨ 149 < a → m a = μ a) → (∀ j, j ∉ L1 ++ L2 → m 149 j = μ 149 j) → (∀ j, j ∈ Li → j ∈ L1 ++ L2) → bQ m 0 L0' → bQ m i Li → bQ m i' Lo → L0'.length + (Li.length + Lo.length) ≤ 12 → (L0' ++ (Li ++ Lo)).Nodup → (∀ j, j ∈ L0' ++ (Li ++ Lo) → j < 12) → (∀ m, (∀ a, a < 147 ∨ 149 < a → m a = μ a) → (∀ j, j ∉ L1 ++ L2 → m 149 j = μ 149 j) → bQ m 0 (L0' ++ Li) → bQ m i [] → bQ m i' Lo → VV a B (SP B D E m) 0 0 29 [(1, iI (i : Int)), (0, .ref (pl B 123))] []) → VV a B (SP B D E m) 0 0 7 [(1, iI (i : Int)), (0, .ref (pl B 123))] [] := by
    intro i i' hi1 hi3 hi1' hi3' hne Li
    induction Li with
    | nil =>
      intro L0 Lo m fm flv hsub b0 bi bo hl hnd hlt hk
      have hi0 : m 148 i = 0 := bi.1
      refine v_aload_n (pc := 7) h (dk dt_X12_rises 5 rfl) rfl ?_
      refine v_getr (pc := 8) h ci12 sh123 (Nat.le_of_ble_eq_true rfl) (j := 37) wF_X12_96 rfl (dk dt_X12_rises 6 rfl) ?_
      refine v_iload_n (pc := 11) h (dk dt_X12_rises 7 rfl) rfl ?_
      refine v_iald (pc := 12) h sh148 (Nat.le_of_ble_eq_true rfl) (by omega) (dk dt_X12_rises 8 rfl) ?_
      rw [Int.toNat_natCast, hi0]
      refine v_if_le (pc := 13) h 29 (dk dt_X12_rises 9 rfl) rfl (by omega) (fun c13 => ?_) (fun c13 => ?_)
      ·
        exact VV.loc (hk m fm flv (by rw [List.append_nil]; exact b0) bi bo) ⟨rfl, rfl, trivial⟩
      ·
        exact absurd c13 (by omega)
    | cons c Li ih =>
      intro L0 Lo m fm flv hsub b0 bi bo hl hnd hlt hk
      have hi0 : m 148 i = (Li.length : Int) + 1 := bi.1
      have hl' : L0.length + (Li.length + 1 + Lo.length) ≤ 12 := hl
      have hc12 : c < 12 := hlt c (by simp)
      have h147 : m 147 (12 * i) = (c : Int) := (bi.2 0 c rfl).1
      have t0 := bQ_to (i := i) (i' := 0) (t := Li.length) (by omega) (by omega) (by omega) b0
      have to := bQ_to (i := i) (i' := i') (t := Li.length) hne (by omega) (by omega) bo
      have ti := bQ_t bi
      have h480 : Mtks m i Li.length 148 0 = (L0.length : Int) := t0.1
      have hnd2 := hnd
      have hcn : c ∉ Li ∧ c ∉ Lo := by
        have h1 := (ndp_app.mp hnd).2.1
        rw [List.cons_append, List.nodup_cons] at h1
        exact ⟨fun z => h1.1 (List.mem_append_left _ z), fun z => h1.1 (List.mem_append_right _ z)⟩
      have j0 := bQ_j (c := c) t0
      have ji := bQ_jo (i := 0) (i' := i) (c := c) (by omega) (by rw [h480]; simp; omega) (by omega) hcn.1 ti
      have jo := bQ_jo (i := 0) (i' := i') (c := c) (by omega) (by rw [h480]; simp; omega) (by omega) hcn.2 to
      have hperm : (L0 ++ [c]) ++ (Li ++ Lo) = L0 ++ (c :: Li ++ Lo) := by simp
      refine v_aload_n (pc := 7) h (dk dt_X12_rises 5 rfl) rfl ?_
      refine v_getr (pc := 8) h ci12 sh123 (Nat.le_of_ble_eq_true rfl) (j := 37) wF_X12_96 rfl (dk dt_X12_rises 6 rfl) ?_
      refine v_iload_n (pc := 11) h (dk dt_X12_rises 7 rfl) rfl ?_
      refine v_iald (pc := 12) h sh148 (Nat.le_of_ble_eq_true rfl) (by omega) (dk dt_X12_rises 8 rfl) ?_
      rw [Int.toNat_natCast, hi0]
      refine v_if_le (pc := 13) h 29 (dk dt_X12_rises 9 rfl) rfl (by omega) (fun c13 => ?_) (fun c13 => ?_)
      ·
        exact absurd c13 (by omega)
      ·
        refine v_aload_n (pc := 16) h (dk dt_X12_rises 10 rfl) rfl ?_
        refine v_iconst (pc := 17) h (dk dt_X12_rises 11 rfl) ?_
        refine v_aload_n (pc := 18) h (dk dt_X12_rises 12 rfl) rfl ?_
        refine v_iload_n (pc := 19) h (dk dt_X12_rises 13 rfl) rfl ?_
        refine v_cVi (pc := 20) h (c_X12_takes (te := Li.length) h.quiet (by omega) hi0 (by omega)) kv_X12_takes sh123 wM_X12_139 rfl rfl (Nat.le_of_ble_eq_true rfl) (RM.of rfl) rfl rfl (dk dt_X12_rises 14 rfl) ?_
        rw [h147]
        refine v_cVv (pc := 23) h (c_X12_joins (i := 0) h.quiet (by omega) hc12 (by omega)) kv_X12_joins sh123 wM_X12_142 rfl rfl (Nat.le_of_ble_eq_true rfl) (RM.of rfl) rfl rfl (dk dt_X12_rises 15 rfl) ?_
        refine v_goto (pc := 26) h 7 (dk dt_X12_rises 16 rfl) rfl ?_
        exact VV.loc (ih (L0 ++ [c]) Lo _ (fun a ha => by rw [Mjn_o ha, Mtks_o (by omega)]; exact fm a ha) (fun j hj => by rw [Mjn, mup_row, if_neg (fun z : j = c => hj (z ▸ hsub c List.mem_cons_self)), mup_nk (by omega), mup_nk (by omega), Mtks_o (by omega)]; exact flv j hj) (fun j hj => hsub j (List.mem_cons_of_mem _ hj)) j0 ji jo (by rw [List.length_append, List.length_singleton]; omega) (by rw [hperm]; exact hnd) (by rw [hperm]; exact hlt) (fun m' f' fl' b0' bi' bo' => hk m' f' fl' (by rw [List.append_assoc] at b0'; exact b0') bi' bo')) ⟨rfl, rfl, trivial⟩
  have go3 : ∀ m, (∀ a, a < 147 ∨ 149 < a → m a = μ a) → (∀ j, j ∉ L1 ++ L2 → m 149 j = μ 149 j) → bQ m 0 (L0 ++ (L1 ++ L2)) → bQ m 1 [] → bQ m 2 [] → VV a B (SP B D E m) 0 0 2 [(1, iI 3), (0, .ref (pl B 123))] [] := by
    intro m fm flv b0 b1 b2
    refine v_iload_n (pc := 2) h (dk dt_X12_rises 2 rfl) rfl ?_
    refine v_iconst (pc := 3) h (dk dt_X12_rises 3 rfl) ?_
    refine v_icmp_ge (pc := 4) h 35 (dk dt_X12_rises 4 rfl) rfl (by omega) (fun c4 => ?_) (fun c4 => ?_)
    ·
      exact v_vret (pc := 35) h r (dk dt_X12_rises 19 rfl) (Nat.le_of_ble_eq_true rfl) (Nat.le_of_ble_eq_true rfl) ⟨rfl, fm, b0, b1, b2, flv⟩
    ·
      exact absurd c4 (by decide)
  have go2 : ∀ m, (∀ a, a < 147 ∨ 149 < a → m a = μ a) → (∀ j, j ∉ L1 ++ L2 → m 149 j = μ 149 j) → bQ m 0 (L0 ++ L1) → bQ m 1 [] → bQ m 2 L2 → VV a B (SP B D E m) 0 0 2 [(1, iI 2), (0, .ref (pl B 123))] [] := by
    intro m fm flv b0 b1 b2
    refine v_iload_n (pc := 2) h (dk dt_X12_rises 2 rfl) rfl ?_
    refine v_iconst (pc := 3) h (dk dt_X12_rises 3 rfl) ?_
    refine v_icmp_ge (pc := 4) h 35 (dk dt_X12_rises 4 rfl) rfl (by omega) (fun c4 => ?_) (fun c4 => ?_)
    ·
      exact absurd c4 (by decide)
    ·
      refine VV.loc (move 2 1 (by omega) (by omega) (by omega) (by omega) (by omega) L2 (L0 ++ L1) [] m fm flv (fun j hj => List.mem_append_right _ hj) b0 b2 b1 (by rw [List.length_append]; simp; omega) (by rw [List.append_nil, List.append_assoc]; exact hnd) (by rw [List.append_nil, List.append_assoc]; exact hlt) (fun m' f' fl' b0' b2' b1' => ?_)) ⟨rfl, rfl, trivial⟩
      refine v_iinc (lv' := [(1, _), (0, _)]) (pc := 29) h (dk dt_X12_rises 17 rfl) rfl (Nat.le_of_ble_eq_true rfl) rfl ?_
      refine v_goto (pc := 32) h 2 (dk dt_X12_rises 18 rfl) rfl ?_
      exact VV.loc (go3 m' f' fl' (by rw [List.append_assoc] at b0'; exact b0') b1' b2') ⟨rfl, rfl, trivial⟩
  refine v_iconst (pc := 0) h (dk dt_X12_rises 0 rfl) ?_
  refine v_istore_n (lv' := [(1, _), (0, _)]) (pc := 1) h (dk dt_X12_rises 1 rfl) (Nat.le_of_ble_eq_true rfl) rfl ?_
  refine v_iload_n (pc := 2) h (dk dt_X12_rises 2 rfl) rfl ?_
  refine v_iconst (pc := 3) h (dk dt_X12_rises 3 rfl) ?_
  refine v_icmp_ge (pc := 4) h 35 (dk dt_X12_rises 4 rfl) rfl (by omega) (fun c4 => ?_) (fun c4 => ?_)
  ·
    exact absurd c4 (by decide)
  ·
    refine VV.loc (move 1 2 (by omega) (by omega) (by omega) (by omega) (by omega) L1 L0 L2 μ (fun _ _ => rfl) (fun _ _ => rfl) (fun j hj => List.mem_append_left _ hj) q0 q1 q2 hl hnd hlt (fun m' f' fl' b0' b1' b2' => ?_)) ⟨rfl, rfl, trivial⟩
    refine v_iinc (lv' := [(1, _), (0, _)]) (pc := 29) h (dk dt_X12_rises 17 rfl) rfl (Nat.le_of_ble_eq_true rfl) rfl ?_
    refine v_goto (pc := 32) h 2 (dk dt_X12_rises 18 rfl) rfl ?_
    exact VV.loc (go2 m' f' fl' b0' b1' b2') ⟨rfl, rfl, trivial⟩
theorem c_X12_canBegin (hst : l.stackTraces = false) (hE : eqJ μ) (hs : okJ μ) (hn : μ 1 9 = (n : Int)) (h41 : ∀ j, j < n → μ 141 j = σ 0 j) (hB : vB (jm μ) n σ) {j : Nat} (hj : j < n) {tm : Int} (ht : InR tm) :
    Ct l B D E yX12_canBegin (.code yX12_canBegin cX12_canBegin 5 (some .boolean)) rm_X12_canBegin [.ref (pl B 123), iI (j : Int), iI tm] μ (ri (if (μ 3 j ≤ tm ∧ 0 < σ 0 j) ∧ ∀ k, k < j → (μ 11 j).toNat.testBit k = true → σ 0 k = 0 then 1 else 0) μ) NX := by
  have hn12 := hs.1
  have hq := hs.2 j (by omega)
  have h2 := (hB.2 j hj).2.1
  have e5 : jm μ 1 j = μ 5 j := rfl
  have e124 := hE.1.1
  have e128 := hE.1.2.2.2.2.1
  have h2p : 2 ^ j ≤ 2 ^ 11 := p2lt (by omega)
  obtain ⟨X, hX⟩ : ∃ X : Nat, μ 11 j = (X : Int) := ⟨(μ 11 j).toNat, by omega⟩
  have hX12 : X < 4096 := by omega
  rw [hX, Int.toNat_natCast]
  refine ct_of (own := RX12) (lv := [(0, _), (1, _), (2, _)]) hst (by decide) rfl rfl (Nat.le_of_ble_eq_true rfl) fun a h r t => ?_
  have loop : ∀ (d i : Nat) (b : Int), i + d = j → (b = 0 ∨ b = 1) → (b = 1 ↔ (μ 3 j ≤ tm ∧ 0 < σ 0 j) ∧ ∀ k, k < i → X.testBit k = true → σ 0 k = 0) → VV a B (SP B D E μ) 0 0 28 [(4, iI (i : Int)), (3, iI b), (0, .ref (pl B 123)), (1, iI (j : Int)), (2, iI tm)] [] := by
    intro d
    induction d with
    | zero =>
      intro i b hi hb01 hb
      have e : j = i := by omega
      refine v_iload (pc := 28) h (dk dt_X12_canBegin 17 rfl) rfl ?_
      refine v_iload_n (pc := 30) h (dk dt_X12_canBegin 18 rfl) rfl ?_
      refine v_icmp_ge (pc := 31) h 74 (dk dt_X12_canBegin 19 rfl) rfl (by omega) (fun c31 => ?_) (fun c31 => ?_)
      ·
        refine v_iload_n (pc := 74) h (dk dt_X12_canBegin 42 rfl) rfl ?_
        exact v_zret (pc := 75) h r (dk dt_X12_canBegin 43 rfl) (Nat.le_of_ble_eq_true rfl) (Nat.le_of_ble_eq_true rfl) (by omega) ⟨by rw [← e] at hb; by_cases q : b = 1; (rw [if_pos (hb.mp q), q]); (rw [if_neg (fun z => q (hb.mpr z)), show b = 0 by omega]), rfl⟩
      ·
        exact absurd c31 (by omega)
    | succ d ih =>
      intro i b hi hb01 hb
      have hin : i < n := by omega
      have hi2 := (hB.2 i hin).2.1
      have hil := okD_l (okJD hs hn) hin
      have hN : ¬ (b = 1 ∧ (X.testBit i = true → σ 0 i = 0)) → VV a B (SP B D E μ) 0 0 28 [(4, iI ((i : Int) + 1)), (3, iI 0), (0, .ref (pl B 123)), (1, iI (j : Int)), (2, iI tm)] [] := fun q => ih (i + 1) 0 (by omega) (Or.inl rfl) ⟨fun z => absurd z (by decide), fun z => absurd ⟨hb.mpr ⟨z.1, fun k hk => z.2 k (by omega)⟩, z.2 i (by omega)⟩ q⟩
      have hY : b = 1 ∧ (X.testBit i = true → σ 0 i = 0) → VV a B (SP B D E μ) 0 0 28 [(4, iI ((i : Int) + 1)), (3, iI 1), (0, .ref (pl B 123)), (1, iI (j : Int)), (2, iI tm)] [] := fun q => ih (i + 1) 1 (by omega) (Or.inr rfl) ⟨fun _ => ⟨(hb.mp q.1).1, fun k hk => by
        rcases Nat.lt_succ_iff_lt_or_eq.mp hk with z | z
        · exact (hb.mp q.1).2 k z
        · rw [z]; exact q.2⟩, fun _ => rfl⟩
      refine v_iload (pc := 28) h (dk dt_X12_canBegin 17 rfl) rfl ?_
      refine v_iload_n (pc := 30) h (dk dt_X12_canBegin 18 rfl) rfl ?_
      refine v_icmp_ge (pc := 31) h 74 (dk dt_X12_canBegin 19 rfl) rfl (by omega) (fun c31 => ?_) (fun c31 => ?_)
      ·
        exact absurd c31 (by omega)
      ·
        refine v_iload_n (pc := 34) h (dk dt_X12_canBegin 20 rfl) rfl ?_
        refine v_if_eq (pc := 35) h 66 (dk dt_X12_canBegin 21 rfl) rfl (by omega) (fun c35 => ?_) (fun c35 => ?_)
        ·
          refine v_iconst (pc := 66) h (dk dt_X12_canBegin 38 rfl) ?_
          refine v_istore_n (lv' := [(3, _), (4, _), (0, _), (1, _), (2, _)]) (pc := 67) h (dk dt_X12_canBegin 39 rfl) (Nat.le_of_ble_eq_true rfl) rfl ?_
          refine v_iinc (lv' := [(4, _), (3, _), (0, _), (1, _), (2, _)]) (pc := 68) h (dk dt_X12_canBegin 40 rfl) rfl (Nat.le_of_ble_eq_true rfl) rfl ?_
          refine v_goto (pc := 71) h 28 (dk dt_X12_canBegin 41 rfl) rfl ?_
          first
            | exact VV.loc (hN (fun q => by omega)) ⟨rfl, rfl, rfl, rfl, rfl, trivial⟩
            | exact VV.loc (hY ⟨by omega, fun z => by rw [z] at d49; exact absurd d49 (by decide)⟩) ⟨rfl, rfl, rfl, rfl, rfl, trivial⟩
            | exact VV.loc (hN (fun q => c59 (q.2 d49))) ⟨rfl, rfl, rfl, rfl, rfl, trivial⟩
            | exact VV.loc (hY ⟨by omega, fun _ => c59⟩) ⟨rfl, rfl, rfl, rfl, rfl, trivial⟩
        ·
          refine v_aload_n (pc := 38) h (dk dt_X12_canBegin 22 rfl) rfl ?_
          refine v_getr (pc := 39) h ci12 sh123 (Nat.le_of_ble_eq_true rfl) (j := 4) wF_X12_22 rfl (dk dt_X12_canBegin 23 rfl) ?_
          refine v_iload_n (pc := 42) h (dk dt_X12_canBegin 24 rfl) rfl ?_
          refine v_iald (pc := 43) h sh128 (Nat.le_of_ble_eq_true rfl) (by omega) (dk dt_X12_canBegin 25 rfl) ?_
          rw [Int.toNat_natCast, e128, hX]
          refine v_iload (pc := 44) h (dk dt_X12_canBegin 26 rfl) rfl ?_
          refine v_ishr (pc := 46) h (dk dt_X12_canBegin 27 rfl) ?_
          refine v_iconst (pc := 47) h (dk dt_X12_canBegin 28 rfl) ?_
          refine v_iand (pc := 48) h (dk dt_X12_canBegin 29 rfl) ?_
          rw [bit1 (by omega) (by omega)]
          refine v_if_eq (pc := 49) h 62 (dk dt_X12_canBegin 30 rfl) rfl (by split <;> omega) (fun c49 => ?_) (fun c49 => ?_)
          ·
            have d49 : X.testBit i = false := by cases q : X.testBit i; rfl; rw [if_pos q] at c49; omega
            refine v_iconst (pc := 62) h (dk dt_X12_canBegin 36 rfl) ?_
            refine v_goto (pc := 63) h 67 (dk dt_X12_canBegin 37 rfl) rfl ?_
            refine v_istore_n (lv' := [(3, _), (4, _), (0, _), (1, _), (2, _)]) (pc := 67) h (dk dt_X12_canBegin 39 rfl) (Nat.le_of_ble_eq_true rfl) rfl ?_
            refine v_iinc (lv' := [(4, _), (3, _), (0, _), (1, _), (2, _)]) (pc := 68) h (dk dt_X12_canBegin 40 rfl) rfl (Nat.le_of_ble_eq_true rfl) rfl ?_
            refine v_goto (pc := 71) h 28 (dk dt_X12_canBegin 41 rfl) rfl ?_
            first
              | exact VV.loc (hN (fun q => by omega)) ⟨rfl, rfl, rfl, rfl, rfl, trivial⟩
              | exact VV.loc (hY ⟨by omega, fun z => by rw [z] at d49; exact absurd d49 (by decide)⟩) ⟨rfl, rfl, rfl, rfl, rfl, trivial⟩
              | exact VV.loc (hN (fun q => c59 (q.2 d49))) ⟨rfl, rfl, rfl, rfl, rfl, trivial⟩
              | exact VV.loc (hY ⟨by omega, fun _ => c59⟩) ⟨rfl, rfl, rfl, rfl, rfl, trivial⟩
          ·
            have d49 : X.testBit i = true := by cases q : X.testBit i; rw [q] at c49; exact absurd rfl c49; rfl
            refine v_aload_n (pc := 52) h (dk dt_X12_canBegin 31 rfl) rfl ?_
            refine v_getr (pc := 53) h ci12 sh123 (Nat.le_of_ble_eq_true rfl) (j := 27) wF_X12_74 rfl (dk dt_X12_canBegin 32 rfl) ?_
            refine v_iload (pc := 56) h (dk dt_X12_canBegin 33 rfl) rfl ?_
            refine v_iald (pc := 58) h sh141 (Nat.le_of_ble_eq_true rfl) (by omega) (dk dt_X12_canBegin 34 rfl) ?_
            rw [Int.toNat_natCast, h41 i hin]
            refine v_if_ne (pc := 59) h 66 (dk dt_X12_canBegin 35 rfl) rfl (by omega) (fun c59 => ?_) (fun c59 => ?_)
            ·
              refine v_iconst (pc := 66) h (dk dt_X12_canBegin 38 rfl) ?_
              refine v_istore_n (lv' := [(3, _), (4, _), (0, _), (1, _), (2, _)]) (pc := 67) h (dk dt_X12_canBegin 39 rfl) (Nat.le_of_ble_eq_true rfl) rfl ?_
              refine v_iinc (lv' := [(4, _), (3, _), (0, _), (1, _), (2, _)]) (pc := 68) h (dk dt_X12_canBegin 40 rfl) rfl (Nat.le_of_ble_eq_true rfl) rfl ?_
              refine v_goto (pc := 71) h 28 (dk dt_X12_canBegin 41 rfl) rfl ?_
              first
                | exact VV.loc (hN (fun q => by omega)) ⟨rfl, rfl, rfl, rfl, rfl, trivial⟩
                | exact VV.loc (hY ⟨by omega, fun z => by rw [z] at d49; exact absurd d49 (by decide)⟩) ⟨rfl, rfl, rfl, rfl, rfl, trivial⟩
                | exact VV.loc (hN (fun q => c59 (q.2 d49))) ⟨rfl, rfl, rfl, rfl, rfl, trivial⟩
                | exact VV.loc (hY ⟨by omega, fun _ => c59⟩) ⟨rfl, rfl, rfl, rfl, rfl, trivial⟩
            ·
              refine v_iconst (pc := 62) h (dk dt_X12_canBegin 36 rfl) ?_
              refine v_goto (pc := 63) h 67 (dk dt_X12_canBegin 37 rfl) rfl ?_
              refine v_istore_n (lv' := [(3, _), (4, _), (0, _), (1, _), (2, _)]) (pc := 67) h (dk dt_X12_canBegin 39 rfl) (Nat.le_of_ble_eq_true rfl) rfl ?_
              refine v_iinc (lv' := [(4, _), (3, _), (0, _), (1, _), (2, _)]) (pc := 68) h (dk dt_X12_canBegin 40 rfl) rfl (Nat.le_of_ble_eq_true rfl) rfl ?_
              refine v_goto (pc := 71) h 28 (dk dt_X12_canBegin 41 rfl) rfl ?_
              first
                | exact VV.loc (hN (fun q => by omega)) ⟨rfl, rfl, rfl, rfl, rfl, trivial⟩
                | exact VV.loc (hY ⟨by omega, fun z => by rw [z] at d49; exact absurd d49 (by decide)⟩) ⟨rfl, rfl, rfl, rfl, rfl, trivial⟩
                | exact VV.loc (hN (fun q => c59 (q.2 d49))) ⟨rfl, rfl, rfl, rfl, rfl, trivial⟩
                | exact VV.loc (hY ⟨by omega, fun _ => c59⟩) ⟨rfl, rfl, rfl, rfl, rfl, trivial⟩
  refine v_aload_n (pc := 0) h (dk dt_X12_canBegin 0 rfl) rfl ?_
  refine v_getr (pc := 1) h ci12 sh123 (Nat.le_of_ble_eq_true rfl) (j := 0) wF_X12_7 rfl (dk dt_X12_canBegin 1 rfl) ?_
  refine v_iload_n (pc := 4) h (dk dt_X12_canBegin 2 rfl) rfl ?_
  refine v_iald (pc := 5) h sh124 (Nat.le_of_ble_eq_true rfl) (by omega) (dk dt_X12_canBegin 3 rfl) ?_
  rw [Int.toNat_natCast, e124]
  refine v_iload_n (pc := 6) h (dk dt_X12_canBegin 4 rfl) rfl ?_
  refine v_icmp_gt (pc := 7) h 23 (dk dt_X12_canBegin 5 rfl) rfl (by omega) (fun c7 => ?_) (fun c7 => ?_)
  ·
    refine v_iconst (pc := 23) h (dk dt_X12_canBegin 13 rfl) ?_
    refine v_istore_n (lv' := [(3, _), (0, _), (1, _), (2, _)]) (pc := 24) h (dk dt_X12_canBegin 14 rfl) (Nat.le_of_ble_eq_true rfl) rfl ?_
    refine v_iconst (pc := 25) h (dk dt_X12_canBegin 15 rfl) ?_
    refine v_istore (lv' := [(4, _), (3, _), (0, _), (1, _), (2, _)]) (pc := 26) h (dk dt_X12_canBegin 16 rfl) (Nat.le_of_ble_eq_true rfl) rfl ?_
    first
      | exact VV.loc (loop j 0 1 (by omega) (Or.inr rfl) ⟨fun _ => ⟨⟨by omega, by omega⟩, fun k hk => absurd hk (by omega)⟩, fun _ => rfl⟩) ⟨rfl, rfl, rfl, rfl, rfl, trivial⟩
      | exact VV.loc (loop j 0 0 (by omega) (Or.inl rfl) ⟨fun z => absurd z (by decide), fun z => by have := z.1; omega⟩) ⟨rfl, rfl, rfl, rfl, rfl, trivial⟩
  ·
    refine v_aload_n (pc := 10) h (dk dt_X12_canBegin 6 rfl) rfl ?_
    refine v_getr (pc := 11) h ci12 sh123 (Nat.le_of_ble_eq_true rfl) (j := 27) wF_X12_74 rfl (dk dt_X12_canBegin 7 rfl) ?_
    refine v_iload_n (pc := 14) h (dk dt_X12_canBegin 8 rfl) rfl ?_
    refine v_iald (pc := 15) h sh141 (Nat.le_of_ble_eq_true rfl) (by omega) (dk dt_X12_canBegin 9 rfl) ?_
    rw [Int.toNat_natCast, h41 j hj]
    refine v_if_le (pc := 16) h 23 (dk dt_X12_canBegin 10 rfl) rfl (by omega) (fun c16 => ?_) (fun c16 => ?_)
    ·
      refine v_iconst (pc := 23) h (dk dt_X12_canBegin 13 rfl) ?_
      refine v_istore_n (lv' := [(3, _), (0, _), (1, _), (2, _)]) (pc := 24) h (dk dt_X12_canBegin 14 rfl) (Nat.le_of_ble_eq_true rfl) rfl ?_
      refine v_iconst (pc := 25) h (dk dt_X12_canBegin 15 rfl) ?_
      refine v_istore (lv' := [(4, _), (3, _), (0, _), (1, _), (2, _)]) (pc := 26) h (dk dt_X12_canBegin 16 rfl) (Nat.le_of_ble_eq_true rfl) rfl ?_
      first
        | exact VV.loc (loop j 0 1 (by omega) (Or.inr rfl) ⟨fun _ => ⟨⟨by omega, by omega⟩, fun k hk => absurd hk (by omega)⟩, fun _ => rfl⟩) ⟨rfl, rfl, rfl, rfl, rfl, trivial⟩
        | exact VV.loc (loop j 0 0 (by omega) (Or.inl rfl) ⟨fun z => absurd z (by decide), fun z => by have := z.1; omega⟩) ⟨rfl, rfl, rfl, rfl, rfl, trivial⟩
    ·
      refine v_iconst (pc := 19) h (dk dt_X12_canBegin 11 rfl) ?_
      refine v_goto (pc := 20) h 24 (dk dt_X12_canBegin 12 rfl) rfl ?_
      refine v_istore_n (lv' := [(3, _), (0, _), (1, _), (2, _)]) (pc := 24) h (dk dt_X12_canBegin 14 rfl) (Nat.le_of_ble_eq_true rfl) rfl ?_
      refine v_iconst (pc := 25) h (dk dt_X12_canBegin 15 rfl) ?_
      refine v_istore (lv' := [(4, _), (3, _), (0, _), (1, _), (2, _)]) (pc := 26) h (dk dt_X12_canBegin 16 rfl) (Nat.le_of_ble_eq_true rfl) rfl ?_
      first
        | exact VV.loc (loop j 0 1 (by omega) (Or.inr rfl) ⟨fun _ => ⟨⟨by omega, by omega⟩, fun k hk => absurd hk (by omega)⟩, fun _ => rfl⟩) ⟨rfl, rfl, rfl, rfl, rfl, trivial⟩
        | exact VV.loc (loop j 0 0 (by omega) (Or.inl rfl) ⟨fun z => absurd z (by decide), fun z => by have := z.1; omega⟩) ⟨rfl, rfl, rfl, rfl, rfl, trivial⟩
end
/-- those up to the job i have become ready -/
def adV (n : Nat) (σ : Mm) (a b : Nat) : Int := if a = 5 then 1 else if a = 2 then σ 6 6 else if a = 3 then lcZ σ n else σ a b
def adI (J : Mm) (n i : Nat) (σ : Mm) : Mm := fun a b => if b < i ∧ comP J σ (σ 6 6) b then adV n σ a b else σ a b
theorem adI_n {J σ : Mm} {n : Nat} : adI J n n σ = adN J n σ := rfl
theorem adI_0 {J σ : Mm} {n : Nat} : adI J n 0 σ = σ := by funext a b; unfold adI; rw [if_neg (by omega)]
theorem adI_s {J σ : Mm} {n i a b : Nat} : adI J n (i + 1) σ a b = if b = i ∧ comP J σ (σ 6 6) i then adV n σ a b else adI J n i σ a b := by
  unfold adI
  by_cases h : b = i
  · subst h
    by_cases c : comP J σ (σ 6 6) b
    · rw [if_pos ⟨by omega, c⟩, if_pos ⟨rfl, c⟩]
    · rw [if_neg (fun z => c z.2), if_neg (fun z => c z.2), if_neg (by omega)]
  · rw [if_neg (c := b = i ∧ comP J σ (σ 6 6) i) (fun z => h z.1)]
    by_cases c : b < i ∧ comP J σ (σ 6 6) b
    · rw [if_pos c, if_pos ⟨by omega, c.2⟩]
    · rw [if_neg c, if_neg (fun z => c ⟨by omega, z.2⟩)]
theorem adI_o {J σ : Mm} {n i a b : Nat} (h5 : a ≠ 5) (h2 : a ≠ 2) (h3 : a ≠ 3) : adI J n i σ a b = σ a b := by
  unfold adI
  split
  · unfold adV; rw [if_neg h5, if_neg h2, if_neg h3]
  · rfl
section
variable {l : Launch} {B : Nat} {D : va_G} {E : Nat → ClassId} {μ m σ : Mm} {w n : Nat} {K : Nat → Int} {s : St} {J : Mm}
theorem c_X12_leastCount (hst : l.stackTraces = false) (h9 : μ 123 9 = (n : Int)) (hn : n ≤ 12) (hme : ∀ i, i < n → (μ 141 i = σ 0 i) ∧ ((μ 146 i = σ 5 i ∧ μ 143 i = σ 2 i ∧ μ 145 i = σ 3 i) ∨ (μ 146 i = 1 ∧ μ 143 i = σ 6 6 ∧ σ 5 i ≠ 1 ∧ InR (μ 145 i)))) (hB : vB J n σ) (hR : vR n σ) (hl : ∀ j, j < n → J 1 j ≤ 30) (ht : σ 6 6 ≤ 2304) :
    Ct l B D E yX12_leastCount (.code yX12_leastCount cX12_leastCount 4 (some .int)) rm_X12_leastCount [.ref (pl B 123), iI (σ 6 6)] μ (ri (lcZ σ n) μ) NX := by
  have ht0 := hB.1
  have hb3 : ∀ j, j < n → 0 ≤ σ 3 j ∧ σ 3 j ≤ 10000000 := fun j hj => by have := (hB.2 j hj).2.2.2.2.2.2.1; omega
  refine ct_of (own := RX12) (lv := [(0, _), (1, _)]) hst (by decide) rfl rfl (Nat.le_of_ble_eq_true rfl) fun a h r t => ?_
  have loop : ∀ (d i : Nat), i + d = n → VV a B (SP B D E μ) 0 0 4 [(3, iI (i : Int)), (2, iI (lcF σ i)), (0, .ref (pl B 123)), (1, iI (σ 6 6))] [] := by
    intro d
    induction d with
    | zero =>
      intro i hi
      have hlb := lcF_b hb3 n (Nat.le_refl _)
      have e : i = n := by omega
      subst e
      refine v_iload_n (pc := 4) h (dk dt_X12_leastCount 4 rfl) rfl ?_
      refine v_aload_n (pc := 5) h (dk dt_X12_leastCount 5 rfl) rfl ?_
      refine v_geti (pc := 6) h ci12 sh123 (Nat.le_of_ble_eq_true rfl) (j := 9) wF_X12_108 rfl (dk dt_X12_leastCount 6 rfl) ?_
      refine v_icmp_ge (pc := 9) h 68 (dk dt_X12_leastCount 7 rfl) rfl (by omega) (fun c9 => ?_) (fun c9 => ?_)
      ·
        refine v_iload_n (pc := 68) h (dk dt_X12_leastCount 40 rfl) rfl ?_
        refine v_iconst (pc := 69) h (dk dt_X12_leastCount 41 rfl) ?_
        refine v_icmp_ne (pc := 70) h 77 (dk dt_X12_leastCount 42 rfl) rfl (by omega) (fun c70 => ?_) (fun c70 => ?_)
        ·
          refine v_iload_n (pc := 77) h (dk dt_X12_leastCount 45 rfl) rfl ?_
          exact v_iret (pc := 78) h r (dk dt_X12_leastCount 46 rfl) (Nat.le_of_ble_eq_true rfl) (Nat.le_of_ble_eq_true rfl) ⟨by unfold lcZ; first | rw [if_pos c70] | rw [if_neg c70], rfl⟩
        ·
          refine v_iconst (pc := 73) h (dk dt_X12_leastCount 43 rfl) ?_
          refine v_goto (pc := 74) h 78 (dk dt_X12_leastCount 44 rfl) rfl ?_
          exact v_iret (pc := 78) h r (dk dt_X12_leastCount 46 rfl) (Nat.le_of_ble_eq_true rfl) (Nat.le_of_ble_eq_true rfl) ⟨by unfold lcZ; first | rw [if_pos c70] | rw [if_neg c70], rfl⟩
      ·
        exact absurd c9 (by omega)
    | succ d ih =>
      intro i hi
      have hin : i < n := by omega
      have hlb := lcF_b hb3 i (by omega)
      have h3 := hb3 i hin
      have hBi := hB.2 i hin
      have hRi := hR i hin
      have hli := hl i hin
      have eN : ¬ (rdy σ i ∧ (lcF σ i = -1 ∨ σ 3 i < lcF σ i)) → lcF σ (i + 1) = lcF σ i := fun q => by rw [lcF, if_neg q]
      have eY : rdy σ i ∧ (lcF σ i = -1 ∨ σ 3 i < lcF σ i) → lcF σ (i + 1) = σ 3 i := fun q => by rw [lcF, if_pos q]
      have hio := ih (i + 1) (by omega)
      have fN := fun q => show VV a B (SP B D E μ) 0 0 4 [(3, iI ((i : Int) + 1)), (2, iI (lcF σ i)), (0, .ref (pl B 123)), (1, iI (σ 6 6))] [] by have z := hio; rw [eN q] at z; exact z
      have fY := fun q => show VV a B (SP B D E μ) 0 0 4 [(3, iI ((i : Int) + 1)), (2, iI (σ 3 i)), (0, .ref (pl B 123)), (1, iI (σ 6 6))] [] by have z := hio; rw [eY q] at z; exact z
      have hmem := hme i hin
      have h01 : InR (μ 146 i) ∧ InR (μ 143 i) ∧ InR (μ 145 i) := by rcases hmem.2 with q | q <;> omega
      refine v_iload_n (pc := 4) h (dk dt_X12_leastCount 4 rfl) rfl ?_
      refine v_aload_n (pc := 5) h (dk dt_X12_leastCount 5 rfl) rfl ?_
      refine v_geti (pc := 6) h ci12 sh123 (Nat.le_of_ble_eq_true rfl) (j := 9) wF_X12_108 rfl (dk dt_X12_leastCount 6 rfl) ?_
      refine v_icmp_ge (pc := 9) h 68 (dk dt_X12_leastCount 7 rfl) rfl (by omega) (fun c9 => ?_) (fun c9 => ?_)
      ·
        exact absurd c9 (by omega)
      ·
        refine v_aload_n (pc := 12) h (dk dt_X12_leastCount 8 rfl) rfl ?_
        refine v_getr (pc := 13) h ci12 sh123 (Nat.le_of_ble_eq_true rfl) (j := 32) wF_X12_89 rfl (dk dt_X12_leastCount 9 rfl) ?_
        refine v_iload_n (pc := 16) h (dk dt_X12_leastCount 10 rfl) rfl ?_
        refine v_zald (pc := 17) h sh146 (Nat.le_of_ble_eq_true rfl) (by omega) (dk dt_X12_leastCount 11 rfl) ?_
        rw [Int.toNat_natCast]
        refine v_if_eq (pc := 18) h 62 (dk dt_X12_leastCount 12 rfl) rfl (by omega) (fun c18 => ?_) (fun c18 => ?_)
        ·
          refine v_iinc (lv' := [(3, _), (2, _), (0, _), (1, _)]) (pc := 62) h (dk dt_X12_leastCount 38 rfl) rfl (Nat.le_of_ble_eq_true rfl) rfl ?_
          refine v_goto (pc := 65) h 4 (dk dt_X12_leastCount 39 rfl) rfl ?_
          first
            | exact VV.loc (fY ⟨hr, by omega⟩) ⟨rfl, rfl, rfl, rfl, trivial⟩
            | exact VV.loc (fN (fun q => by have := q.2; omega)) ⟨rfl, rfl, rfl, rfl, trivial⟩
            | exact VV.loc (fN (fun q => by have q1 := q.1.1; have q2 := q.1.2; have := hRi q1; rcases hmem.2 with z | z <;> omega)) ⟨rfl, rfl, rfl, rfl, trivial⟩
        ·
          refine v_aload_n (pc := 21) h (dk dt_X12_leastCount 13 rfl) rfl ?_
          refine v_getr (pc := 22) h ci12 sh123 (Nat.le_of_ble_eq_true rfl) (j := 29) wF_X12_80 rfl (dk dt_X12_leastCount 14 rfl) ?_
          refine v_iload_n (pc := 25) h (dk dt_X12_leastCount 15 rfl) rfl ?_
          refine v_iald (pc := 26) h sh143 (Nat.le_of_ble_eq_true rfl) (by omega) (dk dt_X12_leastCount 16 rfl) ?_
          rw [Int.toNat_natCast]
          refine v_iload_n (pc := 27) h (dk dt_X12_leastCount 17 rfl) rfl ?_
          refine v_icmp_ge (pc := 28) h 62 (dk dt_X12_leastCount 18 rfl) rfl (by omega) (fun c28 => ?_) (fun c28 => ?_)
          ·
            refine v_iinc (lv' := [(3, _), (2, _), (0, _), (1, _)]) (pc := 62) h (dk dt_X12_leastCount 38 rfl) rfl (Nat.le_of_ble_eq_true rfl) rfl ?_
            refine v_goto (pc := 65) h 4 (dk dt_X12_leastCount 39 rfl) rfl ?_
            first
              | exact VV.loc (fY ⟨hr, by omega⟩) ⟨rfl, rfl, rfl, rfl, trivial⟩
              | exact VV.loc (fN (fun q => by have := q.2; omega)) ⟨rfl, rfl, rfl, rfl, trivial⟩
              | exact VV.loc (fN (fun q => by have q1 := q.1.1; have q2 := q.1.2; have := hRi q1; rcases hmem.2 with z | z <;> omega)) ⟨rfl, rfl, rfl, rfl, trivial⟩
          ·
            refine v_aload_n (pc := 31) h (dk dt_X12_leastCount 19 rfl) rfl ?_
            refine v_getr (pc := 32) h ci12 sh123 (Nat.le_of_ble_eq_true rfl) (j := 27) wF_X12_74 rfl (dk dt_X12_leastCount 20 rfl) ?_
            refine v_iload_n (pc := 35) h (dk dt_X12_leastCount 21 rfl) rfl ?_
            refine v_iald (pc := 36) h sh141 (Nat.le_of_ble_eq_true rfl) (by omega) (dk dt_X12_leastCount 22 rfl) ?_
            rw [Int.toNat_natCast]
            refine v_if_le (pc := 37) h 62 (dk dt_X12_leastCount 23 rfl) rfl (by omega) (fun c37 => ?_) (fun c37 => ?_)
            ·
              refine v_iinc (lv' := [(3, _), (2, _), (0, _), (1, _)]) (pc := 62) h (dk dt_X12_leastCount 38 rfl) rfl (Nat.le_of_ble_eq_true rfl) rfl ?_
              refine v_goto (pc := 65) h 4 (dk dt_X12_leastCount 39 rfl) rfl ?_
              first
                | exact VV.loc (fY ⟨hr, by omega⟩) ⟨rfl, rfl, rfl, rfl, trivial⟩
                | exact VV.loc (fN (fun q => by have := q.2; omega)) ⟨rfl, rfl, rfl, rfl, trivial⟩
                | exact VV.loc (fN (fun q => by have q1 := q.1.1; have q2 := q.1.2; have := hRi q1; rcases hmem.2 with z | z <;> omega)) ⟨rfl, rfl, rfl, rfl, trivial⟩
            ·
              have hr : rdy σ i := ⟨by rcases hmem.2 with q | q <;> omega, by omega⟩
              have e145 : μ 145 i = σ 3 i := by rcases hmem.2 with q | q; exact q.2.2; omega
              refine v_iload_n (pc := 40) h (dk dt_X12_leastCount 24 rfl) rfl ?_
              refine v_iconst (pc := 41) h (dk dt_X12_leastCount 25 rfl) ?_
              refine v_icmp_eq (pc := 42) h 55 (dk dt_X12_leastCount 26 rfl) rfl (by omega) (fun c42 => ?_) (fun c42 => ?_)
              ·
                refine v_aload_n (pc := 55) h (dk dt_X12_leastCount 33 rfl) rfl ?_
                refine v_getr (pc := 56) h ci12 sh123 (Nat.le_of_ble_eq_true rfl) (j := 31) wF_X12_86 rfl (dk dt_X12_leastCount 34 rfl) ?_
                refine v_iload_n (pc := 59) h (dk dt_X12_leastCount 35 rfl) rfl ?_
                refine v_iald (pc := 60) h sh145 (Nat.le_of_ble_eq_true rfl) (by omega) (dk dt_X12_leastCount 36 rfl) ?_
                rw [Int.toNat_natCast, e145]
                refine v_istore_n (lv' := [(2, _), (3, _), (0, _), (1, _)]) (pc := 61) h (dk dt_X12_leastCount 37 rfl) (Nat.le_of_ble_eq_true rfl) rfl ?_
                refine v_iinc (lv' := [(3, _), (2, _), (0, _), (1, _)]) (pc := 62) h (dk dt_X12_leastCount 38 rfl) rfl (Nat.le_of_ble_eq_true rfl) rfl ?_
                refine v_goto (pc := 65) h 4 (dk dt_X12_leastCount 39 rfl) rfl ?_
                first
                  | exact VV.loc (fY ⟨hr, by omega⟩) ⟨rfl, rfl, rfl, rfl, trivial⟩
                  | exact VV.loc (fN (fun q => by have := q.2; omega)) ⟨rfl, rfl, rfl, rfl, trivial⟩
                  | exact VV.loc (fN (fun q => by have q1 := q.1.1; have q2 := q.1.2; have := hRi q1; rcases hmem.2 with z | z <;> omega)) ⟨rfl, rfl, rfl, rfl, trivial⟩
              ·
                refine v_aload_n (pc := 45) h (dk dt_X12_leastCount 27 rfl) rfl ?_
                refine v_getr (pc := 46) h ci12 sh123 (Nat.le_of_ble_eq_true rfl) (j := 31) wF_X12_86 rfl (dk dt_X12_leastCount 28 rfl) ?_
                refine v_iload_n (pc := 49) h (dk dt_X12_leastCount 29 rfl) rfl ?_
                refine v_iald (pc := 50) h sh145 (Nat.le_of_ble_eq_true rfl) (by omega) (dk dt_X12_leastCount 30 rfl) ?_
                rw [Int.toNat_natCast, e145]
                refine v_iload_n (pc := 51) h (dk dt_X12_leastCount 31 rfl) rfl ?_
                refine v_icmp_ge (pc := 52) h 62 (dk dt_X12_leastCount 32 rfl) rfl (by omega) (fun c52 => ?_) (fun c52 => ?_)
                ·
                  refine v_iinc (lv' := [(3, _), (2, _), (0, _), (1, _)]) (pc := 62) h (dk dt_X12_leastCount 38 rfl) rfl (Nat.le_of_ble_eq_true rfl) rfl ?_
                  refine v_goto (pc := 65) h 4 (dk dt_X12_leastCount 39 rfl) rfl ?_
                  first
                    | exact VV.loc (fY ⟨hr, by omega⟩) ⟨rfl, rfl, rfl, rfl, trivial⟩
                    | exact VV.loc (fN (fun q => by have := q.2; omega)) ⟨rfl, rfl, rfl, rfl, trivial⟩
                    | exact VV.loc (fN (fun q => by have q1 := q.1.1; have q2 := q.1.2; have := hRi q1; rcases hmem.2 with z | z <;> omega)) ⟨rfl, rfl, rfl, rfl, trivial⟩
                ·
                  refine v_aload_n (pc := 55) h (dk dt_X12_leastCount 33 rfl) rfl ?_
                  refine v_getr (pc := 56) h ci12 sh123 (Nat.le_of_ble_eq_true rfl) (j := 31) wF_X12_86 rfl (dk dt_X12_leastCount 34 rfl) ?_
                  refine v_iload_n (pc := 59) h (dk dt_X12_leastCount 35 rfl) rfl ?_
                  refine v_iald (pc := 60) h sh145 (Nat.le_of_ble_eq_true rfl) (by omega) (dk dt_X12_leastCount 36 rfl) ?_
                  rw [Int.toNat_natCast, e145]
                  refine v_istore_n (lv' := [(2, _), (3, _), (0, _), (1, _)]) (pc := 61) h (dk dt_X12_leastCount 37 rfl) (Nat.le_of_ble_eq_true rfl) rfl ?_
                  refine v_iinc (lv' := [(3, _), (2, _), (0, _), (1, _)]) (pc := 62) h (dk dt_X12_leastCount 38 rfl) rfl (Nat.le_of_ble_eq_true rfl) rfl ?_
                  refine v_goto (pc := 65) h 4 (dk dt_X12_leastCount 39 rfl) rfl ?_
                  first
                    | exact VV.loc (fY ⟨hr, by omega⟩) ⟨rfl, rfl, rfl, rfl, trivial⟩
                    | exact VV.loc (fN (fun q => by have := q.2; omega)) ⟨rfl, rfl, rfl, rfl, trivial⟩
                    | exact VV.loc (fN (fun q => by have q1 := q.1.1; have q2 := q.1.2; have := hRi q1; rcases hmem.2 with z | z <;> omega)) ⟨rfl, rfl, rfl, rfl, trivial⟩
  refine v_iconst (pc := 0) h (dk dt_X12_leastCount 0 rfl) ?_
  refine v_istore_n (lv' := [(2, _), (0, _), (1, _)]) (pc := 1) h (dk dt_X12_leastCount 1 rfl) (Nat.le_of_ble_eq_true rfl) rfl ?_
  refine v_iconst (pc := 2) h (dk dt_X12_leastCount 2 rfl) ?_
  refine v_istore_n (lv' := [(3, _), (2, _), (0, _), (1, _)]) (pc := 3) h (dk dt_X12_leastCount 3 rfl) (Nat.le_of_ble_eq_true rfl) rfl ?_
  exact VV.loc (loop n 0 (by omega)) ⟨rfl, rfl, rfl, rfl, trivial⟩
end
