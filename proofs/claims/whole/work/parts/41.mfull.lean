/-! ===== the model: stretches too full; tasks ===== -/
section
variable {c l d : Nat → Int} {n : Nat}
abbrev inW (c d : Nat → Int) (a b : Int) (j : Nat) : Prop := a ≤ c j ∧ 0 < d j ∧ d j ≤ b
theorem wbt_cong {a b b' : Int} : ∀ {i : Nat}, (∀ j, j < i → (inW c d a b j ↔ inW c d a b' j)) → wbtF c l d a b i = wbtF c l d a b' i := by
  intro i
  induction i with
  | zero => intro _; rfl
  | succ i ih =>
    intro h
    simp only [wbtF]
    rw [ih (fun j hj => h j (by omega))]
    have hi := h i (by omega)
    by_cases q : inW c d a b i
    · rw [if_pos q, if_pos (hi.mp q)]
    · rw [if_neg q, if_neg (fun z => q (hi.mpr z))]
/-- the one due last of those within -/
theorem wbt_max {a b : Int} : ∀ {i : Nat}, wbtF c l d a b i ≠ 0 → ∃ j, j < i ∧ inW c d a b j ∧ ∀ k, k < i → inW c d a b k → d k ≤ d j := by
  intro i
  induction i with
  | zero => intro h; exact absurd rfl h
  | succ i ih =>
    intro h
    by_cases q : inW c d a b i
    · by_cases e : wbtF c l d a b i = 0
      · by_cases hex : ∃ j, j < i ∧ inW c d a b j ∧ ∀ k, k < i → inW c d a b k → d k ≤ d j
        · obtain ⟨j, h1, h2, h3⟩ := hex
          by_cases g : d j ≤ d i
          · exact ⟨i, by omega, q, fun k hk hk2 => by by_cases e : k = i; (rw [e]; exact Int.le_refl _); exact Int.le_trans (h3 k (by omega) hk2) g⟩
          · exact ⟨j, by omega, h2, fun k hk hk2 => by by_cases e : k = i; (rw [e]; omega); exact h3 k (by omega) hk2⟩
        · refine ⟨i, by omega, q, fun k hk hk2 => ?_⟩
          by_cases e2 : k = i
          · rw [e2]; exact Int.le_refl _
          · exfalso
            have key : ∀ i', i' ≤ i → (∃ j, j < i' ∧ inW c d a b j) → ∃ j, j < i' ∧ inW c d a b j ∧ ∀ k, k < i' → inW c d a b k → d k ≤ d j := by
              intro i'
              induction i' with
              | zero => rintro - ⟨j, hj, -⟩; omega
              | succ i' ih2 =>
                rintro hi' ⟨j, hj, hj2⟩
                by_cases g : ∃ j, j < i' ∧ inW c d a b j
                · obtain ⟨x, x1, x2, x3⟩ := ih2 (by omega) g
                  by_cases g2 : inW c d a b i' ∧ d x < d i'
                  · exact ⟨i', by omega, g2.1, fun k hk hk2 => by by_cases e : k = i'; (rw [e]; exact Int.le_refl _); have := x3 k (by omega) hk2; omega⟩
                  · exact ⟨x, by omega, x2, fun k hk hk2 => by by_cases e : k = i'; (rw [e] at hk2 ⊢; by_cases g3 : d i' ≤ d x; exact g3; exact absurd ⟨hk2, by omega⟩ g2); exact x3 k (by omega) hk2⟩
                · refine ⟨j, hj, hj2, fun k hk hk2 => ?_⟩
                  have ej : j = i' := by by_cases e : j = i'; exact e; exact absurd ⟨j, by omega, hj2⟩ g
                  have ek : k = i' := by by_cases e : k = i'; exact e; exact absurd ⟨k, by omega, hk2⟩ g
                  rw [ej, ek]; exact Int.le_refl _
            exact hex (key i (Nat.le_refl _) ⟨k, by omega, hk2⟩)
      · obtain ⟨j, h1, h2, h3⟩ := ih e
        by_cases g : d j ≤ d i
        · exact ⟨i, by omega, q, fun k hk hk2 => by by_cases e : k = i; (rw [e]; exact Int.le_refl _); exact Int.le_trans (h3 k (by omega) hk2) g⟩
        · exact ⟨j, by omega, h2, fun k hk hk2 => by by_cases e : k = i; (rw [e]; omega); exact h3 k (by omega) hk2⟩
    · simp only [wbtF, if_neg q] at h
      obtain ⟨j, h1, h2, h3⟩ := ih (by omega)
      exact ⟨j, by omega, h2, fun k hk hk2 => by by_cases e : k = i; (rw [e] at hk2; exact absurd hk2 q); exact h3 k (by omega) hk2⟩
abbrev qD (d : Nat → Int) (a : Int) (j : Nat) : Int := if a < d j then d j else a
abbrev fuC (c l d : Nat → Int) (n : Nat) (a : Int) (j : Nat) : Prop := (0 < d j ∧ a ≤ c j) ∧ qD d a j - a < wbtF c l d a (qD d a j) n
theorem fen_is {a : Int} (ha : 0 ≤ a) : ∀ i : Nat, (fenF c l d n a i = -1 ∧ ∀ j, j < i → ¬ fuC c l d n a j) ∨ (a ≤ fenF c l d n a i ∧ fenF c l d n a i - a < wbtF c l d a (fenF c l d n a i) n ∧ ∀ j, j < i → fuC c l d n a j → fenF c l d n a i ≤ qD d a j) := by
  intro i
  induction i with
  | zero => exact Or.inl ⟨rfl, fun j hj => absurd hj (by omega)⟩
  | succ i ih =>
    have hq : a ≤ qD d a i := by unfold qD; split <;> omega
    by_cases h : (0 < d i ∧ a ≤ c i) ∧ (fenF c l d n a i = -1 ∨ qD d a i < fenF c l d n a i) ∧ qD d a i - a < wbtF c l d a (qD d a i) n
    · have e : fenF c l d n a (i + 1) = qD d a i := by simp only [fenF]; rw [if_pos h]
      rw [e]
      refine Or.inr ⟨hq, h.2.2, fun j hj hf => ?_⟩
      by_cases e2 : j = i
      · rw [e2]; exact Int.le_refl _
      · rcases ih with ⟨-, g⟩ | ⟨g1, -, g⟩
        · exact absurd hf (g j (by omega))
        · have := g j (by omega) hf
          rcases h.2.1 with z | z <;> omega
    · have e : fenF c l d n a (i + 1) = fenF c l d n a i := by simp only [fenF]; rw [if_neg h]
      rw [e]
      rcases ih with ⟨g1, g⟩ | ⟨g1, g2, g⟩
      · refine Or.inl ⟨g1, fun j hj hf => ?_⟩
        by_cases e2 : j = i
        · rw [e2] at hf; exact h ⟨hf.1, Or.inl g1, hf.2⟩
        · exact g j (by omega) hf
      · refine Or.inr ⟨g1, g2, fun j hj hf => ?_⟩
        by_cases e2 : j = i
        · rw [e2] at hf ⊢
          by_cases z : qD d a i < fenF c l d n a i
          · exact absurd ⟨hf.1, Or.inr z, hf.2⟩ h
          · omega
        · exact g j (by omega) hf
/-- no earlier end is too full -/
theorem fen_no {a b : Int} (ha : 0 ≤ a) (hl : ∀ j : Nat, j < n → 0 ≤ l j ∧ l j ≤ 30) (hab : a ≤ b) (h : fenF c l d n a n = -1 ∨ b < fenF c l d n a n) : wbtF c l d a b n ≤ b - a := by
  by_cases g : wbtF c l d a b n ≤ b - a
  · exact g
  · exfalso
    obtain ⟨j, h1, h2, h3⟩ := wbt_max (c := c) (l := l) (d := d) (a := a) (b := b) (i := n) (by omega)
    have hqb : qD d a j ≤ b := by unfold qD; split <;> omega
    have hqd : d j ≤ qD d a j := by unfold qD; split <;> omega
    have e : wbtF c l d a (qD d a j) n = wbtF c l d a b n := wbt_cong (fun k hk => ⟨fun z => ⟨z.1, z.2.1, by omega⟩, fun z => ⟨z.1, z.2.1, by have := h3 k hk z; omega⟩⟩)
    have hf : fuC c l d n a j := ⟨⟨h2.2.1, h2.1⟩, by rw [e]; omega⟩
    rcases fen_is (c := c) (l := l) (d := d) (n := n) ha n with ⟨q1, q⟩ | ⟨q1, -, q⟩
    · exact q j h1 hf
    · have := q j h1 hf
      omega
theorem fen_yes {a : Int} (ha : 0 ≤ a) (h : fenF c l d n a n ≠ -1) : a ≤ fenF c l d n a n ∧ fenF c l d n a n - a < wbtF c l d a (fenF c l d n a n) n := by
  rcases fen_is (c := c) (l := l) (d := d) (n := n) ha n with ⟨q1, q⟩ | ⟨q1, q2, q⟩
  · exact absurd q1 h
  · exact ⟨q1, q2⟩
theorem fen_late {a : Int} (hc : ∀ j : Nat, j < n → c j ≤ 99) (ha : 100 ≤ a) : fenF c l d n a n = -1 := by
  rcases fen_is (c := c) (l := l) (d := d) (n := n) (a := a) (by omega) n with ⟨q1, q⟩ | ⟨q1, q2, q⟩
  · exact q1
  · exfalso
    have e : ∀ b : Int, ∀ i, i ≤ n → wbtF c l d a b i = 0 := by
      intro b i
      induction i with
      | zero => intro _; rfl
      | succ i ih => intro hi; simp only [wbtF]; rw [ih (by omega), if_neg (fun z => by have := hc i (by omega); omega)]; rfl
    rw [e _ n (Nat.le_refl _)] at q2
    omega
theorem fu_end : ∀ (k a : Nat), (∀ x : Nat, a ≤ x → fenF c l d n (x : Int) n = -1) → fuB c l d n k a = -1 := by
  intro k
  induction k with
  | zero => intro a _; rfl
  | succ k ih => intro a h; simp only [fuB]; rw [if_neg (fun z => z (h a (Nat.le_refl _)))]; exact ih (a + 1) (fun x hx => h x (by omega))
theorem fu_more (e : Nat) : ∀ (k a : Nat), (∀ x : Nat, a + k ≤ x → fenF c l d n (x : Int) n = -1) → fuB c l d n (k + e) a = fuB c l d n k a := by
  intro k
  induction k with
  | zero => intro a h; rw [Nat.zero_add]; exact fu_end e a (fun x hx => h x (by omega))
  | succ k ih =>
    intro a h
    rw [show k + 1 + e = (k + e) + 1 by omega]
    simp only [fuB]
    split
    · rfl
    · exact ih (a + 1) (fun x hx => h x (by omega))
end
section
variable {l : Launch} {B : Nat} {D : va_G} {E : Nat → ClassId} {μ m σ : Mm} {w n : Nat} {K : Nat → Int} {s : St} {J : Mm}
theorem c_X12_workWithin (hst : l.stackTraces = false) (hE : eqJ μ) (hO : hOK μ) (hn : μ 1 9 = (n : Int)) {x y : Int} (hx : InR x ∧ InR y) :
    Ct l B D E yX12_workWithin (.code yX12_workWithin cX12_workWithin 5 (some .int)) rm_X12_workWithin [.ref (pl B 123), iI x, iI y] μ (ri (wbtF (μ 3) (μ 5) (μ 7) x y n) μ) NX := by
  have e9 := eqJ_n hE hn
  have hn12 := hO.J.1
  have hl : ∀ j : Nat, j < n → 0 ≤ μ 5 j ∧ μ 5 j ≤ 30 := fun j hj => by have := (hO.J.2 j (by omega)).2.1; omega
  have hwb := wbtF_b (c := μ 3) (l := μ 5) (d := μ 7) (a := x) (b := y) (n := n) hl
  refine ct_of (own := RX12) (lv := [(0, _), (1, _), (2, _)]) hst (by decide) rfl rfl (Nat.le_of_ble_eq_true rfl) fun a h r t => ?_
  have loop : ∀ (d i : Nat), i + d = n → VV a B (SP B D E μ) 0 0 5 [(4, iI (i : Int)), (3, iI (wbtF (μ 3) (μ 5) (μ 7) x y i)), (0, .ref (pl B 123)), (1, iI x), (2, iI y)] [] := by
    intro d
    induction d with
    | zero =>
      intro i hi
      refine v_iload (pc := 5) h (dk dt_X12_workWithin 4 rfl) rfl ?_
      refine v_aload_n (pc := 7) h (dk dt_X12_workWithin 5 rfl) rfl ?_
      refine v_geti (pc := 8) h ci12 sh123 (Nat.le_of_ble_eq_true rfl) (j := 9) wF_X12_108 rfl (dk dt_X12_workWithin 6 rfl) ?_
      refine v_icmp_ge (pc := 11) h 66 (dk dt_X12_workWithin 7 rfl) rfl (by omega) (fun c11 => ?_) (fun c11 => ?_)
      ·
        refine v_iload_n (pc := 66) h (dk dt_X12_workWithin 36 rfl) rfl ?_
        exact v_iret (pc := 67) h r (dk dt_X12_workWithin 37 rfl) (Nat.le_of_ble_eq_true rfl) (Nat.le_of_ble_eq_true rfl) ⟨by rw [show i = n by omega], rfl⟩
      ·
        exact absurd c11 (by omega)
    | succ d ih =>
      intro i hi
      have hJ := hO.J.2 i (by omega)
      have hq := hwb i (by omega)
      have e124 : μ 124 i = μ 3 i := by rw [hE.1.1]
      have e125 : μ 125 i = μ 5 i := by rw [hE.1.2.1]
      have e126 : μ 126 i = μ 7 i := by rw [hE.1.2.2.1]
      have eY : (x ≤ μ 3 i ∧ 0 < μ 7 i ∧ μ 7 i ≤ y) → wbtF (μ 3) (μ 5) (μ 7) x y (i + 1) = wbtF (μ 3) (μ 5) (μ 7) x y i + μ 5 i := fun q => by simp only [wbtF]; rw [if_pos q]
      have eN : ¬ (x ≤ μ 3 i ∧ 0 < μ 7 i ∧ μ 7 i ≤ y) → wbtF (μ 3) (μ 5) (μ 7) x y (i + 1) = wbtF (μ 3) (μ 5) (μ 7) x y i + 0 := fun q => by simp only [wbtF]; rw [if_neg q]
      refine v_iload (pc := 5) h (dk dt_X12_workWithin 4 rfl) rfl ?_
      refine v_aload_n (pc := 7) h (dk dt_X12_workWithin 5 rfl) rfl ?_
      refine v_geti (pc := 8) h ci12 sh123 (Nat.le_of_ble_eq_true rfl) (j := 9) wF_X12_108 rfl (dk dt_X12_workWithin 6 rfl) ?_
      refine v_icmp_ge (pc := 11) h 66 (dk dt_X12_workWithin 7 rfl) rfl (by omega) (fun c11 => ?_) (fun c11 => ?_)
      ·
        exact absurd c11 (by omega)
      ·
        refine v_iload_n (pc := 14) h (dk dt_X12_workWithin 8 rfl) rfl ?_
        refine v_aload_n (pc := 15) h (dk dt_X12_workWithin 9 rfl) rfl ?_
        refine v_getr (pc := 16) h ci12 sh123 (Nat.le_of_ble_eq_true rfl) (j := 0) wF_X12_7 rfl (dk dt_X12_workWithin 10 rfl) ?_
        refine v_iload (pc := 19) h (dk dt_X12_workWithin 11 rfl) rfl ?_
        refine v_iald (pc := 21) h sh124 (Nat.le_of_ble_eq_true rfl) (by omega) (dk dt_X12_workWithin 12 rfl) ?_
        rw [Int.toNat_natCast, e124]
        refine v_iload_n (pc := 22) h (dk dt_X12_workWithin 13 rfl) rfl ?_
        refine v_icmp_lt (pc := 23) h 57 (dk dt_X12_workWithin 14 rfl) rfl (by omega) (fun c23 => ?_) (fun c23 => ?_)
        ·
          refine v_iconst (pc := 57) h (dk dt_X12_workWithin 31 rfl) ?_
          refine v_iadd (pc := 58) h (dk dt_X12_workWithin 32 rfl) ?_
          refine v_istore_n (lv' := [(3, _), (4, _), (0, _), (1, _), (2, _)]) (pc := 59) h (dk dt_X12_workWithin 33 rfl) (Nat.le_of_ble_eq_true rfl) rfl ?_
          refine v_iinc (lv' := [(4, _), (3, _), (0, _), (1, _), (2, _)]) (pc := 60) h (dk dt_X12_workWithin 34 rfl) rfl (Nat.le_of_ble_eq_true rfl) rfl ?_
          refine v_goto (pc := 63) h 5 (dk dt_X12_workWithin 35 rfl) rfl ?_
          first
            | (have q : ¬ (x ≤ μ 3 i ∧ 0 < μ 7 i ∧ μ 7 i ≤ y) := by omega
               exact VV.loc (lv' := [(4, _), (3, _), (0, _), (1, _), (2, _)]) (ih (i + 1) (by omega)) ⟨rfl, lvI (eN q).symm, rfl, rfl, rfl, trivial⟩)
            | (have q : x ≤ μ 3 i ∧ 0 < μ 7 i ∧ μ 7 i ≤ y := by omega
               exact VV.loc (lv' := [(4, _), (3, _), (0, _), (1, _), (2, _)]) (ih (i + 1) (by omega)) ⟨rfl, lvI (eY q).symm, rfl, rfl, rfl, trivial⟩)
        ·
          refine v_aload_n (pc := 26) h (dk dt_X12_workWithin 15 rfl) rfl ?_
          refine v_getr (pc := 27) h ci12 sh123 (Nat.le_of_ble_eq_true rfl) (j := 2) wF_X12_16 rfl (dk dt_X12_workWithin 16 rfl) ?_
          refine v_iload (pc := 30) h (dk dt_X12_workWithin 17 rfl) rfl ?_
          refine v_iald (pc := 32) h sh126 (Nat.le_of_ble_eq_true rfl) (by omega) (dk dt_X12_workWithin 18 rfl) ?_
          rw [Int.toNat_natCast, e126]
          refine v_if_le (pc := 33) h 57 (dk dt_X12_workWithin 19 rfl) rfl (by omega) (fun c33 => ?_) (fun c33 => ?_)
          ·
            refine v_iconst (pc := 57) h (dk dt_X12_workWithin 31 rfl) ?_
            refine v_iadd (pc := 58) h (dk dt_X12_workWithin 32 rfl) ?_
            refine v_istore_n (lv' := [(3, _), (4, _), (0, _), (1, _), (2, _)]) (pc := 59) h (dk dt_X12_workWithin 33 rfl) (Nat.le_of_ble_eq_true rfl) rfl ?_
            refine v_iinc (lv' := [(4, _), (3, _), (0, _), (1, _), (2, _)]) (pc := 60) h (dk dt_X12_workWithin 34 rfl) rfl (Nat.le_of_ble_eq_true rfl) rfl ?_
            refine v_goto (pc := 63) h 5 (dk dt_X12_workWithin 35 rfl) rfl ?_
            first
              | (have q : ¬ (x ≤ μ 3 i ∧ 0 < μ 7 i ∧ μ 7 i ≤ y) := by omega
                 exact VV.loc (lv' := [(4, _), (3, _), (0, _), (1, _), (2, _)]) (ih (i + 1) (by omega)) ⟨rfl, lvI (eN q).symm, rfl, rfl, rfl, trivial⟩)
              | (have q : x ≤ μ 3 i ∧ 0 < μ 7 i ∧ μ 7 i ≤ y := by omega
                 exact VV.loc (lv' := [(4, _), (3, _), (0, _), (1, _), (2, _)]) (ih (i + 1) (by omega)) ⟨rfl, lvI (eY q).symm, rfl, rfl, rfl, trivial⟩)
          ·
            refine v_aload_n (pc := 36) h (dk dt_X12_workWithin 20 rfl) rfl ?_
            refine v_getr (pc := 37) h ci12 sh123 (Nat.le_of_ble_eq_true rfl) (j := 2) wF_X12_16 rfl (dk dt_X12_workWithin 21 rfl) ?_
            refine v_iload (pc := 40) h (dk dt_X12_workWithin 22 rfl) rfl ?_
            refine v_iald (pc := 42) h sh126 (Nat.le_of_ble_eq_true rfl) (by omega) (dk dt_X12_workWithin 23 rfl) ?_
            rw [Int.toNat_natCast, e126]
            refine v_iload_n (pc := 43) h (dk dt_X12_workWithin 24 rfl) rfl ?_
            refine v_icmp_gt (pc := 44) h 57 (dk dt_X12_workWithin 25 rfl) rfl (by omega) (fun c44 => ?_) (fun c44 => ?_)
            ·
              refine v_iconst (pc := 57) h (dk dt_X12_workWithin 31 rfl) ?_
              refine v_iadd (pc := 58) h (dk dt_X12_workWithin 32 rfl) ?_
              refine v_istore_n (lv' := [(3, _), (4, _), (0, _), (1, _), (2, _)]) (pc := 59) h (dk dt_X12_workWithin 33 rfl) (Nat.le_of_ble_eq_true rfl) rfl ?_
              refine v_iinc (lv' := [(4, _), (3, _), (0, _), (1, _), (2, _)]) (pc := 60) h (dk dt_X12_workWithin 34 rfl) rfl (Nat.le_of_ble_eq_true rfl) rfl ?_
              refine v_goto (pc := 63) h 5 (dk dt_X12_workWithin 35 rfl) rfl ?_
              first
                | (have q : ¬ (x ≤ μ 3 i ∧ 0 < μ 7 i ∧ μ 7 i ≤ y) := by omega
                   exact VV.loc (lv' := [(4, _), (3, _), (0, _), (1, _), (2, _)]) (ih (i + 1) (by omega)) ⟨rfl, lvI (eN q).symm, rfl, rfl, rfl, trivial⟩)
                | (have q : x ≤ μ 3 i ∧ 0 < μ 7 i ∧ μ 7 i ≤ y := by omega
                   exact VV.loc (lv' := [(4, _), (3, _), (0, _), (1, _), (2, _)]) (ih (i + 1) (by omega)) ⟨rfl, lvI (eY q).symm, rfl, rfl, rfl, trivial⟩)
            ·
              refine v_aload_n (pc := 47) h (dk dt_X12_workWithin 26 rfl) rfl ?_
              refine v_getr (pc := 48) h ci12 sh123 (Nat.le_of_ble_eq_true rfl) (j := 1) wF_X12_13 rfl (dk dt_X12_workWithin 27 rfl) ?_
              refine v_iload (pc := 51) h (dk dt_X12_workWithin 28 rfl) rfl ?_
              refine v_iald (pc := 53) h sh125 (Nat.le_of_ble_eq_true rfl) (by omega) (dk dt_X12_workWithin 29 rfl) ?_
              rw [Int.toNat_natCast, e125]
              refine v_goto (pc := 54) h 58 (dk dt_X12_workWithin 30 rfl) rfl ?_
              refine v_iadd (pc := 58) h (dk dt_X12_workWithin 32 rfl) ?_
              refine v_istore_n (lv' := [(3, _), (4, _), (0, _), (1, _), (2, _)]) (pc := 59) h (dk dt_X12_workWithin 33 rfl) (Nat.le_of_ble_eq_true rfl) rfl ?_
              refine v_iinc (lv' := [(4, _), (3, _), (0, _), (1, _), (2, _)]) (pc := 60) h (dk dt_X12_workWithin 34 rfl) rfl (Nat.le_of_ble_eq_true rfl) rfl ?_
              refine v_goto (pc := 63) h 5 (dk dt_X12_workWithin 35 rfl) rfl ?_
              first
                | (have q : ¬ (x ≤ μ 3 i ∧ 0 < μ 7 i ∧ μ 7 i ≤ y) := by omega
                   exact VV.loc (lv' := [(4, _), (3, _), (0, _), (1, _), (2, _)]) (ih (i + 1) (by omega)) ⟨rfl, lvI (eN q).symm, rfl, rfl, rfl, trivial⟩)
                | (have q : x ≤ μ 3 i ∧ 0 < μ 7 i ∧ μ 7 i ≤ y := by omega
                   exact VV.loc (lv' := [(4, _), (3, _), (0, _), (1, _), (2, _)]) (ih (i + 1) (by omega)) ⟨rfl, lvI (eY q).symm, rfl, rfl, rfl, trivial⟩)
  refine v_iconst (pc := 0) h (dk dt_X12_workWithin 0 rfl) ?_
  refine v_istore_n (lv' := [(3, _), (0, _), (1, _), (2, _)]) (pc := 1) h (dk dt_X12_workWithin 1 rfl) (Nat.le_of_ble_eq_true rfl) rfl ?_
  refine v_iconst (pc := 2) h (dk dt_X12_workWithin 2 rfl) ?_
  refine v_istore (lv' := [(4, _), (3, _), (0, _), (1, _), (2, _)]) (pc := 3) h (dk dt_X12_workWithin 3 rfl) (Nat.le_of_ble_eq_true rfl) rfl ?_
  exact VV.loc (loop n 0 (by omega)) ⟨rfl, rfl, rfl, rfl, rfl, trivial⟩
/-- what the model writes of a stretch too full -/
def fuM (μ : Mm) (x y : Int) : Mm := mup (mup μ 123 39 x) 123 40 y
theorem c_X12_isAnyFull (hst : l.stackTraces = false) (hE : eqJ μ) (hO : hOK μ) (hn : μ 1 9 = (n : Int)) :
    Ct l B D E yX12_isAnyFull (.code yX12_isAnyFull cX12_isAnyFull 3 (some .boolean)) rm_X12_isAnyFull [.ref (pl B 123)] μ (fun v m => if fuB (μ 3) (μ 5) (μ 7) n 100 0 = -1 then v = some (iI 0) ∧ m = μ else v = some (iI 1) ∧ m = fuM μ (fuB (μ 3) (μ 5) (μ 7) n 100 0) (fenF (μ 3) (μ 5) (μ 7) n (fuB (μ 3) (μ 5) (μ 7) n 100 0) n)) NX := by
  have hn12 := hO.J.1
  have hl : ∀ j : Nat, j < n → 0 ≤ μ 5 j ∧ μ 5 j ≤ 30 := fun j hj => by have := (hO.J.2 j (by omega)).2.1; omega
  have hd : ∀ j : Nat, j < n → 0 ≤ μ 7 j ∧ μ 7 j ≤ 400 := fun j hj => (hO.J.2 j (by omega)).2.2.1
  have hc : ∀ j : Nat, j < n → μ 3 j ≤ 99 := fun j hj => (hO.J.2 j (by omega)).1.2
  have hmore := fu_more (c := μ 3) (l := μ 5) (d := μ 7) (n := n) 301 100 0 (fun x hx => fen_late hc (by omega))
  generalize hfu : fuB (μ 3) (μ 5) (μ 7) n 100 0 = fu at *
  refine ct_of (own := RX12) (lv := [(0, _)]) hst (by decide) rfl rfl (Nat.le_of_ble_eq_true rfl) fun a h r t => ?_
  have loop : ∀ (d i : Nat), i + d = 401 → fu = fuB (μ 3) (μ 5) (μ 7) n d i → VV a B (SP B D E μ) 0 0 2 [(1, iI (i : Int)), (0, .ref (pl B 123))] [] := by
    intro d
    induction d with
    | zero =>
      intro i hi e
      have e1 : fu = -1 := e
      refine v_iload_n (pc := 2) h (dk dt_X12_isAnyFull 2 rfl) rfl ?_
      refine v_sipush (pc := 3) h (dk dt_X12_isAnyFull 3 rfl) rfl ?_
      refine v_icmp_gt (pc := 6) h 54 (dk dt_X12_isAnyFull 4 rfl) rfl (by omega) (fun c6 => ?_) (fun c6 => ?_)
      ·
        refine v_iconst (pc := 54) h (dk dt_X12_isAnyFull 30 rfl) ?_
        exact v_zret (pc := 55) h r (dk dt_X12_isAnyFull 31 rfl) (Nat.le_of_ble_eq_true rfl) (Nat.le_of_ble_eq_true rfl) (by omega) (by rw [if_pos e1]; exact ⟨rfl, rfl⟩)
      ·
        exact absurd c6 (by omega)
    | succ d ih =>
      intro i hi e
      have hiN : fenF (μ 3) (μ 5) (μ 7) n (i : Int) n = -1 → fu = fuB (μ 3) (μ 5) (μ 7) n d (i + 1) := fun q => by rw [e]; simp only [fuB]; rw [if_neg (fun z => z q)]
      have hiY : fenF (μ 3) (μ 5) (μ 7) n (i : Int) n ≠ -1 → fu = (i : Int) := fun q => by rw [e]; simp only [fuB]; rw [if_pos q]
      have hno := fun b : Int => fen_no (c := μ 3) (l := μ 5) (d := μ 7) (n := n) (a := (i : Int)) (b := b) (by omega) hl
      have hyes := fen_yes (c := μ 3) (l := μ 5) (d := μ 7) (n := n) (a := (i : Int)) (by omega)
      have hfb : -1 ≤ fenF (μ 3) (μ 5) (μ 7) n (i : Int) n ∧ fenF (μ 3) (μ 5) (μ 7) n (i : Int) n ≤ 400 := by
        by_cases g : (i : Int) ≤ 99
        · exact fenF_b ⟨by omega, g⟩ hd n (Nat.le_refl _)
        · rw [fen_late hc (by omega)]; omega
      have inner : ∀ (d2 i2 : Nat), i2 + d2 = 401 → i ≤ i2 → (fenF (μ 3) (μ 5) (μ 7) n (i : Int) n = -1 ∨ (i2 : Int) ≤ fenF (μ 3) (μ 5) (μ 7) n (i : Int) n) → VV a B (SP B D E μ) 0 0 11 [(2, iI (i2 : Int)), (1, iI (i : Int)), (0, .ref (pl B 123))] [] := by
        intro d2
        induction d2 with
        | zero =>
          intro i2 hi2 hii hf
          refine v_iload_n (pc := 11) h (dk dt_X12_isAnyFull 7 rfl) rfl ?_
          refine v_sipush (pc := 12) h (dk dt_X12_isAnyFull 8 rfl) rfl ?_
          refine v_icmp_gt (pc := 15) h 48 (dk dt_X12_isAnyFull 9 rfl) rfl (by omega) (fun c15 => ?_) (fun c15 => ?_)
          ·
            refine v_iinc (lv' := [(1, _), (2, _), (0, _)]) (pc := 48) h (dk dt_X12_isAnyFull 28 rfl) rfl (Nat.le_of_ble_eq_true rfl) rfl ?_
            refine v_goto (pc := 51) h 2 (dk dt_X12_isAnyFull 29 rfl) rfl ?_
            exact VV.loc (ih (i + 1) (by omega) (hiN (by omega))) ⟨rfl, rfl, trivial⟩
          ·
            exact absurd c15 (by omega)
        | succ d2 ih2 =>
          intro i2 hi2 hii hf
          have hq := wbtF_b (c := μ 3) (l := μ 5) (d := μ 7) (a := (i : Int)) (b := (i2 : Int)) (n := n) hl n (Nat.le_refl _)
          have hn2 := hno (i2 : Int) (by omega)
          have hfe : (i2 : Int) - i < wbtF (μ 3) (μ 5) (μ 7) (i : Int) (i2 : Int) n → fenF (μ 3) (μ 5) (μ 7) n (i : Int) n = (i2 : Int) := fun q => by
            by_cases g : fenF (μ 3) (μ 5) (μ 7) n (i : Int) n = -1 ∨ (i2 : Int) < fenF (μ 3) (μ 5) (μ 7) n (i : Int) n
            · have := hn2 g; omega
            · omega
          have hfe2 : ¬ (i2 : Int) - i < wbtF (μ 3) (μ 5) (μ 7) (i : Int) (i2 : Int) n → fenF (μ 3) (μ 5) (μ 7) n (i : Int) n ≠ (i2 : Int) := fun q z => by
            have := (hyes (by omega)).2
            rw [z] at this
            exact q this
          refine v_iload_n (pc := 11) h (dk dt_X12_isAnyFull 7 rfl) rfl ?_
          refine v_sipush (pc := 12) h (dk dt_X12_isAnyFull 8 rfl) rfl ?_
          refine v_icmp_gt (pc := 15) h 48 (dk dt_X12_isAnyFull 9 rfl) rfl (by omega) (fun c15 => ?_) (fun c15 => ?_)
          ·
            exact absurd c15 (by omega)
          ·
            refine v_aload_n (pc := 18) h (dk dt_X12_isAnyFull 10 rfl) rfl ?_
            refine v_iload_n (pc := 19) h (dk dt_X12_isAnyFull 11 rfl) rfl ?_
            refine v_iload_n (pc := 20) h (dk dt_X12_isAnyFull 12 rfl) rfl ?_
            refine v_cVi (pc := 21) h (c_X12_workWithin (n := n) h.quiet hE hO hn (by omega)) kv_X12_workWithin sh123 wM_X12_257 rfl rfl (Nat.le_of_ble_eq_true rfl) (RM.of rfl) rfl rfl (dk dt_X12_isAnyFull 13 rfl) ?_
            refine v_iload_n (pc := 24) h (dk dt_X12_isAnyFull 14 rfl) rfl ?_
            refine v_iload_n (pc := 25) h (dk dt_X12_isAnyFull 15 rfl) rfl ?_
            refine v_isub (pc := 26) h (dk dt_X12_isAnyFull 16 rfl) ?_
            refine v_icmp_le (pc := 27) h 42 (dk dt_X12_isAnyFull 17 rfl) rfl (by omega) (fun c27 => ?_) (fun c27 => ?_)
            ·
              have e3 := hfe2 (by omega)
              refine v_iinc (lv' := [(2, _), (1, _), (0, _)]) (pc := 42) h (dk dt_X12_isAnyFull 26 rfl) rfl (Nat.le_of_ble_eq_true rfl) rfl ?_
              refine v_goto (pc := 45) h 11 (dk dt_X12_isAnyFull 27 rfl) rfl ?_
              exact VV.loc (ih2 (i2 + 1) (by omega) (by omega) (by omega)) ⟨rfl, rfl, rfl, trivial⟩
            ·
              have e1 := hfe (by omega)
              have e2 := hiY (by omega)
              refine v_aload_n (pc := 30) h (dk dt_X12_isAnyFull 18 rfl) rfl ?_
              refine v_iload_n (pc := 31) h (dk dt_X12_isAnyFull 19 rfl) rfl ?_
              refine v_put (pc := 32) h ci12 sh123 (Nat.le_of_ble_eq_true rfl) (j := 39) wF_X12_260 rfl rfl rfl rfl (dk dt_X12_isAnyFull 20 rfl) ?_
              refine v_aload_n (pc := 35) h (dk dt_X12_isAnyFull 21 rfl) rfl ?_
              refine v_iload_n (pc := 36) h (dk dt_X12_isAnyFull 22 rfl) rfl ?_
              refine v_put (pc := 37) h ci12 sh123 (Nat.le_of_ble_eq_true rfl) (j := 40) wF_X12_263 rfl rfl rfl rfl (dk dt_X12_isAnyFull 23 rfl) ?_
              refine v_iconst (pc := 40) h (dk dt_X12_isAnyFull 24 rfl) ?_
              exact v_zret (pc := 41) h r (dk dt_X12_isAnyFull 25 rfl) (Nat.le_of_ble_eq_true rfl) (Nat.le_of_ble_eq_true rfl) (by omega) (by rw [if_neg (by omega), e2, e1]; exact ⟨rfl, rfl⟩)
      refine v_iload_n (pc := 2) h (dk dt_X12_isAnyFull 2 rfl) rfl ?_
      refine v_sipush (pc := 3) h (dk dt_X12_isAnyFull 3 rfl) rfl ?_
      refine v_icmp_gt (pc := 6) h 54 (dk dt_X12_isAnyFull 4 rfl) rfl (by omega) (fun c6 => ?_) (fun c6 => ?_)
      ·
        exact absurd c6 (by omega)
      ·
        refine v_iload_n (pc := 9) h (dk dt_X12_isAnyFull 5 rfl) rfl ?_
        refine v_istore_n (lv' := [(2, _), (1, _), (0, _)]) (pc := 10) h (dk dt_X12_isAnyFull 6 rfl) (Nat.le_of_ble_eq_true rfl) rfl ?_
        exact VV.loc (inner (401 - i) i (by omega) (Nat.le_refl _) (by by_cases g : fenF (μ 3) (μ 5) (μ 7) n (i : Int) n = -1; exact Or.inl g; exact Or.inr (hyes g).1)) ⟨rfl, rfl, rfl, trivial⟩
  refine v_iconst (pc := 0) h (dk dt_X12_isAnyFull 0 rfl) ?_
  refine v_istore_n (lv' := [(1, _), (0, _)]) (pc := 1) h (dk dt_X12_isAnyFull 1 rfl) (Nat.le_of_ble_eq_true rfl) rfl ?_
  exact VV.loc (loop 401 0 (by omega) hmore.symm) ⟨rfl, rfl, trivial⟩
end
