/-! ===== the model's run ===== -/
/-- how many have ended -/
def cN (σ : Mm) : Nat → Int
  | 0 => 0
  | j + 1 => cN σ j + if σ 0 j = 0 then 1 else 0
theorem cN_b (σ : Mm) (n : Nat) : 0 ≤ cN σ n ∧ cN σ n ≤ n := by
  induction n with
  | zero => simp [cN]
  | succ n ih => simp only [cN]; split <;> omega
theorem cN_all (σ : Mm) (n : Nat) : cN σ n = n ↔ ovr n σ := by
  induction n with
  | zero => exact ⟨fun _ j hj => absurd hj (by omega), fun _ => rfl⟩
  | succ n ih =>
    have hb := cN_b σ n
    simp only [cN]
    constructor
    · intro h j hj
      by_cases c : σ 0 n = 0
      · rw [if_pos c] at h
        by_cases e : j = n
        · rw [e]; exact c
        · exact ih.mp (by omega) j (by omega)
      · rw [if_neg c] at h; omega
    · intro h
      rw [if_pos (h n (by omega)), ih.mpr (fun j hj => h j (by omega))]
      rfl
theorem cN_c {σ σ' : Mm} {n : Nat} (h : ∀ j, j < n → σ' 0 j = σ 0 j) : cN σ' n = cN σ n := by
  induction n with
  | zero => rfl
  | succ n ih => simp only [cN]; rw [ih (fun j hj => h j (by omega)), h n (by omega)]
theorem cN_w {σ σ' : Mm} {n c : Nat} (hc : c < n) (h0 : 1 ≤ σ 0 c) (h : ∀ b, σ' 0 b = if b = c then σ 0 c - 1 else σ 0 b) : cN σ' n = cN σ n + if σ 0 c = 1 then 1 else 0 := by
  induction n with
  | zero => omega
  | succ n ih =>
    simp only [cN]
    by_cases e : c = n
    · subst e
      rw [cN_c (fun j hj => by rw [h, if_neg (by omega)]), h, if_pos rfl]
      by_cases q : σ 0 c = 1
      · rw [if_pos (by omega), if_neg (by omega), if_pos q]; omega
      · rw [if_neg (by omega), if_neg (by omega), if_neg q]; omega
    · rw [ih (by omega), h, if_neg (Ne.symm e)]
      omega
theorem mup_id (μ : Mm) (a b : Nat) : mup μ a b (μ a b) = μ := by
  funext x y
  unfold mup
  split
  · rename_i h; rw [h.1, h.2]
  · rfl
/-- kept waiting, up to the job i -/
def mkq (μ : Mm) (n : Nat) (J σ : Mm) (c i : Nat) : Mm := fun a b => if a = 144 ∧ b < i ∧ rdy σ b ∧ kpr J n σ b ≠ -1 ∧ J 3 c < J 3 b then μ a b + 1 else μ a b
theorem mkq_y {μ J σ : Mm} {n c i : Nat} (h : rdy σ i ∧ kpr J n σ i ≠ -1 ∧ J 3 c < J 3 i) : mup (mkq μ n J σ c i) 144 i (μ 144 i + 1) = mkq μ n J σ c (i + 1) := by
  funext a b
  unfold mup mkq
  by_cases e : a = 144 ∧ b = i
  · rw [if_pos e, if_pos ⟨e.1, by omega, by rw [e.2]; exact h⟩, e.1, e.2]
  · rw [if_neg e]
    by_cases c : a = 144 ∧ b < i ∧ rdy σ b ∧ kpr J n σ b ≠ -1 ∧ J 3 c < J 3 b
    · rw [if_pos c, if_pos ⟨c.1, by omega, c.2.2⟩]
    · rw [if_neg c, if_neg (fun z => c ⟨z.1, by omega, z.2.2⟩)]
theorem mkq_n {μ J σ : Mm} {n c i : Nat} (h : ¬ (rdy σ i ∧ kpr J n σ i ≠ -1 ∧ J 3 c < J 3 i)) : mup (mkq μ n J σ c i) 144 i (μ 144 i + 0) = mkq μ n J σ c (i + 1) := by
  have e : mkq μ n J σ c i 144 i = μ 144 i := by unfold mkq; rw [if_neg (by omega)]
  rw [Int.add_zero, ← e, mup_id]
  funext a b
  unfold mkq
  by_cases c : a = 144 ∧ b < i ∧ rdy σ b ∧ kpr J n σ b ≠ -1 ∧ J 3 c < J 3 b
  · rw [if_pos c, if_pos ⟨c.1, by omega, c.2.2⟩]
  · rw [if_neg c, if_neg (fun z => c ⟨z.1, by
      rcases Nat.lt_succ_iff_lt_or_eq.mp z.2.1 with q | q
      · exact q
      · exact absurd (q ▸ z.2.2) h, z.2.2⟩)]
theorem mkq_o {μ J σ : Mm} {n c i a : Nat} (h : a ≠ 144) : mkq μ n J σ c i a = μ a := by
  funext b
  unfold mkq
  rw [if_neg (fun z => h z.1)]
section
variable {l : Launch} {B : Nat} {D : va_G} {E : Nat → ClassId} {μ m σ : Mm} {w n : Nat} {K : Nat → Int} {s : St} {J : Mm}
theorem c_X12_begins (hst : l.stackTraces = false) (hE : eqJ μ) (hs : okJ μ) (hn : μ 1 9 = (n : Int)) :
    Ct l B D E yX12_begins (.code yX12_begins cX12_begins 2 none) rm_X12_begins [.ref (pl B 123)] μ (fun v m => v = none ∧ (∀ a, a ≠ 123 → a < 141 ∨ 148 < a → m a = μ a) ∧ (∀ b, b ≠ 34 → b ≠ 35 → m 123 b = μ 123 b) ∧ m 123 34 = 0 ∧ m 123 35 = μ 123 13 ∧ bP n m (inN (jm μ) (μ 123 13)) ∧ bQ m 0 [] ∧ bQ m 1 [] ∧ bQ m 2 []) NX := by
  have hn12 := hs.1
  have e125 := hE.1.2.1
  have h9 := eqJ_n hE hn
  have i0 : ∀ b, inN (jm μ) (μ 123 13) 0 b = μ 5 b := fun b => by simp [inN, jm]
  have io : ∀ a b, a ≠ 0 → a ≠ 6 → inN (jm μ) (μ 123 13) a b = 0 := fun a b h1 h2 => by simp [inN, h1, h2]
  refine ct_of (own := RX12) (lv := [(0, _)]) hst (by decide) rfl rfl (Nat.le_of_ble_eq_true rfl) fun a h r t => ?_
  have go65 : ∀ (m1 : Mm), (∀ a, a < 141 ∨ 146 < a → m1 a = μ a) → bP n m1 (inN (jm μ) (μ 123 13)) → ∀ (d i : Nat) (m : Mm), i + d = 3 → (∀ a, a ≠ 148 → m a = m1 a) → (∀ j, j < i → m 148 j = 0) → VV a B (SP B D E m) 0 0 65 [(1, iI (i : Int)), (0, .ref (pl B 123))] [] := by
    intro m1 f1 b1 d
    induction d with
    | zero =>
      intro i m hi fm z
      have e : i = 3 := by omega
      subst e
      have e13 : (mup m 123 34 0) 123 13 = μ 123 13 := by rw [mup_ne (by omega), fm 123 (by omega), f1 123 (by omega)]
      refine v_iload_n (pc := 65) h (dk dt_X12_begins 43 rfl) rfl ?_
      refine v_iconst (pc := 66) h (dk dt_X12_begins 44 rfl) ?_
      refine v_icmp_ge (pc := 67) h 83 (dk dt_X12_begins 45 rfl) rfl (by omega) (fun c67 => ?_) (fun c67 => ?_)
      ·
        refine v_aload_n (pc := 83) h (dk dt_X12_begins 53 rfl) rfl ?_
        refine v_iconst (pc := 84) h (dk dt_X12_begins 54 rfl) ?_
        refine v_put (pc := 85) h ci12 sh123 (Nat.le_of_ble_eq_true rfl) (j := 34) wF_X12_184 rfl rfl rfl rfl (dk dt_X12_begins 55 rfl) ?_
        refine v_aload_n (pc := 88) h (dk dt_X12_begins 56 rfl) rfl ?_
        refine v_aload_n (pc := 89) h (dk dt_X12_begins 57 rfl) rfl ?_
        refine v_geti (pc := 90) h ci12 sh123 (Nat.le_of_ble_eq_true rfl) (j := 13) wF_X12_44 rfl (dk dt_X12_begins 58 rfl) ?_
        rw [e13]
        refine v_put (pc := 93) h ci12 sh123 (Nat.le_of_ble_eq_true rfl) (j := 35) wF_X12_165 rfl rfl rfl rfl (dk dt_X12_begins 59 rfl) ?_
        exact v_vret (pc := 96) h r (dk dt_X12_begins 60 rfl) (Nat.le_of_ble_eq_true rfl) (Nat.le_of_ble_eq_true rfl) ⟨rfl, fun a h1 h2 => by funext b; rw [mup_nk h1, mup_nk h1, fm a (by omega), f1 a (by omega)], fun b h1 h2 => by rw [mup_ne (fun q => h2 q.2), mup_ne (fun q => h1 q.2), fm 123 (by omega), f1 123 (by omega)], by rw [mup_ne (by omega), mup_eq], mup_eq _ _ _ _, bP_c (fun a h1 h2 => by funext b; rw [mup_nk (by omega), mup_nk (by omega), fm a (by omega)]) b1, ⟨by rw [mup_nk (by omega), mup_nk (by omega)]; exact z 0 (by omega), fun k j hk => by simp at hk⟩, ⟨by rw [mup_nk (by omega), mup_nk (by omega)]; exact z 1 (by omega), fun k j hk => by simp at hk⟩, ⟨by rw [mup_nk (by omega), mup_nk (by omega)]; exact z 2 (by omega), fun k j hk => by simp at hk⟩⟩
      ·
        exact absurd c67 (by decide)
    | succ d ih =>
      intro i m hi fm z
      refine v_iload_n (pc := 65) h (dk dt_X12_begins 43 rfl) rfl ?_
      refine v_iconst (pc := 66) h (dk dt_X12_begins 44 rfl) ?_
      refine v_icmp_ge (pc := 67) h 83 (dk dt_X12_begins 45 rfl) rfl (by omega) (fun c67 => ?_) (fun c67 => ?_)
      ·
        exact absurd c67 (by omega)
      ·
        refine v_aload_n (pc := 70) h (dk dt_X12_begins 46 rfl) rfl ?_
        refine v_getr (pc := 71) h ci12 sh123 (Nat.le_of_ble_eq_true rfl) (j := 37) wF_X12_96 rfl (dk dt_X12_begins 47 rfl) ?_
        refine v_iload_n (pc := 74) h (dk dt_X12_begins 48 rfl) rfl ?_
        refine v_iconst (pc := 75) h (dk dt_X12_begins 49 rfl) ?_
        refine v_iast (pc := 76) h sh148 (Nat.le_of_ble_eq_true rfl) (by omega) (dk dt_X12_begins 50 rfl) ?_
        rw [Int.toNat_natCast]
        refine v_iinc (lv' := [(1, _), (0, _)]) (pc := 77) h (dk dt_X12_begins 51 rfl) rfl (Nat.le_of_ble_eq_true rfl) rfl ?_
        refine v_goto (pc := 80) h 65 (dk dt_X12_begins 52 rfl) rfl ?_
        exact VV.loc (ih (i + 1) _ (by omega) (fun a h => by funext b; rw [mup_nk h]; exact congrFun (fm a h) b) (fun j hj => by rw [mup_row]; split; rfl; exact z j (by omega))) ⟨rfl, rfl, trivial⟩
  have loop : ∀ (d i : Nat) (m : Mm), i + d = n → (∀ a, a < 141 ∨ 146 < a → m a = μ a) → (∀ j, j < i → m 141 j = μ 5 j ∧ m 142 j = 0 ∧ m 143 j = 0 ∧ m 144 j = 0 ∧ m 145 j = 0 ∧ m 146 j = 0) → VV a B (SP B D E m) 0 0 2 [(1, iI (i : Int)), (0, .ref (pl B 123))] [] := by
    intro d
    induction d with
    | zero =>
      intro i m hi fm z
      have e9 : m 123 9 = (n : Int) := by rw [fm 123 (by omega)]; exact h9
      refine v_iload_n (pc := 2) h (dk dt_X12_begins 2 rfl) rfl ?_
      refine v_aload_n (pc := 3) h (dk dt_X12_begins 3 rfl) rfl ?_
      refine v_geti (pc := 4) h ci12 sh123 (Nat.le_of_ble_eq_true rfl) (j := 9) wF_X12_108 rfl (dk dt_X12_begins 4 rfl) ?_
      refine v_icmp_ge (pc := 7) h 63 (dk dt_X12_begins 5 rfl) rfl (by omega) (fun c7 => ?_) (fun c7 => ?_)
      ·
        refine v_iconst (pc := 63) h (dk dt_X12_begins 41 rfl) ?_
        refine v_istore_n (lv' := [(1, _), (0, _)]) (pc := 64) h (dk dt_X12_begins 42 rfl) (Nat.le_of_ble_eq_true rfl) rfl ?_
        exact VV.loc (go65 m fm (fun j hj => by have q := z j (by omega); rw [i0, io 1 j (by decide) (by decide), io 2 j (by decide) (by decide), io 3 j (by decide) (by decide), io 4 j (by decide) (by decide), io 5 j (by decide) (by decide)]; exact ⟨q.1, q.2.1, q.2.2.1, q.2.2.2.2.1, q.2.2.2.1, q.2.2.2.2.2⟩) 3 0 m (by omega) (fun _ _ => rfl) (fun j hj => absurd hj (by omega))) ⟨rfl, rfl, trivial⟩
      ·
        exact absurd c7 (by omega)
    | succ d ih =>
      intro i m hi fm z
      have e9 : m 123 9 = (n : Int) := by rw [fm 123 (by omega)]; exact h9
      have e125' : m 125 i = μ 5 i := by rw [fm 125 (by omega), e125]
      refine v_iload_n (pc := 2) h (dk dt_X12_begins 2 rfl) rfl ?_
      refine v_aload_n (pc := 3) h (dk dt_X12_begins 3 rfl) rfl ?_
      refine v_geti (pc := 4) h ci12 sh123 (Nat.le_of_ble_eq_true rfl) (j := 9) wF_X12_108 rfl (dk dt_X12_begins 4 rfl) ?_
      refine v_icmp_ge (pc := 7) h 63 (dk dt_X12_begins 5 rfl) rfl (by omega) (fun c7 => ?_) (fun c7 => ?_)
      ·
        exact absurd c7 (by omega)
      ·
        refine v_aload_n (pc := 10) h (dk dt_X12_begins 6 rfl) rfl ?_
        refine v_getr (pc := 11) h ci12 sh123 (Nat.le_of_ble_eq_true rfl) (j := 27) wF_X12_74 rfl (dk dt_X12_begins 7 rfl) ?_
        refine v_iload_n (pc := 14) h (dk dt_X12_begins 8 rfl) rfl ?_
        refine v_aload_n (pc := 15) h (dk dt_X12_begins 9 rfl) rfl ?_
        refine v_getr (pc := 16) h ci12 sh123 (Nat.le_of_ble_eq_true rfl) (j := 1) wF_X12_13 rfl (dk dt_X12_begins 10 rfl) ?_
        refine v_iload_n (pc := 19) h (dk dt_X12_begins 11 rfl) rfl ?_
        refine v_iald (pc := 20) h sh125 (Nat.le_of_ble_eq_true rfl) (by omega) (dk dt_X12_begins 12 rfl) ?_
        rw [Int.toNat_natCast, e125']
        refine v_iast (pc := 21) h sh141 (Nat.le_of_ble_eq_true rfl) (by omega) (dk dt_X12_begins 13 rfl) ?_
        rw [Int.toNat_natCast]
        refine v_aload_n (pc := 22) h (dk dt_X12_begins 14 rfl) rfl ?_
        refine v_getr (pc := 23) h ci12 sh123 (Nat.le_of_ble_eq_true rfl) (j := 28) wF_X12_77 rfl (dk dt_X12_begins 15 rfl) ?_
        refine v_iload_n (pc := 26) h (dk dt_X12_begins 16 rfl) rfl ?_
        refine v_iconst (pc := 27) h (dk dt_X12_begins 17 rfl) ?_
        refine v_iast (pc := 28) h sh142 (Nat.le_of_ble_eq_true rfl) (by omega) (dk dt_X12_begins 18 rfl) ?_
        rw [Int.toNat_natCast]
        refine v_aload_n (pc := 29) h (dk dt_X12_begins 19 rfl) rfl ?_
        refine v_getr (pc := 30) h ci12 sh123 (Nat.le_of_ble_eq_true rfl) (j := 29) wF_X12_80 rfl (dk dt_X12_begins 20 rfl) ?_
        refine v_iload_n (pc := 33) h (dk dt_X12_begins 21 rfl) rfl ?_
        refine v_iconst (pc := 34) h (dk dt_X12_begins 22 rfl) ?_
        refine v_iast (pc := 35) h sh143 (Nat.le_of_ble_eq_true rfl) (by omega) (dk dt_X12_begins 23 rfl) ?_
        rw [Int.toNat_natCast]
        refine v_aload_n (pc := 36) h (dk dt_X12_begins 24 rfl) rfl ?_
        refine v_getr (pc := 37) h ci12 sh123 (Nat.le_of_ble_eq_true rfl) (j := 30) wF_X12_83 rfl (dk dt_X12_begins 25 rfl) ?_
        refine v_iload_n (pc := 40) h (dk dt_X12_begins 26 rfl) rfl ?_
        refine v_iconst (pc := 41) h (dk dt_X12_begins 27 rfl) ?_
        refine v_iast (pc := 42) h sh144 (Nat.le_of_ble_eq_true rfl) (by omega) (dk dt_X12_begins 28 rfl) ?_
        rw [Int.toNat_natCast]
        refine v_aload_n (pc := 43) h (dk dt_X12_begins 29 rfl) rfl ?_
        refine v_getr (pc := 44) h ci12 sh123 (Nat.le_of_ble_eq_true rfl) (j := 31) wF_X12_86 rfl (dk dt_X12_begins 30 rfl) ?_
        refine v_iload_n (pc := 47) h (dk dt_X12_begins 31 rfl) rfl ?_
        refine v_iconst (pc := 48) h (dk dt_X12_begins 32 rfl) ?_
        refine v_iast (pc := 49) h sh145 (Nat.le_of_ble_eq_true rfl) (by omega) (dk dt_X12_begins 33 rfl) ?_
        rw [Int.toNat_natCast]
        refine v_aload_n (pc := 50) h (dk dt_X12_begins 34 rfl) rfl ?_
        refine v_getr (pc := 51) h ci12 sh123 (Nat.le_of_ble_eq_true rfl) (j := 32) wF_X12_89 rfl (dk dt_X12_begins 35 rfl) ?_
        refine v_iload_n (pc := 54) h (dk dt_X12_begins 36 rfl) rfl ?_
        refine v_iconst (pc := 55) h (dk dt_X12_begins 37 rfl) ?_
        refine v_zast (pc := 56) h sh146 (Nat.le_of_ble_eq_true rfl) (by omega) (by omega) (dk dt_X12_begins 38 rfl) ?_
        rw [Int.toNat_natCast]
        refine v_iinc (lv' := [(1, _), (0, _)]) (pc := 57) h (dk dt_X12_begins 39 rfl) rfl (Nat.le_of_ble_eq_true rfl) rfl ?_
        refine v_goto (pc := 60) h 2 (dk dt_X12_begins 40 rfl) rfl ?_
        exact VV.loc (ih (i + 1) _ (by omega) (fun a h => by funext b; rw [mup_nk (by omega), mup_nk (by omega), mup_nk (by omega), mup_nk (by omega), mup_nk (by omega), mup_nk (by omega)]; exact congrFun (fm a h) b) (fun j hj => by by_cases e : j = i; (subst e; simp [mup]); (have q := z j (by omega); simp [mup, e, q]))) ⟨rfl, rfl, trivial⟩
  refine v_iconst (pc := 0) h (dk dt_X12_begins 0 rfl) ?_
  refine v_istore_n (lv' := [(1, _), (0, _)]) (pc := 1) h (dk dt_X12_begins 1 rfl) (Nat.le_of_ble_eq_true rfl) rfl ?_
  exact VV.loc (loop n 0 μ (by omega) (fun _ _ => rfl) (fun j hj => absurd hj (by omega))) ⟨rfl, rfl, trivial⟩
theorem c_X12_keepsWaiting (hst : l.stackTraces = false) (hE : eqJ μ) (hs : okJ μ) (hn : μ 1 9 = (n : Int)) (hb : bP n μ σ) (hB : vB (jm μ) n σ) {c : Nat} (hc : c < n) :
    Ct l B D E yX12_keepsWaiting (.code yX12_keepsWaiting cX12_keepsWaiting 3 none) rm_X12_keepsWaiting [.ref (pl B 123), iI (c : Int)] μ (rv (mkq μ n (jm μ) σ c n)) NX := by
  have hn12 := hs.1
  have hD := okJD hs hn
  have h9 := eqJ_n hE hn
  have e127 := hE.1.2.2.2.1
  have hl : ∀ j, j < n → jm μ 1 j ≤ 30 := fun j hj => (okD_l hD hj).2
  have e3 : ∀ j, jm μ 3 j = μ 9 j := fun _ => rfl
  refine ct_of (own := RX12) (lv := [(0, _), (1, _)]) hst (by decide) rfl rfl (Nat.le_of_ble_eq_true rfl) fun a h r t => ?_
  have loop : ∀ (d i : Nat), i + d = n → VV a B (SP B D E (mkq μ n (jm μ) σ c i)) 0 0 2 [(2, iI (i : Int)), (0, .ref (pl B 123)), (1, iI (c : Int))] [] := by
    intro d
    induction d with
    | zero =>
      intro i hi
      have e9 : mkq μ n (jm μ) σ c i 123 9 = (n : Int) := by rw [mkq_o (by omega)]; exact h9
      refine v_iload_n (pc := 2) h (dk dt_X12_keepsWaiting 2 rfl) rfl ?_
      refine v_aload_n (pc := 3) h (dk dt_X12_keepsWaiting 3 rfl) rfl ?_
      refine v_geti (pc := 4) h ci12 sh123 (Nat.le_of_ble_eq_true rfl) (j := 9) wF_X12_108 rfl (dk dt_X12_keepsWaiting 4 rfl) ?_
      refine v_icmp_ge (pc := 7) h 62 (dk dt_X12_keepsWaiting 5 rfl) rfl (by omega) (fun c7 => ?_) (fun c7 => ?_)
      ·
        exact v_vret (pc := 62) h r (dk dt_X12_keepsWaiting 36 rfl) (Nat.le_of_ble_eq_true rfl) (Nat.le_of_ble_eq_true rfl) ⟨rfl, by rw [show n = i by omega]⟩
      ·
        exact absurd c7 (by omega)
    | succ d ih =>
      intro i hi
      have hin : i < n := by omega
      have e9 : mkq μ n (jm μ) σ c i 123 9 = (n : Int) := by rw [mkq_o (by omega)]; exact h9
      have oo : ∀ a, a ≠ 144 → mkq μ n (jm μ) σ c i a = μ a := fun a h => mkq_o h
      have e144 : mkq μ n (jm μ) σ c i 144 i = μ 144 i := by unfold mkq; rw [if_neg (by omega)]
      have jm1 : jm (mkq μ n (jm μ) σ c i) = jm μ := jm_c (fun a h => oo a (by omega))
      have hE1 : eqJ (mkq μ n (jm μ) σ c i) := eqJ_c (fun a h => oo a (by omega)) (by rw [oo 123 (by omega)]) hE
      have hs1 : okJ (mkq μ n (jm μ) σ c i) := okJ_c (fun a h => oo a (by omega)) hs
      have hn1 : mkq μ n (jm μ) σ c i 1 9 = (n : Int) := by rw [oo 1 (by omega)]; exact hn
      have hB1 : vB (jm (mkq μ n (jm μ) σ c i)) n σ := by rw [jm1]; exact hB
      have hb1 : bR n (mkq μ n (jm μ) σ c i) σ := fun j hj => by rw [oo 141 (by omega), oo 146 (by omega)]; exact bR_of hb j hj
      have hkp : kpr (jm (mkq μ n (jm μ) σ c i)) n σ i = kpr (jm μ) n σ i := by rw [jm1]
      have hkb := kpr_b (J := jm μ) (n := n) (σ := σ) i
      have hwi : 1 ≤ μ 9 i ∧ μ 9 i ≤ 9 := okD_w hD hin
      have hwc : 1 ≤ μ 9 c ∧ μ 9 c ≤ 9 := okD_w hD hc
      have hio := ih (i + 1) (by omega)
      have fN : ¬ (rdy σ i ∧ kpr (jm μ) n σ i ≠ -1 ∧ jm μ 3 c < jm μ 3 i) → VV a B (SP B D E (mup (mkq μ n (jm μ) σ c i) 144 i (μ 144 i + 0))) 0 0 2 [(2, iI ((i : Int) + 1)), (0, .ref (pl B 123)), (1, iI (c : Int))] [] := fun q => by rw [mkq_n q]; exact hio
      refine v_iload_n (pc := 2) h (dk dt_X12_keepsWaiting 2 rfl) rfl ?_
      refine v_aload_n (pc := 3) h (dk dt_X12_keepsWaiting 3 rfl) rfl ?_
      refine v_geti (pc := 4) h ci12 sh123 (Nat.le_of_ble_eq_true rfl) (j := 9) wF_X12_108 rfl (dk dt_X12_keepsWaiting 4 rfl) ?_
      refine v_icmp_ge (pc := 7) h 62 (dk dt_X12_keepsWaiting 5 rfl) rfl (by omega) (fun c7 => ?_) (fun c7 => ?_)
      ·
        exact absurd c7 (by omega)
      ·
        refine v_aload_n (pc := 10) h (dk dt_X12_keepsWaiting 6 rfl) rfl ?_
        refine v_getr (pc := 11) h ci12 sh123 (Nat.le_of_ble_eq_true rfl) (j := 30) wF_X12_83 rfl (dk dt_X12_keepsWaiting 7 rfl) ?_
        refine v_iload_n (pc := 14) h (dk dt_X12_keepsWaiting 8 rfl) rfl ?_
        refine v_dup2 (pc := 15) h (dk dt_X12_keepsWaiting 9 rfl) rfl rfl ?_
        refine v_iald (pc := 16) h sh144 (Nat.le_of_ble_eq_true rfl) (by omega) (dk dt_X12_keepsWaiting 10 rfl) ?_
        rw [Int.toNat_natCast, e144]
        refine v_aload_n (pc := 17) h (dk dt_X12_keepsWaiting 11 rfl) rfl ?_
        refine v_iload_n (pc := 18) h (dk dt_X12_keepsWaiting 12 rfl) rfl ?_
        refine v_cVi (pc := 19) h (c_X12_isThere (n := n) (σ := σ) (J := jm μ) h.quiet hb1 hB hl hin (by omega)) kv_X12_isThere sh123 wM_X12_159 rfl rfl (Nat.le_of_ble_eq_true rfl) (RM.of rfl) rfl rfl (dk dt_X12_keepsWaiting 13 rfl) ?_
        refine v_if_eq (pc := 22) h 53 (dk dt_X12_keepsWaiting 14 rfl) rfl (by split <;> omega) (fun c22 => ?_) (fun c22 => ?_)
        ·
          have d22 : ¬ rdy σ i := fun q => by rw [if_pos q] at c22; omega
          refine v_iconst (pc := 53) h (dk dt_X12_keepsWaiting 31 rfl) ?_
          refine v_iadd (pc := 54) h (dk dt_X12_keepsWaiting 32 rfl) ?_
          refine v_iast (pc := 55) h sh144 (Nat.le_of_ble_eq_true rfl) (by omega) (dk dt_X12_keepsWaiting 33 rfl) ?_
          rw [Int.toNat_natCast]
          refine v_iinc (lv' := [(2, _), (0, _), (1, _)]) (pc := 56) h (dk dt_X12_keepsWaiting 34 rfl) rfl (Nat.le_of_ble_eq_true rfl) rfl ?_
          refine v_goto (pc := 59) h 2 (dk dt_X12_keepsWaiting 35 rfl) rfl ?_
          first
            | (rw [mkq_y ⟨d22, c31, by rw [e3, e3]; omega⟩]; exact VV.loc hio ⟨rfl, rfl, rfl, trivial⟩)
            | exact VV.loc (fN (fun q => d22 q.1)) ⟨rfl, rfl, rfl, trivial⟩
            | exact VV.loc (fN (fun q => q.2.1 c31)) ⟨rfl, rfl, rfl, trivial⟩
            | exact VV.loc (fN (fun q => by have z := q.2.2; rw [e3, e3] at z; omega)) ⟨rfl, rfl, rfl, trivial⟩
        ·
          have d22 : rdy σ i := by by_cases q : rdy σ i; exact q; rw [if_neg q] at c22; omega
          refine v_aload_n (pc := 25) h (dk dt_X12_keepsWaiting 15 rfl) rfl ?_
          refine v_iload_n (pc := 26) h (dk dt_X12_keepsWaiting 16 rfl) rfl ?_
          refine v_cVi (pc := 27) h (c_X12_keeper (n := n) (σ := σ) h.quiet hE1 hs1 hn1 hb1 hB1 hin) kv_X12_keeper sh123 wM_X12_162 rfl rfl (Nat.le_of_ble_eq_true rfl) (RM.of rfl) rfl rfl (dk dt_X12_keepsWaiting 17 rfl) ?_
          rw [hkp]
          refine v_iconst (pc := 30) h (dk dt_X12_keepsWaiting 18 rfl) ?_
          refine v_icmp_eq (pc := 31) h 53 (dk dt_X12_keepsWaiting 19 rfl) rfl (by omega) (fun c31 => ?_) (fun c31 => ?_)
          ·
            refine v_iconst (pc := 53) h (dk dt_X12_keepsWaiting 31 rfl) ?_
            refine v_iadd (pc := 54) h (dk dt_X12_keepsWaiting 32 rfl) ?_
            refine v_iast (pc := 55) h sh144 (Nat.le_of_ble_eq_true rfl) (by omega) (dk dt_X12_keepsWaiting 33 rfl) ?_
            rw [Int.toNat_natCast]
            refine v_iinc (lv' := [(2, _), (0, _), (1, _)]) (pc := 56) h (dk dt_X12_keepsWaiting 34 rfl) rfl (Nat.le_of_ble_eq_true rfl) rfl ?_
            refine v_goto (pc := 59) h 2 (dk dt_X12_keepsWaiting 35 rfl) rfl ?_
            first
              | (rw [mkq_y ⟨d22, c31, by rw [e3, e3]; omega⟩]; exact VV.loc hio ⟨rfl, rfl, rfl, trivial⟩)
              | exact VV.loc (fN (fun q => d22 q.1)) ⟨rfl, rfl, rfl, trivial⟩
              | exact VV.loc (fN (fun q => q.2.1 c31)) ⟨rfl, rfl, rfl, trivial⟩
              | exact VV.loc (fN (fun q => by have z := q.2.2; rw [e3, e3] at z; omega)) ⟨rfl, rfl, rfl, trivial⟩
          ·
            refine v_aload_n (pc := 34) h (dk dt_X12_keepsWaiting 20 rfl) rfl ?_
            refine v_getr (pc := 35) h ci12 sh123 (Nat.le_of_ble_eq_true rfl) (j := 3) wF_X12_19 rfl (dk dt_X12_keepsWaiting 21 rfl) ?_
            refine v_iload_n (pc := 38) h (dk dt_X12_keepsWaiting 22 rfl) rfl ?_
            refine v_iald (pc := 39) h sh127 (Nat.le_of_ble_eq_true rfl) (by omega) (dk dt_X12_keepsWaiting 23 rfl) ?_
            rw [Int.toNat_natCast, oo 127 (by omega), e127]
            refine v_aload_n (pc := 40) h (dk dt_X12_keepsWaiting 24 rfl) rfl ?_
            refine v_getr (pc := 41) h ci12 sh123 (Nat.le_of_ble_eq_true rfl) (j := 3) wF_X12_19 rfl (dk dt_X12_keepsWaiting 25 rfl) ?_
            refine v_iload_n (pc := 44) h (dk dt_X12_keepsWaiting 26 rfl) rfl ?_
            refine v_iald (pc := 45) h sh127 (Nat.le_of_ble_eq_true rfl) (by omega) (dk dt_X12_keepsWaiting 27 rfl) ?_
            rw [Int.toNat_natCast, oo 127 (by omega), e127]
            refine v_icmp_ge (pc := 46) h 53 (dk dt_X12_keepsWaiting 28 rfl) rfl (by omega) (fun c46 => ?_) (fun c46 => ?_)
            ·
              refine v_iconst (pc := 53) h (dk dt_X12_keepsWaiting 31 rfl) ?_
              refine v_iadd (pc := 54) h (dk dt_X12_keepsWaiting 32 rfl) ?_
              refine v_iast (pc := 55) h sh144 (Nat.le_of_ble_eq_true rfl) (by omega) (dk dt_X12_keepsWaiting 33 rfl) ?_
              rw [Int.toNat_natCast]
              refine v_iinc (lv' := [(2, _), (0, _), (1, _)]) (pc := 56) h (dk dt_X12_keepsWaiting 34 rfl) rfl (Nat.le_of_ble_eq_true rfl) rfl ?_
              refine v_goto (pc := 59) h 2 (dk dt_X12_keepsWaiting 35 rfl) rfl ?_
              first
                | (rw [mkq_y ⟨d22, c31, by rw [e3, e3]; omega⟩]; exact VV.loc hio ⟨rfl, rfl, rfl, trivial⟩)
                | exact VV.loc (fN (fun q => d22 q.1)) ⟨rfl, rfl, rfl, trivial⟩
                | exact VV.loc (fN (fun q => q.2.1 c31)) ⟨rfl, rfl, rfl, trivial⟩
                | exact VV.loc (fN (fun q => by have z := q.2.2; rw [e3, e3] at z; omega)) ⟨rfl, rfl, rfl, trivial⟩
            ·
              refine v_iconst (pc := 49) h (dk dt_X12_keepsWaiting 29 rfl) ?_
              refine v_goto (pc := 50) h 54 (dk dt_X12_keepsWaiting 30 rfl) rfl ?_
              refine v_iadd (pc := 54) h (dk dt_X12_keepsWaiting 32 rfl) ?_
              refine v_iast (pc := 55) h sh144 (Nat.le_of_ble_eq_true rfl) (by omega) (dk dt_X12_keepsWaiting 33 rfl) ?_
              rw [Int.toNat_natCast]
              refine v_iinc (lv' := [(2, _), (0, _), (1, _)]) (pc := 56) h (dk dt_X12_keepsWaiting 34 rfl) rfl (Nat.le_of_ble_eq_true rfl) rfl ?_
              refine v_goto (pc := 59) h 2 (dk dt_X12_keepsWaiting 35 rfl) rfl ?_
              first
                | (rw [mkq_y ⟨d22, c31, by rw [e3, e3]; omega⟩]; exact VV.loc hio ⟨rfl, rfl, rfl, trivial⟩)
                | exact VV.loc (fN (fun q => d22 q.1)) ⟨rfl, rfl, rfl, trivial⟩
                | exact VV.loc (fN (fun q => q.2.1 c31)) ⟨rfl, rfl, rfl, trivial⟩
                | exact VV.loc (fN (fun q => by have z := q.2.2; rw [e3, e3] at z; omega)) ⟨rfl, rfl, rfl, trivial⟩
  refine v_iconst (pc := 0) h (dk dt_X12_keepsWaiting 0 rfl) ?_
  refine v_istore_n (lv' := [(2, _), (0, _), (1, _)]) (pc := 1) h (dk dt_X12_keepsWaiting 1 rfl) (Nat.le_of_ble_eq_true rfl) rfl ?_
  exact VV.of (loop n 0 (by omega)) (fun _ q => by rw [show mkq μ n (jm μ) σ c 0 = μ by funext a b; unfold mkq; rw [if_neg (by omega)]]; exact q) ⟨rfl, rfl, rfl, trivial⟩
end
