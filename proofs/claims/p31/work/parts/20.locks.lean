/-! ===== Locks; lines as rows of jobs ===== -/
theorem okJ_c {μ μ' : Mm} (h : ∀ a, a < 20 → μ' a = μ a) (hs : okJ μ) : okJ μ' := by
  unfold okJ
  rw [h 3 (by decide), h 5 (by decide), h 7 (by decide), h 9 (by decide), h 11 (by decide), h 13 (by decide), h 15 (by decide), h 17 (by decide), h 19 (by decide), h 2 (by decide), h 1 (by decide)]
  exact hs
theorem jm_c {μ μ' : Mm} (h : ∀ a, a < 20 → μ' a = μ a) : jm μ' = jm μ := by
  funext k
  unfold jm
  split <;> first | exact h _ (by decide) | rfl
theorem aP_c {g n : Nat} {μ μ' σ : Mm} (h : ∀ a, g ≤ a → a < g + 7 → μ' a = μ a) (ha : aP g n μ σ) : aP g n μ' σ := by
  unfold aP
  rw [h g (by omega) (by omega), h (g + 2) (by omega) (by omega), h (g + 4) (by omega) (by omega), h (g + 6) (by omega) (by omega)]
  exact ha
def hlF (J σ : Mm) (y : Int) : Nat → Int
  | 0 => -1
  | i + 1 => if hdF J σ i = y then (i : Int) else hlF J σ y i
theorem hlF_is (J σ : Mm) (y : Int) : ∀ n : Nat, (hlF J σ y n = -1 ∧ ∀ x, x < n → hdF J σ x ≠ y) ∨ ∃ x, x < n ∧ hdF J σ x = y ∧ hlF J σ y n = (x : Int) := by
  intro n
  induction n with
  | zero => exact Or.inl ⟨rfl, fun x hx => absurd hx (by omega)⟩
  | succ n ih =>
    simp only [hlF]
    split
    · rename_i c; exact Or.inr ⟨n, by omega, c, rfl⟩
    · rename_i c
      rcases ih with ⟨h1, h2⟩ | ⟨x, h1, h2, h3⟩
      · refine Or.inl ⟨h1, fun x hx => ?_⟩
        by_cases e : x = n
        · rw [e]; exact c
        · exact h2 x (by omega)
      · exact Or.inr ⟨x, by omega, h2, h3⟩
/-- the one who has the lock that i needs next -/
def hldF (J σ : Mm) (n i : Nat) : Int := if ndF J σ i = -1 then -1 else hlF J σ (ndF J σ i) n
theorem kpr_hl {J σ : Mm} {n i : Nat} (hi : i < n) (hu : ∀ i j, i < n → j < n → i ≠ j → hdF J σ i = hdF J σ j → hdF J σ i = -1) : kpr J n σ i = if hldF J σ n i = (i : Int) then -1 else hldF J σ n i := by
  unfold hldF
  rcases kpr_is (J := J) (n := n) (σ := σ) i with ⟨h1, h2⟩ | ⟨x, h1, h2, h3, h4, h5⟩
  · rw [h1]
    by_cases c : ndF J σ i = -1
    · rw [if_pos c, if_neg (by omega)]
    · rw [if_neg c]
      rcases h2 with h2 | h2
      · exact absurd h2 c
      · rcases hlF_is J σ (ndF J σ i) n with ⟨q1, q2⟩ | ⟨x, q1, q2, q3⟩
        · rw [q1, if_neg (by omega)]
        · rw [q3]
          by_cases e : x = i
          · rw [if_pos (by omega)]
          · exact absurd q2 (h2 x q1 e)
  · rw [h5, if_neg h3]
    rcases hlF_is J σ (ndF J σ i) n with ⟨q1, q2⟩ | ⟨y, q1, q2, q3⟩
    · exact absurd h4 (q2 x h1)
    · by_cases e : x = y
      · rw [q3, ← e, if_neg (by omega)]
      · exact absurd (by rw [← h4]; exact hu x y h1 q1 e (by rw [h4, q2])) h3
def mlk1 (μ : Mm) (g : Nat) (σ : Mm) (i : Nat) : Mm := fun a b => if a = g + 2 ∧ b < 3 then hlF (jm μ) σ (b : Int) i else if a = g + 6 ∧ b < i then μ 9 b else μ a b
def mlk2 (μ : Mm) (g : Nat) (σ : Mm) (n : Nat) (le : Int) (i : Nat) : Mm := fun a b => if a = g + 4 ∧ b < i then kpr (jm μ) n σ b else if a = g + 6 ∧ b < n then rkF (jm μ) n σ le b i else mlk1 μ g σ n a b
theorem mlk1_0 {μ σ : Mm} {g : Nat} : mfill μ (g + 2) 3 (-1) = mlk1 μ g σ 0 := by
  funext a b
  simp only [mfill, mlk1, hlF]
  grind
theorem mlk1_n {μ σ : Mm} {g i : Nat} (h : hdF (jm μ) σ i = -1) : mup (mlk1 μ g σ i) (g + 6) i (μ 9 i) = mlk1 μ g σ (i + 1) := by
  funext a b
  simp only [mup, mlk1, hlF, h]
  grind
theorem mlk1_y {μ σ : Mm} {g i : Nat} (h : 0 ≤ hdF (jm μ) σ i ∧ hdF (jm μ) σ i ≤ 2) : mup (mup (mlk1 μ g σ i) (g + 2) (hdF (jm μ) σ i).toNat (i : Int)) (g + 6) i (μ 9 i) = mlk1 μ g σ (i + 1) := by
  funext a b
  simp only [mup, mlk1, hlF]
  generalize hx : hdF (jm μ) σ i = x at *
  obtain ⟨y, rfl⟩ : ∃ y : Nat, x = (y : Int) := ⟨x.toNat, by omega⟩
  simp only [Int.toNat_natCast]
  grind
theorem mlk2_0 {μ σ : Mm} {g n : Nat} {le : Int} : mlk1 μ g σ n = mlk2 μ g σ n le 0 := by
  funext a b
  have e : jm μ 3 b = μ 9 b := rfl
  simp only [mlk1, mlk2, rkF, e]
  grind
theorem mlk2_n {μ σ : Mm} {g n i : Nat} {le : Int} (hi : i < n) (h : ¬ (le ≠ 0 ∧ rdy σ i ∧ kpr (jm μ) n σ i ≠ -1)) : mup (mlk2 μ g σ n le i) (g + 4) i (kpr (jm μ) n σ i) = mlk2 μ g σ n le (i + 1) := by
  funext a b
  have e : rkF (jm μ) n σ le b (i + 1) = rkF (jm μ) n σ le b i := by rw [rkF, if_neg (fun z => h ⟨z.1, z.2.1, by have := z.2.2.1; omega⟩)]
  simp only [mup, mlk2, e]
  grind
theorem mlk2_y {μ σ : Mm} {g n i : Nat} {le : Int} (hi : i < n) (hk : kpr (jm μ) n σ i < n) (h : le ≠ 0 ∧ rdy σ i ∧ kpr (jm μ) n σ i ≠ -1) (h0 : 0 ≤ kpr (jm μ) n σ i) {v : Int} (hv : v = if rkF (jm μ) n σ le (kpr (jm μ) n σ i).toNat i < μ 9 i then μ 9 i else rkF (jm μ) n σ le (kpr (jm μ) n σ i).toNat i) :
    mup (mup (mlk2 μ g σ n le i) (g + 4) i (kpr (jm μ) n σ i)) (g + 6) (kpr (jm μ) n σ i).toNat v = mlk2 μ g σ n le (i + 1) := by
  funext a b
  have e3 : jm μ 3 i = μ 9 i := rfl
  have e : rkF (jm μ) n σ le b (i + 1) = if kpr (jm μ) n σ i = (b : Int) ∧ rkF (jm μ) n σ le b i < μ 9 i then μ 9 i else rkF (jm μ) n σ le b i := by
    rw [rkF, e3]
    by_cases c : kpr (jm μ) n σ i = (b : Int) ∧ rkF (jm μ) n σ le b i < μ 9 i
    · rw [if_pos ⟨h.1, h.2.1, c⟩, if_pos c]
    · rw [if_neg (fun z => c z.2.2), if_neg c]
  simp only [mup, mlk2, e, hv]
  generalize hx : kpr (jm μ) n σ i = x at *
  obtain ⟨y, rfl⟩ : ∃ y : Nat, x = (y : Int) := ⟨x.toNat, by omega⟩
  simp only [Int.toNat_natCast] at *
  grind
theorem rkF_b {J σ : Mm} {n : Nat} {le : Int} {j : Nat} (hw : ∀ j, j < n → 1 ≤ J 3 j ∧ J 3 j ≤ 9) (hj : j < n) : ∀ k, k ≤ n → 1 ≤ rkF J n σ le j k ∧ rkF J n σ le j k ≤ 9 := by
  intro k
  induction k with
  | zero => intro _; exact hw j hj
  | succ k ih =>
    intro hk
    have := ih (by omega)
    have := hw k (by omega)
    simp only [rkF]
    split <;> omega
theorem hd_b {J σ : Mm} {n : Nat} (hD : okD J n) {j : Nat} (hj : j < n) : -1 ≤ hdF J σ j ∧ hdF J σ j ≤ 2 := by
  rcases hdF_is (σ := σ) hD hj with ⟨q, -⟩ | ⟨y, q1, -, q3⟩
  · omega
  · have := okD_s hD hj q1; omega
theorem nd_b {J σ : Mm} {n : Nat} (hD : okD J n) {j : Nat} (hj : j < n) : -1 ≤ ndF J σ j ∧ ndF J σ j ≤ 2 := by
  rcases ndF_is (σ := σ) hD hj with ⟨q, -⟩ | ⟨y, q1, -, q3⟩
  · omega
  · have := okD_s hD hj q1; omega
theorem kpr_b {J σ : Mm} {n : Nat} (j : Nat) : -1 ≤ kpr J n σ j ∧ kpr J n σ j < n := by
  rcases kpr_is (J := J) (n := n) (σ := σ) j with ⟨q, -⟩ | ⟨y, q1, -, -, -, q3⟩ <;> omega
section
variable {l : Launch} {B : Nat} {D : va_G} {E : Nat → ClassId} {μ μ' σ : Mm} {g p n : Nat}
theorem c_hd (hst : l.stackTraces = false) (hs : okJ μ) (hn : μ 1 9 = (n : Int)) (hc : ∀ a, a < 20 → μ' a = μ a) {j : Nat} (hj : j < n) (h0 : 0 ≤ σ 0 j ∧ σ 0 j ≤ μ 5 j) :
    Ct l B D E yX1_lockAt (.code yX1_lockAt cX1_lockAt 7 (some .int)) rm_X1_lockAt [.ref (pl B 1), iI (j : Int), iI (μ 5 j - σ 0 j), iI 1] μ' (ri (hdF (jm μ) σ j) μ') NX := by
  have hl := (hs.2 j (by omega)).2.1
  have h := c_X1_lockAt (l := l) (B := B) (D := D) (E := E) (μ := μ') hst (okJ_c hc hs) (j := j) (by rw [hc 1 (by decide)]; omega) (dn := μ 5 j - σ 0 j) (b := 1) (by omega) (Or.inr rfl)
  rw [hc 15 (by decide), hc 17 (by decide), hc 19 (by decide), hc 13 (by decide)] at h
  exact h
theorem c_nd (hst : l.stackTraces = false) (hs : okJ μ) (hn : μ 1 9 = (n : Int)) (hc : ∀ a, a < 20 → μ' a = μ a) {j : Nat} (hj : j < n) (h0 : 0 ≤ σ 0 j ∧ σ 0 j ≤ μ 5 j) :
    Ct l B D E yX1_lockAt (.code yX1_lockAt cX1_lockAt 7 (some .int)) rm_X1_lockAt [.ref (pl B 1), iI (j : Int), iI (μ 5 j - σ 0 j), iI 0] μ' (ri (ndF (jm μ) σ j) μ') NX := by
  have hl := (hs.2 j (by omega)).2.1
  have h := c_X1_lockAt (l := l) (B := B) (D := D) (E := E) (μ := μ') hst (okJ_c hc hs) (j := j) (by rw [hc 1 (by decide)]; omega) (dn := μ 5 j - σ 0 j) (b := 0) (by omega) (Or.inl rfl)
  rw [hc 15 (by decide), hc 17 (by decide), hc 19 (by decide), hc 13 (by decide), Int.sub_zero] at h
  exact h
theorem c_dn (hst : l.stackTraces = false) (hr : isP p) (hc : ∀ a, a < 20 → μ' a = μ a) (ha : aP p n μ' σ) (hn : n ≤ 12) {j : Nat} (hj : j < n) :
    Ct l B D E yX6_done (.code yX6_done cX6_done 2 (some .int)) rm_X6_done [.ref (pl B p), iI (j : Int)] μ' (ri (μ 5 j - σ 0 j) μ') NX := by
  have h := c_X6_done (l := l) (B := B) (D := D) (E := E) (μ := μ') hst hr (j := j) (by omega)
  rw [hc 5 (by decide), (ha.1 j hj).1] at h
  exact h
theorem c_X4_isBlocked (hst : l.stackTraces = false) (hr : isK g p) {j : Nat} (hj : j < 12) (hb : InR (μ (g + 4) j)) :
    Ct l B D E yX4_isBlocked (.code yX4_isBlocked cX4_isBlocked 2 (some .boolean)) rm_X4_isBlocked [.ref (pl B g), iI (j : Int)] μ (ri (if μ (g + 4) j = -1 then 0 else 1) μ) NX := by
  refine ct_of (own := RX4) (lv := [(0, _), (1, _)]) hst (by decide) rfl rfl (Nat.le_of_ble_eq_true rfl) fun a h r t => ?_
  refine v_aload_n (pc := 0) h (dk dt_X4_isBlocked 0 rfl) rfl ?_
  refine v_getr (pc := 1) h ci4 (K_hd hr) (Nat.le_of_ble_eq_true rfl) (j := 3) wF_X4_20 rfl (dk dt_X4_isBlocked 1 rfl) ?_
  refine v_iload_n (pc := 4) h (dk dt_X4_isBlocked 2 rfl) rfl ?_
  refine v_cVi (pc := 5) h (c_X7_atn h.quiet (K_block hr) (o1 := g + 4) rfl (Nat.le_of_ble_eq_true rfl) (by omega)) kv_X7_at (K_block hr).1 wM_X4_60 rfl rfl (Nat.le_of_ble_eq_true rfl) (RM.of rfl) rfl rfl (dk dt_X4_isBlocked 3 rfl) ?_
  refine v_iconst (pc := 8) h (dk dt_X4_isBlocked 4 rfl) ?_
  refine v_icmp_eq (pc := 9) h 16 (dk dt_X4_isBlocked 5 rfl) rfl (by omega) (fun c9 => ?_) (fun c9 => ?_)
  ·
    refine v_iconst (pc := 16) h (dk dt_X4_isBlocked 8 rfl) ?_
    exact v_zret (pc := 17) h r (dk dt_X4_isBlocked 9 rfl) (Nat.le_of_ble_eq_true rfl) (Nat.le_of_ble_eq_true rfl) (by omega) ⟨by first | rw [if_pos c9] | rw [if_neg c9], rfl⟩
  ·
    refine v_iconst (pc := 12) h (dk dt_X4_isBlocked 6 rfl) ?_
    refine v_goto (pc := 13) h 17 (dk dt_X4_isBlocked 7 rfl) rfl ?_
    exact v_zret (pc := 17) h r (dk dt_X4_isBlocked 9 rfl) (Nat.le_of_ble_eq_true rfl) (Nat.le_of_ble_eq_true rfl) (by omega) ⟨by first | rw [if_pos c9] | rw [if_neg c9], rfl⟩
theorem c_X4_look (hst : l.stackTraces = false) (hr : isK g p) (hp : 20 ≤ p ∧ p + 7 ≤ g) (hs : okJ μ) (hn : μ 1 9 = (n : Int)) (ha : aP p n μ σ) (hB : vB (jm μ) n σ) (hu : ∀ i j, i < n → j < n → i ≠ j → hdF (jm μ) σ i = hdF (jm μ) σ j → hdF (jm μ) σ i = -1) {le : Int} (hle : le = 0 ∨ le = 1) :
    Ct l B D E yX4_look (.code yX4_look cX4_look 5 none) rm_X4_look [.ref (pl B g), iI le] μ (rv (mlk2 μ g σ n le n)) NX := by
  have hb := hs.1
  have hD := okJD hs hn
  have hw : ∀ j, j < n → 1 ≤ μ 9 j ∧ μ 9 j ≤ 9 := fun j hj => okD_w hD hj
  have c1 : ∀ i a, a < g → mlk1 μ g σ i a = μ a := by intro i a h; funext b; simp only [mlk1]; rw [if_neg (by omega), if_neg (by omega)]
  have c2 : ∀ i a, a < g → mlk2 μ g σ n le i a = μ a := by intro i a h; funext b; simp only [mlk2]; rw [if_neg (by omega), if_neg (by omega), c1 n a h]
  have hl0 : ∀ j, j < n → 0 ≤ σ 0 j ∧ σ 0 j ≤ μ 5 j := fun j hj => (hB.2 j hj).2.1
  have a1 : ∀ i, aP p n (mlk1 μ g σ i) σ := fun i => aP_c (fun a h1 h2 => c1 i a (by omega)) ha
  have a2 : ∀ i, aP p n (mlk2 μ g σ n le i) σ := fun i => aP_c (fun a h1 h2 => c2 i a (by omega)) ha
  have hhl : ∀ y : Int, -1 ≤ hlF (jm μ) σ y n ∧ hlF (jm μ) σ y n < n := by intro y; rcases hlF_is (jm μ) σ y n with ⟨q, -⟩ | ⟨x, q, -, q2⟩ <;> omega
  refine ct_of (own := RX4) (lv := [(0, _), (1, _)]) hst (by decide) rfl rfl (Nat.le_of_ble_eq_true rfl) fun a h r t => ?_
  have loop2 : ∀ (d i : Nat), i + d = n → VV a B (SP B D E (mlk2 μ g σ n le i)) 0 0 80 [(2, iI (i : Int)), (0, .ref (pl B g)), (1, iI le)] [] := by
    intro d
    induction d with
    | zero =>
      intro i hi
      have e1 := congrFun (c2 i 1 (by omega)) 9
      refine v_iload_n (pc := 80) h (dk dt_X4_look 42 rfl) rfl ?_
      refine v_aload_n (pc := 81) h (dk dt_X4_look 43 rfl) rfl ?_
      refine v_getr (pc := 82) h ci4 (K_hd hr) (Nat.le_of_ble_eq_true rfl) (j := 0) wF_X4_26 rfl (dk dt_X4_look 44 rfl) ?_
      refine v_geti (pc := 85) h ci1 sh1 (Nat.le_of_ble_eq_true rfl) (j := 9) wF_X4_37 rfl (dk dt_X4_look 45 rfl) ?_
      refine v_icmp_ge (pc := 88) h 209 (dk dt_X4_look 46 rfl) rfl (by omega) (fun c88 => ?_) (fun c88 => ?_)
      ·
        exact v_vret (pc := 209) h r (dk dt_X4_look 104 rfl) (Nat.le_of_ble_eq_true rfl) (Nat.le_of_ble_eq_true rfl) ⟨rfl, by rw [show n = i by omega]⟩
      ·
        exact absurd c88 (by omega)
    | succ d ih =>
      intro i hi
      have hin : i < n := by omega
      have e1 := congrFun (c2 i 1 (by omega)) 9
      have hnd := nd_b (σ := σ) hD hin
      have hkp := kpr_b (J := jm μ) (n := n) (σ := σ) i
      have hkh := kpr_hl (J := jm μ) (σ := σ) hin hu
      have hhd : -1 ≤ hldF (jm μ) σ n i ∧ hldF (jm μ) σ n i < n := by unfold hldF; have := hhl (ndF (jm μ) σ i); split <;> omega
      have a3 : aP p n (mup (mlk2 μ g σ n le i) (g + 4) i (kpr (jm μ) n σ i)) σ := aP_c (fun a h1 h2 => by funext b; exact mup_nk (by omega)) (a2 i)
      have hwi := hw i hin
      have hend : ¬ (le ≠ 0 ∧ rdy σ i ∧ kpr (jm μ) n σ i ≠ -1) → VV a B (SP B D E (mup (mlk2 μ g σ n le i) (g + 4) i (kpr (jm μ) n σ i))) 0 0 80 [(2, iI ((i : Int) + 1)), (0, .ref (pl B g)), (1, iI le)] [] := by
        intro q
        rw [mlk2_n hin q]
        exact ih (i + 1) (by omega)
      have hb3 : (mup (mlk2 μ g σ n le i) (g + 4) i (kpr (jm μ) n σ i)) (g + 4) i = kpr (jm μ) n σ i := mup_eq _ _ _ _
      have hb9 : (mup (mlk2 μ g σ n le i) (g + 4) i (kpr (jm μ) n σ i)) 9 i = μ 9 i := by rw [mup_nk (by omega), c2 i 9 (by omega)]
      have hb7 : 0 ≤ kpr (jm μ) n σ i → (mup (mlk2 μ g σ n le i) (g + 4) i (kpr (jm μ) n σ i)) (g + 6) (kpr (jm μ) n σ i).toNat = rkF (jm μ) n σ le (kpr (jm μ) n σ i).toNat i := by
        intro q
        rw [mup_nk (by omega)]
        unfold mlk2
        rw [if_neg (by omega), if_pos (by omega)]
      have hrk := fun q : 0 ≤ kpr (jm μ) n σ i => rkF_b (σ := σ) (le := le) (j := (kpr (jm μ) n σ i).toNat) (fun j hj => okD_w hD hj) (by omega) i (by omega)
      have go148 : ∀ x : Int, (kpr (jm μ) n σ i ≠ -1 → x = kpr (jm μ) n σ i) → VV a B (SP B D E (mup (mlk2 μ g σ n le i) (g + 4) i (kpr (jm μ) n σ i))) 0 0 148 [(4, iI x), (2, iI (i : Int)), (0, .ref (pl B g)), (1, iI le)] [] := by
        intro x hx
        refine v_iload_n (pc := 148) h (dk dt_X4_look 77 rfl) rfl ?_
        refine v_if_eq (pc := 149) h 203 (dk dt_X4_look 78 rfl) rfl (by omega) (fun c149 => ?_) (fun c149 => ?_)
        ·
          refine v_iinc (lv' := [(2, _), (4, _), (0, _), (1, _)]) (pc := 203) h (dk dt_X4_look 102 rfl) rfl (Nat.le_of_ble_eq_true rfl) rfl ?_
          refine v_goto (pc := 206) h 80 (dk dt_X4_look 103 rfl) rfl ?_
          first
            | exact VV.loc (hend (fun q => c149 (by omega))) ⟨rfl, rfl, rfl, trivial⟩
            | exact VV.loc (hend (fun q => q.1 c149)) ⟨rfl, rfl, rfl, trivial⟩
            | exact VV.loc (hend (fun q => d160 q.2.1)) ⟨rfl, rfl, rfl, trivial⟩
            | exact VV.loc (hend (fun q => q.2.2 d168)) ⟨rfl, rfl, rfl, trivial⟩
            | (rw [mlk2_y hin hkp.2 ⟨c149, d160, d168⟩ h0k rfl]; exact VV.loc (ih (i + 1) (by omega)) ⟨rfl, rfl, rfl, trivial⟩)
        ·
          refine v_aload_n (pc := 152) h (dk dt_X4_look 79 rfl) rfl ?_
          refine v_getr (pc := 153) h ci4 (K_hd hr) (Nat.le_of_ble_eq_true rfl) (j := 1) wF_X4_30 rfl (dk dt_X4_look 80 rfl) ?_
          refine v_iload_n (pc := 156) h (dk dt_X4_look 81 rfl) rfl ?_
          refine v_cVi (pc := 157) h (c_X6_isReady h.quiet (K_prog hr) (by omega) a3 (by omega)) kv_X6_isReady (P_hd (K_prog hr)) wM_X4_63 rfl rfl (Nat.le_of_ble_eq_true rfl) (RM.of rfl) rfl rfl (dk dt_X4_look 82 rfl) ?_
          refine v_if_eq (pc := 160) h 203 (dk dt_X4_look 83 rfl) rfl (by split <;> omega) (fun c160 => ?_) (fun c160 => ?_)
          ·
            have d160 : ¬ rdy σ i := fun q => by rw [if_pos q] at c160; omega
            refine v_iinc (lv' := [(2, _), (4, _), (0, _), (1, _)]) (pc := 203) h (dk dt_X4_look 102 rfl) rfl (Nat.le_of_ble_eq_true rfl) rfl ?_
            refine v_goto (pc := 206) h 80 (dk dt_X4_look 103 rfl) rfl ?_
            first
              | exact VV.loc (hend (fun q => c149 (by omega))) ⟨rfl, rfl, rfl, trivial⟩
              | exact VV.loc (hend (fun q => q.1 c149)) ⟨rfl, rfl, rfl, trivial⟩
              | exact VV.loc (hend (fun q => d160 q.2.1)) ⟨rfl, rfl, rfl, trivial⟩
              | exact VV.loc (hend (fun q => q.2.2 d168)) ⟨rfl, rfl, rfl, trivial⟩
              | (rw [mlk2_y hin hkp.2 ⟨c149, d160, d168⟩ h0k rfl]; exact VV.loc (ih (i + 1) (by omega)) ⟨rfl, rfl, rfl, trivial⟩)
          ·
            have d160 : rdy σ i := by by_cases q : rdy σ i; exact q; rw [if_neg q] at c160; omega
            refine v_aload_n (pc := 163) h (dk dt_X4_look 84 rfl) rfl ?_
            refine v_iload_n (pc := 164) h (dk dt_X4_look 85 rfl) rfl ?_
            refine v_cVi (pc := 165) h (c_X4_isBlocked h.quiet hr (by omega) (by rw [hb3]; omega)) kv_X4_isBlocked (K_hd hr) wM_X4_67 rfl rfl (Nat.le_of_ble_eq_true rfl) (RM.of rfl) rfl rfl (dk dt_X4_look 86 rfl) ?_
            rw [hb3]
            refine v_if_eq (pc := 168) h 203 (dk dt_X4_look 87 rfl) rfl (by split <;> omega) (fun c168 => ?_) (fun c168 => ?_)
            ·
              have d168 : kpr (jm μ) n σ i = -1 := by by_cases q : kpr (jm μ) n σ i = -1; exact q; rw [if_neg q] at c168; omega
              refine v_iinc (lv' := [(2, _), (4, _), (0, _), (1, _)]) (pc := 203) h (dk dt_X4_look 102 rfl) rfl (Nat.le_of_ble_eq_true rfl) rfl ?_
              refine v_goto (pc := 206) h 80 (dk dt_X4_look 103 rfl) rfl ?_
              first
                | exact VV.loc (hend (fun q => c149 (by omega))) ⟨rfl, rfl, rfl, trivial⟩
                | exact VV.loc (hend (fun q => q.1 c149)) ⟨rfl, rfl, rfl, trivial⟩
                | exact VV.loc (hend (fun q => d160 q.2.1)) ⟨rfl, rfl, rfl, trivial⟩
                | exact VV.loc (hend (fun q => q.2.2 d168)) ⟨rfl, rfl, rfl, trivial⟩
                | (rw [mlk2_y hin hkp.2 ⟨c149, d160, d168⟩ h0k rfl]; exact VV.loc (ih (i + 1) (by omega)) ⟨rfl, rfl, rfl, trivial⟩)
            ·
              have d168 : kpr (jm μ) n σ i ≠ -1 := fun q => by rw [if_pos q] at c168; omega
              have h0k : 0 ≤ kpr (jm μ) n σ i := by omega
              have hb7 := hb7 h0k
              have hrk := hrk h0k
              rw [hx d168]
              refine v_aload_n (pc := 171) h (dk dt_X4_look 88 rfl) rfl ?_
              refine v_getr (pc := 172) h ci4 (K_hd hr) (Nat.le_of_ble_eq_true rfl) (j := 4) wF_X4_23 rfl (dk dt_X4_look 89 rfl) ?_
              refine v_iload (pc := 175) h (dk dt_X4_look 90 rfl) rfl ?_
              refine v_aload_n (pc := 177) h (dk dt_X4_look 91 rfl) rfl ?_
              refine v_getr (pc := 178) h ci4 (K_hd hr) (Nat.le_of_ble_eq_true rfl) (j := 4) wF_X4_23 rfl (dk dt_X4_look 92 rfl) ?_
              refine v_iload (pc := 181) h (dk dt_X4_look 93 rfl) rfl ?_
              refine v_cVi (pc := 183) h (c_X7_ati h.quiet (K_ranks hr) (o1 := g + 6) rfl (Nat.le_of_ble_eq_true rfl) (by omega)) kv_X7_at (K_ranks hr).1 wM_X4_60 rfl rfl (Nat.le_of_ble_eq_true rfl) (RM.of rfl) rfl rfl (dk dt_X4_look 94 rfl) ?_
              rw [hb7]
              refine v_aload_n (pc := 186) h (dk dt_X4_look 95 rfl) rfl ?_
              refine v_getr (pc := 187) h ci4 (K_hd hr) (Nat.le_of_ble_eq_true rfl) (j := 0) wF_X4_26 rfl (dk dt_X4_look 96 rfl) ?_
              refine v_getr (pc := 190) h ci1 sh1 (Nat.le_of_ble_eq_true rfl) (j := 3) wF_X4_57 rfl (dk dt_X4_look 97 rfl) ?_
              refine v_iload_n (pc := 193) h (dk dt_X4_look 98 rfl) rfl ?_
              refine v_cVi (pc := 194) h (c_X7_atn h.quiet jr3 (o1 := 9) rfl (Nat.le_of_ble_eq_true rfl) (by omega)) kv_X7_at jr3.1 wM_X4_60 rfl rfl (Nat.le_of_ble_eq_true rfl) (RM.of rfl) rfl rfl (dk dt_X4_look 99 rfl) ?_
              rw [hb9]
              refine v_max (pc := 197) h km_max wM_X4_70 (by omega) (Nat.le_of_ble_eq_true rfl) ⟨Nat.le_of_ble_eq_true rfl, Nat.le_of_ble_eq_true rfl, Nat.le_of_ble_eq_true rfl, Nat.le_of_ble_eq_true rfl⟩ (dk dt_X4_look 100 rfl) ?_
              refine v_cVv (pc := 200) h (c_X7_puti h.quiet (K_ranks hr) (o1 := g + 6) rfl (Nat.le_of_ble_eq_true rfl) (by omega)) kv_X7_put (K_ranks hr).1 wM_X4_53 rfl rfl (Nat.le_of_ble_eq_true rfl) (RM.of rfl) rfl rfl (dk dt_X4_look 101 rfl) ?_
              refine v_iinc (lv' := [(2, _), (4, _), (0, _), (1, _)]) (pc := 203) h (dk dt_X4_look 102 rfl) rfl (Nat.le_of_ble_eq_true rfl) rfl ?_
              refine v_goto (pc := 206) h 80 (dk dt_X4_look 103 rfl) rfl ?_
              first
                | exact VV.loc (hend (fun q => c149 (by omega))) ⟨rfl, rfl, rfl, trivial⟩
                | exact VV.loc (hend (fun q => q.1 c149)) ⟨rfl, rfl, rfl, trivial⟩
                | exact VV.loc (hend (fun q => d160 q.2.1)) ⟨rfl, rfl, rfl, trivial⟩
                | exact VV.loc (hend (fun q => q.2.2 d168)) ⟨rfl, rfl, rfl, trivial⟩
                | (rw [mlk2_y hin hkp.2 ⟨c149, d160, d168⟩ h0k rfl]; exact VV.loc (ih (i + 1) (by omega)) ⟨rfl, rfl, rfl, trivial⟩)
      have go128 : VV a B (SP B D E (mlk2 μ g σ n le i)) 0 0 128 [(4, iI (hldF (jm μ) σ n i)), (2, iI (i : Int)), (0, .ref (pl B g)), (1, iI le)] [] := by
        refine v_aload_n (pc := 128) h (dk dt_X4_look 67 rfl) rfl ?_
        refine v_getr (pc := 129) h ci4 (K_hd hr) (Nat.le_of_ble_eq_true rfl) (j := 3) wF_X4_20 rfl (dk dt_X4_look 68 rfl) ?_
        refine v_iload_n (pc := 132) h (dk dt_X4_look 69 rfl) rfl ?_
        refine v_iload (pc := 133) h (dk dt_X4_look 70 rfl) rfl ?_
        refine v_iload_n (pc := 135) h (dk dt_X4_look 71 rfl) rfl ?_
        refine v_icmp_ne (pc := 136) h 143 (dk dt_X4_look 72 rfl) rfl (by omega) (fun c136 => ?_) (fun c136 => ?_)
        ·
          refine v_iload (pc := 143) h (dk dt_X4_look 75 rfl) rfl ?_
          refine v_cVv (pc := 145) h (c_X7_putn h.quiet (K_block hr) (o1 := g + 4) rfl (Nat.le_of_ble_eq_true rfl) (by omega)) kv_X7_put (K_block hr).1 wM_X4_53 rfl rfl (Nat.le_of_ble_eq_true rfl) (RM.of rfl) rfl rfl (dk dt_X4_look 76 rfl) ?_
          first | rw [show (-1 : Int) = kpr (jm μ) n σ i by rw [hkh, if_pos c136]] | rw [show hldF (jm μ) σ n i = kpr (jm μ) n σ i by rw [hkh, if_neg c136]]
          first
            | exact VV.loc (go148 (hldF (jm μ) σ n i) (fun q => absurd (by rw [hkh, if_pos c136]) q)) ⟨rfl, rfl, rfl, rfl, trivial⟩
            | exact VV.loc (go148 (kpr (jm μ) n σ i) (fun _ => rfl)) ⟨rfl, rfl, rfl, rfl, trivial⟩
        ·
          refine v_iconst (pc := 139) h (dk dt_X4_look 73 rfl) ?_
          refine v_goto (pc := 140) h 145 (dk dt_X4_look 74 rfl) rfl ?_
          refine v_cVv (pc := 145) h (c_X7_putn h.quiet (K_block hr) (o1 := g + 4) rfl (Nat.le_of_ble_eq_true rfl) (by omega)) kv_X7_put (K_block hr).1 wM_X4_53 rfl rfl (Nat.le_of_ble_eq_true rfl) (RM.of rfl) rfl rfl (dk dt_X4_look 76 rfl) ?_
          first | rw [show (-1 : Int) = kpr (jm μ) n σ i by rw [hkh, if_pos c136]] | rw [show hldF (jm μ) σ n i = kpr (jm μ) n σ i by rw [hkh, if_neg c136]]
          first
            | exact VV.loc (go148 (hldF (jm μ) σ n i) (fun q => absurd (by rw [hkh, if_pos c136]) q)) ⟨rfl, rfl, rfl, rfl, trivial⟩
            | exact VV.loc (go148 (kpr (jm μ) n σ i) (fun _ => rfl)) ⟨rfl, rfl, rfl, rfl, trivial⟩
      refine v_iload_n (pc := 80) h (dk dt_X4_look 42 rfl) rfl ?_
      refine v_aload_n (pc := 81) h (dk dt_X4_look 43 rfl) rfl ?_
      refine v_getr (pc := 82) h ci4 (K_hd hr) (Nat.le_of_ble_eq_true rfl) (j := 0) wF_X4_26 rfl (dk dt_X4_look 44 rfl) ?_
      refine v_geti (pc := 85) h ci1 sh1 (Nat.le_of_ble_eq_true rfl) (j := 9) wF_X4_37 rfl (dk dt_X4_look 45 rfl) ?_
      refine v_icmp_ge (pc := 88) h 209 (dk dt_X4_look 46 rfl) rfl (by omega) (fun c88 => ?_) (fun c88 => ?_)
      ·
        exact absurd c88 (by omega)
      ·
        refine v_aload_n (pc := 91) h (dk dt_X4_look 47 rfl) rfl ?_
        refine v_getr (pc := 92) h ci4 (K_hd hr) (Nat.le_of_ble_eq_true rfl) (j := 0) wF_X4_26 rfl (dk dt_X4_look 48 rfl) ?_
        refine v_iload_n (pc := 95) h (dk dt_X4_look 49 rfl) rfl ?_
        refine v_aload_n (pc := 96) h (dk dt_X4_look 50 rfl) rfl ?_
        refine v_getr (pc := 97) h ci4 (K_hd hr) (Nat.le_of_ble_eq_true rfl) (j := 1) wF_X4_30 rfl (dk dt_X4_look 51 rfl) ?_
        refine v_iload_n (pc := 100) h (dk dt_X4_look 52 rfl) rfl ?_
        refine v_cVi (pc := 101) h (c_dn h.quiet (K_prog hr) (fun a h => c2 i a (by omega)) (a2 i) (by omega) hin) kv_X6_done (P_hd (K_prog hr)) wM_X4_43 rfl rfl (Nat.le_of_ble_eq_true rfl) (RM.of rfl) rfl rfl (dk dt_X4_look 53 rfl) ?_
        refine v_iconst (pc := 104) h (dk dt_X4_look 54 rfl) ?_
        refine v_cVi (pc := 105) h (c_nd h.quiet hs hn (fun a h => c2 i a (by omega)) hin (hl0 i hin)) kv_X1_lockAt sh1 wM_X4_49 rfl rfl (Nat.le_of_ble_eq_true rfl) (RM.of rfl) rfl rfl (dk dt_X4_look 55 rfl) ?_
        refine v_istore_n (lv' := [(3, _), (2, _), (0, _), (1, _)]) (pc := 108) h (dk dt_X4_look 56 rfl) (Nat.le_of_ble_eq_true rfl) rfl ?_
        refine v_iload_n (pc := 109) h (dk dt_X4_look 57 rfl) rfl ?_
        refine v_iconst (pc := 110) h (dk dt_X4_look 58 rfl) ?_
        refine v_icmp_ne (pc := 111) h 118 (dk dt_X4_look 59 rfl) rfl (by omega) (fun c111 => ?_) (fun c111 => ?_)
        ·
          refine v_aload_n (pc := 118) h (dk dt_X4_look 62 rfl) rfl ?_
          refine v_getr (pc := 119) h ci4 (K_hd hr) (Nat.le_of_ble_eq_true rfl) (j := 2) wF_X4_14 rfl (dk dt_X4_look 63 rfl) ?_
          refine v_iload_n (pc := 122) h (dk dt_X4_look 64 rfl) rfl ?_
          refine v_cVi (pc := 123) h (c_X7_ati h.quiet (K_hold hr) (o1 := g + 2) rfl (Nat.le_of_ble_eq_true rfl) (by omega)) kv_X7_at (K_hold hr).1 wM_X4_60 rfl rfl (Nat.le_of_ble_eq_true rfl) (RM.of rfl) rfl rfl (dk dt_X4_look 65 rfl) ?_
          rw [show mlk2 μ g σ n le i (g + 2) (ndF (jm μ) σ i).toNat = hldF (jm μ) σ n i by (unfold mlk2 mlk1; rw [if_neg (by omega), if_neg (by omega), if_pos (by omega), hldF, if_neg c111, Int.toNat_of_nonneg (by omega)])]
          refine v_istore (lv' := [(4, _), (3, _), (2, _), (0, _), (1, _)]) (pc := 126) h (dk dt_X4_look 66 rfl) (Nat.le_of_ble_eq_true rfl) rfl ?_
          first
            | exact VV.loc go128 ⟨rfl, rfl, rfl, rfl, trivial⟩
            | exact VV.loc go128 ⟨lvI (by rw [hldF, if_pos c111]), rfl, rfl, rfl, trivial⟩
        ·
          refine v_iconst (pc := 114) h (dk dt_X4_look 60 rfl) ?_
          refine v_goto (pc := 115) h 126 (dk dt_X4_look 61 rfl) rfl ?_
          refine v_istore (lv' := [(4, _), (3, _), (2, _), (0, _), (1, _)]) (pc := 126) h (dk dt_X4_look 66 rfl) (Nat.le_of_ble_eq_true rfl) rfl ?_
          first
            | exact VV.loc go128 ⟨rfl, rfl, rfl, rfl, trivial⟩
            | exact VV.loc go128 ⟨lvI (by rw [hldF, if_pos c111]), rfl, rfl, rfl, trivial⟩
  have loop1 : ∀ (d i : Nat), i + d = n → VV a B (SP B D E (mlk1 μ g σ i)) 0 0 10 [(2, iI (i : Int)), (0, .ref (pl B g)), (1, iI le)] [] := by
    intro d
    induction d with
    | zero =>
      intro i hi
      have e1 := congrFun (c1 i 1 (by omega)) 9
      refine v_iload_n (pc := 10) h (dk dt_X4_look 6 rfl) rfl ?_
      refine v_aload_n (pc := 11) h (dk dt_X4_look 7 rfl) rfl ?_
      refine v_getr (pc := 12) h ci4 (K_hd hr) (Nat.le_of_ble_eq_true rfl) (j := 0) wF_X4_26 rfl (dk dt_X4_look 8 rfl) ?_
      refine v_geti (pc := 15) h ci1 sh1 (Nat.le_of_ble_eq_true rfl) (j := 9) wF_X4_37 rfl (dk dt_X4_look 9 rfl) ?_
      refine v_icmp_ge (pc := 18) h 78 (dk dt_X4_look 10 rfl) rfl (by omega) (fun c18 => ?_) (fun c18 => ?_)
      ·
        refine v_iconst (pc := 78) h (dk dt_X4_look 40 rfl) ?_
        refine v_istore_n (lv' := [(2, _), (0, _), (1, _)]) (pc := 79) h (dk dt_X4_look 41 rfl) (Nat.le_of_ble_eq_true rfl) rfl ?_
        rw [show i = n by omega, mlk2_0 (le := le)]
        exact VV.loc (loop2 n 0 (by omega)) ⟨rfl, rfl, rfl, trivial⟩
      ·
        exact absurd c18 (by omega)
    | succ d ih =>
      intro i hi
      have hin : i < n := by omega
      have e1 := congrFun (c1 i 1 (by omega)) 9
      have hhd := hd_b (σ := σ) hD hin
      refine v_iload_n (pc := 10) h (dk dt_X4_look 6 rfl) rfl ?_
      refine v_aload_n (pc := 11) h (dk dt_X4_look 7 rfl) rfl ?_
      refine v_getr (pc := 12) h ci4 (K_hd hr) (Nat.le_of_ble_eq_true rfl) (j := 0) wF_X4_26 rfl (dk dt_X4_look 8 rfl) ?_
      refine v_geti (pc := 15) h ci1 sh1 (Nat.le_of_ble_eq_true rfl) (j := 9) wF_X4_37 rfl (dk dt_X4_look 9 rfl) ?_
      refine v_icmp_ge (pc := 18) h 78 (dk dt_X4_look 10 rfl) rfl (by omega) (fun c18 => ?_) (fun c18 => ?_)
      ·
        exact absurd c18 (by omega)
      ·
        refine v_aload_n (pc := 21) h (dk dt_X4_look 11 rfl) rfl ?_
        refine v_getr (pc := 22) h ci4 (K_hd hr) (Nat.le_of_ble_eq_true rfl) (j := 0) wF_X4_26 rfl (dk dt_X4_look 12 rfl) ?_
        refine v_iload_n (pc := 25) h (dk dt_X4_look 13 rfl) rfl ?_
        refine v_aload_n (pc := 26) h (dk dt_X4_look 14 rfl) rfl ?_
        refine v_getr (pc := 27) h ci4 (K_hd hr) (Nat.le_of_ble_eq_true rfl) (j := 1) wF_X4_30 rfl (dk dt_X4_look 15 rfl) ?_
        refine v_iload_n (pc := 30) h (dk dt_X4_look 16 rfl) rfl ?_
        refine v_cVi (pc := 31) h (c_dn h.quiet (K_prog hr) (fun a h => c1 i a (by omega)) (a1 i) (by omega) hin) kv_X6_done (P_hd (K_prog hr)) wM_X4_43 rfl rfl (Nat.le_of_ble_eq_true rfl) (RM.of rfl) rfl rfl (dk dt_X4_look 17 rfl) ?_
        refine v_iconst (pc := 34) h (dk dt_X4_look 18 rfl) ?_
        refine v_cVi (pc := 35) h (c_hd h.quiet hs hn (fun a h => c1 i a (by omega)) hin (hl0 i hin)) kv_X1_lockAt sh1 wM_X4_49 rfl rfl (Nat.le_of_ble_eq_true rfl) (RM.of rfl) rfl rfl (dk dt_X4_look 19 rfl) ?_
        refine v_istore_n (lv' := [(3, _), (2, _), (0, _), (1, _)]) (pc := 38) h (dk dt_X4_look 20 rfl) (Nat.le_of_ble_eq_true rfl) rfl ?_
        refine v_iload_n (pc := 39) h (dk dt_X4_look 21 rfl) rfl ?_
        refine v_iconst (pc := 40) h (dk dt_X4_look 22 rfl) ?_
        refine v_icmp_eq (pc := 41) h 53 (dk dt_X4_look 23 rfl) rfl (by omega) (fun c41 => ?_) (fun c41 => ?_)
        ·
          refine v_aload_n (pc := 53) h (dk dt_X4_look 29 rfl) rfl ?_
          refine v_getr (pc := 54) h ci4 (K_hd hr) (Nat.le_of_ble_eq_true rfl) (j := 4) wF_X4_23 rfl (dk dt_X4_look 30 rfl) ?_
          refine v_iload_n (pc := 57) h (dk dt_X4_look 31 rfl) rfl ?_
          refine v_aload_n (pc := 58) h (dk dt_X4_look 32 rfl) rfl ?_
          refine v_getr (pc := 59) h ci4 (K_hd hr) (Nat.le_of_ble_eq_true rfl) (j := 0) wF_X4_26 rfl (dk dt_X4_look 33 rfl) ?_
          refine v_getr (pc := 62) h ci1 sh1 (Nat.le_of_ble_eq_true rfl) (j := 3) wF_X4_57 rfl (dk dt_X4_look 34 rfl) ?_
          refine v_iload_n (pc := 65) h (dk dt_X4_look 35 rfl) rfl ?_
          refine v_cVi (pc := 66) h (c_X7_atn h.quiet jr3 (o1 := 9) rfl (Nat.le_of_ble_eq_true rfl) (by omega)) kv_X7_at jr3.1 wM_X4_60 rfl rfl (Nat.le_of_ble_eq_true rfl) (RM.of rfl) rfl rfl (dk dt_X4_look 36 rfl) ?_
          first | rw [mup_nk (show (9 : Nat) ≠ g + 2 by omega), c1 i 9 (by omega)] | rw [c1 i 9 (by omega)]
          refine v_cVv (pc := 69) h (c_X7_putn h.quiet (K_ranks hr) (o1 := g + 6) rfl (Nat.le_of_ble_eq_true rfl) (by omega)) kv_X7_put (K_ranks hr).1 wM_X4_53 rfl rfl (Nat.le_of_ble_eq_true rfl) (RM.of rfl) rfl rfl (dk dt_X4_look 37 rfl) ?_
          refine v_iinc (lv' := [(2, _), (3, _), (0, _), (1, _)]) (pc := 72) h (dk dt_X4_look 38 rfl) rfl (Nat.le_of_ble_eq_true rfl) rfl ?_
          refine v_goto (pc := 75) h 10 (dk dt_X4_look 39 rfl) rfl ?_
          first | rw [mlk1_n c41] | rw [mlk1_y (by omega)]
          exact VV.loc (ih (i + 1) (by omega)) ⟨rfl, rfl, rfl, trivial⟩
        ·
          refine v_aload_n (pc := 44) h (dk dt_X4_look 24 rfl) rfl ?_
          refine v_getr (pc := 45) h ci4 (K_hd hr) (Nat.le_of_ble_eq_true rfl) (j := 2) wF_X4_14 rfl (dk dt_X4_look 25 rfl) ?_
          refine v_iload_n (pc := 48) h (dk dt_X4_look 26 rfl) rfl ?_
          refine v_iload_n (pc := 49) h (dk dt_X4_look 27 rfl) rfl ?_
          refine v_cVv (pc := 50) h (c_X7_puti h.quiet (K_hold hr) (o1 := g + 2) rfl (Nat.le_of_ble_eq_true rfl) (by omega)) kv_X7_put (K_hold hr).1 wM_X4_53 rfl rfl (Nat.le_of_ble_eq_true rfl) (RM.of rfl) rfl rfl (dk dt_X4_look 28 rfl) ?_
          refine v_aload_n (pc := 53) h (dk dt_X4_look 29 rfl) rfl ?_
          refine v_getr (pc := 54) h ci4 (K_hd hr) (Nat.le_of_ble_eq_true rfl) (j := 4) wF_X4_23 rfl (dk dt_X4_look 30 rfl) ?_
          refine v_iload_n (pc := 57) h (dk dt_X4_look 31 rfl) rfl ?_
          refine v_aload_n (pc := 58) h (dk dt_X4_look 32 rfl) rfl ?_
          refine v_getr (pc := 59) h ci4 (K_hd hr) (Nat.le_of_ble_eq_true rfl) (j := 0) wF_X4_26 rfl (dk dt_X4_look 33 rfl) ?_
          refine v_getr (pc := 62) h ci1 sh1 (Nat.le_of_ble_eq_true rfl) (j := 3) wF_X4_57 rfl (dk dt_X4_look 34 rfl) ?_
          refine v_iload_n (pc := 65) h (dk dt_X4_look 35 rfl) rfl ?_
          refine v_cVi (pc := 66) h (c_X7_atn h.quiet jr3 (o1 := 9) rfl (Nat.le_of_ble_eq_true rfl) (by omega)) kv_X7_at jr3.1 wM_X4_60 rfl rfl (Nat.le_of_ble_eq_true rfl) (RM.of rfl) rfl rfl (dk dt_X4_look 36 rfl) ?_
          first | rw [mup_nk (show (9 : Nat) ≠ g + 2 by omega), c1 i 9 (by omega)] | rw [c1 i 9 (by omega)]
          refine v_cVv (pc := 69) h (c_X7_putn h.quiet (K_ranks hr) (o1 := g + 6) rfl (Nat.le_of_ble_eq_true rfl) (by omega)) kv_X7_put (K_ranks hr).1 wM_X4_53 rfl rfl (Nat.le_of_ble_eq_true rfl) (RM.of rfl) rfl rfl (dk dt_X4_look 37 rfl) ?_
          refine v_iinc (lv' := [(2, _), (3, _), (0, _), (1, _)]) (pc := 72) h (dk dt_X4_look 38 rfl) rfl (Nat.le_of_ble_eq_true rfl) rfl ?_
          refine v_goto (pc := 75) h 10 (dk dt_X4_look 39 rfl) rfl ?_
          first | rw [mlk1_n c41] | rw [mlk1_y (by omega)]
          exact VV.loc (ih (i + 1) (by omega)) ⟨rfl, rfl, rfl, trivial⟩
  refine v_aload_n (pc := 0) h (dk dt_X4_look 0 rfl) rfl ?_
  refine v_getr (pc := 1) h ci4 (K_hd hr) (Nat.le_of_ble_eq_true rfl) (j := 2) wF_X4_14 rfl (dk dt_X4_look 1 rfl) ?_
  refine v_iconst (pc := 4) h (dk dt_X4_look 2 rfl) ?_
  refine v_cVv (pc := 5) h (c_X7_filln h.quiet (K_hold hr) (o1 := g + 2) rfl (Nat.le_of_ble_eq_true rfl)) kv_X7_fill (K_hold hr).1 wM_X4_34 rfl rfl (Nat.le_of_ble_eq_true rfl) (RM.of rfl) rfl rfl (dk dt_X4_look 3 rfl) ?_
  refine v_iconst (pc := 8) h (dk dt_X4_look 4 rfl) ?_
  refine v_istore_n (lv' := [(2, _), (0, _), (1, _)]) (pc := 9) h (dk dt_X4_look 5 rfl) (Nat.le_of_ble_eq_true rfl) rfl ?_
  rw [mlk1_0 (σ := σ)]
  exact VV.loc (loop1 n 0 (by omega)) ⟨rfl, rfl, rfl, trivial⟩
/-- what look leaves of the jobs -/
def aK (g n : Nat) (J σ : Mm) (le : Int) (μ : Mm) : Prop := ∀ j, j < n → μ (g + 4) j = kpr J n σ j ∧ μ (g + 6) j = rkF J n σ le j n
theorem aK_look {le : Int} : aK g n (jm μ) σ le (mlk2 μ g σ n le n) := by
  intro j hj
  unfold mlk2
  rw [if_pos ⟨rfl, hj⟩, if_neg (by omega), if_pos ⟨rfl, hj⟩]
  exact ⟨rfl, rfl⟩
theorem lk_o {le : Int} {a : Nat} (h : a < g ∨ g + 7 ≤ a) : mlk2 μ g σ n le n a = μ a := by
  funext b
  unfold mlk2 mlk1
  rw [if_neg (by omega), if_neg (by omega), if_neg (by omega), if_neg (by omega)]
theorem c_X4_greatest (hst : l.stackTraces = false) (hr : isK g p) (hp : 20 ≤ p ∧ p + 7 ≤ g) (hs : okJ μ) (hn : μ 1 9 = (n : Int)) (ha : aP p n μ σ) {K : Nat → Int} (h8 : K 0 = 8) (hk : aK g n (jm μ) σ (K 3) μ) :
    Ct l B D E yX4_greatest (.code yX4_greatest cX4_greatest 4 (some .int)) rm_X4_greatest [.ref (pl B g)] μ (ri (bsF (jm μ) n K σ n) μ) NX := by
  have hb := hs.1
  have hD := okJD hs hn
  have hkey : ∀ j, keyR (jm μ) n K σ j = - rkF (jm μ) n σ (K 3) j n := fun j => by unfold keyR; rw [if_neg (by omega), if_neg (by omega), if_neg (by omega), if_neg (by omega), if_neg (by omega)]
  refine ct_of (own := RX4) (lv := [(0, _)]) hst (by decide) rfl rfl (Nat.le_of_ble_eq_true rfl) fun a h r t => ?_
  have loop : ∀ (d i : Nat), i + d = n → VV a B (SP B D E μ) 0 0 4 [(2, iI (i : Int)), (1, iI (bsF (jm μ) n K σ i)), (0, .ref (pl B g))] [] := by
    intro d
    induction d with
    | zero =>
      intro i hi
      refine v_iload_n (pc := 4) h (dk dt_X4_greatest 4 rfl) rfl ?_
      refine v_aload_n (pc := 5) h (dk dt_X4_greatest 5 rfl) rfl ?_
      refine v_getr (pc := 6) h ci4 (K_hd hr) (Nat.le_of_ble_eq_true rfl) (j := 0) wF_X4_26 rfl (dk dt_X4_greatest 6 rfl) ?_
      refine v_geti (pc := 9) h ci1 sh1 (Nat.le_of_ble_eq_true rfl) (j := 9) wF_X4_37 rfl (dk dt_X4_greatest 7 rfl) ?_
      refine v_icmp_ge (pc := 12) h 76 (dk dt_X4_greatest 8 rfl) rfl (by omega) (fun c12 => ?_) (fun c12 => ?_)
      ·
        refine v_iload_n (pc := 76) h (dk dt_X4_greatest 40 rfl) rfl ?_
        exact v_iret (pc := 77) h r (dk dt_X4_greatest 41 rfl) (Nat.le_of_ble_eq_true rfl) (Nat.le_of_ble_eq_true rfl) ⟨by rw [show n = i by omega], rfl⟩
      ·
        exact absurd c12 (by omega)
    | succ d ih =>
      intro i hi
      have hin : i < n := by omega
      have hki := hk i hin
      have hkp := kpr_b (J := jm μ) (n := n) (σ := σ) i
      have hrk := rkF_b (J := jm μ) (σ := σ) (le := K 3) (fun j hj => okD_w hD hj) hin n (Nat.le_refl _)
      have hbs := bsF_is (jm μ) n K σ i
      have hbb : -1 ≤ bsF (jm μ) n K σ i ∧ bsF (jm μ) n K σ i < i := by rcases hbs with ⟨q, -⟩ | ⟨y, q1, q2, -⟩ <;> omega
      have hkx := fun q : 0 ≤ bsF (jm μ) n K σ i => hk (bsF (jm μ) n K σ i).toNat (by omega)
      have hrx := fun q : 0 ≤ bsF (jm μ) n K σ i => rkF_b (J := jm μ) (σ := σ) (le := K 3) (fun j hj => okD_w hD hj) (j := (bsF (jm μ) n K σ i).toNat) (by omega) n (Nat.le_refl _)
      have eN : ¬ (okR (jm μ) n K σ i ∧ (bsF (jm μ) n K σ i = -1 ∨ keyR (jm μ) n K σ i < keyR (jm μ) n K σ (bsF (jm μ) n K σ i).toNat)) → bsF (jm μ) n K σ (i + 1) = bsF (jm μ) n K σ i := fun q => by rw [bsF, if_neg q]
      have eY : okR (jm μ) n K σ i ∧ (bsF (jm μ) n K σ i = -1 ∨ keyR (jm μ) n K σ i < keyR (jm μ) n K σ (bsF (jm μ) n K σ i).toNat) → bsF (jm μ) n K σ (i + 1) = (i : Int) := fun q => by rw [bsF, if_pos q]
      rw [hkey, hkey] at eN eY
      have hio := ih (i + 1) (by omega)
      have fN := fun q => show VV a B (SP B D E μ) 0 0 4 [(2, iI ((i : Int) + 1)), (1, iI (bsF (jm μ) n K σ i)), (0, .ref (pl B g))] [] by have z := hio; rw [eN q] at z; exact z
      have fY := fun q => show VV a B (SP B D E μ) 0 0 4 [(2, iI ((i : Int) + 1)), (1, iI (i : Int)), (0, .ref (pl B g))] [] by have z := hio; rw [eY q] at z; exact z
      refine v_iload_n (pc := 4) h (dk dt_X4_greatest 4 rfl) rfl ?_
      refine v_aload_n (pc := 5) h (dk dt_X4_greatest 5 rfl) rfl ?_
      refine v_getr (pc := 6) h ci4 (K_hd hr) (Nat.le_of_ble_eq_true rfl) (j := 0) wF_X4_26 rfl (dk dt_X4_greatest 6 rfl) ?_
      refine v_geti (pc := 9) h ci1 sh1 (Nat.le_of_ble_eq_true rfl) (j := 9) wF_X4_37 rfl (dk dt_X4_greatest 7 rfl) ?_
      refine v_icmp_ge (pc := 12) h 76 (dk dt_X4_greatest 8 rfl) rfl (by omega) (fun c12 => ?_) (fun c12 => ?_)
      ·
        exact absurd c12 (by omega)
      ·
        refine v_aload_n (pc := 15) h (dk dt_X4_greatest 9 rfl) rfl ?_
        refine v_getr (pc := 16) h ci4 (K_hd hr) (Nat.le_of_ble_eq_true rfl) (j := 1) wF_X4_30 rfl (dk dt_X4_greatest 10 rfl) ?_
        refine v_iload_n (pc := 19) h (dk dt_X4_greatest 11 rfl) rfl ?_
        refine v_cVi (pc := 20) h (c_X6_isReady h.quiet (K_prog hr) (by omega) ha (by omega)) kv_X6_isReady (P_hd (K_prog hr)) wM_X4_63 rfl rfl (Nat.le_of_ble_eq_true rfl) (RM.of rfl) rfl rfl (dk dt_X4_greatest 12 rfl) ?_
        refine v_if_eq (pc := 23) h 38 (dk dt_X4_greatest 13 rfl) rfl (by split <;> omega) (fun c23 => ?_) (fun c23 => ?_)
        ·
          have d23 : ¬ rdy σ i := fun q => by rw [if_pos q] at c23; omega
          refine v_iconst (pc := 38) h (dk dt_X4_greatest 20 rfl) ?_
          refine v_istore_n (lv' := [(3, _), (2, _), (1, _), (0, _)]) (pc := 39) h (dk dt_X4_greatest 21 rfl) (Nat.le_of_ble_eq_true rfl) rfl ?_
          refine v_iload_n (pc := 40) h (dk dt_X4_greatest 22 rfl) rfl ?_
          refine v_if_eq (pc := 41) h 70 (dk dt_X4_greatest 23 rfl) rfl (by omega) (fun c41 => ?_) (fun c41 => ?_)
          ·
            refine v_iinc (lv' := [(2, _), (3, _), (1, _), (0, _)]) (pc := 70) h (dk dt_X4_greatest 38 rfl) rfl (Nat.le_of_ble_eq_true rfl) rfl ?_
            refine v_goto (pc := 73) h 4 (dk dt_X4_greatest 39 rfl) rfl ?_
            first
              | exact absurd rfl c41
              | exact absurd c41 (by decide)
              | exact VV.loc (fN (fun q => d23 q.1.1)) ⟨rfl, rfl, rfl, trivial⟩
              | exact VV.loc (fN (fun q => d31 (q.1.2 h8))) ⟨rfl, rfl, rfl, trivial⟩
              | exact VV.loc (fY ⟨⟨d23, fun _ => d31⟩, Or.inl c46⟩) ⟨rfl, rfl, rfl, trivial⟩
              | exact VV.loc (fY ⟨⟨d23, fun _ => d31⟩, Or.inr (by omega)⟩) ⟨rfl, rfl, rfl, trivial⟩
              | exact VV.loc (fN (fun q => by rcases q.2 with z | z; exact c46 z; omega)) ⟨rfl, rfl, rfl, trivial⟩
          ·
            refine v_iload_n (pc := 44) h (dk dt_X4_greatest 24 rfl) rfl ?_
            refine v_iconst (pc := 45) h (dk dt_X4_greatest 25 rfl) ?_
            refine v_icmp_eq (pc := 46) h 68 (dk dt_X4_greatest 26 rfl) rfl (by omega) (fun c46 => ?_) (fun c46 => ?_)
            ·
              refine v_iload_n (pc := 68) h (dk dt_X4_greatest 36 rfl) rfl ?_
              refine v_istore_n (lv' := [(1, _), (3, _), (2, _), (0, _)]) (pc := 69) h (dk dt_X4_greatest 37 rfl) (Nat.le_of_ble_eq_true rfl) rfl ?_
              refine v_iinc (lv' := [(2, _), (1, _), (3, _), (0, _)]) (pc := 70) h (dk dt_X4_greatest 38 rfl) rfl (Nat.le_of_ble_eq_true rfl) rfl ?_
              refine v_goto (pc := 73) h 4 (dk dt_X4_greatest 39 rfl) rfl ?_
              first
                | exact absurd rfl c41
                | exact absurd c41 (by decide)
                | exact VV.loc (fN (fun q => d23 q.1.1)) ⟨rfl, rfl, rfl, trivial⟩
                | exact VV.loc (fN (fun q => d31 (q.1.2 h8))) ⟨rfl, rfl, rfl, trivial⟩
                | exact VV.loc (fY ⟨⟨d23, fun _ => d31⟩, Or.inl c46⟩) ⟨rfl, rfl, rfl, trivial⟩
                | exact VV.loc (fY ⟨⟨d23, fun _ => d31⟩, Or.inr (by omega)⟩) ⟨rfl, rfl, rfl, trivial⟩
                | exact VV.loc (fN (fun q => by rcases q.2 with z | z; exact c46 z; omega)) ⟨rfl, rfl, rfl, trivial⟩
            ·
              have hkx := hkx (by omega)
              have hrx := hrx (by omega)
              refine v_aload_n (pc := 49) h (dk dt_X4_greatest 27 rfl) rfl ?_
              refine v_getr (pc := 50) h ci4 (K_hd hr) (Nat.le_of_ble_eq_true rfl) (j := 4) wF_X4_23 rfl (dk dt_X4_greatest 28 rfl) ?_
              refine v_iload_n (pc := 53) h (dk dt_X4_greatest 29 rfl) rfl ?_
              refine v_cVi (pc := 54) h (c_X7_atn h.quiet (K_ranks hr) (o1 := g + 6) rfl (Nat.le_of_ble_eq_true rfl) (by omega)) kv_X7_at (K_ranks hr).1 wM_X4_60 rfl rfl (Nat.le_of_ble_eq_true rfl) (RM.of rfl) rfl rfl (dk dt_X4_greatest 30 rfl) ?_
              rw [hki.2]
              refine v_aload_n (pc := 57) h (dk dt_X4_greatest 31 rfl) rfl ?_
              refine v_getr (pc := 58) h ci4 (K_hd hr) (Nat.le_of_ble_eq_true rfl) (j := 4) wF_X4_23 rfl (dk dt_X4_greatest 32 rfl) ?_
              refine v_iload_n (pc := 61) h (dk dt_X4_greatest 33 rfl) rfl ?_
              refine v_cVi (pc := 62) h (c_X7_ati h.quiet (K_ranks hr) (o1 := g + 6) rfl (Nat.le_of_ble_eq_true rfl) (by omega)) kv_X7_at (K_ranks hr).1 wM_X4_60 rfl rfl (Nat.le_of_ble_eq_true rfl) (RM.of rfl) rfl rfl (dk dt_X4_greatest 34 rfl) ?_
              rw [hkx.2]
              refine v_icmp_le (pc := 65) h 70 (dk dt_X4_greatest 35 rfl) rfl (by omega) (fun c65 => ?_) (fun c65 => ?_)
              ·
                refine v_iinc (lv' := [(2, _), (3, _), (1, _), (0, _)]) (pc := 70) h (dk dt_X4_greatest 38 rfl) rfl (Nat.le_of_ble_eq_true rfl) rfl ?_
                refine v_goto (pc := 73) h 4 (dk dt_X4_greatest 39 rfl) rfl ?_
                first
                  | exact absurd rfl c41
                  | exact absurd c41 (by decide)
                  | exact VV.loc (fN (fun q => d23 q.1.1)) ⟨rfl, rfl, rfl, trivial⟩
                  | exact VV.loc (fN (fun q => d31 (q.1.2 h8))) ⟨rfl, rfl, rfl, trivial⟩
                  | exact VV.loc (fY ⟨⟨d23, fun _ => d31⟩, Or.inl c46⟩) ⟨rfl, rfl, rfl, trivial⟩
                  | exact VV.loc (fY ⟨⟨d23, fun _ => d31⟩, Or.inr (by omega)⟩) ⟨rfl, rfl, rfl, trivial⟩
                  | exact VV.loc (fN (fun q => by rcases q.2 with z | z; exact c46 z; omega)) ⟨rfl, rfl, rfl, trivial⟩
              ·
                refine v_iload_n (pc := 68) h (dk dt_X4_greatest 36 rfl) rfl ?_
                refine v_istore_n (lv' := [(1, _), (3, _), (2, _), (0, _)]) (pc := 69) h (dk dt_X4_greatest 37 rfl) (Nat.le_of_ble_eq_true rfl) rfl ?_
                refine v_iinc (lv' := [(2, _), (1, _), (3, _), (0, _)]) (pc := 70) h (dk dt_X4_greatest 38 rfl) rfl (Nat.le_of_ble_eq_true rfl) rfl ?_
                refine v_goto (pc := 73) h 4 (dk dt_X4_greatest 39 rfl) rfl ?_
                first
                  | exact absurd rfl c41
                  | exact absurd c41 (by decide)
                  | exact VV.loc (fN (fun q => d23 q.1.1)) ⟨rfl, rfl, rfl, trivial⟩
                  | exact VV.loc (fN (fun q => d31 (q.1.2 h8))) ⟨rfl, rfl, rfl, trivial⟩
                  | exact VV.loc (fY ⟨⟨d23, fun _ => d31⟩, Or.inl c46⟩) ⟨rfl, rfl, rfl, trivial⟩
                  | exact VV.loc (fY ⟨⟨d23, fun _ => d31⟩, Or.inr (by omega)⟩) ⟨rfl, rfl, rfl, trivial⟩
                  | exact VV.loc (fN (fun q => by rcases q.2 with z | z; exact c46 z; omega)) ⟨rfl, rfl, rfl, trivial⟩
        ·
          have d23 : rdy σ i := by by_cases q : rdy σ i; exact q; rw [if_neg q] at c23; omega
          refine v_aload_n (pc := 26) h (dk dt_X4_greatest 14 rfl) rfl ?_
          refine v_iload_n (pc := 27) h (dk dt_X4_greatest 15 rfl) rfl ?_
          refine v_cVi (pc := 28) h (c_X4_isBlocked h.quiet hr (by omega) (by omega)) kv_X4_isBlocked (K_hd hr) wM_X4_67 rfl rfl (Nat.le_of_ble_eq_true rfl) (RM.of rfl) rfl rfl (dk dt_X4_greatest 16 rfl) ?_
          rw [hki.1]
          refine v_if_ne (pc := 31) h 38 (dk dt_X4_greatest 17 rfl) rfl (by split <;> omega) (fun c31 => ?_) (fun c31 => ?_)
          ·
            have d31 : kpr (jm μ) n σ i ≠ -1 := fun q => by rw [if_pos q] at c31; omega
            refine v_iconst (pc := 38) h (dk dt_X4_greatest 20 rfl) ?_
            refine v_istore_n (lv' := [(3, _), (2, _), (1, _), (0, _)]) (pc := 39) h (dk dt_X4_greatest 21 rfl) (Nat.le_of_ble_eq_true rfl) rfl ?_
            refine v_iload_n (pc := 40) h (dk dt_X4_greatest 22 rfl) rfl ?_
            refine v_if_eq (pc := 41) h 70 (dk dt_X4_greatest 23 rfl) rfl (by omega) (fun c41 => ?_) (fun c41 => ?_)
            ·
              refine v_iinc (lv' := [(2, _), (3, _), (1, _), (0, _)]) (pc := 70) h (dk dt_X4_greatest 38 rfl) rfl (Nat.le_of_ble_eq_true rfl) rfl ?_
              refine v_goto (pc := 73) h 4 (dk dt_X4_greatest 39 rfl) rfl ?_
              first
                | exact absurd rfl c41
                | exact absurd c41 (by decide)
                | exact VV.loc (fN (fun q => d23 q.1.1)) ⟨rfl, rfl, rfl, trivial⟩
                | exact VV.loc (fN (fun q => d31 (q.1.2 h8))) ⟨rfl, rfl, rfl, trivial⟩
                | exact VV.loc (fY ⟨⟨d23, fun _ => d31⟩, Or.inl c46⟩) ⟨rfl, rfl, rfl, trivial⟩
                | exact VV.loc (fY ⟨⟨d23, fun _ => d31⟩, Or.inr (by omega)⟩) ⟨rfl, rfl, rfl, trivial⟩
                | exact VV.loc (fN (fun q => by rcases q.2 with z | z; exact c46 z; omega)) ⟨rfl, rfl, rfl, trivial⟩
            ·
              refine v_iload_n (pc := 44) h (dk dt_X4_greatest 24 rfl) rfl ?_
              refine v_iconst (pc := 45) h (dk dt_X4_greatest 25 rfl) ?_
              refine v_icmp_eq (pc := 46) h 68 (dk dt_X4_greatest 26 rfl) rfl (by omega) (fun c46 => ?_) (fun c46 => ?_)
              ·
                refine v_iload_n (pc := 68) h (dk dt_X4_greatest 36 rfl) rfl ?_
                refine v_istore_n (lv' := [(1, _), (3, _), (2, _), (0, _)]) (pc := 69) h (dk dt_X4_greatest 37 rfl) (Nat.le_of_ble_eq_true rfl) rfl ?_
                refine v_iinc (lv' := [(2, _), (1, _), (3, _), (0, _)]) (pc := 70) h (dk dt_X4_greatest 38 rfl) rfl (Nat.le_of_ble_eq_true rfl) rfl ?_
                refine v_goto (pc := 73) h 4 (dk dt_X4_greatest 39 rfl) rfl ?_
                first
                  | exact absurd rfl c41
                  | exact absurd c41 (by decide)
                  | exact VV.loc (fN (fun q => d23 q.1.1)) ⟨rfl, rfl, rfl, trivial⟩
                  | exact VV.loc (fN (fun q => d31 (q.1.2 h8))) ⟨rfl, rfl, rfl, trivial⟩
                  | exact VV.loc (fY ⟨⟨d23, fun _ => d31⟩, Or.inl c46⟩) ⟨rfl, rfl, rfl, trivial⟩
                  | exact VV.loc (fY ⟨⟨d23, fun _ => d31⟩, Or.inr (by omega)⟩) ⟨rfl, rfl, rfl, trivial⟩
                  | exact VV.loc (fN (fun q => by rcases q.2 with z | z; exact c46 z; omega)) ⟨rfl, rfl, rfl, trivial⟩
              ·
                have hkx := hkx (by omega)
                have hrx := hrx (by omega)
                refine v_aload_n (pc := 49) h (dk dt_X4_greatest 27 rfl) rfl ?_
                refine v_getr (pc := 50) h ci4 (K_hd hr) (Nat.le_of_ble_eq_true rfl) (j := 4) wF_X4_23 rfl (dk dt_X4_greatest 28 rfl) ?_
                refine v_iload_n (pc := 53) h (dk dt_X4_greatest 29 rfl) rfl ?_
                refine v_cVi (pc := 54) h (c_X7_atn h.quiet (K_ranks hr) (o1 := g + 6) rfl (Nat.le_of_ble_eq_true rfl) (by omega)) kv_X7_at (K_ranks hr).1 wM_X4_60 rfl rfl (Nat.le_of_ble_eq_true rfl) (RM.of rfl) rfl rfl (dk dt_X4_greatest 30 rfl) ?_
                rw [hki.2]
                refine v_aload_n (pc := 57) h (dk dt_X4_greatest 31 rfl) rfl ?_
                refine v_getr (pc := 58) h ci4 (K_hd hr) (Nat.le_of_ble_eq_true rfl) (j := 4) wF_X4_23 rfl (dk dt_X4_greatest 32 rfl) ?_
                refine v_iload_n (pc := 61) h (dk dt_X4_greatest 33 rfl) rfl ?_
                refine v_cVi (pc := 62) h (c_X7_ati h.quiet (K_ranks hr) (o1 := g + 6) rfl (Nat.le_of_ble_eq_true rfl) (by omega)) kv_X7_at (K_ranks hr).1 wM_X4_60 rfl rfl (Nat.le_of_ble_eq_true rfl) (RM.of rfl) rfl rfl (dk dt_X4_greatest 34 rfl) ?_
                rw [hkx.2]
                refine v_icmp_le (pc := 65) h 70 (dk dt_X4_greatest 35 rfl) rfl (by omega) (fun c65 => ?_) (fun c65 => ?_)
                ·
                  refine v_iinc (lv' := [(2, _), (3, _), (1, _), (0, _)]) (pc := 70) h (dk dt_X4_greatest 38 rfl) rfl (Nat.le_of_ble_eq_true rfl) rfl ?_
                  refine v_goto (pc := 73) h 4 (dk dt_X4_greatest 39 rfl) rfl ?_
                  first
                    | exact absurd rfl c41
                    | exact absurd c41 (by decide)
                    | exact VV.loc (fN (fun q => d23 q.1.1)) ⟨rfl, rfl, rfl, trivial⟩
                    | exact VV.loc (fN (fun q => d31 (q.1.2 h8))) ⟨rfl, rfl, rfl, trivial⟩
                    | exact VV.loc (fY ⟨⟨d23, fun _ => d31⟩, Or.inl c46⟩) ⟨rfl, rfl, rfl, trivial⟩
                    | exact VV.loc (fY ⟨⟨d23, fun _ => d31⟩, Or.inr (by omega)⟩) ⟨rfl, rfl, rfl, trivial⟩
                    | exact VV.loc (fN (fun q => by rcases q.2 with z | z; exact c46 z; omega)) ⟨rfl, rfl, rfl, trivial⟩
                ·
                  refine v_iload_n (pc := 68) h (dk dt_X4_greatest 36 rfl) rfl ?_
                  refine v_istore_n (lv' := [(1, _), (3, _), (2, _), (0, _)]) (pc := 69) h (dk dt_X4_greatest 37 rfl) (Nat.le_of_ble_eq_true rfl) rfl ?_
                  refine v_iinc (lv' := [(2, _), (1, _), (3, _), (0, _)]) (pc := 70) h (dk dt_X4_greatest 38 rfl) rfl (Nat.le_of_ble_eq_true rfl) rfl ?_
                  refine v_goto (pc := 73) h 4 (dk dt_X4_greatest 39 rfl) rfl ?_
                  first
                    | exact absurd rfl c41
                    | exact absurd c41 (by decide)
                    | exact VV.loc (fN (fun q => d23 q.1.1)) ⟨rfl, rfl, rfl, trivial⟩
                    | exact VV.loc (fN (fun q => d31 (q.1.2 h8))) ⟨rfl, rfl, rfl, trivial⟩
                    | exact VV.loc (fY ⟨⟨d23, fun _ => d31⟩, Or.inl c46⟩) ⟨rfl, rfl, rfl, trivial⟩
                    | exact VV.loc (fY ⟨⟨d23, fun _ => d31⟩, Or.inr (by omega)⟩) ⟨rfl, rfl, rfl, trivial⟩
                    | exact VV.loc (fN (fun q => by rcases q.2 with z | z; exact c46 z; omega)) ⟨rfl, rfl, rfl, trivial⟩
          ·
            have d31 : kpr (jm μ) n σ i = -1 := by by_cases q : kpr (jm μ) n σ i = -1; exact q; rw [if_neg q] at c31; omega
            refine v_iconst (pc := 34) h (dk dt_X4_greatest 18 rfl) ?_
            refine v_goto (pc := 35) h 39 (dk dt_X4_greatest 19 rfl) rfl ?_
            refine v_istore_n (lv' := [(3, _), (2, _), (1, _), (0, _)]) (pc := 39) h (dk dt_X4_greatest 21 rfl) (Nat.le_of_ble_eq_true rfl) rfl ?_
            refine v_iload_n (pc := 40) h (dk dt_X4_greatest 22 rfl) rfl ?_
            refine v_if_eq (pc := 41) h 70 (dk dt_X4_greatest 23 rfl) rfl (by omega) (fun c41 => ?_) (fun c41 => ?_)
            ·
              refine v_iinc (lv' := [(2, _), (3, _), (1, _), (0, _)]) (pc := 70) h (dk dt_X4_greatest 38 rfl) rfl (Nat.le_of_ble_eq_true rfl) rfl ?_
              refine v_goto (pc := 73) h 4 (dk dt_X4_greatest 39 rfl) rfl ?_
              first
                | exact absurd rfl c41
                | exact absurd c41 (by decide)
                | exact VV.loc (fN (fun q => d23 q.1.1)) ⟨rfl, rfl, rfl, trivial⟩
                | exact VV.loc (fN (fun q => d31 (q.1.2 h8))) ⟨rfl, rfl, rfl, trivial⟩
                | exact VV.loc (fY ⟨⟨d23, fun _ => d31⟩, Or.inl c46⟩) ⟨rfl, rfl, rfl, trivial⟩
                | exact VV.loc (fY ⟨⟨d23, fun _ => d31⟩, Or.inr (by omega)⟩) ⟨rfl, rfl, rfl, trivial⟩
                | exact VV.loc (fN (fun q => by rcases q.2 with z | z; exact c46 z; omega)) ⟨rfl, rfl, rfl, trivial⟩
            ·
              refine v_iload_n (pc := 44) h (dk dt_X4_greatest 24 rfl) rfl ?_
              refine v_iconst (pc := 45) h (dk dt_X4_greatest 25 rfl) ?_
              refine v_icmp_eq (pc := 46) h 68 (dk dt_X4_greatest 26 rfl) rfl (by omega) (fun c46 => ?_) (fun c46 => ?_)
              ·
                refine v_iload_n (pc := 68) h (dk dt_X4_greatest 36 rfl) rfl ?_
                refine v_istore_n (lv' := [(1, _), (3, _), (2, _), (0, _)]) (pc := 69) h (dk dt_X4_greatest 37 rfl) (Nat.le_of_ble_eq_true rfl) rfl ?_
                refine v_iinc (lv' := [(2, _), (1, _), (3, _), (0, _)]) (pc := 70) h (dk dt_X4_greatest 38 rfl) rfl (Nat.le_of_ble_eq_true rfl) rfl ?_
                refine v_goto (pc := 73) h 4 (dk dt_X4_greatest 39 rfl) rfl ?_
                first
                  | exact absurd rfl c41
                  | exact absurd c41 (by decide)
                  | exact VV.loc (fN (fun q => d23 q.1.1)) ⟨rfl, rfl, rfl, trivial⟩
                  | exact VV.loc (fN (fun q => d31 (q.1.2 h8))) ⟨rfl, rfl, rfl, trivial⟩
                  | exact VV.loc (fY ⟨⟨d23, fun _ => d31⟩, Or.inl c46⟩) ⟨rfl, rfl, rfl, trivial⟩
                  | exact VV.loc (fY ⟨⟨d23, fun _ => d31⟩, Or.inr (by omega)⟩) ⟨rfl, rfl, rfl, trivial⟩
                  | exact VV.loc (fN (fun q => by rcases q.2 with z | z; exact c46 z; omega)) ⟨rfl, rfl, rfl, trivial⟩
              ·
                have hkx := hkx (by omega)
                have hrx := hrx (by omega)
                refine v_aload_n (pc := 49) h (dk dt_X4_greatest 27 rfl) rfl ?_
                refine v_getr (pc := 50) h ci4 (K_hd hr) (Nat.le_of_ble_eq_true rfl) (j := 4) wF_X4_23 rfl (dk dt_X4_greatest 28 rfl) ?_
                refine v_iload_n (pc := 53) h (dk dt_X4_greatest 29 rfl) rfl ?_
                refine v_cVi (pc := 54) h (c_X7_atn h.quiet (K_ranks hr) (o1 := g + 6) rfl (Nat.le_of_ble_eq_true rfl) (by omega)) kv_X7_at (K_ranks hr).1 wM_X4_60 rfl rfl (Nat.le_of_ble_eq_true rfl) (RM.of rfl) rfl rfl (dk dt_X4_greatest 30 rfl) ?_
                rw [hki.2]
                refine v_aload_n (pc := 57) h (dk dt_X4_greatest 31 rfl) rfl ?_
                refine v_getr (pc := 58) h ci4 (K_hd hr) (Nat.le_of_ble_eq_true rfl) (j := 4) wF_X4_23 rfl (dk dt_X4_greatest 32 rfl) ?_
                refine v_iload_n (pc := 61) h (dk dt_X4_greatest 33 rfl) rfl ?_
                refine v_cVi (pc := 62) h (c_X7_ati h.quiet (K_ranks hr) (o1 := g + 6) rfl (Nat.le_of_ble_eq_true rfl) (by omega)) kv_X7_at (K_ranks hr).1 wM_X4_60 rfl rfl (Nat.le_of_ble_eq_true rfl) (RM.of rfl) rfl rfl (dk dt_X4_greatest 34 rfl) ?_
                rw [hkx.2]
                refine v_icmp_le (pc := 65) h 70 (dk dt_X4_greatest 35 rfl) rfl (by omega) (fun c65 => ?_) (fun c65 => ?_)
                ·
                  refine v_iinc (lv' := [(2, _), (3, _), (1, _), (0, _)]) (pc := 70) h (dk dt_X4_greatest 38 rfl) rfl (Nat.le_of_ble_eq_true rfl) rfl ?_
                  refine v_goto (pc := 73) h 4 (dk dt_X4_greatest 39 rfl) rfl ?_
                  first
                    | exact absurd rfl c41
                    | exact absurd c41 (by decide)
                    | exact VV.loc (fN (fun q => d23 q.1.1)) ⟨rfl, rfl, rfl, trivial⟩
                    | exact VV.loc (fN (fun q => d31 (q.1.2 h8))) ⟨rfl, rfl, rfl, trivial⟩
                    | exact VV.loc (fY ⟨⟨d23, fun _ => d31⟩, Or.inl c46⟩) ⟨rfl, rfl, rfl, trivial⟩
                    | exact VV.loc (fY ⟨⟨d23, fun _ => d31⟩, Or.inr (by omega)⟩) ⟨rfl, rfl, rfl, trivial⟩
                    | exact VV.loc (fN (fun q => by rcases q.2 with z | z; exact c46 z; omega)) ⟨rfl, rfl, rfl, trivial⟩
                ·
                  refine v_iload_n (pc := 68) h (dk dt_X4_greatest 36 rfl) rfl ?_
                  refine v_istore_n (lv' := [(1, _), (3, _), (2, _), (0, _)]) (pc := 69) h (dk dt_X4_greatest 37 rfl) (Nat.le_of_ble_eq_true rfl) rfl ?_
                  refine v_iinc (lv' := [(2, _), (1, _), (3, _), (0, _)]) (pc := 70) h (dk dt_X4_greatest 38 rfl) rfl (Nat.le_of_ble_eq_true rfl) rfl ?_
                  refine v_goto (pc := 73) h 4 (dk dt_X4_greatest 39 rfl) rfl ?_
                  first
                    | exact absurd rfl c41
                    | exact absurd c41 (by decide)
                    | exact VV.loc (fN (fun q => d23 q.1.1)) ⟨rfl, rfl, rfl, trivial⟩
                    | exact VV.loc (fN (fun q => d31 (q.1.2 h8))) ⟨rfl, rfl, rfl, trivial⟩
                    | exact VV.loc (fY ⟨⟨d23, fun _ => d31⟩, Or.inl c46⟩) ⟨rfl, rfl, rfl, trivial⟩
                    | exact VV.loc (fY ⟨⟨d23, fun _ => d31⟩, Or.inr (by omega)⟩) ⟨rfl, rfl, rfl, trivial⟩
                    | exact VV.loc (fN (fun q => by rcases q.2 with z | z; exact c46 z; omega)) ⟨rfl, rfl, rfl, trivial⟩
  refine v_iconst (pc := 0) h (dk dt_X4_greatest 0 rfl) ?_
  refine v_istore_n (lv' := [(1, _), (0, _)]) (pc := 1) h (dk dt_X4_greatest 1 rfl) (Nat.le_of_ble_eq_true rfl) rfl ?_
  refine v_iconst (pc := 2) h (dk dt_X4_greatest 2 rfl) ?_
  refine v_istore_n (lv' := [(2, _), (1, _), (0, _)]) (pc := 3) h (dk dt_X4_greatest 3 rfl) (Nat.le_of_ble_eq_true rfl) rfl ?_
  exact VV.loc (loop n 0 (by omega)) ⟨rfl, rfl, rfl, trivial⟩
/-! rows of jobs -/
theorem qis_c {k : Nat} {L : List Nat} (h1 : μ' k = μ k) (h2 : μ' (k + 1) = μ (k + 1)) (q : qis μ k L) : qis μ' k L := by unfold qis; rw [h1, h2]; exact q
theorem qis_e {k : Nat} : qis (mup μ k 1 0) k [] := ⟨mup_eq _ _ _ _, fun i j h => by simp at h⟩
theorem qis_j {k x : Nat} {L : List Nat} (q : qis μ k L) : qis (mup (mup μ (k + 1) (μ k 1).toNat (x : Int)) k 1 (μ k 1 + 1)) k (L ++ [x]) := by
  have e : (μ k 1).toNat = L.length := by rw [q.1]; rfl
  refine ⟨by rw [mup_eq, q.1, List.length_append]; rfl, fun i j h => ?_⟩
  rw [mup_nk (by omega), mup_row, e]
  by_cases c : i = L.length
  · subst c
    rw [List.getElem?_append_right (Nat.le_refl _), Nat.sub_self] at h
    simp at h
    rw [if_pos rfl, h]
  · rw [if_neg c]
    have hi : i < L.length := by
      have := (List.getElem?_eq_some_iff.mp h).1
      rw [List.length_append] at this
      simp at this
      omega
    rw [List.getElem?_append_left hi] at h
    exact q.2 i j h
theorem qis_t {k x : Nat} {L : List Nat} (q : qis μ k (x :: L)) : qis (mtake μ k) k L ∧ μ (k + 1) 0 = (x : Int) := by
  have hl : μ k 1 = (L.length : Int) + 1 := q.1
  refine ⟨⟨?_, fun i j h => ?_⟩, q.2 0 x rfl⟩
  · unfold mtake; rw [mup_eq, hl]; omega
  · have hi := (List.getElem?_eq_some_iff.mp h).1
    unfold mtake mshift
    rw [mup_nk (by omega), if_pos ⟨rfl, by omega⟩]
    exact q.2 (i + 1) j (by simpa using h)
theorem qis_m {k o : Nat} {L M : List Nat} (h1 : o ≠ k) (h2 : o + 1 ≠ k) (h3 : o ≠ k + 1) (q : qis μ o L) (r : qis μ k M) : qis (mjoins μ o k L.length) k (M ++ L) := by
  have key : ∀ i, i ≤ L.length → qis (mjoins μ o k i) k (M ++ L.take i) := by
    intro i
    induction i with
    | zero => intro _; simpa [mjoins] using r
    | succ i ih =>
      intro hi
      have h := qis_j (x := L[i]) (ih (by omega))
      have e : μ (o + 1) i = ((L[i] : Nat) : Int) := q.2 i _ (List.getElem?_eq_getElem (by omega))
      rw [List.append_assoc, ← List.take_succ_eq_append_getElem (by omega)] at h
      rw [mjoins, e]
      exact h
  have := key L.length (Nat.le_refl _)
  rwa [List.take_length] at this
theorem c_X2_rise (hst : l.stackTraces = false) {o : Nat} (hr : isV o) {L0 L1 L2 : List Nat} (q0 : qis μ (o + 1) L0) (q1 : qis μ (o + 3) L1) (q2 : qis μ (o + 5) L2) (hl : L0.length + (L1.length + L2.length) ≤ 12) :
    Ct l B D E yX2_rise (.code yX2_rise cX2_rise 1 none) rm_X2_rise [.ref (pl B o)] μ (fun v m => v = none ∧ (∀ a, a ≠ o + 1 → a ≠ o + 2 → a ≠ o + 3 → a ≠ o + 5 → m a = μ a) ∧ qis m (o + 1) (L0 ++ (L1 ++ L2)) ∧ qis m (o + 3) [] ∧ qis m (o + 5) []) NX := by
  have s0 := q0.1
  have s1 := q1.1
  have s2 := q2.1
  generalize hm : mup (mjoins μ (o + 3) (o + 1) (μ (o + 3) 1).toNat) (o + 3) 1 0 = m1
  have o1 : ∀ a, a ≠ o + 1 → a ≠ o + 2 → a ≠ o + 3 → m1 a = μ a := fun a z1 z2 z3 => by
    rw [← hm]; funext b; rw [mup_nk z3, mjoins_other z1 z2]
  have r0 : qis m1 (o + 1) (L0 ++ L1) := by
    rw [← hm, s1]
    exact qis_c (by funext b; exact mup_nk (by omega)) (by funext b; exact mup_nk (by omega)) (qis_m (by omega) (by omega) (by omega) q1 q0)
  have r1 : qis m1 (o + 3) [] := by rw [← hm]; exact qis_e
  have r2 : qis m1 (o + 5) L2 := qis_c (o1 _ (by omega) (by omega) (by omega)) (o1 _ (by omega) (by omega) (by omega)) q2
  have z0 := r0.1
  have z2 := r2.1
  rw [List.length_append] at z0
  refine ct_of (own := RX2) (lv := [(0, _)]) hst (by decide) rfl rfl (Nat.le_of_ble_eq_true rfl) fun a h r t => ?_
  refine v_aload_n (pc := 0) h (dk dt_X2_rise 0 rfl) rfl ?_
  refine v_getr (pc := 1) h ci2 (V_hd hr) (Nat.le_of_ble_eq_true rfl) (j := 1) wF_X2_16 rfl (dk dt_X2_rise 1 rfl) ?_
  refine v_aload_n (pc := 4) h (dk dt_X2_rise 2 rfl) rfl ?_
  refine v_getr (pc := 5) h ci2 (V_hd hr) (Nat.le_of_ble_eq_true rfl) (j := 0) wF_X2_10 rfl (dk dt_X2_rise 3 rfl) ?_
  refine v_cVv (pc := 8) h (c_X3_moveTo h.quiet (V_mid hr) (V_low hr) ⟨by omega, by omega, by omega⟩ (by omega)) kv_X3_moveTo (V_mid hr).1 wM_X2_25 rfl rfl (Nat.le_of_ble_eq_true rfl) (RM.of rfl) rfl rfl (dk dt_X2_rise 4 rfl) ?_
  rw [hm]
  refine v_aload_n (pc := 11) h (dk dt_X2_rise 5 rfl) rfl ?_
  refine v_getr (pc := 12) h ci2 (V_hd hr) (Nat.le_of_ble_eq_true rfl) (j := 2) wF_X2_19 rfl (dk dt_X2_rise 6 rfl) ?_
  refine v_aload_n (pc := 15) h (dk dt_X2_rise 7 rfl) rfl ?_
  refine v_getr (pc := 16) h ci2 (V_hd hr) (Nat.le_of_ble_eq_true rfl) (j := 0) wF_X2_10 rfl (dk dt_X2_rise 8 rfl) ?_
  refine v_cVv (pc := 19) h (c_X3_moveTo h.quiet (V_high hr) (V_low hr) ⟨by omega, by omega, by omega⟩ (by omega)) kv_X3_moveTo (V_high hr).1 wM_X2_25 rfl rfl (Nat.le_of_ble_eq_true rfl) (RM.of rfl) rfl rfl (dk dt_X2_rise 9 rfl) ?_
  exact v_vret (pc := 22) h r (dk dt_X2_rise 10 rfl) (Nat.le_of_ble_eq_true rfl) (Nat.le_of_ble_eq_true rfl) ⟨rfl, fun a y1 y2 y3 y5 => by rw [← o1 a y1 y2 y3]; funext b; rw [mup_nk y5, mjoins_other y1 y2], by rw [z2, ← List.append_assoc]; exact qis_c (by funext b; exact mup_nk (by omega)) (by funext b; exact mup_nk (by omega)) (qis_m (by omega) (by omega) (by omega) r2 r0), qis_c (by funext b; rw [mup_nk (by omega), mjoins_other (by omega) (by omega)]) (by funext b; rw [mup_nk (by omega), mjoins_other (by omega) (by omega)]) r1, qis_e⟩
end
