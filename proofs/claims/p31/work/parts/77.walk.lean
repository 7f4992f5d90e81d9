/-! ===== the law's walk through a run: one moment ===== -/
/-- what stands behind the run that is walked through -/
def WX (J : Mm) (n : Nat) (K : Nat → Int) (T : Nat) (g : Nat → Int) (m1 : Mm) : Prop :=
  (hOK m1 ∧ m1 1 9 = (n : Int) ∧ m1 0 7 = 1) ∧ (okD J n ∧ okK K) ∧ (m1 47 0 = (T : Int) ∧ T ≤ 2264 ∧ ∀ t : Nat, t < T → m1 49 t = g t) ∧ (m1 3 = J 0 ∧ m1 5 = J 1 ∧ m1 7 = J 2) ∧ eqA J n (m1 124)
def anL (J σ : Mm) : Nat → Int
  | 0 => 0
  | i + 1 => if rdL J σ i then 1 else anL J σ i
theorem anL_b (J σ : Mm) : ∀ i : Nat, anL J σ i = 0 ∨ anL J σ i = 1 := by
  intro i
  induction i with
  | zero => exact Or.inl rfl
  | succ i ih => simp only [anL]; split; exact Or.inr rfl; exact ih
theorem anL_is (J σ : Mm) : ∀ i : Nat, anL J σ i = 1 ↔ ∃ k, k < i ∧ rdL J σ k := by
  intro i
  induction i with
  | zero => exact ⟨fun q => by have q : (0 : Int) = 1 := q; omega, fun ⟨k, q, _⟩ => absurd q (by omega)⟩
  | succ i ih =>
    simp only [anL]
    by_cases q : rdL J σ i
    · rw [if_pos q]; exact ⟨fun _ => ⟨i, by omega, q⟩, fun _ => rfl⟩
    · rw [if_neg q, ih]
      constructor
      · rintro ⟨k, k1, k2⟩; exact ⟨k, by omega, k2⟩
      · rintro ⟨k, k1, k2⟩
        by_cases e : k = i
        · rw [e] at k2; exact absurd k2 q
        · exact ⟨k, by omega, k2⟩
theorem anL_or (J σ : Mm) (i : Nat) : bor (anL J σ i) (if rdL J σ i then 1 else 0) = anL J σ (i + 1) := by
  simp only [anL]
  by_cases q : rdL J σ i
  · rw [if_pos q, if_pos q]; rcases anL_b J σ i with e | e <;> rw [e] <;> decide
  · rw [if_neg q, if_neg q]; rcases anL_b J σ i with e | e <;> rw [e] <;> decide
section
variable {a : Ax} {B : Nat} {D : va_G} {E : Nat → ClassId} {J : Mm} {n : Nat} {K : Nat → Int} {g : Nat → Int} {m m1 : Mm} {s s' : St} {t T : Nat}
theorem WX.frame {u : Nat} {a0 a1 a2 a5 : Nat → Int} (hX : WX J n K T g m1) (hW : WIm J n g m1 m t u a0 a1 a2 a5) : WX J n K T g m := by
  obtain ⟨⟨h1, h2, h3⟩, ⟨h4, h5⟩, ⟨h6, h7, h8⟩, ⟨h9, h10, h11⟩, h12⟩ := hX
  have e : ∀ a, a < 124 → m a = m1 a := fun a q => hW.1 a (by omega) (by omega) (by omega)
  refine ⟨⟨hO_c (fun a q => e a (by omega)) h1, by rw [e 1 (by decide)]; exact h2, by rw [e 0 (by decide)]; exact h3⟩, ⟨h4, h5⟩, ⟨by rw [e 47 (by decide)]; exact h6, h7, by rw [e 49 (by decide)]; exact h8⟩, ⟨by rw [e 3 (by decide)]; exact h9, by rw [e 5 (by decide)]; exact h10, by rw [e 7 (by decide)]; exact h11⟩, hW.eqA h12 h4⟩
/-- what the house says is left -/
theorem WX.left (hX : WX J n K T g m1) (hl : ∀ j, s.1 0 j = lfT J g t j) (ht : t ≤ T) (k : Nat) : lfF (m1 5) (m1 49) (m1 47 0) k (t : Int) = s.1 0 k := by
  obtain ⟨-, -, ⟨h6, -, h8⟩, ⟨-, h10, -⟩, -⟩ := hX
  rw [lf_min (t := t) (by omega) (Or.inl (Int.le_refl _)), h10, hl]
  simp only [lfT]
  rw [cnt_pre (fun b hb => h8 b (by omega))]
theorem w_inner (h : Ac a B D E RL cL_walks 20 rm_L_walks) (hX : WX J n K T g m1) (hs : vS J n K s) (h66 : s.1 6 6 = (t : Int)) (hst : stG J n K s s' (g t)) (hl : ∀ j, s.1 0 j = lfT J g t j) (ht : t < T)
    (next : ∀ m, WIm J n g m1 m t (t + 1) (s.1 0) (s.1 1) (s'.1 2) (s'.1 5) → VV a B (SP B D E m) 20 120 302 [(18, iI (n : Int)), (17, iI (wkS (m1 3) (m1 5) (m1 49) (m1 47 0) (t : Int) n)), (16, iI (anL J s.1 n)), (15, iI (g t)), (14, iI (t : Int)), (13, iI (cntB g t)), (12, iI (cntW g t)), (11, iI (ckS g (t + 1))), (10, iI (chgN g t)), (9, iI (lstN g t)), (8, iI (ufN (s.1 0) n)), (7, iI (T : Int)), (0, .ref (pl B 0)), (1, .ref (pl B 124)), (2, iI (n : Int)), (3, iI (K 0)), (4, iI (K 2)), (5, .ref (pl B 125)), (6, .ref (pl B 126))] []) :
    ∀ (d i : Nat) (m : Mm), i + d = n → WIm J n g m1 m t (t + 1) (s.1 0) (s.1 1) (rw2 s s' i) (rw5 s s' i) → VV a B (SP B D E m) 20 120 161 [(18, iI (i : Int)), (17, iI (wkS (m1 3) (m1 5) (m1 49) (m1 47 0) (t : Int) i)), (16, iI (anL J s.1 i)), (15, iI (g t)), (14, iI (t : Int)), (13, iI (cntB g t)), (12, iI (cntW g t)), (11, iI (ckS g (t + 1))), (10, iI (chgN g t)), (9, iI (lstN g t)), (8, iI (ufN (s.1 0) n)), (7, iI (T : Int)), (0, .ref (pl B 0)), (1, .ref (pl B 124)), (2, iI (n : Int)), (3, iI (K 0)), (4, iI (K 2)), (5, .ref (pl B 125)), (6, .ref (pl B 126))] [] := by
  have hD := hX.2.1.1
  have hT := hX.2.2.1.2.1
  have hn12 : n ≤ 12 := by have := hD.1; omega
  intro d
  induction d with
  | zero =>
    intro i m hi hW
    have ei : i = n := by omega
    subst ei
    refine v_iload (pc := 161) h (dk dt_L_walks_1 40 rfl) rfl ?_
    refine v_iload_n (pc := 163) h (dk dt_L_walks_1 41 rfl) rfl ?_
    refine v_icmp_ge (pc := 164) h 302 (dk dt_L_walks_1 42 rfl) rfl (by omega) (fun c164 => ?_) (fun c164 => ?_)
    ·
      exact VV.loc (next m (WIm_c hW (fun _ _ => rfl) (fun _ _ => rfl) (fun k hk => (if_pos hk).symm) (fun k hk => (if_pos hk).symm))) ⟨rfl, rfl, rfl, rfl, rfl, rfl, rfl, rfl, rfl, rfl, rfl, rfl, rfl, rfl, rfl, rfl, rfl, rfl, rfl, trivial⟩
    ·
      exact absurd c164 (by omega)
  | succ d ih =>
    intro i m hi hW
    have hin : i < n := by omega
    have hB := hs.1.2 i hin
    have hle : leA J s.1 n := fun k hk => (hs.1.2 k hk).2.1
    have hJ := okD_l hD hin
    have hJc := okD_c hD hin
    have hcm := com_iff hD hs hin
    rw [h66] at hcm
    have h5 := hst.2.1 i
    have h2 := hst.2.2.1 i
    rw [h66] at h5 h2
    have e22 : m 124 (60 * (i : Int) + 22).toNat = if s.1 5 i = 1 then s.1 2 i else -1 := by
      rw [show (60 * (i : Int) + 22).toNat = 60 * i + 22 by omega]
      have c3 := (hW.2.2.1 i hin).2.2.1
      have r5 : rw5 s s' i i = s.1 5 i := if_neg (Nat.lt_irrefl i)
      have r2 : rw2 s s' i i = s.1 2 i := if_neg (Nat.lt_irrefl i)
      rw [r5, r2] at c3
      exact c3
    have hb2 := hB.2.2.2.2.2.1
    rw [h66] at hb2
    have go255 : ∀ m', WIm J n g m1 m' t (t + 1) (s.1 0) (s.1 1) (rw2 s s' (i + 1)) (rw5 s s' (i + 1)) → VV a B (SP B D E m') 20 120 255 [(18, iI (i : Int)), (17, iI (wkS (m1 3) (m1 5) (m1 49) (m1 47 0) (t : Int) i)), (16, iI (anL J s.1 (i + 1))), (15, iI (g t)), (14, iI (t : Int)), (13, iI (cntB g t)), (12, iI (cntW g t)), (11, iI (ckS g (t + 1))), (10, iI (chgN g t)), (9, iI (lstN g t)), (8, iI (ufN (s.1 0) n)), (7, iI (T : Int)), (0, .ref (pl B 0)), (1, .ref (pl B 124)), (2, iI (n : Int)), (3, iI (K 0)), (4, iI (K 2)), (5, .ref (pl B 125)), (6, .ref (pl B 126))] [] := by
      intro m' hW'
      have hA' := (hX.frame hW').2.2.2.2 i hin
      have e0 : m' 124 (60 * (i : Int)).toNat = J 0 i := by rw [show (60 * (i : Int)).toNat = 60 * i by omega]; exact hA'.1
      have e1 : m' 124 (60 * (i : Int) + 1).toNat = J 1 i := by rw [show (60 * (i : Int) + 1).toNat = 60 * i + 1 by omega]; exact hA'.2.1
      have e20 : m' 124 (60 * (i : Int) + 20).toNat = J 1 i - s.1 0 i := by rw [show (60 * (i : Int) + 20).toNat = 60 * i + 20 by omega]; exact (hW'.2.2.1 i hin).1
      have elf := hX.left hl (by omega) i
      have c0 : m1 3 i = J 0 i := by rw [hX.2.2.2.1.1]
      have eN : ¬ J 0 i ≤ (t : Int) → wkS (m1 3) (m1 5) (m1 49) (m1 47 0) (t : Int) (i + 1) = wkS (m1 3) (m1 5) (m1 49) (m1 47 0) (t : Int) i + 0 := fun q => by rw [wkS, c0, if_neg q]
      have eY : J 0 i ≤ (t : Int) → wkS (m1 3) (m1 5) (m1 49) (m1 47 0) (t : Int) (i + 1) = wkS (m1 3) (m1 5) (m1 49) (m1 47 0) (t : Int) i + (J 1 i - (J 1 i - s.1 0 i)) := fun q => by rw [wkS, c0, if_pos q, elf]; omega
      refine v_iload (pc := 255) h (dk dt_L_walks_2 33 rfl) rfl ?_
      refine v_aload_n (pc := 257) h (dk dt_L_walks_2 34 rfl) rfl ?_
      refine v_bipush (pc := 258) h (dk dt_L_walks_2 35 rfl) rfl ?_
      refine v_iload (pc := 260) h (dk dt_L_walks_2 36 rfl) rfl ?_
      refine v_imul (pc := 262) h (dk dt_L_walks_2 37 rfl) ?_
      refine v_iald (pc := 263) h sh124 (Nat.le_of_ble_eq_true rfl) (by omega) (dk dt_L_walks_2 38 rfl) ?_
      rw [e0]
      refine v_iload (pc := 264) h (dk dt_L_walks_2 39 rfl) rfl ?_
      refine v_icmp_gt (pc := 266) h 292 (dk dt_L_walks_2 40 rfl) rfl (by omega) (fun c266 => ?_) (fun c266 => ?_)
      ·
        refine v_iconst (pc := 292) h (dk dt_L_walks_2 57 rfl) ?_
        refine v_iadd (pc := 293) h (dk dt_L_walks_2 58 rfl) ?_
        refine v_istore (lv' := [(17, _), (18, _), (16, _), (15, _), (14, _), (13, _), (12, _), (11, _), (10, _), (9, _), (8, _), (7, _), (0, _), (1, _), (2, _), (3, _), (4, _), (5, _), (6, _)]) (pc := 294) h (dk dt_L_walks_2 59 rfl) (Nat.le_of_ble_eq_true rfl) rfl ?_
        refine v_iinc (lv' := [(18, _), (17, _), (16, _), (15, _), (14, _), (13, _), (12, _), (11, _), (10, _), (9, _), (8, _), (7, _), (0, _), (1, _), (2, _), (3, _), (4, _), (5, _), (6, _)]) (pc := 296) h (dk dt_L_walks_2 60 rfl) rfl (Nat.le_of_ble_eq_true rfl) rfl ?_
        refine v_goto (pc := 299) h 161 (dk dt_L_walks_2 61 rfl) rfl ?_
        first
          | exact VV.loc (ih (i + 1) m' (by omega) hW') ⟨rfl, lvI (eN (by omega)).symm, rfl, rfl, rfl, rfl, rfl, rfl, rfl, rfl, rfl, rfl, rfl, rfl, rfl, rfl, rfl, rfl, rfl, trivial⟩
          | exact VV.loc (ih (i + 1) m' (by omega) hW') ⟨rfl, lvI (eY (by omega)).symm, rfl, rfl, rfl, rfl, rfl, rfl, rfl, rfl, rfl, rfl, rfl, rfl, rfl, rfl, rfl, rfl, rfl, trivial⟩
      ·
        refine v_aload_n (pc := 269) h (dk dt_L_walks_2 41 rfl) rfl ?_
        refine v_bipush (pc := 270) h (dk dt_L_walks_2 42 rfl) rfl ?_
        refine v_iload (pc := 272) h (dk dt_L_walks_2 43 rfl) rfl ?_
        refine v_imul (pc := 274) h (dk dt_L_walks_2 44 rfl) ?_
        refine v_iconst (pc := 275) h (dk dt_L_walks_2 45 rfl) ?_
        refine v_iadd (pc := 276) h (dk dt_L_walks_2 46 rfl) ?_
        refine v_iald (pc := 277) h sh124 (Nat.le_of_ble_eq_true rfl) (by omega) (dk dt_L_walks_2 47 rfl) ?_
        rw [e1]
        refine v_aload_n (pc := 278) h (dk dt_L_walks_2 48 rfl) rfl ?_
        refine v_bipush (pc := 279) h (dk dt_L_walks_2 49 rfl) rfl ?_
        refine v_iload (pc := 281) h (dk dt_L_walks_2 50 rfl) rfl ?_
        refine v_imul (pc := 283) h (dk dt_L_walks_2 51 rfl) ?_
        refine v_bipush (pc := 284) h (dk dt_L_walks_2 52 rfl) rfl ?_
        refine v_iadd (pc := 286) h (dk dt_L_walks_2 53 rfl) ?_
        refine v_iald (pc := 287) h sh124 (Nat.le_of_ble_eq_true rfl) (by omega) (dk dt_L_walks_2 54 rfl) ?_
        rw [e20]
        refine v_isub (pc := 288) h (dk dt_L_walks_2 55 rfl) ?_
        refine v_goto (pc := 289) h 293 (dk dt_L_walks_2 56 rfl) rfl ?_
        refine v_iadd (pc := 293) h (dk dt_L_walks_2 58 rfl) ?_
        refine v_istore (lv' := [(17, _), (18, _), (16, _), (15, _), (14, _), (13, _), (12, _), (11, _), (10, _), (9, _), (8, _), (7, _), (0, _), (1, _), (2, _), (3, _), (4, _), (5, _), (6, _)]) (pc := 294) h (dk dt_L_walks_2 59 rfl) (Nat.le_of_ble_eq_true rfl) rfl ?_
        refine v_iinc (lv' := [(18, _), (17, _), (16, _), (15, _), (14, _), (13, _), (12, _), (11, _), (10, _), (9, _), (8, _), (7, _), (0, _), (1, _), (2, _), (3, _), (4, _), (5, _), (6, _)]) (pc := 296) h (dk dt_L_walks_2 60 rfl) rfl (Nat.le_of_ble_eq_true rfl) rfl ?_
        refine v_goto (pc := 299) h 161 (dk dt_L_walks_2 61 rfl) rfl ?_
        first
          | exact VV.loc (ih (i + 1) m' (by omega) hW') ⟨rfl, lvI (eN (by omega)).symm, rfl, rfl, rfl, rfl, rfl, rfl, rfl, rfl, rfl, rfl, rfl, rfl, rfl, rfl, rfl, rfl, rfl, trivial⟩
          | exact VV.loc (ih (i + 1) m' (by omega) hW') ⟨rfl, lvI (eY (by omega)).symm, rfl, rfl, rfl, rfl, rfl, rfl, rfl, rfl, rfl, rfl, rfl, rfl, rfl, rfl, rfl, rfl, rfl, trivial⟩
    have go215 : ∀ m' (x : Value), WIm J n g m1 m' t (t + 1) (s.1 0) (s.1 1) (rw2 s s' (i + 1)) (rw5 s s' (i + 1)) → VV a B (SP B D E m') 20 120 215 [(16, iI (anL J s.1 (i + 1))), (19, x), (18, iI (i : Int)), (17, iI (wkS (m1 3) (m1 5) (m1 49) (m1 47 0) (t : Int) i)), (15, iI (g t)), (14, iI (t : Int)), (13, iI (cntB g t)), (12, iI (cntW g t)), (11, iI (ckS g (t + 1))), (10, iI (chgN g t)), (9, iI (lstN g t)), (8, iI (ufN (s.1 0) n)), (7, iI (T : Int)), (0, .ref (pl B 0)), (1, .ref (pl B 124)), (2, iI (n : Int)), (3, iI (K 0)), (4, iI (K 2)), (5, .ref (pl B 125)), (6, .ref (pl B 126))] [] := by
      intro m' x hW'
      have hX' := hX.frame hW'
      have hA' := hX'.2.2.2.2 i hin
      have e1 : m' 124 (60 * (i : Int) + 1).toNat = J 1 i := by rw [show (60 * (i : Int) + 1).toNat = 60 * i + 1 by omega]; exact hA'.2.1
      have e20 : m' 124 (60 * (i : Int) + 20).toNat = J 1 i - s.1 0 i := by rw [show (60 * (i : Int) + 20).toNat = 60 * i + 20 by omega]; exact (hW'.2.2.1 i hin).1
      have elf : lfF (m' 5) (m' 49) (m' 47 0) (i : Int).toNat (t : Int) = J 1 i - (J 1 i - s.1 0 i) := by rw [Int.toNat_natCast, hX'.left hl (by omega) i]; omega
      have hni : m' 1 9 = (n : Int) := hX'.1.2.1
      refine v_iload (pc := 215) h (dk dt_L_walks_2 7 rfl) rfl ?_
      refine v_iconst (pc := 217) h (dk dt_L_walks_2 8 rfl) ?_
      refine v_irem (pc := 218) h (dk dt_L_walks_2 9 rfl) (by omega) (by omega) ?_
      refine v_if_ne (pc := 219) h 255 (dk dt_L_walks_2 10 rfl) rfl (by omega) (fun c219 => ?_) (fun c219 => ?_)
      ·
        exact VV.loc (go255 m' hW') ⟨rfl, rfl, rfl, rfl, rfl, rfl, rfl, rfl, rfl, rfl, rfl, rfl, rfl, rfl, rfl, rfl, rfl, rfl, rfl, trivial⟩
      ·
        refine v_aload_n (pc := 222) h (dk dt_L_walks_2 11 rfl) rfl ?_
        refine v_iload (pc := 223) h (dk dt_L_walks_2 12 rfl) rfl ?_
        refine v_iload (pc := 225) h (dk dt_L_walks_2 13 rfl) rfl ?_
        refine v_cVi (pc := 227) h (cz_left h.quiet hX'.1.1 (by omega) (by omega) (by omega) (by omega) hX'.1.2.2) kv_X11_left sh0 wM_L_101 rfl rfl (Nat.le_of_ble_eq_true rfl) (RM.of rfl) rfl rfl (dk dt_L_walks_2 14 rfl) ?_
        rw [elf]
        refine v_aload_n (pc := 230) h (dk dt_L_walks_2 15 rfl) rfl ?_
        refine v_bipush (pc := 231) h (dk dt_L_walks_2 16 rfl) rfl ?_
        refine v_iload (pc := 233) h (dk dt_L_walks_2 17 rfl) rfl ?_
        refine v_imul (pc := 235) h (dk dt_L_walks_2 18 rfl) ?_
        refine v_iconst (pc := 236) h (dk dt_L_walks_2 19 rfl) ?_
        refine v_iadd (pc := 237) h (dk dt_L_walks_2 20 rfl) ?_
        refine v_iald (pc := 238) h sh124 (Nat.le_of_ble_eq_true rfl) (by omega) (dk dt_L_walks_2 21 rfl) ?_
        rw [e1]
        refine v_aload_n (pc := 239) h (dk dt_L_walks_2 22 rfl) rfl ?_
        refine v_bipush (pc := 240) h (dk dt_L_walks_2 23 rfl) rfl ?_
        refine v_iload (pc := 242) h (dk dt_L_walks_2 24 rfl) rfl ?_
        refine v_imul (pc := 244) h (dk dt_L_walks_2 25 rfl) ?_
        refine v_bipush (pc := 245) h (dk dt_L_walks_2 26 rfl) rfl ?_
        refine v_iadd (pc := 247) h (dk dt_L_walks_2 27 rfl) ?_
        refine v_iald (pc := 248) h sh124 (Nat.le_of_ble_eq_true rfl) (by omega) (dk dt_L_walks_2 28 rfl) ?_
        rw [e20]
        refine v_isub (pc := 249) h (dk dt_L_walks_2 29 rfl) ?_
        refine v_icmp_eqS (pc := 250) h 255 (dk dt_L_walks_2 30 rfl) rfl ?_
        exact VV.loc (go255 m' hW') ⟨rfl, rfl, rfl, rfl, rfl, rfl, rfl, rfl, rfl, rfl, rfl, rfl, rfl, rfl, rfl, rfl, rfl, rfl, rfl, trivial⟩
    refine v_iload (pc := 161) h (dk dt_L_walks_1 40 rfl) rfl ?_
    refine v_iload_n (pc := 163) h (dk dt_L_walks_1 41 rfl) rfl ?_
    refine v_icmp_ge (pc := 164) h 302 (dk dt_L_walks_1 42 rfl) rfl (by omega) (fun c164 => ?_) (fun c164 => ?_)
    ·
      exact absurd c164 (by omega)
    ·
      refine v_aload_n (pc := 167) h (dk dt_L_walks_1 43 rfl) rfl ?_
      refine v_iload_n (pc := 168) h (dk dt_L_walks_1 44 rfl) rfl ?_
      refine v_iload (pc := 169) h (dk dt_L_walks_1 45 rfl) rfl ?_
      refine v_iload (pc := 171) h (dk dt_L_walks_1 46 rfl) rfl ?_
      refine v_cSi (pc := 173) h (c_L_isReady (J := J) (σ := s.1) (n := n) (k := i) h.quiet hD (hX.frame hW).2.2.2.2 hW.dnA hle hin h66 (by omega)) kv_L_isReady wM_L_97 rfl rfl (Nat.le_of_ble_eq_true rfl) (RM.of rfl) rfl rfl (dk dt_L_walks_1 47 rfl) ?_
      refine v_istore (lv' := [(19, _), (18, _), (17, _), (16, _), (15, _), (14, _), (13, _), (12, _), (11, _), (10, _), (9, _), (8, _), (7, _), (0, _), (1, _), (2, _), (3, _), (4, _), (5, _), (6, _)]) (pc := 176) h (dk dt_L_walks_1 48 rfl) (Nat.le_of_ble_eq_true rfl) rfl ?_
      refine v_iload (pc := 178) h (dk dt_L_walks_1 49 rfl) rfl ?_
      refine v_iload (pc := 180) h (dk dt_L_walks_1 50 rfl) rfl ?_
      refine v_ior (pc := 182) h (dk dt_L_walks_1 51 rfl) ?_
      rw [anL_or]
      refine v_istore (lv' := [(16, _), (19, _), (18, _), (17, _), (15, _), (14, _), (13, _), (12, _), (11, _), (10, _), (9, _), (8, _), (7, _), (0, _), (1, _), (2, _), (3, _), (4, _), (5, _), (6, _)]) (pc := 183) h (dk dt_L_walks_1 52 rfl) (Nat.le_of_ble_eq_true rfl) rfl ?_
      refine v_iload (pc := 185) h (dk dt_L_walks_1 53 rfl) rfl ?_
      refine v_if_eq (pc := 187) h 215 (dk dt_L_walks_1 54 rfl) rfl (by split <;> omega) (fun c187 => ?_) (fun c187 => ?_)
      ·
        have nr : ¬ rdL J s.1 i := fun q => by rw [if_pos q] at c187; omega
        first
          | exact go215 _ _ (W_new hin hW (by rw [h2, if_pos ⟨hin, hcm.mpr ⟨yr, n5⟩⟩]) (by rw [h5, if_pos ⟨hin, hcm.mpr ⟨yr, n5⟩⟩]) n5)
          | exact go215 _ _ (W_old hin hW (by rw [h2, if_neg (fun q => (hcm.mp q.2).2 y5)]) (by rw [h5, if_neg (fun q => (hcm.mp q.2).2 y5)]))
          | exact go215 _ _ (W_old hin hW (by rw [h2, if_neg (fun q => nr (hcm.mp q.2).1)]) (by rw [h5, if_neg (fun q => nr (hcm.mp q.2).1)]))
      ·
        have yr : rdL J s.1 i := by by_cases q : rdL J s.1 i; exact q; rw [if_neg q] at c187; exact absurd rfl c187
        refine v_aload_n (pc := 190) h (dk dt_L_walks_1 55 rfl) rfl ?_
        refine v_bipush (pc := 191) h (dk dt_L_walks_1 56 rfl) rfl ?_
        refine v_iload (pc := 193) h (dk dt_L_walks_1 57 rfl) rfl ?_
        refine v_imul (pc := 195) h (dk dt_L_walks_1 58 rfl) ?_
        refine v_bipush (pc := 196) h (dk dt_L_walks_1 59 rfl) rfl ?_
        refine v_iadd (pc := 198) h (dk dt_L_walks_1 60 rfl) ?_
        refine v_iald (pc := 199) h sh124 (Nat.le_of_ble_eq_true rfl) (by omega) (dk dt_L_walks_1 61 rfl) ?_
        rw [e22]
        refine v_if_ge (pc := 200) h 215 (dk dt_L_walks_1 62 rfl) rfl (by split <;> omega) (fun c200 => ?_) (fun c200 => ?_)
        ·
          have y5 : s.1 5 i = 1 := by by_cases q : s.1 5 i = 1; exact q; rw [if_neg q] at c200; omega
          first
            | exact go215 _ _ (W_new hin hW (by rw [h2, if_pos ⟨hin, hcm.mpr ⟨yr, n5⟩⟩]) (by rw [h5, if_pos ⟨hin, hcm.mpr ⟨yr, n5⟩⟩]) n5)
            | exact go215 _ _ (W_old hin hW (by rw [h2, if_neg (fun q => (hcm.mp q.2).2 y5)]) (by rw [h5, if_neg (fun q => (hcm.mp q.2).2 y5)]))
            | exact go215 _ _ (W_old hin hW (by rw [h2, if_neg (fun q => nr (hcm.mp q.2).1)]) (by rw [h5, if_neg (fun q => nr (hcm.mp q.2).1)]))
        ·
          have n5 : s.1 5 i ≠ 1 := fun q => by rw [if_pos q] at c200; omega
          refine v_aload_n (pc := 203) h (dk dt_L_walks_1 63 rfl) rfl ?_
          refine v_bipush (pc := 204) h (dk dt_L_walks_2 0 rfl) rfl ?_
          refine v_iload (pc := 206) h (dk dt_L_walks_2 1 rfl) rfl ?_
          refine v_imul (pc := 208) h (dk dt_L_walks_2 2 rfl) ?_
          refine v_bipush (pc := 209) h (dk dt_L_walks_2 3 rfl) rfl ?_
          refine v_iadd (pc := 211) h (dk dt_L_walks_2 4 rfl) ?_
          refine v_iload (pc := 212) h (dk dt_L_walks_2 5 rfl) rfl ?_
          refine v_iast (pc := 214) h sh124 (Nat.le_of_ble_eq_true rfl) (by omega) (dk dt_L_walks_2 6 rfl) ?_
          rw [show (60 * (i : Int) + 22).toNat = 60 * i + 22 by omega]
          first
            | exact go215 _ _ (W_new hin hW (by rw [h2, if_pos ⟨hin, hcm.mpr ⟨yr, n5⟩⟩]) (by rw [h5, if_pos ⟨hin, hcm.mpr ⟨yr, n5⟩⟩]) n5)
            | exact go215 _ _ (W_old hin hW (by rw [h2, if_neg (fun q => (hcm.mp q.2).2 y5)]) (by rw [h5, if_neg (fun q => (hcm.mp q.2).2 y5)]))
            | exact go215 _ _ (W_old hin hW (by rw [h2, if_neg (fun q => nr (hcm.mp q.2).1)]) (by rw [h5, if_neg (fun q => nr (hcm.mp q.2).1)]))
end
