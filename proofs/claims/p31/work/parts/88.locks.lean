/-! ===== the law: lock stretches are told ===== -/
section
variable {a : Ax} {B : Nat} {D : va_G} {E : Nat → ClassId} {k : Nat} {wp : Int} {m : Mm} {P : Pv} {X : Px} {l : Launch} {μ : Mm}
/-- behind the draws: the call, what is kept of it -/
theorem l_told (h : Ac a B D E RL cL_locks 10 rm_L_locks) (r : Rt a B D E (some .boolean) P X rm_L_locks.cells rm_L_locks.slots) (hk : k < 12) (hT : TI (k + 1) wp m) {y f u : Int} (hy : 0 ≤ y ∧ y ≤ 2) (hf : 0 ≤ f ∧ f < u ∧ u ≤ m 5 k)
    (hp : ∀ m', TI (k + 1) wp m' → P (some (iI 1)) m') :
    VV a B (SP B D E m) 0 0 110 [(8, iI (alP (fun q => decide (u ≤ m 17 (3 * k + q) ∨ m 19 (3 * k + q) ≤ f)) (m 13 k).toNat)), (7, iI u), (6, iI f), (5, iI y), (4, iI (60 * (k : Int))), (0, .ref (pl B 0)), (1, .ref (pl B 123)), (2, .ref (pl B 124)), (3, iI (k : Int))] [] := by
  have hO := hT.1
  have hn := hT.2.1
  have hA := hT.2.2.1 k (by omega)
  have hJ := hO.J.2 k (by omega)
  have f5 : m 124 (60 * (k : Int) + 5).toNat = m 13 k := by rw [show (60 * (k : Int) + 5).toNat = 60 * k + 5 by omega]; exact hA.2.2.2.2.2.1
  have hov : ovl (m 13) (m 17) (m 19) k f u ↔ ¬ alP (fun q => decide (u ≤ m 17 (3 * k + q) ∨ m 19 (3 * k + q) ≤ f)) (m 13 k).toNat = 1 := by
    constructor
    · rintro ⟨i, i1, i2, i3⟩ q
      have := of_decide_eq_true (alP_y q i i1)
      omega
    · intro q
      by_cases w : ovl (m 13) (m 17) (m 19) k f u
      · exact w
      · exfalso
        apply q
        have : ∀ i : Nat, i ≤ (m 13 k).toNat → alP (fun q => decide (u ≤ m 17 (3 * k + q) ∨ m 19 (3 * k + q) ≤ f)) i = 1 := by
          intro i
          induction i with
          | zero => intro _; rfl
          | succ i ih =>
            intro hi
            simp only [alP]
            rw [if_pos (decide_eq_true (by
              by_cases z : u ≤ m 17 (3 * k + i) ∨ m 19 (3 * k + i) ≤ f
              · exact z
              · exact absurd ⟨i, by omega, by omega, by omega⟩ w))]
            exact ih (by omega)
        exact this _ (Nat.le_refl _)
  have hb := alP_b (fun q => decide (u ≤ m 17 (3 * k + q) ∨ m 19 (3 * k + q) ≤ f)) (m 13 k).toNat
  have g1 : ¬ (¬ (0 ≤ (k : Int) ∧ (k : Int) < m 1 9) ∨ ¬ (0 ≤ y ∧ y ≤ 2)) := by omega
  have hrc : rcLk (m 1 9) (m 5) (m 13) (m 17) (m 19) (k : Int) y f u = if ovl (m 13) (m 17) (m 19) k f u then 2 else if 3 ≤ m 13 k then 3 else 0 := by
    unfold rcLk
    rw [if_neg g1, Int.toNat_natCast]
    by_cases w : ovl (m 13) (m 17) (m 19) k f u
    · rw [if_pos (Or.inr w), if_pos w]
    · rw [if_neg (fun z => by rcases z with z | z; exact z hf; exact w z), if_neg w]
  generalize alP (fun q => decide (u ≤ m 17 (3 * k + q) ∨ m 19 (3 * k + q) ≤ f)) (m 13 k).toNat = al at *
  by_cases w : ovl (m 13) (m 17) (m 19) k f u
  · rw [if_pos w] at hrc
    have e0 : al = 0 := by rcases hb with e | e; exact e; exact absurd e (hov.mp w)
    refine v_aload_n (pc := 110) h (dk dt_L_locks_1 6 rfl) rfl ?_
    refine v_iconst (pc := 111) h (dk dt_L_locks_1 7 rfl) ?_
    refine v_iload_n (pc := 112) h (dk dt_L_locks_1 8 rfl) rfl ?_
    refine v_iload (pc := 113) h (dk dt_L_locks_1 9 rfl) rfl ?_
    refine v_iload (pc := 115) h (dk dt_L_locks_1 10 rfl) rfl ?_
    refine v_iload (pc := 117) h (dk dt_L_locks_1 11 rfl) rfl ?_
    refine v_callH (pc := 119) h (d_lock h.quiet hO (by omega) (by omega)) kh_L_done wM_L_84 rfl rfl (Nat.le_of_ble_eq_true rfl) (RM.of rfl) (dk dt_L_locks_1 12 rfl) (fun v119 μ119 p119 => ?_)
    rcases p119 with ⟨q, -, -⟩ | ⟨-, rfl, rfl⟩
    case inl => rw [hrc] at q; exact absurd q (by decide)
    rw [hrc]
    show VV a B _ _ _ _ _ [iI (-12)]
    refine v_istore (lv' := [(9, _), (8, _), (7, _), (6, _), (5, _), (4, _), (0, _), (1, _), (2, _), (3, _)]) (pc := 122) h (dk dt_L_locks_1 13 rfl) (Nat.le_of_ble_eq_true rfl) rfl ?_
    refine v_iload (pc := 124) h (dk dt_L_locks_1 14 rfl) rfl ?_
    refine v_if_ne (pc := 126) h 142 (dk dt_L_locks_1 15 rfl) rfl (by omega) (fun c126 => ?_) (fun c126 => ?_)
    ·
      exact absurd e0 c126
    ·
      refine v_iload (pc := 129) h (dk dt_L_locks_1 16 rfl) rfl ?_
      refine v_bipush (pc := 131) h (dk dt_L_locks_1 17 rfl) rfl ?_
      refine v_icmp_neS (pc := 133) h 140 (dk dt_L_locks_1 18 rfl) rfl ?_
      refine v_iconst (pc := 136) h (dk dt_L_locks_1 19 rfl) ?_
      refine v_goto (pc := 137) h 141 (dk dt_L_locks_1 20 rfl) rfl ?_
      exact v_zret (pc := 141) h r (dk dt_L_locks_1 22 rfl) (Nat.le_of_ble_eq_true rfl) (Nat.le_of_ble_eq_true rfl) (by omega) (hp _ hT)
  · rw [if_neg w] at hrc
    have e1 : al = 1 := by
      by_cases z : al = 1
      · exact z
      · exact absurd (hov.mpr z) w
    by_cases w3 : 3 ≤ m 13 k
    · rw [if_pos w3] at hrc
      refine v_aload_n (pc := 110) h (dk dt_L_locks_1 6 rfl) rfl ?_
      refine v_iconst (pc := 111) h (dk dt_L_locks_1 7 rfl) ?_
      refine v_iload_n (pc := 112) h (dk dt_L_locks_1 8 rfl) rfl ?_
      refine v_iload (pc := 113) h (dk dt_L_locks_1 9 rfl) rfl ?_
      refine v_iload (pc := 115) h (dk dt_L_locks_1 10 rfl) rfl ?_
      refine v_iload (pc := 117) h (dk dt_L_locks_1 11 rfl) rfl ?_
      refine v_callH (pc := 119) h (d_lock h.quiet hO (by omega) (by omega)) kh_L_done wM_L_84 rfl rfl (Nat.le_of_ble_eq_true rfl) (RM.of rfl) (dk dt_L_locks_1 12 rfl) (fun v119 μ119 p119 => ?_)
      rcases p119 with ⟨q, -, -⟩ | ⟨-, rfl, rfl⟩
      case inl => rw [hrc] at q; exact absurd q (by decide)
      rw [hrc]
      show VV a B _ _ _ _ _ [iI (-13)]
      refine v_istore (lv' := [(9, _), (8, _), (7, _), (6, _), (5, _), (4, _), (0, _), (1, _), (2, _), (3, _)]) (pc := 122) h (dk dt_L_locks_1 13 rfl) (Nat.le_of_ble_eq_true rfl) rfl ?_
      refine v_iload (pc := 124) h (dk dt_L_locks_1 14 rfl) rfl ?_
      refine v_if_ne (pc := 126) h 142 (dk dt_L_locks_1 15 rfl) rfl (by omega) (fun c126 => ?_) (fun c126 => ?_)
      ·
        refine v_aload_n (pc := 142) h (dk dt_L_locks_1 23 rfl) rfl ?_
        refine v_iload (pc := 143) h (dk dt_L_locks_1 24 rfl) rfl ?_
        refine v_iconst (pc := 145) h (dk dt_L_locks_1 25 rfl) ?_
        refine v_iadd (pc := 146) h (dk dt_L_locks_1 26 rfl) ?_
        refine v_iald (pc := 147) h sh124 (Nat.le_of_ble_eq_true rfl) (by omega) (dk dt_L_locks_1 27 rfl) ?_
        rw [f5]
        refine v_iconst (pc := 148) h (dk dt_L_locks_1 28 rfl) ?_
        refine v_icmp_ne (pc := 149) h 165 (dk dt_L_locks_1 29 rfl) rfl (by omega) (fun c149 => ?_) (fun c149 => ?_)
        ·
          exact absurd c149 (by omega)
        ·
          refine v_iload (pc := 152) h (dk dt_L_locks_1 30 rfl) rfl ?_
          refine v_bipush (pc := 154) h (dk dt_L_locks_1 31 rfl) rfl ?_
          refine v_icmp_neS (pc := 156) h 163 (dk dt_L_locks_1 32 rfl) rfl ?_
          refine v_iconst (pc := 159) h (dk dt_L_locks_1 33 rfl) ?_
          refine v_goto (pc := 160) h 164 (dk dt_L_locks_1 34 rfl) rfl ?_
          exact v_zret (pc := 164) h r (dk dt_L_locks_1 36 rfl) (Nat.le_of_ble_eq_true rfl) (Nat.le_of_ble_eq_true rfl) (by omega) (hp _ hT)
      ·
        exact absurd c126 (by omega)
    · rw [if_neg w3] at hrc
      obtain ⟨c, hc⟩ : ∃ c : Nat, m 13 k = (c : Int) := ⟨(m 13 k).toNat, by omega⟩
      have hTl := TI_lock hT hy hf w hc (by omega)
      have i5 : (60 * (k : Int) + 5).toNat = 60 * k + 5 := by omega
      have es : ∀ a, a = 124 → mstretch (mup m 0 7 0) k y f u a = m a := fun a q => by
        subst q
        funext b
        unfold mstretch
        rw [mup_nk (by decide), mup_nk (by decide), mup_nk (by decide), mup_nk (by decide), mup_nk (by decide)]
      have g5 : m 124 (60 * k + 5) = (c : Int) := by rw [← i5, f5, hc]
      refine v_aload_n (pc := 110) h (dk dt_L_locks_1 6 rfl) rfl ?_
      refine v_iconst (pc := 111) h (dk dt_L_locks_1 7 rfl) ?_
      refine v_iload_n (pc := 112) h (dk dt_L_locks_1 8 rfl) rfl ?_
      refine v_iload (pc := 113) h (dk dt_L_locks_1 9 rfl) rfl ?_
      refine v_iload (pc := 115) h (dk dt_L_locks_1 10 rfl) rfl ?_
      refine v_iload (pc := 117) h (dk dt_L_locks_1 11 rfl) rfl ?_
      refine v_callH (pc := 119) h (d_lock h.quiet hO (by omega) (by omega)) kh_L_done wM_L_84 rfl rfl (Nat.le_of_ble_eq_true rfl) (RM.of rfl) (dk dt_L_locks_1 12 rfl) (fun v119 μ119 p119 => ?_)
      rcases p119 with ⟨-, rfl, rfl⟩ | ⟨q, -, -⟩
      case inr => exact absurd hrc q
      rw [Int.toNat_natCast, hc]
      refine v_istore (lv' := [(9, _), (8, _), (7, _), (6, _), (5, _), (4, _), (0, _), (1, _), (2, _), (3, _)]) (pc := 122) h (dk dt_L_locks_1 13 rfl) (Nat.le_of_ble_eq_true rfl) rfl ?_
      refine v_iload (pc := 124) h (dk dt_L_locks_1 14 rfl) rfl ?_
      refine v_if_ne (pc := 126) h 142 (dk dt_L_locks_1 15 rfl) rfl (by omega) (fun c126 => ?_) (fun c126 => ?_)
      ·
        refine v_aload_n (pc := 142) h (dk dt_L_locks_1 23 rfl) rfl ?_
        refine v_iload (pc := 143) h (dk dt_L_locks_1 24 rfl) rfl ?_
        refine v_iconst (pc := 145) h (dk dt_L_locks_1 25 rfl) ?_
        refine v_iadd (pc := 146) h (dk dt_L_locks_1 26 rfl) ?_
        refine v_iald (pc := 147) h sh124 (Nat.le_of_ble_eq_true rfl) (by omega) (dk dt_L_locks_1 27 rfl) ?_
        rw [i5, es 124 rfl, g5]
        refine v_iconst (pc := 148) h (dk dt_L_locks_1 28 rfl) ?_
        refine v_icmp_ne (pc := 149) h 165 (dk dt_L_locks_1 29 rfl) rfl (by omega) (fun c149 => ?_) (fun c149 => ?_)
        ·
          refine v_aload_n (pc := 165) h (dk dt_L_locks_1 37 rfl) rfl ?_
          refine v_iload (pc := 166) h (dk dt_L_locks_1 38 rfl) rfl ?_
          refine v_bipush (pc := 168) h (dk dt_L_locks_1 39 rfl) rfl ?_
          refine v_iadd (pc := 170) h (dk dt_L_locks_1 40 rfl) ?_
          refine v_iconst (pc := 171) h (dk dt_L_locks_1 41 rfl) ?_
          refine v_aload_n (pc := 172) h (dk dt_L_locks_1 42 rfl) rfl ?_
          refine v_iload (pc := 173) h (dk dt_L_locks_1 43 rfl) rfl ?_
          refine v_iconst (pc := 175) h (dk dt_L_locks_1 44 rfl) ?_
          refine v_iadd (pc := 176) h (dk dt_L_locks_1 45 rfl) ?_
          refine v_iald (pc := 177) h sh124 (Nat.le_of_ble_eq_true rfl) (by omega) (dk dt_L_locks_1 46 rfl) ?_
          rw [i5, es 124 rfl, g5]
          refine v_imul (pc := 178) h (dk dt_L_locks_1 47 rfl) ?_
          refine v_iadd (pc := 179) h (dk dt_L_locks_1 48 rfl) ?_
          refine v_iload (pc := 180) h (dk dt_L_locks_1 49 rfl) rfl ?_
          refine v_iast (pc := 182) h sh124 (Nat.le_of_ble_eq_true rfl) (by omega) (dk dt_L_locks_1 50 rfl) ?_
          rw [show (60 * (k : Int) + 6 + 3 * (c : Int)).toNat = 60 * k + 6 + 3 * c by omega]
          refine v_aload_n (pc := 183) h (dk dt_L_locks_1 51 rfl) rfl ?_
          refine v_iload (pc := 184) h (dk dt_L_locks_1 52 rfl) rfl ?_
          refine v_bipush (pc := 186) h (dk dt_L_locks_1 53 rfl) rfl ?_
          refine v_iadd (pc := 188) h (dk dt_L_locks_1 54 rfl) ?_
          refine v_iconst (pc := 189) h (dk dt_L_locks_1 55 rfl) ?_
          refine v_aload_n (pc := 190) h (dk dt_L_locks_1 56 rfl) rfl ?_
          refine v_iload (pc := 191) h (dk dt_L_locks_1 57 rfl) rfl ?_
          refine v_iconst (pc := 193) h (dk dt_L_locks_1 58 rfl) ?_
          refine v_iadd (pc := 194) h (dk dt_L_locks_1 59 rfl) ?_
          refine v_iald (pc := 195) h sh124 (Nat.le_of_ble_eq_true rfl) (by omega) (dk dt_L_locks_1 60 rfl) ?_
          rw [i5, mup_ne (show ¬ (124 = 124 ∧ 60 * k + 5 = 60 * k + 6 + 3 * c) by omega), es 124 rfl, g5]
          refine v_imul (pc := 196) h (dk dt_L_locks_1 61 rfl) ?_
          refine v_iadd (pc := 197) h (dk dt_L_locks_1 62 rfl) ?_
          refine v_iload (pc := 198) h (dk dt_L_locks_1 63 rfl) rfl ?_
          refine v_iast (pc := 200) h sh124 (Nat.le_of_ble_eq_true rfl) (by omega) (dk dt_L_locks_2 0 rfl) ?_
          rw [show (60 * (k : Int) + 7 + 3 * (c : Int)).toNat = 60 * k + 7 + 3 * c by omega]
          refine v_aload_n (pc := 201) h (dk dt_L_locks_2 1 rfl) rfl ?_
          refine v_iload (pc := 202) h (dk dt_L_locks_2 2 rfl) rfl ?_
          refine v_bipush (pc := 204) h (dk dt_L_locks_2 3 rfl) rfl ?_
          refine v_iadd (pc := 206) h (dk dt_L_locks_2 4 rfl) ?_
          refine v_iconst (pc := 207) h (dk dt_L_locks_2 5 rfl) ?_
          refine v_aload_n (pc := 208) h (dk dt_L_locks_2 6 rfl) rfl ?_
          refine v_iload (pc := 209) h (dk dt_L_locks_2 7 rfl) rfl ?_
          refine v_iconst (pc := 211) h (dk dt_L_locks_2 8 rfl) ?_
          refine v_iadd (pc := 212) h (dk dt_L_locks_2 9 rfl) ?_
          refine v_iald (pc := 213) h sh124 (Nat.le_of_ble_eq_true rfl) (by omega) (dk dt_L_locks_2 10 rfl) ?_
          rw [i5, mup_ne (show ¬ (124 = 124 ∧ 60 * k + 5 = 60 * k + 7 + 3 * c) by omega), mup_ne (show ¬ (124 = 124 ∧ 60 * k + 5 = 60 * k + 6 + 3 * c) by omega), es 124 rfl, g5]
          refine v_imul (pc := 214) h (dk dt_L_locks_2 11 rfl) ?_
          refine v_iadd (pc := 215) h (dk dt_L_locks_2 12 rfl) ?_
          refine v_iload (pc := 216) h (dk dt_L_locks_2 13 rfl) rfl ?_
          refine v_iast (pc := 218) h sh124 (Nat.le_of_ble_eq_true rfl) (by omega) (dk dt_L_locks_2 14 rfl) ?_
          rw [show (60 * (k : Int) + 8 + 3 * (c : Int)).toNat = 60 * k + 8 + 3 * c by omega]
          refine v_aload_n (pc := 219) h (dk dt_L_locks_2 15 rfl) rfl ?_
          refine v_iload (pc := 220) h (dk dt_L_locks_2 16 rfl) rfl ?_
          refine v_iconst (pc := 222) h (dk dt_L_locks_2 17 rfl) ?_
          refine v_iadd (pc := 223) h (dk dt_L_locks_2 18 rfl) ?_
          refine v_dup2 (pc := 224) h (dk dt_L_locks_2 19 rfl) rfl rfl ?_
          refine v_iald (pc := 225) h sh124 (Nat.le_of_ble_eq_true rfl) (by omega) (dk dt_L_locks_2 20 rfl) ?_
          rw [i5, mup_ne (show ¬ (124 = 124 ∧ 60 * k + 5 = 60 * k + 8 + 3 * c) by omega), mup_ne (show ¬ (124 = 124 ∧ 60 * k + 5 = 60 * k + 7 + 3 * c) by omega), mup_ne (show ¬ (124 = 124 ∧ 60 * k + 5 = 60 * k + 6 + 3 * c) by omega), es 124 rfl, g5]
          refine v_iconst (pc := 226) h (dk dt_L_locks_2 21 rfl) ?_
          refine v_iadd (pc := 227) h (dk dt_L_locks_2 22 rfl) ?_
          refine v_iast (pc := 228) h sh124 (Nat.le_of_ble_eq_true rfl) (by omega) (dk dt_L_locks_2 23 rfl) ?_
          rw [i5]
          refine v_iload (pc := 229) h (dk dt_L_locks_2 24 rfl) rfl ?_
          refine v_aload_n (pc := 231) h (dk dt_L_locks_2 25 rfl) rfl ?_
          refine v_iload (pc := 232) h (dk dt_L_locks_2 26 rfl) rfl ?_
          refine v_iconst (pc := 234) h (dk dt_L_locks_2 27 rfl) ?_
          refine v_iadd (pc := 235) h (dk dt_L_locks_2 28 rfl) ?_
          refine v_iald (pc := 236) h sh124 (Nat.le_of_ble_eq_true rfl) (by omega) (dk dt_L_locks_2 29 rfl) ?_
          rw [i5, mup_eq]
          refine v_icmp_neS (pc := 237) h 244 (dk dt_L_locks_2 30 rfl) rfl ?_
          refine v_iconst (pc := 240) h (dk dt_L_locks_2 31 rfl) ?_
          refine v_goto (pc := 241) h 245 (dk dt_L_locks_2 32 rfl) rfl ?_
          exact v_zret (pc := 245) h r (dk dt_L_locks_2 34 rfl) (Nat.le_of_ble_eq_true rfl) (Nat.le_of_ble_eq_true rfl) (by omega) (hp _ hTl)
        ·
          exact absurd c149 (by omega)
      ·
        exact absurd c126 (by omega)
theorem l_loop (h : Ac a B D E RL cL_locks 10 rm_L_locks) (r : Rt a B D E (some .boolean) P X rm_L_locks.cells rm_L_locks.slots) (hk : k < 12) (hT : TI (k + 1) wp m) {y f u : Int} (hy : 0 ≤ y ∧ y ≤ 2) (hf : 0 ≤ f ∧ f < u ∧ u ≤ m 5 k)
    (hp : ∀ m', TI (k + 1) wp m' → P (some (iI 1)) m') :
    ∀ (d i : Nat), i + d = (m 13 k).toNat → VV a B (SP B D E m) 0 0 49 [(9, iI (i : Int)), (8, iI (alP (fun q => decide (u ≤ m 17 (3 * k + q) ∨ m 19 (3 * k + q) ≤ f)) i)), (7, iI u), (6, iI f), (5, iI y), (4, iI (60 * (k : Int))), (0, .ref (pl B 0)), (1, .ref (pl B 123)), (2, .ref (pl B 124)), (3, iI (k : Int))] [] := by
  have hA := hT.2.2.1 k (by omega)
  have hJ := hT.1.J.2 k (by have := hT.2.1; omega)
  have f5 : m 124 (60 * (k : Int) + 5).toNat = m 13 k := by rw [show (60 * (k : Int) + 5).toNat = 60 * k + 5 by omega]; exact hA.2.2.2.2.2.1
  intro d
  induction d with
  | zero =>
    intro i hi
    have ei : i = (m 13 k).toNat := by omega
    subst ei
    refine v_iload (pc := 49) h (dk dt_L_locks_0 33 rfl) rfl ?_
    refine v_aload_n (pc := 51) h (dk dt_L_locks_0 34 rfl) rfl ?_
    refine v_iload (pc := 52) h (dk dt_L_locks_0 35 rfl) rfl ?_
    refine v_iconst (pc := 54) h (dk dt_L_locks_0 36 rfl) ?_
    refine v_iadd (pc := 55) h (dk dt_L_locks_0 37 rfl) ?_
    refine v_iald (pc := 56) h sh124 (Nat.le_of_ble_eq_true rfl) (by omega) (dk dt_L_locks_0 38 rfl) ?_
    rw [f5]
    refine v_icmp_ge (pc := 57) h 110 (dk dt_L_locks_0 39 rfl) rfl (by omega) (fun c57 => ?_) (fun c57 => ?_)
    ·
      exact VV.loc (l_told h r hk hT hy hf hp) ⟨rfl, rfl, rfl, rfl, rfl, rfl, rfl, rfl, rfl, trivial⟩
    ·
      exact absurd c57 (by omega)
  | succ d ih =>
    intro i hi
    have hs := hA.2.2.2.2.2.2 i (by show (i : Int) < m 13 k; omega)
    have hsb := hJ.2.2.2.2.2.2.1 i (by omega)
    have f7 : m 124 (60 * (k : Int) + 7 + 3 * (i : Int)).toNat = m 17 (3 * k + i) := by rw [show (60 * (k : Int) + 7 + 3 * (i : Int)).toNat = 60 * k + 7 + 3 * i by omega]; exact hs.2.1
    have f8 : m 124 (60 * (k : Int) + 8 + 3 * (i : Int)).toNat = m 19 (3 * k + i) := by rw [show (60 * (k : Int) + 8 + 3 * (i : Int)).toNat = 60 * k + 8 + 3 * i by omega]; exact hs.2.2
    refine v_iload (pc := 49) h (dk dt_L_locks_0 33 rfl) rfl ?_
    refine v_aload_n (pc := 51) h (dk dt_L_locks_0 34 rfl) rfl ?_
    refine v_iload (pc := 52) h (dk dt_L_locks_0 35 rfl) rfl ?_
    refine v_iconst (pc := 54) h (dk dt_L_locks_0 36 rfl) ?_
    refine v_iadd (pc := 55) h (dk dt_L_locks_0 37 rfl) ?_
    refine v_iald (pc := 56) h sh124 (Nat.le_of_ble_eq_true rfl) (by omega) (dk dt_L_locks_0 38 rfl) ?_
    rw [f5]
    refine v_icmp_ge (pc := 57) h 110 (dk dt_L_locks_0 39 rfl) rfl (by omega) (fun c57 => ?_) (fun c57 => ?_)
    ·
      exact absurd c57 (by omega)
    ·
      refine v_iload (pc := 60) h (dk dt_L_locks_0 40 rfl) rfl ?_
      refine v_iload (pc := 62) h (dk dt_L_locks_0 41 rfl) rfl ?_
      refine v_aload_n (pc := 64) h (dk dt_L_locks_0 42 rfl) rfl ?_
      refine v_iload (pc := 65) h (dk dt_L_locks_0 43 rfl) rfl ?_
      refine v_bipush (pc := 67) h (dk dt_L_locks_0 44 rfl) rfl ?_
      refine v_iadd (pc := 69) h (dk dt_L_locks_0 45 rfl) ?_
      refine v_iconst (pc := 70) h (dk dt_L_locks_0 46 rfl) ?_
      refine v_iload (pc := 71) h (dk dt_L_locks_0 47 rfl) rfl ?_
      refine v_imul (pc := 73) h (dk dt_L_locks_0 48 rfl) ?_
      refine v_iadd (pc := 74) h (dk dt_L_locks_0 49 rfl) ?_
      refine v_iald (pc := 75) h sh124 (Nat.le_of_ble_eq_true rfl) (by omega) (dk dt_L_locks_0 50 rfl) ?_
      rw [f7]
      refine v_icmp_le (pc := 76) h 96 (dk dt_L_locks_0 51 rfl) rfl (by omega) (fun c76 => ?_) (fun c76 => ?_)
      ·
        refine v_iconst (pc := 96) h (dk dt_L_locks_0 63 rfl) ?_
        refine v_goto (pc := 97) h 101 (dk dt_L_locks_1 0 rfl) rfl ?_
        refine v_iand (pc := 101) h (dk dt_L_locks_1 2 rfl) ?_
        refine v_istore (lv' := [(8, _), (9, _), (7, _), (6, _), (5, _), (4, _), (0, _), (1, _), (2, _), (3, _)]) (pc := 102) h (dk dt_L_locks_1 3 rfl) (Nat.le_of_ble_eq_true rfl) rfl ?_
        refine v_iinc (lv' := [(9, _), (8, _), (7, _), (6, _), (5, _), (4, _), (0, _), (1, _), (2, _), (3, _)]) (pc := 104) h (dk dt_L_locks_1 4 rfl) rfl (Nat.le_of_ble_eq_true rfl) rfl ?_
        refine v_goto (pc := 107) h 49 (dk dt_L_locks_1 5 rfl) rfl ?_
        first
          | exact VV.loc (ih (i + 1) (by omega)) ⟨rfl, lvI (alP_1 (p := fun q => decide (u ≤ m 17 (3 * k + q) ∨ m 19 (3 * k + q) ≤ f)) (decide_eq_true (by omega))), rfl, rfl, rfl, rfl, rfl, rfl, rfl, rfl, trivial⟩
          | exact VV.loc (ih (i + 1) (by omega)) ⟨rfl, lvI (alP_0 (p := fun q => decide (u ≤ m 17 (3 * k + q) ∨ m 19 (3 * k + q) ≤ f)) (by rw [decide_eq_true_iff]; omega)), rfl, rfl, rfl, rfl, rfl, rfl, rfl, rfl, trivial⟩
      ·
        refine v_iload (pc := 79) h (dk dt_L_locks_0 52 rfl) rfl ?_
        refine v_aload_n (pc := 81) h (dk dt_L_locks_0 53 rfl) rfl ?_
        refine v_iload (pc := 82) h (dk dt_L_locks_0 54 rfl) rfl ?_
        refine v_bipush (pc := 84) h (dk dt_L_locks_0 55 rfl) rfl ?_
        refine v_iadd (pc := 86) h (dk dt_L_locks_0 56 rfl) ?_
        refine v_iconst (pc := 87) h (dk dt_L_locks_0 57 rfl) ?_
        refine v_iload (pc := 88) h (dk dt_L_locks_0 58 rfl) rfl ?_
        refine v_imul (pc := 90) h (dk dt_L_locks_0 59 rfl) ?_
        refine v_iadd (pc := 91) h (dk dt_L_locks_0 60 rfl) ?_
        refine v_iald (pc := 92) h sh124 (Nat.le_of_ble_eq_true rfl) (by omega) (dk dt_L_locks_0 61 rfl) ?_
        rw [f8]
        refine v_icmp_lt (pc := 93) h 100 (dk dt_L_locks_0 62 rfl) rfl (by omega) (fun c93 => ?_) (fun c93 => ?_)
        ·
          refine v_iconst (pc := 100) h (dk dt_L_locks_1 1 rfl) ?_
          refine v_iand (pc := 101) h (dk dt_L_locks_1 2 rfl) ?_
          refine v_istore (lv' := [(8, _), (9, _), (7, _), (6, _), (5, _), (4, _), (0, _), (1, _), (2, _), (3, _)]) (pc := 102) h (dk dt_L_locks_1 3 rfl) (Nat.le_of_ble_eq_true rfl) rfl ?_
          refine v_iinc (lv' := [(9, _), (8, _), (7, _), (6, _), (5, _), (4, _), (0, _), (1, _), (2, _), (3, _)]) (pc := 104) h (dk dt_L_locks_1 4 rfl) rfl (Nat.le_of_ble_eq_true rfl) rfl ?_
          refine v_goto (pc := 107) h 49 (dk dt_L_locks_1 5 rfl) rfl ?_
          first
            | exact VV.loc (ih (i + 1) (by omega)) ⟨rfl, lvI (alP_1 (p := fun q => decide (u ≤ m 17 (3 * k + q) ∨ m 19 (3 * k + q) ≤ f)) (decide_eq_true (by omega))), rfl, rfl, rfl, rfl, rfl, rfl, rfl, rfl, trivial⟩
            | exact VV.loc (ih (i + 1) (by omega)) ⟨rfl, lvI (alP_0 (p := fun q => decide (u ≤ m 17 (3 * k + q) ∨ m 19 (3 * k + q) ≤ f)) (by rw [decide_eq_true_iff]; omega)), rfl, rfl, rfl, rfl, rfl, rfl, rfl, rfl, trivial⟩
        ·
          refine v_iconst (pc := 96) h (dk dt_L_locks_0 63 rfl) ?_
          refine v_goto (pc := 97) h 101 (dk dt_L_locks_1 0 rfl) rfl ?_
          refine v_iand (pc := 101) h (dk dt_L_locks_1 2 rfl) ?_
          refine v_istore (lv' := [(8, _), (9, _), (7, _), (6, _), (5, _), (4, _), (0, _), (1, _), (2, _), (3, _)]) (pc := 102) h (dk dt_L_locks_1 3 rfl) (Nat.le_of_ble_eq_true rfl) rfl ?_
          refine v_iinc (lv' := [(9, _), (8, _), (7, _), (6, _), (5, _), (4, _), (0, _), (1, _), (2, _), (3, _)]) (pc := 104) h (dk dt_L_locks_1 4 rfl) rfl (Nat.le_of_ble_eq_true rfl) rfl ?_
          refine v_goto (pc := 107) h 49 (dk dt_L_locks_1 5 rfl) rfl ?_
          first
            | exact VV.loc (ih (i + 1) (by omega)) ⟨rfl, lvI (alP_1 (p := fun q => decide (u ≤ m 17 (3 * k + q) ∨ m 19 (3 * k + q) ≤ f)) (decide_eq_true (by omega))), rfl, rfl, rfl, rfl, rfl, rfl, rfl, rfl, trivial⟩
            | exact VV.loc (ih (i + 1) (by omega)) ⟨rfl, lvI (alP_0 (p := fun q => decide (u ≤ m 17 (3 * k + q) ∨ m 19 (3 * k + q) ≤ f)) (by rw [decide_eq_true_iff]; omega)), rfl, rfl, rfl, rfl, rfl, rfl, rfl, rfl, trivial⟩
theorem c_L_locks (hst : l.stackTraces = false) (hk : k < 12) (hT : TI (k + 1) wp μ) :
    Ct l B D E yL_locks (.code yL_locks cL_locks 10 (some .boolean)) rm_L_locks [.ref (pl B 0), .ref (pl B 123), .ref (pl B 124), iI (k : Int)] μ (fun v m => v = some (iI 1) ∧ TI (k + 1) wp m) NX := by
  have hlen : ∀ m, TI (k + 1) wp m → m 124 (60 * (k : Int) + 1).toNat = m 5 k ∧ (1 ≤ m 5 k ∧ m 5 k ≤ 30) := fun m hT => by
    have hA := hT.2.2.1 k (by omega)
    have hJ := hT.1.J.2 k (by have := hT.2.1; omega)
    rw [show (60 * (k : Int) + 1).toNat = 60 * k + 1 by omega]
    exact ⟨hA.2.1, hJ.2.1⟩
  refine ct_of (own := RL) (lv := [(0, _), (1, _), (2, _), (3, _)]) hst (by decide) rfl rfl (Nat.le_of_ble_eq_true rfl) fun a h r t => ?_
  refine v_bipush (pc := 0) h (dk dt_L_locks_0 0 rfl) rfl ?_
  refine v_iload_n (pc := 2) h (dk dt_L_locks_0 1 rfl) rfl ?_
  refine v_imul (pc := 3) h (dk dt_L_locks_0 2 rfl) ?_
  refine v_istore (lv' := [(4, _), (0, _), (1, _), (2, _), (3, _)]) (pc := 4) h (dk dt_L_locks_0 3 rfl) (Nat.le_of_ble_eq_true rfl) rfl ?_
  refine v_aload_n (pc := 6) h (dk dt_L_locks_0 4 rfl) rfl ?_
  refine v_cS (pc := 7) h (c_L_next h.quiet) kv_L_next wM_L_8 rfl rfl (Nat.le_of_ble_eq_true rfl) (RM.of rfl) rfl rfl (dk dt_L_locks_0 5 rfl) (fun v7 μ7 p7 => ?_)
  obtain ⟨x, y, rfl, y1, y2, rfl⟩ := p7
  have hT := TI_r hT y
  generalize mup μ 123 0 y = m1 at hT ⊢
  have hx := Int.emod_lt_of_pos x (show (0 : Int) < 3 by decide)
  have hx2 := Int.emod_nonneg x (show (3 : Int) ≠ 0 by decide)
  refine v_iconst (pc := 10) h (dk dt_L_locks_0 6 rfl) ?_
  refine v_irem (pc := 11) h (dk dt_L_locks_0 7 rfl) (by omega) (by omega) ?_
  generalize x % 3 = lk at hx hx2 ⊢
  refine v_istore (lv' := [(5, _), (4, _), (0, _), (1, _), (2, _), (3, _)]) (pc := 12) h (dk dt_L_locks_0 8 rfl) (Nat.le_of_ble_eq_true rfl) rfl ?_
  refine v_aload_n (pc := 14) h (dk dt_L_locks_0 9 rfl) rfl ?_
  refine v_cS (pc := 15) h (c_L_next h.quiet) kv_L_next wM_L_8 rfl rfl (Nat.le_of_ble_eq_true rfl) (RM.of rfl) rfl rfl (dk dt_L_locks_0 10 rfl) (fun v15 μ15 p15 => ?_)
  obtain ⟨x', y', rfl, y1', y2', rfl⟩ := p15
  have hT := TI_r hT y'
  generalize mup m1 123 0 y' = m2 at hT ⊢
  have hl := hlen m2 hT
  refine v_aload_n (pc := 18) h (dk dt_L_locks_0 11 rfl) rfl ?_
  refine v_iload (pc := 19) h (dk dt_L_locks_0 12 rfl) rfl ?_
  refine v_iconst (pc := 21) h (dk dt_L_locks_0 13 rfl) ?_
  refine v_iadd (pc := 22) h (dk dt_L_locks_0 14 rfl) ?_
  refine v_iald (pc := 23) h sh124 (Nat.le_of_ble_eq_true rfl) (by omega) (dk dt_L_locks_0 15 rfl) ?_
  rw [hl.1]
  refine v_irem (pc := 24) h (dk dt_L_locks_0 16 rfl) (by omega) (by omega) ?_
  have ha := Int.emod_lt_of_pos x' (show 0 < m2 5 k by omega)
  have ha2 := Int.emod_nonneg x' (show m2 5 k ≠ 0 by omega)
  generalize x' % m2 5 k = f at ha ha2 ⊢
  refine v_istore (lv' := [(6, _), (5, _), (4, _), (0, _), (1, _), (2, _), (3, _)]) (pc := 25) h (dk dt_L_locks_0 17 rfl) (Nat.le_of_ble_eq_true rfl) rfl ?_
  refine v_aload_n (pc := 27) h (dk dt_L_locks_0 18 rfl) rfl ?_
  refine v_iload (pc := 28) h (dk dt_L_locks_0 19 rfl) rfl ?_
  refine v_iconst (pc := 30) h (dk dt_L_locks_0 20 rfl) ?_
  refine v_iadd (pc := 31) h (dk dt_L_locks_0 21 rfl) ?_
  refine v_aload_n (pc := 32) h (dk dt_L_locks_0 22 rfl) rfl ?_
  refine v_iload (pc := 33) h (dk dt_L_locks_0 23 rfl) rfl ?_
  refine v_iconst (pc := 35) h (dk dt_L_locks_0 24 rfl) ?_
  refine v_iadd (pc := 36) h (dk dt_L_locks_0 25 rfl) ?_
  refine v_iald (pc := 37) h sh124 (Nat.le_of_ble_eq_true rfl) (by omega) (dk dt_L_locks_0 26 rfl) ?_
  rw [hl.1]
  refine v_cS (pc := 38) h (c_L_from h.quiet (by omega) (by omega)) kv_L_from wM_L_75 rfl rfl (Nat.le_of_ble_eq_true rfl) (RM.of rfl) rfl rfl (dk dt_L_locks_0 27 rfl) (fun v38 μ38 p38 => ?_)
  obtain ⟨u, y3, rfl, u1, u2, rfl⟩ := p38
  have e5 : mup m2 123 0 y3 5 k = m2 5 k := mup_nk (by decide)
  have hT := TI_r hT y3
  rw [← e5] at u2
  clear hl e5 ha
  generalize mup m2 123 0 y3 = m3 at hT u2 ⊢
  refine v_istore (lv' := [(7, _), (6, _), (5, _), (4, _), (0, _), (1, _), (2, _), (3, _)]) (pc := 41) h (dk dt_L_locks_0 28 rfl) (Nat.le_of_ble_eq_true rfl) rfl ?_
  refine v_iconst (pc := 43) h (dk dt_L_locks_0 29 rfl) ?_
  refine v_istore (lv' := [(8, _), (7, _), (6, _), (5, _), (4, _), (0, _), (1, _), (2, _), (3, _)]) (pc := 44) h (dk dt_L_locks_0 30 rfl) (Nat.le_of_ble_eq_true rfl) rfl ?_
  refine v_iconst (pc := 46) h (dk dt_L_locks_0 31 rfl) ?_
  refine v_istore (lv' := [(9, _), (8, _), (7, _), (6, _), (5, _), (4, _), (0, _), (1, _), (2, _), (3, _)]) (pc := 47) h (dk dt_L_locks_0 32 rfl) (Nat.le_of_ble_eq_true rfl) rfl ?_
  exact VV.loc (l_loop h r hk hT (by omega) (by omega) (fun m' hm' => ⟨rfl, hm'⟩) (m3 13 k).toNat 0 (by omega)) ⟨rfl, rfl, rfl, rfl, rfl, rfl, rfl, rfl, rfl, rfl, trivial⟩
end
