/-! ===== the law: tasks, and what the class answers of them ===== -/
theorem wah_d {p le d : Nat → Int} {n : Int} (h : okK5 p le d n) {k : Nat} {x : Int} (hx : 0 ≤ x) : ∀ i : Nat, (i : Int) ≤ n → 0 ≤ wahF p le d k (x + 1) i - wahF p le d k x i ∧ wahF p le d k (x + 1) i - wahF p le d k x i ≤ 30 * (i : Int) := by
  intro i
  induction i with
  | zero => intro _; simp only [wahF]; omega
  | succ i ih =>
    intro hi
    have h1 := ih (by omega)
    have h2 := h.2 i (by omega)
    rw [wah_s (by omega) hx]
    split <;> omega
/-- k tasks are told; of the next one the law has written vs -/
def TC (k : Nat) (vs : List (Nat × Int)) (m : Mm) : Prop := TK k m ∧ ∀ q, q ∈ vs → m 127 (4 * k + q.1) = q.2
theorem TC_r {k : Nat} {vs : List (Nat × Int)} {m : Mm} (h : TC k vs m) (y : Int) : TC k vs (mup m 123 0 y) ∧ (mup m 123 0 y) 22 = m 22 ∧ (mup m 123 0 y) 24 = m 24 := ⟨⟨TK_r h.1 y, fun q hq => by rw [mup_nk (by decide)]; exact h.2 q hq⟩, by funext b; exact mup_nk (by decide), by funext b; exact mup_nk (by decide)⟩
theorem TC_w {k : Nat} {vs : List (Nat × Int)} {m : Mm} (h : TC k vs m) (c : Nat) (v : Int) (hc : ∀ q, q ∈ vs → q.1 ≠ c) : TC k ((c, v) :: vs) (mup m 127 (4 * k + c) v) ∧ (mup m 127 (4 * k + c) v) 22 = m 22 ∧ (mup m 127 (4 * k + c) v) 24 = m 24 := by
  refine ⟨⟨TK_w h.1 c v, fun q hq => ?_⟩, by funext b; exact mup_nk (by decide), by funext b; exact mup_nk (by decide)⟩
  rcases List.mem_cons.mp hq with e | hq
  · rw [e, mup_eq]
  · rw [mup_ne (by have := hc q hq; omega)]; exact h.2 q hq
section
variable {a : Ax} {B : Nat} {D : va_G} {E : Nat → ClassId} {n : Nat} {m : Mm} {l : Launch} {μ : Mm} {kc ns : Nat} {P : Pv} {X : Px}
theorem t_ahead (h : Ac a B D E RL cL_tasks 15 rm_L_tasks) (hT : TK n m) {j : Nat} (hj : j < n) {x : Nat} (hx : x ≤ 30) {A L du : Int} (hA : 0 ≤ A ∧ A ≤ 20000)
    (next : VV a B (SP B D E m) kc ns 344 [(9, iI (A + (wahF (m 22) (m 24) (m 26) j ((x : Int) + 1) n - wahF (m 22) (m 24) (m 26) j (x : Int) n))), (12, iI (x : Int)), (11, iI du), (10, iI L), (8, iI (j : Int)), (3, iI (n : Int)), (0, .ref (pl B 0)), (1, .ref (pl B 123)), (2, .ref (pl B 127))] []) :
    ∀ (q i : Nat), i + q = n → VV a B (SP B D E m) kc ns 246 [(13, iI (i : Int)), (9, iI (A + (wahF (m 22) (m 24) (m 26) j ((x : Int) + 1) i - wahF (m 22) (m 24) (m 26) j (x : Int) i))), (12, iI (x : Int)), (11, iI du), (10, iI L), (8, iI (j : Int)), (3, iI (n : Int)), (0, .ref (pl B 0)), (1, .ref (pl B 123)), (2, .ref (pl B 127))] [] := by
  have hn5 : n ≤ 5 := by have := hT.1.T.1; have := hT.2.1; omega
  have hok : okK5 (m 22) (m 24) (m 26) (n : Int) := by have := hT.1.T; unfold okTk at this; rw [hT.2.1] at this; exact this
  intro q
  induction q with
  | zero =>
    intro i hi
    have ei : i = n := by omega
    subst ei
    refine v_iload (pc := 246) h (dk dt_L_tasks_2 40 rfl) rfl ?_
    refine v_iload_n (pc := 248) h (dk dt_L_tasks_2 41 rfl) rfl ?_
    refine v_icmp_ge (pc := 249) h 344 (dk dt_L_tasks_2 42 rfl) rfl (by omega) (fun c249 => ?_) (fun c249 => ?_)
    ·
      exact VV.loc next ⟨rfl, rfl, rfl, rfl, rfl, rfl, rfl, rfl, rfl, trivial⟩
    ·
      exact absurd c249 (by omega)
  | succ q ih =>
    intro i hi
    have hin : i < n := by omega
    have hwd := wah_d hok (k := j) (x := (x : Int)) (by omega) i (by omega)
    have hws := wah_s (p := m 22) (le := m 24) (d := m 26) (k := j) (i := i) (x := (x : Int)) (by have := hok.2 i (by omega); omega) (by omega)
    have hib := hok.2 i (by omega)
    have hjb := hok.2 j (by omega)
    have hm1 := Int.emod_nonneg (x : Int) (show m 22 i ≠ 0 by omega)
    have hm2 := Int.emod_lt_of_pos (x : Int) (show 0 < m 22 i by omega)
    have f0 : m 127 (4 * (i : Int)).toNat = m 22 i := by rw [show (4 * (i : Int)).toNat = 4 * i by omega]; exact (hT.2.2 i hin).1
    have f1 : m 127 (4 * (i : Int) + 1).toNat = m 24 i := by rw [show (4 * (i : Int) + 1).toNat = 4 * i + 1 by omega]; exact (hT.2.2 i hin).2.1
    have f2 : m 127 (4 * (i : Int) + 2).toNat = m 26 i := by rw [show (4 * (i : Int) + 2).toNat = 4 * i + 2 by omega]; exact (hT.2.2 i hin).2.2
    have g2 : m 127 (4 * (j : Int) + 2).toNat = m 26 j := by rw [show (4 * (j : Int) + 2).toNat = 4 * j + 2 by omega]; exact (hT.2.2 j hj).2.2
    have go335 : ∀ v b : Int, v = (if ahd (m 26) i j ∧ (x : Int) % m 22 i = 0 then m 24 i else 0) → VV a B (SP B D E m) kc ns 335 [(14, iI b), (13, iI (i : Int)), (9, iI (A + (wahF (m 22) (m 24) (m 26) j ((x : Int) + 1) i - wahF (m 22) (m 24) (m 26) j (x : Int) i))), (12, iI (x : Int)), (11, iI du), (10, iI L), (8, iI (j : Int)), (3, iI (n : Int)), (0, .ref (pl B 0)), (1, .ref (pl B 123)), (2, .ref (pl B 127))] [iI v, iI (A + (wahF (m 22) (m 24) (m 26) j ((x : Int) + 1) i - wahF (m 22) (m 24) (m 26) j (x : Int) i))] := by
      intro v b hv
      have ih2 := ih (i + 1) (by omega)
      rw [hws, ← hv] at ih2
      refine v_iadd (pc := 335) h (dk dt_L_tasks_3 36 rfl) ?_
      refine v_istore (lv' := [(9, _), (14, _), (13, _), (12, _), (11, _), (10, _), (8, _), (3, _), (0, _), (1, _), (2, _)]) (pc := 336) h (dk dt_L_tasks_3 37 rfl) (Nat.le_of_ble_eq_true rfl) rfl ?_
      refine v_iinc (lv' := [(13, _), (9, _), (14, _), (12, _), (11, _), (10, _), (8, _), (3, _), (0, _), (1, _), (2, _)]) (pc := 338) h (dk dt_L_tasks_3 38 rfl) rfl (Nat.le_of_ble_eq_true rfl) rfl ?_
      refine v_goto (pc := 341) h 246 (dk dt_L_tasks_3 39 rfl) rfl ?_
      exact VV.loc ih2 ⟨lvI (by omega), lvI (by omega), rfl, rfl, rfl, rfl, rfl, rfl, rfl, rfl, trivial⟩
    have go302 : ∀ b : Int, (b = 0 ∧ ¬ ahd (m 26) i j ∨ b = 1 ∧ ahd (m 26) i j) → VV a B (SP B D E m) kc ns 302 [(13, iI (i : Int)), (9, iI (A + (wahF (m 22) (m 24) (m 26) j ((x : Int) + 1) i - wahF (m 22) (m 24) (m 26) j (x : Int) i))), (12, iI (x : Int)), (11, iI du), (10, iI L), (8, iI (j : Int)), (3, iI (n : Int)), (0, .ref (pl B 0)), (1, .ref (pl B 123)), (2, .ref (pl B 127))] [iI b] := by
      intro b hb
      refine v_istore (lv' := [(14, _), (13, _), (9, _), (12, _), (11, _), (10, _), (8, _), (3, _), (0, _), (1, _), (2, _)]) (pc := 302) h (dk dt_L_tasks_3 15 rfl) (Nat.le_of_ble_eq_true rfl) rfl ?_
      refine v_iload (pc := 304) h (dk dt_L_tasks_3 16 rfl) rfl ?_
      refine v_iload (pc := 306) h (dk dt_L_tasks_3 17 rfl) rfl ?_
      refine v_if_eq (pc := 308) h 334 (dk dt_L_tasks_3 18 rfl) rfl (by omega) (fun c308 => ?_) (fun c308 => ?_)
      ·
        refine v_iconst (pc := 334) h (dk dt_L_tasks_3 35 rfl) ?_
        exact VV.loc (go335 _ _ (by first | (rw [if_neg (fun z => by rcases hb with hb | hb; exact hb.2 z.1; omega)]) | (rw [if_neg (fun z => c320 z.2)]) | (rw [if_pos ⟨by rcases hb with hb | hb; exact absurd hb.1 c308; exact hb.2, by omega⟩]))) ⟨rfl, rfl, rfl, rfl, rfl, rfl, rfl, rfl, rfl, rfl, rfl, trivial⟩
      ·
        refine v_iload (pc := 311) h (dk dt_L_tasks_3 19 rfl) rfl ?_
        refine v_aload_n (pc := 313) h (dk dt_L_tasks_3 20 rfl) rfl ?_
        refine v_iconst (pc := 314) h (dk dt_L_tasks_3 21 rfl) ?_
        refine v_iload (pc := 315) h (dk dt_L_tasks_3 22 rfl) rfl ?_
        refine v_imul (pc := 317) h (dk dt_L_tasks_3 23 rfl) ?_
        refine v_iald (pc := 318) h sh127 (Nat.le_of_ble_eq_true rfl) (by omega) (dk dt_L_tasks_3 24 rfl) ?_
        rw [f0]
        refine v_irem (pc := 319) h (dk dt_L_tasks_3 25 rfl) (by omega) (by omega) ?_
        refine v_if_ne (pc := 320) h 334 (dk dt_L_tasks_3 26 rfl) rfl (by omega) (fun c320 => ?_) (fun c320 => ?_)
        ·
          refine v_iconst (pc := 334) h (dk dt_L_tasks_3 35 rfl) ?_
          exact VV.loc (go335 _ _ (by first | (rw [if_neg (fun z => by rcases hb with hb | hb; exact hb.2 z.1; omega)]) | (rw [if_neg (fun z => c320 z.2)]) | (rw [if_pos ⟨by rcases hb with hb | hb; exact absurd hb.1 c308; exact hb.2, by omega⟩]))) ⟨rfl, rfl, rfl, rfl, rfl, rfl, rfl, rfl, rfl, rfl, rfl, trivial⟩
        ·
          refine v_aload_n (pc := 323) h (dk dt_L_tasks_3 27 rfl) rfl ?_
          refine v_iconst (pc := 324) h (dk dt_L_tasks_3 28 rfl) ?_
          refine v_iload (pc := 325) h (dk dt_L_tasks_3 29 rfl) rfl ?_
          refine v_imul (pc := 327) h (dk dt_L_tasks_3 30 rfl) ?_
          refine v_iconst (pc := 328) h (dk dt_L_tasks_3 31 rfl) ?_
          refine v_iadd (pc := 329) h (dk dt_L_tasks_3 32 rfl) ?_
          refine v_iald (pc := 330) h sh127 (Nat.le_of_ble_eq_true rfl) (by omega) (dk dt_L_tasks_3 33 rfl) ?_
          rw [f1]
          refine v_goto (pc := 331) h 335 (dk dt_L_tasks_3 34 rfl) rfl ?_
          exact VV.loc (go335 _ _ (by first | (rw [if_neg (fun z => by rcases hb with hb | hb; exact hb.2 z.1; omega)]) | (rw [if_neg (fun z => c320 z.2)]) | (rw [if_pos ⟨by rcases hb with hb | hb; exact absurd hb.1 c308; exact hb.2, by omega⟩]))) ⟨rfl, rfl, rfl, rfl, rfl, rfl, rfl, rfl, rfl, rfl, rfl, trivial⟩
    refine v_iload (pc := 246) h (dk dt_L_tasks_2 40 rfl) rfl ?_
    refine v_iload_n (pc := 248) h (dk dt_L_tasks_2 41 rfl) rfl ?_
    refine v_icmp_ge (pc := 249) h 344 (dk dt_L_tasks_2 42 rfl) rfl (by omega) (fun c249 => ?_) (fun c249 => ?_)
    ·
      exact absurd c249 (by omega)
    ·
      refine v_aload_n (pc := 252) h (dk dt_L_tasks_2 43 rfl) rfl ?_
      refine v_iconst (pc := 253) h (dk dt_L_tasks_2 44 rfl) ?_
      refine v_iload (pc := 254) h (dk dt_L_tasks_2 45 rfl) rfl ?_
      refine v_imul (pc := 256) h (dk dt_L_tasks_2 46 rfl) ?_
      refine v_iconst (pc := 257) h (dk dt_L_tasks_2 47 rfl) ?_
      refine v_iadd (pc := 258) h (dk dt_L_tasks_2 48 rfl) ?_
      refine v_iald (pc := 259) h sh127 (Nat.le_of_ble_eq_true rfl) (by omega) (dk dt_L_tasks_2 49 rfl) ?_
      rw [f2]
      refine v_aload_n (pc := 260) h (dk dt_L_tasks_2 50 rfl) rfl ?_
      refine v_iconst (pc := 261) h (dk dt_L_tasks_2 51 rfl) ?_
      refine v_iload (pc := 262) h (dk dt_L_tasks_2 52 rfl) rfl ?_
      refine v_imul (pc := 264) h (dk dt_L_tasks_2 53 rfl) ?_
      refine v_iconst (pc := 265) h (dk dt_L_tasks_2 54 rfl) ?_
      refine v_iadd (pc := 266) h (dk dt_L_tasks_2 55 rfl) ?_
      refine v_iald (pc := 267) h sh127 (Nat.le_of_ble_eq_true rfl) (by omega) (dk dt_L_tasks_2 56 rfl) ?_
      rw [g2]
      refine v_icmp_lt (pc := 268) h 297 (dk dt_L_tasks_2 57 rfl) rfl (by omega) (fun c268 => ?_) (fun c268 => ?_)
      ·
        refine v_iconst (pc := 297) h (dk dt_L_tasks_3 12 rfl) ?_
        refine v_goto (pc := 298) h 302 (dk dt_L_tasks_3 13 rfl) rfl ?_
        exact VV.loc (go302 _ (by first | exact Or.inr ⟨rfl, Or.inl c268⟩ | exact Or.inr ⟨rfl, Or.inr ⟨by omega, by omega⟩⟩ | exact Or.inl ⟨rfl, fun z => by rcases z with z | z <;> omega⟩)) ⟨rfl, rfl, rfl, rfl, rfl, rfl, rfl, rfl, rfl, rfl, trivial⟩
      ·
        refine v_aload_n (pc := 271) h (dk dt_L_tasks_2 58 rfl) rfl ?_
        refine v_iconst (pc := 272) h (dk dt_L_tasks_2 59 rfl) ?_
        refine v_iload (pc := 273) h (dk dt_L_tasks_2 60 rfl) rfl ?_
        refine v_imul (pc := 275) h (dk dt_L_tasks_2 61 rfl) ?_
        refine v_iconst (pc := 276) h (dk dt_L_tasks_2 62 rfl) ?_
        refine v_iadd (pc := 277) h (dk dt_L_tasks_2 63 rfl) ?_
        refine v_iald (pc := 278) h sh127 (Nat.le_of_ble_eq_true rfl) (by omega) (dk dt_L_tasks_3 0 rfl) ?_
        rw [f2]
        refine v_aload_n (pc := 279) h (dk dt_L_tasks_3 1 rfl) rfl ?_
        refine v_iconst (pc := 280) h (dk dt_L_tasks_3 2 rfl) ?_
        refine v_iload (pc := 281) h (dk dt_L_tasks_3 3 rfl) rfl ?_
        refine v_imul (pc := 283) h (dk dt_L_tasks_3 4 rfl) ?_
        refine v_iconst (pc := 284) h (dk dt_L_tasks_3 5 rfl) ?_
        refine v_iadd (pc := 285) h (dk dt_L_tasks_3 6 rfl) ?_
        refine v_iald (pc := 286) h sh127 (Nat.le_of_ble_eq_true rfl) (by omega) (dk dt_L_tasks_3 7 rfl) ?_
        rw [g2]
        refine v_icmp_ne (pc := 287) h 301 (dk dt_L_tasks_3 8 rfl) rfl (by omega) (fun c287 => ?_) (fun c287 => ?_)
        ·
          refine v_iconst (pc := 301) h (dk dt_L_tasks_3 14 rfl) ?_
          exact VV.loc (go302 _ (by first | exact Or.inr ⟨rfl, Or.inl c268⟩ | exact Or.inr ⟨rfl, Or.inr ⟨by omega, by omega⟩⟩ | exact Or.inl ⟨rfl, fun z => by rcases z with z | z <;> omega⟩)) ⟨rfl, rfl, rfl, rfl, rfl, rfl, rfl, rfl, rfl, rfl, trivial⟩
        ·
          refine v_iload (pc := 290) h (dk dt_L_tasks_3 9 rfl) rfl ?_
          refine v_iload (pc := 292) h (dk dt_L_tasks_3 10 rfl) rfl ?_
          refine v_icmp_ge (pc := 294) h 301 (dk dt_L_tasks_3 11 rfl) rfl (by omega) (fun c294 => ?_) (fun c294 => ?_)
          ·
            refine v_iconst (pc := 301) h (dk dt_L_tasks_3 14 rfl) ?_
            exact VV.loc (go302 _ (by first | exact Or.inr ⟨rfl, Or.inl c268⟩ | exact Or.inr ⟨rfl, Or.inr ⟨by omega, by omega⟩⟩ | exact Or.inl ⟨rfl, fun z => by rcases z with z | z <;> omega⟩)) ⟨rfl, rfl, rfl, rfl, rfl, rfl, rfl, rfl, rfl, rfl, trivial⟩
          ·
            refine v_iconst (pc := 297) h (dk dt_L_tasks_3 12 rfl) ?_
            refine v_goto (pc := 298) h 302 (dk dt_L_tasks_3 13 rfl) rfl ?_
            exact VV.loc (go302 _ (by first | exact Or.inr ⟨rfl, Or.inl c268⟩ | exact Or.inr ⟨rfl, Or.inr ⟨by omega, by omega⟩⟩ | exact Or.inl ⟨rfl, fun z => by rcases z with z | z <;> omega⟩)) ⟨rfl, rfl, rfl, rfl, rfl, rfl, rfl, rfl, rfl, rfl, trivial⟩
end
