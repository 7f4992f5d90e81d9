/-! ===== the places of the objects ===== -/
def isSh : Nat → List Shp → Prop
  | _, [] => True
  | k, s :: t => shapes[k]? = some s ∧ isSh (k + 1) t
theorem isSh_app : ∀ {l l' : List Shp} {k : Nat}, isSh k (l ++ l') → isSh k l ∧ isSh (k + l.length) l' := by
  intro l
  induction l with
  | nil => intro l' k h; exact ⟨trivial, h⟩
  | cons s t ih =>
    intro l' k h
    have h2 := ih h.2
    exact ⟨⟨h.1, h2.1⟩, by rw [show k + (s :: t).length = k + 1 + t.length by simp; omega]; exact h2.2⟩
/-- the Row r, whose ints stand at c -/
abbrev isRw (r c n : Nat) : Prop := shapes[r]? = some (.inl (7, [some c])) ∧ shapes[c]? = some (.inr (0, n))
abbrev isRow (o n : Nat) : Prop := isRw o (o + 1) n
abbrev isLine (o : Nat) : Prop := shapes[o]? = some (.inl (3, [some (o + 1), none])) ∧ shapes[o + 1]? = some (.inr (0, 12))
def isP (g : Nat) : Prop := isSh g (shProg g)
def isC (g : Nat) : Prop := isSh g (shCourse g)
def isV (g : Nat) : Prop := isSh g (shLevels g)
def isK (g p : Nat) : Prop := isSh g (shLocks g p) ∧ isP p
def isW (w : Nat) : Prop := isSh w (shWorker w)
theorem P_hd {g : Nat} (h : isP g) : shapes[g]? = some (.inl (6, [some (g + 1), some (g + 3), some (g + 5), none, some 1, none, none])) := h.1
theorem P_lefts {g : Nat} (h : isP g) : isRow (g + 1) 12 := ⟨h.2.1, h.2.2.1⟩
theorem P_ends {g : Nat} (h : isP g) : isRow (g + 3) 12 := ⟨h.2.2.2.1, h.2.2.2.2.1⟩
theorem P_since {g : Nat} (h : isP g) : isRow (g + 5) 12 := ⟨h.2.2.2.2.2.1, h.2.2.2.2.2.2.1⟩
theorem C_hd {g : Nat} (h : isC g) : shapes[g]? = some (.inl (0, [none, some (g + 1), some 1])) := h.1
theorem C_row {g : Nat} (h : isC g) : isRow (g + 1) 2304 := ⟨h.2.1, h.2.2.1⟩
theorem V_hd {g : Nat} (h : isV g) : shapes[g]? = some (.inl (2, [some (g + 1), some (g + 3), some (g + 5)])) := h.1
theorem V_low {g : Nat} (h : isV g) : isLine (g + 1) := ⟨h.2.1, h.2.2.1⟩
theorem V_mid {g : Nat} (h : isV g) : isLine (g + 3) := ⟨h.2.2.2.1, h.2.2.2.2.1⟩
theorem V_high {g : Nat} (h : isV g) : isLine (g + 5) := ⟨h.2.2.2.2.2.1, h.2.2.2.2.2.2.1⟩
theorem K_hd {g p : Nat} (h : isK g p) : shapes[g]? = some (.inl (4, [some 1, some p, some (g + 1), some (g + 3), some (g + 5)])) := h.1.1
theorem K_prog {g p : Nat} (h : isK g p) : isP p := h.2
theorem K_hold {g p : Nat} (h : isK g p) : isRow (g + 1) 3 := ⟨h.1.2.1, h.1.2.2.1⟩
theorem K_block {g p : Nat} (h : isK g p) : isRow (g + 3) 12 := ⟨h.1.2.2.2.1, h.1.2.2.2.2.1⟩
theorem K_ranks {g p : Nat} (h : isK g p) : isRow (g + 5) 12 := ⟨h.1.2.2.2.2.2.1, h.1.2.2.2.2.2.2.1⟩
theorem W_hd {w : Nat} (h : isW w) : shapes[w]? = some (.inl (10, [some (w + 12), some (w + 19), some (w + 1), some 1, some 27, some (w + 3), some (w + 10), some (w + 22), none, none, none, none, none, none, none, none, none, none])) := h.1
theorem W_kept {w : Nat} (h : isW w) : isRow (w + 1) 12 := ⟨h.2.1, h.2.2.1⟩
theorem W_levels {w : Nat} (h : isW w) : isV (w + 3) := (isSh_app (isSh_app h.2).2).1
theorem W_r2 {w : Nat} (h : isW w) : isSh (w + 10) (shRow (w + 10) 12 ++ (shProg (w + 12) ++ (shCourse (w + 19) ++ shLocks (w + 22) (w + 12)))) := (isSh_app (isSh_app h.2).2).2
theorem W_counts {w : Nat} (h : isW w) : isRow (w + 10) 12 := ⟨(W_r2 h).1, (W_r2 h).2.1⟩
theorem W_prog {w : Nat} (h : isW w) : isP (w + 12) := (isSh_app (isSh_app (W_r2 h)).2).1
theorem W_course {w : Nat} (h : isW w) : isC (w + 19) := (isSh_app (isSh_app (isSh_app (W_r2 h)).2).2).1
theorem W_locks {w : Nat} (h : isW w) : isK (w + 22) (w + 12) := ⟨(isSh_app (isSh_app (isSh_app (W_r2 h)).2).2).2, W_prog h⟩
theorem sh0 : shapes[0]? = some (.inl (11, [some 1, some 20, some 27, some 28, some 57, some 86, some 115, none])) := rfl
theorem sh1 : shapes[1]? = some (.inl (1, [some 129, some 4, some 6, some 8, some 10, some 12, some 14, some 16, some 18, none, some 128])) := rfl
theorem sh2 : shapes[2]? = some (.inr (0, 12)) := rfl
theorem sh3 : shapes[3]? = some (.inr (0, 12)) := rfl
theorem sh4 : shapes[4]? = some (.inl (7, [some 5])) := rfl
theorem sh5 : shapes[5]? = some (.inr (0, 12)) := rfl
theorem sh6 : shapes[6]? = some (.inl (7, [some 7])) := rfl
theorem sh7 : shapes[7]? = some (.inr (0, 12)) := rfl
theorem sh8 : shapes[8]? = some (.inl (7, [some 9])) := rfl
theorem sh9 : shapes[9]? = some (.inr (0, 12)) := rfl
theorem sh10 : shapes[10]? = some (.inl (7, [some 11])) := rfl
theorem sh11 : shapes[11]? = some (.inr (0, 12)) := rfl
theorem sh12 : shapes[12]? = some (.inl (7, [some 13])) := rfl
theorem sh13 : shapes[13]? = some (.inr (0, 12)) := rfl
theorem sh14 : shapes[14]? = some (.inl (7, [some 15])) := rfl
theorem sh15 : shapes[15]? = some (.inr (0, 36)) := rfl
theorem sh16 : shapes[16]? = some (.inl (7, [some 17])) := rfl
theorem sh17 : shapes[17]? = some (.inr (0, 36)) := rfl
theorem sh18 : shapes[18]? = some (.inl (7, [some 19])) := rfl
theorem sh19 : shapes[19]? = some (.inr (0, 36)) := rfl
theorem sh20 : shapes[20]? = some (.inl (8, [some 21, some 23, some 25, none])) := rfl
theorem sh21 : shapes[21]? = some (.inl (7, [some 22])) := rfl
theorem sh22 : shapes[22]? = some (.inr (0, 5)) := rfl
theorem sh23 : shapes[23]? = some (.inl (7, [some 24])) := rfl
theorem sh24 : shapes[24]? = some (.inr (0, 5)) := rfl
theorem sh25 : shapes[25]? = some (.inl (7, [some 26])) := rfl
theorem sh26 : shapes[26]? = some (.inr (0, 5)) := rfl
theorem sh27 : shapes[27]? = some (.inl (9, [none, none, none, none, none])) := rfl
theorem sh115 : shapes[115]? = some (.inl (5, [some 116, some 1])) := rfl
theorem sh123 : shapes[123]? = some (.inr (0, 1)) := rfl
theorem sh124 : shapes[124]? = some (.inr (0, 720)) := rfl
theorem sh125 : shapes[125]? = some (.inr (0, 3000)) := rfl
theorem sh126 : shapes[126]? = some (.inr (0, 8)) := rfl
theorem sh127 : shapes[127]? = some (.inr (0, 20)) := rfl
theorem sh128 : shapes[128]? = some (.inl (7, [some 2])) := rfl
theorem sh129 : shapes[129]? = some (.inl (7, [some 3])) := rfl
theorem jr0 : isRw 129 3 12 := ⟨sh129, sh3⟩
theorem jr9 : isRw 128 2 12 := ⟨sh128, sh2⟩
theorem jr1 : isRow 4 12 := ⟨sh4, sh5⟩
theorem jr2 : isRow 6 12 := ⟨sh6, sh7⟩
theorem jr3 : isRow 8 12 := ⟨sh8, sh9⟩
theorem jr4 : isRow 10 12 := ⟨sh10, sh11⟩
theorem jr5 : isRow 12 12 := ⟨sh12, sh13⟩
theorem jr6 : isRow 14 36 := ⟨sh14, sh15⟩
theorem jr7 : isRow 16 36 := ⟨sh16, sh17⟩
theorem jr8 : isRow 18 36 := ⟨sh18, sh19⟩
theorem tr0 : isRow 21 5 := ⟨sh21, sh22⟩
theorem tr1 : isRow 23 5 := ⟨sh23, sh24⟩
theorem tr2 : isRow 25 5 := ⟨sh25, sh26⟩
theorem W28 : isW 28 := by
  unfold isW shWorker
  simp only [shRow, shLevels, shLine, shProg, shCourse, shLocks, List.cons_append, List.nil_append, isSh]
  exact ⟨rfl, rfl, rfl, rfl, rfl, rfl, rfl, rfl, rfl, rfl, rfl, rfl, rfl, rfl, rfl, rfl, rfl, rfl, rfl, rfl, rfl, rfl, rfl, rfl, rfl, rfl, rfl, rfl, rfl, trivial⟩
theorem W57 : isW 57 := by
  unfold isW shWorker
  simp only [shRow, shLevels, shLine, shProg, shCourse, shLocks, List.cons_append, List.nil_append, isSh]
  exact ⟨rfl, rfl, rfl, rfl, rfl, rfl, rfl, rfl, rfl, rfl, rfl, rfl, rfl, rfl, rfl, rfl, rfl, rfl, rfl, rfl, rfl, rfl, rfl, rfl, rfl, rfl, rfl, rfl, rfl, trivial⟩
theorem W86 : isW 86 := by
  unfold isW shWorker
  simp only [shRow, shLevels, shLine, shProg, shCourse, shLocks, List.cons_append, List.nil_append, isSh]
  exact ⟨rfl, rfl, rfl, rfl, rfl, rfl, rfl, rfl, rfl, rfl, rfl, rfl, rfl, rfl, rfl, rfl, rfl, rfl, rfl, rfl, rfl, rfl, rfl, rfl, rfl, rfl, rfl, rfl, rfl, trivial⟩
theorem P116 : isP 116 := by
  unfold isP shProg
  simp only [shRow, List.cons_append, List.nil_append, isSh]
  exact ⟨rfl, rfl, rfl, rfl, rfl, rfl, rfl, trivial⟩
theorem narZ {z : Int} (h : z = 0 ∨ z = 1) : narrow .boolean (iI z) = iI z := by rcases h with rfl | rfl <;> rfl
theorem fitZ {z : Int} (h : z = 0 ∨ z = 1) : fits .boolean (iI z) = true := by rcases h with rfl | rfl <;> rfl
