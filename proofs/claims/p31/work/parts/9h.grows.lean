/-! ===== rows for a house that is made behind arrays ===== -/
/-- a method that begins among cells that are being made and ends in the picture -/
def CtP (l : Launch) (B : Nat) (D : va_G) (E : Nat → ClassId) (y : MethodName) (cw : Cond) (rm : Room) (av : List Value) (L : List va_E) (P : Pv) : Prop :=
  vx_Met l y (cw :: TS) rm (va_Pc av (EntG B D E L)) (Qt B D E P) (Xt B D E NX) rm.cells rm.slots (fun q : Nat => B ≤ q)
theorem ctP_of {l : Launch} {B : Nat} {D : va_G} {E : Nat → ClassId} {y : MethodName} {own : String} {cc : ByteArray} {nL : Nat} {ret : Option FieldType} {rm : Room} {av : List Value} {L : List va_E} {P : Pv} {lv : List (Nat × Value)}
    (hst : l.stackTraces = false) (hy : plainName y.cls = true) (hcl : y.cls = own) (hlv : lv_args 0 av = lv) (hsz : (lg_sl av).length ≤ nL)
    (body : ∀ a : Ax, Ac a B D E own cc nL rm → Rt a B D E ret P NX rm.cells rm.slots → NZ (axS a) → VV a B (GP B D L) 0 0 0 lv []) : CtP l B D E y (.code y cc nL ret) rm av L P := by
  refine vx_ofW (cc := cc) (maxL := nL) (ret := ret) hy rfl ?_
  intro p e s m args below meth c s₁ B0 hml _ hv
  obtain ⟨rfl, hP, hK, hZ, hB, hN⟩ := hv
  have hts := atoms_spec (ws := Cond.code y cc nL ret :: TS) B0.pre
  have hown : s.vm.findClass own = some m.cls := by rw [← hcl]; exact findClass_of_methodNamed B0.named
  have hl := lv_entry av hsz
  rw [hlv] at hl
  rw [lg_entry_eq]
  generalize (lg_sl av ++ List.replicate (nL - (lg_sl av).length) Slot.unset).toArray = ls at hl ⊢
  have hb := body (p, l, e, rm, s, m, av.toArray, below, meth, c, vx_MQ below (Qt B D E P) (Xt B D E NX) av.toArray s rm.cells rm.slots (fun q : Nat => B ≤ q))
    ⟨B0.exec, B0.bytes, hml, hown, fun w hw => hts w (List.mem_cons_of_mem _ hw), rfl, hK, hZ, hst, B0.notSynchronized, hB⟩ ⟨rfl, B0.returns⟩ hN
  exact hb s.heap [] ls hP va_S.rf (by rw [← hml] at hl; exact hl)
section
variable {a : Ax} {B : Nat} {D : va_G} {E : Nat → ClassId} {own : String} {cc : ByteArray} {nL : Nat} {rm : Room} {k n pc : Nat} {lv : List (Nat × Value)} {st rest : List Value} {L T : List va_E} {o : Nat}
theorem g_callS (h : Ac a B D E own cc nL rm) (hN : NZ (axS a)) {m index maxL : Nat} {y : MethodName} {bytes : ByteArray} {ret : Option FieldType} {r : Room} {As : List Value} {P : Pv}
    (hM : CtP (axL a) B D E y (.code y bytes maxL ret) r As L P) (kv : KS own y bytes maxL ret m) (w : Cond.methodLink own index y ∈ TS) (hst : st = As.reverse ++ rest) (hm : As.length = m) (hcat : (rest.map fun v => v.category).sum ≤ 8) (hR : RM rm r k n maxL) (d : decode cc pc = .ok (.invokestatic index, 3))
    (q : ∀ (v : Option Value) (μ' : Mm), P v μ' → VV a B (SP B D E μ') (k + r.cells) (n + r.slots) (pc + 3) lv (v.toList ++ rest)) : VV a B (GP B D L) k n pc lv st := by
  intro H locs ls a1 a2 a3 T0 hT X0
  have hr := h.room
  obtain ⟨⟨w1, w3, w4⟩, hd⟩ := kv
  have hG : GoodIn TS (wsS own index y (Cond.code y bytes maxL ret :: TS)) := by
    intro z hz
    have hm : z ∈ TS := by
      rcases List.mem_append.mp hz with hz | hz
      · rcases List.mem_cons.mp hz with e | hz
        · rw [e]; exact w
        · rcases List.mem_cons.mp hz with e | hz
          · rw [e]; exact w1
          · rw [List.mem_singleton.mp hz]; exact w3
      · rcases List.mem_cons.mp hz with e | hz
        · rw [e]; exact w4
        · exact hz
    exact ts_self z hm
  have hrun := vx_runS (e := axE a) (below := axB a) (meth := axF a) (R := axR a) (g := F0 (axM a) pc ls st) (rest := rest) (n := m) (cells := k) (slots := n) (locs := locs) (H := H) h.fix hM (cwS m h.hts hG rfl rfl rfl hd (by rw [hr]; exact hR.1))
    ⟨EntG.blind, fun U hU hW => ⟨rfl, h.entG hN a1 a2 hU hW⟩⟩ rfl hm (by rw [← h.maxl]; exact a3.1) hst (lv_room hcat) d (by rw [hr]; exact hR.2)
  rcases hrun T0 hT X0 with ⟨v, st₀, t, T', L, h0, X', hL, e1, e2, ⟨⟨v', μ', hv, hp, hP1⟩, hF⟩, stp⟩ | ⟨q9, st₀, t, T', L, e, ce, h0, X', hL, e1, e2, ⟨⟨μ', hx, hP1⟩, hF⟩, hce, hcv, hcl, stp⟩
  · cases hv
    obtain ⟨-, -, k3⟩ := vx_keep h0 e1 a2 (fun _ _ z => z) (fun _ z => z) hL hF
    obtain ⟨t2, b1, b2⟩ := q v μ' hp T'.heap (locs ++ L) ls (by rw [e1]; exact hP1) k3 a3 T' rfl X'
    exact ⟨t2, stp t2 b1, b2⟩
  · exact hx.elim
/-- an array of ints that is told by numbers -/
abbrev arG (E : Nat → ClassId) (len : Nat) (g : Nat → Int) : va_E := .inl (E 0, (len, .inl (fun b => Int32.ofInt (g b))))
theorem g_iald (h : Ac a B D E own cc nL rm) {len : Nat} {g : Nat → Int} {z : Int} (hL : L.length = o) (hl : len ≤ 4000) (hz : 0 ≤ z ∧ z < (len : Int)) (d : decode cc pc = .ok (.iaload, 1))
    (q : VV a B (GP B D (L ++ arG E len g :: T)) k n (pc + 1) lv (iI (g z.toNat) :: st)) : VV a B (GP B D (L ++ arG E len g :: T)) k n pc lv (iI z :: .ref (B + o) :: st) := fun H locs ls a1 a2 a3 =>
  va_iald h.exec h.bytes h.known a1.1 o 0 (by rw [wlF_get, g_at hL, Nat.zero_add]; rfl) rfl (iI_in (by omega) hz.1 hz.2) d (by rw [iI_nat (by omega)]; exact q H locs ls a1 a2 a3)
theorem g_iast (h : Ac a B D E own cc nL rm) {len : Nat} {g : Nat → Int} {z y : Int} (hL : L.length = o) (hl : len ≤ 4000) (hz : 0 ≤ z ∧ z < (len : Int)) (d : decode cc pc = .ok (.iastore, 1))
    (q : VV a B (GP B D (L ++ arG E len (fun b => if b = z.toNat then y else g b) :: T)) k n (pc + 1) lv st) : VV a B (GP B D (L ++ arG E len g :: T)) k n pc lv (iI y :: iI z :: .ref (B + o) :: st) := fun H locs ls a1 a2 a3 => by
  obtain ⟨hP, hsz⟩ := a1
  have hget : (wlF B 0 (L ++ arG E len g :: T))[o]? = some (B + o, arG E len g) := by rw [wlF_get, g_at hL, Nat.zero_add]; rfl
  have hlen : o < (L ++ arG E len g :: T).length := by rw [List.length_append, List.length_cons]; omega
  have hin : vp_in (Int32.ofInt z) len := iI_in (by omega) hz.1 hz.2
  refine W.iast h.exec h.bytes (hP o _ hget) ((h.known.2 0 _ rfl).1 len (fun j => .int (Int32.ofInt (g j)))) (fun q => by cases q) (by show ¬ (_ ∨ (arrV _ _ _).slots.size ≤ _); rw [arrV_size]; exact hin) rfl rfl d fun H1 e z1 oq => ?_
  have hcell : va_at D vwCl (B + o, arG E len (fun b => if b = z.toNat then y else g b)) H1 := by
    show H1[B + o]? = some (vp_cell _ _)
    rw [e, vp_cell_i, vp_cell_i, arrV_store]
    congr 2
    funext j
    rw [iI_nat (by omega)]
    by_cases hj : j = z.toNat
    · simp [hj, updV]
    · simp [hj, updV]
  have hP1 := hP.set (wlF_apart B _) hget hcell oq
  have e2 : (wlF B 0 (L ++ arG E len g :: T)).set o (B + o, arG E len (fun b => if b = z.toNat then y else g b)) = wlF B 0 (L ++ arG E len (fun b => if b = z.toNat then y else g b) :: T) := by
    rw [wlF_set B hlen, g_set hL]
  rw [e2] at hP1
  exact q H1 _ ls ⟨hP1, by rw [z1, hsz, List.length_append, List.length_append, List.length_cons, List.length_cons]⟩ (a2.put z1 oq ((wlF_apart B _).2 o _ hget)) a3
end
