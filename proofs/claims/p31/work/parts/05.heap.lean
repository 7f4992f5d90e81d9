/-! ===== the picture of the whole system in a heap; fields, arrays ===== -/
def SP (B : Nat) (D : va_G) (E : Nat → ClassId) (μ : Mm) : Heap → Prop := fun H => va_P D vwCl (wsm B E μ) H
section R2
variable {a : Ax} {B : Nat} {D : va_G} {E : Nat → ClassId} {own : String} {cc : ByteArray} {nL : Nat} {rm : Room} {μ : Mm} {k n pc : Nat} {lv : List (Nat × Value)} {st : List Value} {o : Nat}
theorem v_get (h : Ac a B D E own cc nL rm) {ci j index N : Nat} {C : String} {T : u_T} {ty : Nat → FieldType} {fs : List (Option Nat)} {v : Value} (hc : CI ci C T N ty) (sh : shapes[o]? = some (.inl (ci, fs))) (hj : j < N) (w : Cond.fieldLink own index (T j).1 (T j).2.1 (T j).2.2.1 ∈ TS) (hv : (fvs (pl B) (μ o) 0 fs)[j]? = some v) (d : decode cc pc = .ok (.getfield index, 3))
    (q : VV a B (SP B D E μ) k n (pc + 3) lv (v :: st)) : VV a B (SP B D E μ) k n pc lv (.ref (pl B o) :: st) := fun H locs ls a1 a2 a3 =>
  va_get h.exec h.bytes h.hts hc.2.1 h.cls h.known a1 o (wsm_get sh) hc.1 j hj (h.hts _ w) (fun _ z => z) hv d (q H locs ls a1 a2 a3)
theorem fvs_get (B : Nat → Nat) (μ : Nat → Int) : ∀ (fs : List (Option Nat)) (a j : Nat), (fvs B μ a fs)[j]? = (fs[j]?).map (fun f => match f with | some r => Value.ref (B r) | none => iI (μ (a + j))) := by
  intro fs
  induction fs with
  | nil => intro a j; simp [fvs]
  | cons f t ih =>
    intro a j
    cases j with
    | zero => cases f <;> simp [fvs]
    | succ j => cases f <;> simp only [fvs, List.getElem?_cons_succ, ih] <;> rw [show a + 1 + j = a + (j + 1) by omega]
theorem v_geti (h : Ac a B D E own cc nL rm) {ci j index N : Nat} {C : String} {T : u_T} {ty : Nat → FieldType} {fs : List (Option Nat)} (hc : CI ci C T N ty) (sh : shapes[o]? = some (.inl (ci, fs))) (hj : j < N) (w : Cond.fieldLink own index (T j).1 (T j).2.1 (T j).2.2.1 ∈ TS) (hv : fs[j]? = some none) (d : decode cc pc = .ok (.getfield index, 3))
    (q : VV a B (SP B D E μ) k n (pc + 3) lv (iI (μ o j) :: st)) : VV a B (SP B D E μ) k n pc lv (.ref (pl B o) :: st) := v_get h hc sh hj w (by rw [fvs_get, hv, Nat.zero_add]; rfl) d q
theorem v_getr (h : Ac a B D E own cc nL rm) {ci j index N r : Nat} {C : String} {T : u_T} {ty : Nat → FieldType} {fs : List (Option Nat)} (hc : CI ci C T N ty) (sh : shapes[o]? = some (.inl (ci, fs))) (hj : j < N) (w : Cond.fieldLink own index (T j).1 (T j).2.1 (T j).2.2.1 ∈ TS) (hv : fs[j]? = some (some r)) (d : decode cc pc = .ok (.getfield index, 3))
    (q : VV a B (SP B D E μ) k n (pc + 3) lv (.ref (pl B r) :: st)) : VV a B (SP B D E μ) k n pc lv (.ref (pl B o) :: st) := v_get h hc sh hj w (by rw [fvs_get, hv]; rfl) d q
theorem v_put (h : Ac a B D E own cc nL rm) {ci j index N : Nat} {C : String} {T : u_T} {ty : Nat → FieldType} {fs : List (Option Nat)} {z : Int} (hc : CI ci C T N ty) (sh : shapes[o]? = some (.inl (ci, fs))) (hj : j < N) (w : Cond.fieldLink own index (T j).1 (T j).2.1 (T j).2.2.1 ∈ TS) (hf : fs[j]? = some none) (hfin : (T j).2.2.2 = false) (hn : narrow (ty j) (iI z) = iI z) (hft : fits (ty j) (iI z) = true) (d : decode cc pc = .ok (.putfield index, 3))
    (q : VV a B (SP B D E (mup μ o j z)) k n (pc + 3) lv st) : VV a B (SP B D E μ) k n pc lv (iI z :: .ref (pl B o) :: st) := fun H locs ls a1 a2 a3 =>
  va_put h.exec h.bytes h.hts hc.2.1 ty hc.2.2.1 hc.2.2.2 h.cls h.known a1 (wsm_apart B E μ) a2 o (wsm_get sh) hc.1 j hj (h.hts _ w) (fun _ z => z) hfin (hc.2.2.1 j hj) hn hft (by rw [fvs_len]; exact (List.getElem?_eq_some_iff.mp hf).1) d (fun H1 locs1 b1 _ b3 => q H1 locs1 ls (by
    have e : (wsm B E μ).set o (pl B o, .inr (ci, (fvs (pl B) (μ o) 0 fs).set j (iI z))) = wsm B E (mup μ o j z) := wsm_set (s := .inl (ci, fs)) sh (by
      show _ = (Sum.inr (ci, fvs (pl B) (mup μ o j z o) 0 fs) : va_E)
      rw [fvs_set fs 0 j (Nat.zero_add j).symm hf]
      have : (fun b => if b = j then z else μ o b) = mup μ o j z o := by funext b; rw [mup_row]
      rw [this])
    show va_P D vwCl (wsm B E (mup μ o j z)) H1
    rw [← e]; exact b1) b3 a3)
theorem v_iald (h : Ac a B D E own cc nL rm) {len : Nat} {z : Int} (sh : shapes[o]? = some (.inr (0, len))) (hl : len ≤ 4000) (hz : 0 ≤ z ∧ z < (len : Int)) (d : decode cc pc = .ok (.iaload, 1))
    (q : VV a B (SP B D E μ) k n (pc + 1) lv (iI (μ o z.toNat) :: st)) : VV a B (SP B D E μ) k n pc lv (iI z :: .ref (pl B o) :: st) := fun H locs ls a1 a2 a3 =>
  va_iald h.exec h.bytes h.known a1 o 0 (wsm_get sh) rfl (iI_in (by omega) hz.1 hz.2) d (by rw [iI_nat (by omega)]; exact q H locs ls a1 a2 a3)
theorem upd_mup {j : Nat} {y : Int} : upd (fun j => Int32.ofInt (μ o j)) j (Int32.ofInt y) = fun b => Int32.ofInt (mup μ o j y o b) := by
  funext b
  rw [mup_row]
  unfold upd
  by_cases hb : b = j <;> simp [hb]
theorem v_iast (h : Ac a B D E own cc nL rm) {len : Nat} {z y : Int} (sh : shapes[o]? = some (.inr (0, len))) (hl : len ≤ 4000) (hz : 0 ≤ z ∧ z < (len : Int)) (d : decode cc pc = .ok (.iastore, 1))
    (q : VV a B (SP B D E (mup μ o z.toNat y)) k n (pc + 1) lv st) : VV a B (SP B D E μ) k n pc lv (iI y :: iI z :: .ref (pl B o) :: st) := fun H locs ls a1 a2 a3 =>
  va_iast h.exec h.bytes h.known a1 (wsm_apart B E μ) a2 o 0 (wsm_get sh) rfl (iI_in (by omega) hz.1 hz.2) d (fun H1 locs1 b1 _ b3 => q H1 locs1 ls (by
    rw [iI_nat (by omega), upd_mup] at b1
    have e : (wsm B E μ).set o (pl B o, .inl (E 0, len, .inl (fun b => Int32.ofInt (mup μ o z.toNat y o b)))) = wsm B E (mup μ o z.toNat y) := wsm_set (s := .inr (0, len)) sh rfl
    show va_P D vwCl (wsm B E (mup μ o z.toNat y)) H1
    rw [← e]
    exact b1) b3 a3)
theorem v_alen (h : Ac a B D E own cc nL rm) {len : Nat} (sh : shapes[o]? = some (.inr (0, len))) (d : decode cc pc = .ok (.arraylength, 1))
    (q : VV a B (SP B D E μ) k n (pc + 1) lv (iI (len : Int) :: st)) : VV a B (SP B D E μ) k n pc lv (.ref (pl B o) :: st) := fun H locs ls a1 a2 a3 =>
  va_alen h.exec h.bytes h.known a1 o 0 (wsm_get sh) rfl (Int32.ofInt_eq_ofNat.symm) d (q H locs ls a1 a2 a3)
end R2
/-! ===== contracts ===== -/
abbrev Pv : Type := Option Value → Mm → Prop
abbrev Px : Type := String → Mm → Prop
def Ent (B : Nat) (D : va_G) (E : Nat → ClassId) (μ : Mm) (U : State) : Prop := SP B D E μ U.heap ∧ va_K D vwCl (tyE E) U ∧ ZX B U U.heap ∧ B ≤ U.heap.size
def Qt (B : Nat) (D : va_G) (E : Nat → ClassId) (P : Pv) : Array Value → State → Outcome → State → Prop := fun _ s oc t => (∃ (v : Option Value) (μ : Mm), oc = .returned v ∧ P v μ ∧ SP B D E μ t.heap) ∧ va_F (fun q : Nat => B ≤ q) s t
def Xt (B : Nat) (D : va_G) (E : Nat → ClassId) (X : Px) : String → State → State → Prop := fun e s t => (∃ μ : Mm, X e μ ∧ SP B D E μ t.heap) ∧ va_F (fun q : Nat => B ≤ q) s t
/-- a method's contract: from the memory μ with the arguments av it returns as P says or throws as X says -/
def Ct (l : Launch) (B : Nat) (D : va_G) (E : Nat → ClassId) (y : MethodName) (cw : Cond) (rm : Room) (av : List Value) (μ : Mm) (P : Pv) (X : Px) : Prop :=
  vx_Met l y (cw :: TS) rm (va_Pc av (Ent B D E μ)) (Qt B D E P) (Xt B D E X) rm.cells rm.slots (fun q : Nat => B ≤ q)
def NX : Px := fun _ _ => False
/-- it returns v, the memory is μ' -/
def dr (v : Option Value) (μ' : Mm) : Pv := fun w m => w = v ∧ m = μ'
/-- .. an int, the memory as it was -/
abbrev ri (z : Int) (μ' : Mm) : Pv := dr (some (iI z)) μ'
abbrev rv (μ' : Mm) : Pv := dr none μ'
def Rt (a : Ax) (B : Nat) (D : va_G) (E : Nat → ClassId) (ret : Option FieldType) (P : Pv) (X : Px) (mc ms : Nat) : Prop :=
  axQ a = vx_MQ (axB a) (Qt B D E P) (Xt B D E X) (axA a) (axS a) mc ms (fun q : Nat => B ≤ q) ∧ (axF a).sig.returnType = ret
def noTab (a : Ax) : Prop := ∀ x ∈ (axC a).exceptionTable.toList, False
theorem ct_of {l : Launch} {B : Nat} {D : va_G} {E : Nat → ClassId} {y : MethodName} {own : String} {cc : ByteArray} {nL : Nat} {ret : Option FieldType} {rm : Room} {av : List Value} {μ : Mm} {P : Pv} {X : Px} {lv : List (Nat × Value)}
    (hst : l.stackTraces = false) (hy : plainName y.cls = true) (hcl : y.cls = own) (hlv : lv_args 0 av = lv) (hsz : (lg_sl av).length ≤ nL)
    (body : ∀ a : Ax, Ac a B D E own cc nL rm → Rt a B D E ret P X rm.cells rm.slots → noTab a → VV a B (SP B D E μ) 0 0 0 lv []) : Ct l B D E y (.code y cc nL ret) rm av μ P X := by
  refine vx_ofW (cc := cc) (maxL := nL) (ret := ret) hy rfl ?_
  intro p e s m args below meth c s₁ B0 hml htab hv
  obtain ⟨rfl, hP, hK, hZ, hB⟩ := hv
  have hts := atoms_spec (ws := Cond.code y cc nL ret :: TS) B0.pre
  have hown : s.vm.findClass own = some m.cls := by rw [← hcl]; exact findClass_of_methodNamed B0.named
  have hl := lv_entry av hsz
  rw [hlv] at hl
  rw [lg_entry_eq]
  generalize (lg_sl av ++ List.replicate (nL - (lg_sl av).length) Slot.unset).toArray = ls at hl ⊢
  have hb := body (p, l, e, rm, s, m, av.toArray, below, meth, c, vx_MQ below (Qt B D E P) (Xt B D E X) av.toArray s rm.cells rm.slots (fun q : Nat => B ≤ q))
    ⟨B0.exec, B0.bytes, hml, hown, fun w hw => hts w (List.mem_cons_of_mem _ hw), rfl, hK, hZ, hst, B0.notSynchronized, hB⟩ ⟨rfl, B0.returns⟩ htab
  exact hb s.heap [] ls hP va_S.rf (by rw [← hml] at hl; exact hl)
/-! ===== ends ===== -/
section R3
variable {a : Ax} {B : Nat} {D : va_G} {E : Nat → ClassId} {own : String} {cc : ByteArray} {nL : Nat} {rm : Room} {μ : Mm} {k n pc : Nat} {lv : List (Nat × Value)} {P : Pv} {X : Px} {mc ms : Nat}
theorem Rt.end {ret : Option FieldType} (r : Rt a B D E ret P X mc ms) (hk : k ≤ mc) (hn : n ≤ ms) {H : Heap} {locs : List Loc} {g : JFrame}
    (q : W (axP a) (axL a) (axE a) (axR a) (axS a) (axM a) (axA a) (axB a) (axF a) (axC a) H locs mc ms (MQ (axB a) (Qt B D E P) (axA a) (axS a) mc ms (fun q : Nat => B ≤ q)) g) : W (axP a) (axL a) (axE a) (axR a) (axS a) (axM a) (axA a) (axB a) (axF a) (axC a) H locs k n (axQ a) g := by
  rw [r.1]
  exact W.widen hk hn (vx_ret q)
theorem v_iret (h : Ac a B D E own cc nL rm) (r : Rt a B D E (some .int) P X mc ms) {z : Int} (d : decode cc pc = .ok (.ireturn, 1)) (hk : k ≤ mc) (hn : n ≤ ms) (p : P (some (iI z)) μ) : VV a B (SP B D E μ) k n pc lv [iI z] := fun H locs ls a1 a2 _ =>
  r.end hk hn (W.iret h.exec h.bytes r.2 (fun t ht _ => ⟨⟨_, μ, rfl, p, by rw [ht]; exact a1⟩, a2.F ht⟩) a2.2.2 d (hlocks := h.unlocked))
theorem v_zret (h : Ac a B D E own cc nL rm) (r : Rt a B D E (some .boolean) P X mc ms) {z : Int} (d : decode cc pc = .ok (.ireturn, 1)) (hk : k ≤ mc) (hn : n ≤ ms) (hz : z = 0 ∨ z = 1) (p : P (some (iI z)) μ) : VV a B (SP B D E μ) k n pc lv [iI z] := fun H locs ls a1 a2 _ =>
  r.end hk hn (W.zret h.exec h.bytes r.2 (by rcases hz with rfl | rfl <;> rfl) (fun t ht _ => ⟨⟨_, μ, rfl, p, by rw [ht]; exact a1⟩, a2.F ht⟩) a2.2.2 d (hlocks := h.unlocked))
theorem v_lret (h : Ac a B D E own cc nL rm) (r : Rt a B D E (some .long) P X mc ms) {z : Int} (d : decode cc pc = .ok (.lreturn, 1)) (hk : k ≤ mc) (hn : n ≤ ms) (p : P (some (iL z)) μ) : VV a B (SP B D E μ) k n pc lv [iL z] := fun H locs ls a1 a2 _ =>
  r.end hk hn (W.lret h.exec h.bytes r.2 (fun t ht _ => ⟨⟨_, μ, rfl, p, by rw [ht]; exact a1⟩, a2.F ht⟩) a2.2.2 d (hlocks := h.unlocked))
theorem v_vret (h : Ac a B D E own cc nL rm) (r : Rt a B D E none P X mc ms) (d : decode cc pc = .ok (.return_, 1)) (hk : k ≤ mc) (hn : n ≤ ms) (p : P none μ) : VV a B (SP B D E μ) k n pc lv [] := fun H locs ls a1 a2 _ =>
  r.end hk hn (W.vret h.exec h.bytes r.2 (fun t ht _ => ⟨⟨_, μ, rfl, p, by rw [ht]; exact a1⟩, a2.F ht⟩) a2.2.2 d (hlocks := h.unlocked))
theorem v_aret (h : Ac a B D E own cc nL rm) {x : Nat} {rt : String} (r : Rt a B D E (some (.object rt)) P X mc ms) (d : decode cc pc = .ok (.areturn, 1)) (hk : k ≤ mc) (hn : n ≤ ms) (p : P (some (.ref x)) μ) : VV a B (SP B D E μ) k n pc lv [.ref x] := fun H locs ls a1 a2 _ =>
  r.end hk hn (W.aret h.exec h.bytes r.2 (Or.inl ⟨rt, rfl⟩) (Or.inr ⟨x, rfl⟩) (fun t ht _ => ⟨⟨_, μ, rfl, p, by rw [ht]; exact a1⟩, a2.F ht⟩) a2.2.2 d (hlocks := h.unlocked))
/-- an exception of the class e is on its way, at pc -/
def VX (a : Ax) (B : Nat) (P : Heap → Prop) (k n pc : Nat) (e : String) (lv : List (Nat × Value)) (st : List Value) : Prop :=
  ∀ (H : Heap) (locs : List Loc) (ls : Array Slot) (q : Addr) (ce : Cell), P H → va_S (fun q : Nat => B ≤ q) (axS a).heap H locs → lv_has ls (axC a).maxLocals lv → H[q]? = some ce → ce.vm = .none → (axS a).vm.findClass e = some ce.cls →
    vx_W (axP a) (axL a) (axE a) (axR a) (axS a) (axM a) (axA a) (axB a) (axF a) (axC a) H locs k n (axQ a) (F0 (axM a) pc ls st) q
theorem v_out {ret : Option FieldType} {st : List Value} {e : String} (h : Ac a B D E own cc nL rm) (r : Rt a B D E ret P X mc ms) (t : noTab a) (hk : k ≤ mc) (hn : n ≤ ms) (x : X e μ) : VX a B (SP B D E μ) k n pc e lv st := fun H locs ls q ce a1 a2 _ a4 a5 a6 => by
  rw [r.1]
  exact vx_out (E := e) (fun y hy => (t y hy).elim) h.unlocked a4 a5 a6 (fun t' ht _ => ⟨⟨μ, x, by rw [ht]; exact a1⟩, a2.F ht⟩) a2.2.2 hk hn
end R3
