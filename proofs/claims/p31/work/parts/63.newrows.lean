/-! ===== objects that are being made: the cells from B on, in their order ===== -/
def wlF (B : Nat) : Nat → List va_E → va_W
  | _, [] => []
  | k, x :: t => (B + k, x) :: wlF B (k + 1) t
/-- the cells from B on are L, and no others come behind -/
def GP (B : Nat) (D : va_G) (L : List va_E) : Heap → Prop := fun H => va_P D vwCl (wlF B 0 L) H ∧ H.size = B + L.length
theorem wlF_get (B : Nat) : ∀ (L : List va_E) (k i : Nat), (wlF B k L)[i]? = (L[i]?).map (fun x => (B + (k + i), x)) := by
  intro L
  induction L with
  | nil => intro k i; simp [wlF]
  | cons s t ih =>
    intro k i
    cases i with
    | zero => simp [wlF]
    | succ i =>
      simp only [wlF, List.getElem?_cons_succ, ih]
      rw [show k + 1 + i = k + (i + 1) by omega]
theorem wlF_len (B : Nat) : ∀ (L : List va_E) (k : Nat), (wlF B k L).length = L.length := by
  intro L
  induction L with
  | nil => intro k; rfl
  | cons s t ih => intro k; simp [wlF, ih]
theorem wlF_apart (B : Nat) (L : List va_E) : va_D (fun q : Nat => B ≤ q) (wlF B 0 L) := by
  refine ⟨fun i j p q hp hq hpq => ?_, fun k q hq => ?_⟩
  · rw [wlF_get] at hp hq
    obtain ⟨a, -, rfl⟩ := Option.map_eq_some_iff.mp hp
    obtain ⟨b, -, rfl⟩ := Option.map_eq_some_iff.mp hq
    simp only at hpq
    omega
  · rw [wlF_get] at hq
    obtain ⟨a, -, rfl⟩ := Option.map_eq_some_iff.mp hq
    exact Nat.le_add_right _ _
theorem wlF_app (B : Nat) : ∀ (L M : List va_E) (k : Nat), wlF B k (L ++ M) = wlF B k L ++ wlF B (k + L.length) M := by
  intro L
  induction L with
  | nil => intro M k; rfl
  | cons s t ih =>
    intro M k
    show (B + k, s) :: wlF B (k + 1) (t ++ M) = _
    rw [ih, List.length_cons, show k + 1 + t.length = k + (t.length + 1) by omega]
    rfl
theorem wlF_set (B : Nat) {L : List va_E} {i : Nat} {x : va_E} (hi : i < L.length) : (wlF B 0 L).set i (B + i, x) = wlF B 0 (L.set i x) := by
  apply List.ext_getElem?
  intro j
  by_cases e : j = i
  · subst e
    rw [List.getElem?_set_self (by rw [wlF_len]; exact hi), wlF_get, List.getElem?_set_self hi, Nat.zero_add]
    rfl
  · rw [List.getElem?_set_ne (fun z => e z.symm), wlF_get, wlF_get, List.getElem?_set_ne (fun z => e z.symm)]
theorem GP_push {B : Nat} {D : va_G} {L : List va_E} {H H1 : Heap} {x : va_E} (h : GP B D L H) (z : H1.size = H.size + 1) (o1 : ∀ q : Nat, q < H.size → H1[q]? = H[q]?) (hx : va_at D vwCl (H.size, x) H1) : GP B D (L ++ [x]) H1 := by
  obtain ⟨hP, hz⟩ := h
  refine ⟨?_, by rw [z, hz, List.length_append]; rfl⟩
  rw [wlF_app]
  refine (hP.kept (fun k x hx => o1 x.1 ((hP k x hx).lt))).app (fun k y hy => ?_)
  have hk : k < 1 := (List.getElem?_eq_some_iff.mp hy).1
  rw [show k = 0 by omega] at hy
  cases hy
  show va_at D vwCl (B + (0 + L.length), x) H1
  rw [Nat.zero_add, ← hz]
  exact hx
/-- the nest mates' links of constructors -/
def xml : List (String × Nat × MethodName × String) := [("Slicehouse", 9, ⟨"Slicehouse$Jobs", "<init>", "()V"⟩, "Slicehouse"), ("Slicehouse", 18, ⟨"Slicehouse$Tasks", "<init>", "()V"⟩, "Slicehouse"), ("Slicehouse", 25, ⟨"Slicehouse$Ways", "<init>", "()V"⟩, "Slicehouse"), ("Slicehouse$Worker", 22, ⟨"Slicehouse$Levels", "<init>", "()V"⟩, "Slicehouse"), ("Slicehouse$Levels", 9, ⟨"Slicehouse$Line", "<init>", "()V"⟩, "Slicehouse")]
def NZ (U : State) : Prop := ∀ q ∈ xml, va_Nw (.methodLinkNest q.1 q.2.1 q.2.2.1 q.2.2.2) U
def EntG (B : Nat) (D : va_G) (E : Nat → ClassId) (L : List va_E) (U : State) : Prop := GP B D L U.heap ∧ va_K D vwCl (tyE E) U ∧ ZX B U U.heap ∧ B ≤ U.heap.size ∧ NZ U
def QtG (B : Nat) (D : va_G) (L : List va_E) : Array Value → State → Outcome → State → Prop := fun _ s oc t => (oc = .returned none ∧ GP B D L t.heap) ∧ va_F (fun q : Nat => B ≤ q) s t
/-- a constructor's contract: from the cells L it comes to the cells L' -/
def CtG (l : Launch) (B : Nat) (D : va_G) (E : Nat → ClassId) (y : MethodName) (cw : Cond) (rm : Room) (av : List Value) (L L' : List va_E) : Prop :=
  Met l y (cw :: TS) rm (va_Pc av (EntG B D E L)) (QtG B D L') rm.cells rm.slots (fun q : Nat => B ≤ q)
def RtG (a : Ax) (B : Nat) (D : va_G) (L : List va_E) (mc ms : Nat) : Prop :=
  axQ a = MQ (axB a) (QtG B D L) (axA a) (axS a) mc ms (fun q : Nat => B ≤ q) ∧ (axF a).sig.returnType = none
theorem ctG_of {l : Launch} {B : Nat} {D : va_G} {E : Nat → ClassId} {y : MethodName} {own : String} {cc : ByteArray} {nL : Nat} {rm : Room} {av : List Value} {L L' : List va_E} {lv : List (Nat × Value)}
    (hst : l.stackTraces = false) (hy : plainName y.cls = true) (hcl : y.cls = own) (hnm : y.name = "<init>") (hlv : lv_args 0 av = lv) (hsz : (lg_sl av).length ≤ nL)
    (body : ∀ a : Ax, Ac a B D E own cc nL rm → RtG a B D L' rm.cells rm.slots → (axF a).name = "<init>" → NZ (axS a) → VV a B (GP B D L) 0 0 0 lv []) : CtG l B D E y (.code y cc nL none) rm av L L' := by
  refine Met.ofW (cc := cc) (maxL := nL) (ret := none) hy rfl ?_
  intro p e s m args below meth c s₁ B0 hml hv
  obtain ⟨rfl, hP, hK, hZ, hB, hN⟩ := hv
  have hts := atoms_spec (ws := Cond.code y cc nL none :: TS) B0.pre
  have hown : s.vm.findClass own = some m.cls := by rw [← hcl]; exact findClass_of_methodNamed B0.named
  have hin : meth.name = "<init>" := by rw [← hnm]; exact (name_of_methodNamed B0.named B0.method).1
  have hl := lv_entry av hsz
  rw [hlv] at hl
  rw [lg_entry_eq]
  generalize (lg_sl av ++ List.replicate (nL - (lg_sl av).length) Slot.unset).toArray = ls at hl ⊢
  have hb := body (p, l, e, rm, s, m, av.toArray, below, meth, c, MQ below (QtG B D L') av.toArray s rm.cells rm.slots (fun q : Nat => B ≤ q))
    ⟨B0.exec, B0.bytes, hml, hown, fun w hw => hts w (List.mem_cons_of_mem _ hw), rfl, hK, hZ, hst, B0.notSynchronized, hB⟩ ⟨rfl, B0.returns⟩ hin hN
  exact hb s.heap [] ls hP va_S.rf (by rw [← hml] at hl; exact hl)
section RG
variable {a : Ax} {B : Nat} {D : va_G} {E : Nat → ClassId} {own : String} {cc : ByteArray} {nL : Nat} {rm : Room} {k n pc : Nat} {lv : List (Nat × Value)} {st rest : List Value} {L T : List va_E} {o : Nat}
theorem g_cast {L' : List va_E} (e : L = L') (q : VV a B (GP B D L') k n pc lv st) : VV a B (GP B D L) k n pc lv st := by rw [e]; exact q
theorem g_obj {P : Heap → Prop} {x index : Nat} (h : Ac a B D E own cc nL rm) (w1 : Cond.methodLink own index Lib.objectInit ∈ TS) (w2 : Cond.instanceMethod Lib.objectInit ∈ TS) (w3 : Cond.code Lib.objectInit ⟨#[0xb1]⟩ 1 none ∈ TS) (hcat : (st.map fun v => v.category).sum ≤ 8) (hf : 1 ≤ rm.frames ∧ 20 ≤ rm.locals) (d : decode cc pc = .ok (.invokespecial index, 3))
    (q : VV a B P k n (pc + 3) lv st) : VV a B P k n pc lv (.ref x :: st) := fun H locs ls a1 a2 a3 => by
  have hr := h.room
  exact W.objInit h.exec h.bytes h.cls (h.hts _ w1) (h.hts _ w2) (h.hts _ w3) rfl a3.1 rfl d (by rw [hr]; exact hf.1) (by rw [hr]; exact Nat.le_trans (Nat.add_le_add_right (lv_room hcat) 12) hf.2) (q H locs ls a1 a2 a3)
theorem g_new (h : Ac a B D E own cc nL rm) {ci index N : Nat} {C : String} {T : u_T} {ty : Nat → FieldType} {fs : List Value} (hc : CI ci C T N ty) (w1 : Cond.classLink own index C ∈ TS) (w2 : Cond.instantiable C N ∈ TS) (w3 : Cond.initialized C ∈ TS) (hfs : ∀ j, j < N → defaultValue (ty j) = vp_V fs j) (hr : k + 1 ≤ rm.cells ∧ n + N ≤ rm.slots) (d : decode cc pc = .ok (.new index, 3)) (hL : L.length = o)
    (q : VV a B (GP B D (L ++ [.inr (ci, fs)])) (k + 1) (n + N) (pc + 3) lv (.ref (B + o) :: st)) : VV a B (GP B D L) k n pc lv st := fun H locs ls a1 a2 a3 => by
  have hrm := h.room
  have hKn := h.known.1 ci _ hc.1
  have hz : H.size = B + o := by rw [a1.2, hL]
  refine W.newcK h.exec h.bytes h.cls (h.hts _ w1) (h.hts _ w2) (h.hts _ w3) rfl d (by rw [hrm]; exact hr.1) (by rw [hrm]; exact hr.2) hKn.2.1 hz fun H1 kC hkC e1 z1 o1 => ?_
  exact q H1 locs ls (GP_push a1 (by rw [z1, hz]) (by rw [hz]; exact o1) (by rw [hz]; exact ⟨_, hc.1, (u_born ty h.hts hc.2.1 hKn hkC e1 hc.2.2.1).to hfs⟩))
    ⟨Nat.le_trans a2.1 (by omega), fun x h1 h2 => (o1 x (by have := a2.1; omega)).trans (a2.2.1 x h1 h2), a2.2.2⟩ a3
theorem g_newa (h : Ac a B D E own cc nL rm) {atype : ArrayType} {ty : FieldType} {i len : Nat} {z : Int} {a0 : vp_A} (hty : newarray.typeOf atype = ty) (hE : (tyE E)[i]? = some (E i, ty)) (hRA : ∀ (U : State) (cA : ClassId), va_RA U cA ty → U.vm.findClass ("[" ++ ty.toString) = some cA) (w : Cond.arrayClass ty ∈ TS)
    (ha : vp_cell (E i) a0 = arrV (E i) len (fun _ => defaultValue ty)) (hz : z = (len : Int)) (hlen : len ≤ 4000) (hb : len * componentBytes ty ≤ 536870912) (hr : k + 1 ≤ rm.cells ∧ n + len ≤ rm.slots) (d : decode cc pc = .ok (.newarray atype, 2)) (hL : L.length = o)
    (q : VV a B (GP B D (L ++ [.inl (E i, a0)])) (k + 1) (n + len) (pc + 2) lv (.ref (B + o) :: st)) : VV a B (GP B D L) k n pc lv (iI z :: st) := fun H locs ls a1 a2 a3 => by
  have hrm := h.room
  have hs : H.size = B + o := by rw [a1.2, hL]
  subst hty
  refine va_newaK (N := len) h.exec h.bytes (h.hts _ w) rfl d rfl (by rw [hz, ← iI_0, iI_lt (by omega) (by omega)]; omega) (by rw [hz, iI_nat (by omega)]; omega) hb (by rw [hrm]; exact hr.1) (by rw [hrm]; exact hr.2) hs fun H1 cA e1 z1 o1 _ hNm => ?_
  have hcA : cA = E i := Option.some.inj (hNm.symm.trans (hRA _ _ (h.known.2 i _ hE).2))
  subst hcA
  exact q H1 locs ls (GP_push a1 (by rw [z1, hs]) (by rw [hs]; exact o1) (by rw [hs]; show H1[B + o]? = some (vp_cell _ a0); rw [ha]; exact e1))
    ⟨Nat.le_trans a2.1 (by omega), fun x h1 h2 => (o1 x (by have := a2.1; omega)).trans (a2.2.1 x h1 h2), a2.2.2⟩ a3
theorem g_at {x : va_E} (hL : L.length = o) : (L ++ x :: T)[o]? = some x := by
  rw [List.getElem?_append_right (by omega), hL, Nat.sub_self]; rfl
theorem g_set {x y : va_E} (hL : L.length = o) : (L ++ x :: T).set o y = L ++ y :: T := by
  rw [List.set_append_right _ _ (by omega), hL, Nat.sub_self]; rfl
theorem g_put (h : Ac a B D E own cc nL rm) (hin : (axF a).name = "<init>") {ci j index N : Nat} {C : String} {F : u_T} {ty : Nat → FieldType} {fs : List Value} {v : Value} (hc : CI ci C F N ty) (hL : L.length = o) (hj : j < N) (w : Cond.fieldLink own index (F j).1 (F j).2.1 (F j).2.2.1 ∈ TS) (hdecl : (F j).1 = own) (hn : narrow (ty j) v = v) (hft : fits (ty j) v = true) (hl : j < fs.length) (d : decode cc pc = .ok (.putfield index, 3))
    (q : VV a B (GP B D (L ++ .inr (ci, fs.set j v) :: T)) k n (pc + 3) lv st) : VV a B (GP B D (L ++ .inr (ci, fs) :: T)) k n pc lv (v :: .ref (B + o) :: st) := fun H locs ls a1 a2 a3 => by
  obtain ⟨hP, hz⟩ := a1
  have hap := va_apart (own := own) h.hts hc.2.1 ty hc.2.2.1 hc.2.2.2 h.known hc.1
  have he : (wlF B 0 (L ++ .inr (ci, fs) :: T))[o]? = some (B + o, .inr (ci, fs)) := by rw [wlF_get, g_at hL, Nat.zero_add]; rfl
  have hlen : o < (L ++ .inr (ci, fs) :: T).length := by rw [List.length_append, List.length_cons]; omega
  obtain ⟨r, h1, cell, q1, q2, q3, q4⟩ := hP o _ he
  have hr : r = (C, F, N) := Option.some.inj (h1.symm.trans hc.1)
  subst hr
  obtain ⟨hS, hfc, kC, hkC, hkind⟩ := h.known.1 ci _ hc.1
  obtain ⟨cf, kf, fi, f, hi, hsl⟩ := hS j hj
  have hlay := h.hts _ (hc.2.1 _ (u_in_lay hj))
  unfold u_lay at hlay
  have hst := (u_facts hfc hkC (u_lays h.hts hc.2.1 hj) hi).1
  have fin : ∀ H' : Heap, H'[B + o]? = some (cell.setSlot f.slot v) → H'.size = H.size → (∀ q, q ≠ B + o → H'[q]? = H[q]?) → W (axP a) (axL a) (axE a) (axR a) (axS a) (axM a) (axA a) (axB a) (axF a) (axC a) H' (locs ++ [⟨B + o, f.slot⟩]) k n (axQ a) { F0 (axM a) pc ls (v :: .ref (B + o) :: st) with pc := pc + 3, stack := st } := fun H' e1 e2 e3 => by
    rw [hsl] at e1 ⊢
    refine q H' _ ls ⟨?_, ?_⟩ (a2.put e2 e3 (Nat.le_add_right _ _)) a3
    · have e4 := wlF_set B (x := .inr (ci, fs.set j v)) hlen
      rw [g_set hL] at e4
      rw [← e4]
      exact hP.set (wlF_apart B _) he ⟨_, hc.1, t_OB.to (V := updV (vp_V fs) j v) ⟨_, e1, q2, q3, t_set q4 hap hj v⟩ (fun b _ => vp_updV_set hl v b)⟩ e3
    · rw [e2, hz]; simp
  by_cases hfin : (F j).2.2.2 = true
  · rw [if_pos hfin] at hlay
    have hcf : (axM a).cls = cf := by
      obtain ⟨_, _, c', _, _, _, -, -, hf', -, -, -, hown2, -⟩ := Cond.laysFinal_spec hlay
      have e1 : c' = cf := by have := hi.symm.trans hf'; simp at this; exact this.1.symm
      rw [hdecl] at hown2
      rw [← e1]; exact (Option.some.inj (hown2.symm.trans h.cls)).symm
    have h6 := u_fits hfc hkC hkind (Or.inr hlay) hi (hc.2.2.1 j hj) hn hft
    exact W.putFinK h.exec h.bytes h.cls (h.hts _ w) hi hst hcf hin (by rw [q2]; exact h6) q1 q3 (by rw [hsl]; exact k2_hasslot (q4 j hj)) rfl rfl d fin
  · rw [if_neg hfin] at hlay
    have h6 := u_store hfc hkC hkind hlay hi (hc.2.2.1 j hj) hn hft
    exact W.putK h.exec h.bytes (f := f) ⟨h.cls, h.hts _ w, ⟨_, _, _, hi⟩, hst⟩ (by rw [q2]; exact h6) q1 q3 (by rw [hsl]; exact k2_hasslot (q4 j hj)) rfl rfl d fin
theorem g_get (h : Ac a B D E own cc nL rm) {ci j index N : Nat} {C : String} {F : u_T} {ty : Nat → FieldType} {fs : List Value} {v : Value} (hc : CI ci C F N ty) (hL : L.length = o) (hj : j < N) (w : Cond.fieldLink own index (F j).1 (F j).2.1 (F j).2.2.1 ∈ TS) (hv : fs[j]? = some v) (d : decode cc pc = .ok (.getfield index, 3))
    (q : VV a B (GP B D (L ++ .inr (ci, fs) :: T)) k n (pc + 3) lv (v :: st)) : VV a B (GP B D (L ++ .inr (ci, fs) :: T)) k n pc lv (.ref (B + o) :: st) := fun H locs ls a1 a2 a3 =>
  va_get h.exec h.bytes h.hts hc.2.1 h.cls h.known a1.1 o (by rw [wlF_get, g_at hL, Nat.zero_add]; rfl) hc.1 j hj (h.hts _ w) (fun _ z => z) hv d (q H locs ls a1 a2 a3)
theorem g_ret {mc ms : Nat} (h : Ac a B D E own cc nL rm) (r : RtG a B D L mc ms) (d : decode cc pc = .ok (.return_, 1)) (hk : k ≤ mc) (hn : n ≤ ms) : VV a B (GP B D L) k n pc lv [] := fun H locs ls a1 a2 _ => by
  rw [r.1]
  exact W.widen hk hn (W.vret h.exec h.bytes r.2 (fun t ht _ => ⟨⟨rfl, by rw [ht]; exact a1⟩, a2.F ht⟩) a2.2.2 d (hlocks := h.unlocked))
theorem EntG.blind {av : List Value} : FrameBlind (va_Pc av (EntG B D E L)) := fun _ U g mk q => by
  obtain ⟨q0, q1, qK, qZ, qB, qN⟩ := q
  exact ⟨q0, q1, va_K.moved (u := U) (U := U.calling g mk _) (Vm.Alike.refl U.vm) qK, qZ, qB, qN⟩
theorem Ac.entG (h : Ac a B D E own cc nL rm) (hN : NZ (axS a)) {H : Heap} {locs : List Loc} {U : State} (a1 : GP B D L H) (a2 : va_S (fun q : Nat => B ≤ q) (axS a).heap H locs) (hU : U.heap = H) (hW : (axS a).WarmedH U.vm) : EntG B D E L U :=
  ⟨by rw [hU]; exact a1, va_K.moved hW.alike h.known, h.zx.go a2 hU hW, by rw [hU]; exact Nat.le_trans h.base a2.1, fun q hq => va_Nw.warmM hW (hN q hq)⟩
/-- what the words say of a constructor: how many arguments -/
def KI (y : MethodName) (bytes : ByteArray) (maxL : Nat) (m : Nat) : Prop := (Cond.instanceMethod y ∈ TS ∧ Cond.initialized y.cls ∈ TS ∧ Cond.code y bytes maxL none ∈ TS) ∧ y.name = "<init>" ∧ (y.cls ≠ "java/lang/invoke/MethodHandle" ∧ y.cls ≠ "java/lang/invoke/VarHandle" ∧ (parseMethodDescriptor y.desc).map (fun d => d.parameters.length) = some m)
theorem g_call (h : Ac a B D E own cc nL rm) (hN : NZ (axS a)) {L' : List va_E} {b m index maxL : Nat} {y : MethodName} {bytes : ByteArray} {r : Room} {As : List Value}
    (hM : CtG (axL a) B D E y (.code y bytes maxL none) r (.ref b :: As) L L') (ki : KI y bytes maxL m) (w : Cond.methodLink own index y ∈ TS) (hst : st = As.reverse ++ .ref b :: rest) (hm : As.length = m) (hcat : (rest.map fun v => v.category).sum ≤ 8) (hR : RM rm r k n maxL) (d : decode cc pc = .ok (.invokespecial index, 3))
    (q : VV a B (GP B D L') (k + r.cells) (n + r.slots) (pc + 3) lv rest) : VV a B (GP B D L) k n pc lv st := by
  intro H locs ls a1 a2 a3 T0 hT X0
  have hr := h.room
  obtain ⟨⟨w1, w2, w3⟩, hnm, hd⟩ := ki
  have hG : GoodIn TS (Cond.code y bytes maxL none :: TS) := by
    intro z hz
    have hm : z ∈ TS := by
      rcases List.mem_cons.mp hz with e | hz
      · rw [e]; exact w3
      · exact hz
    exact ts_self z hm
  have hrun := va_runI (e := axE a) (below := axB a) (meth := axF a) (R := axR a) (g := F0 (axM a) pc ls st) (rest := rest) (n := m) (cells := k) (slots := n) (locs := locs) (H := H) h.fix hM (cwI m h.hts hG rfl rfl rfl (h.hts _ w2) (h.hts _ w) (h.hts _ w1) hnm hd (by rw [hr]; exact hR.1))
    ⟨EntG.blind, fun U hU hW => ⟨rfl, h.entG hN a1 a2 hU hW⟩⟩ rfl hm (by rw [← h.maxl]; exact a3.1) hst (lv_room hcat) d (by rw [hr]; exact hR.2)
  obtain ⟨v, st₀, t, T', L9, h0, X', hL, e1, e2, ⟨⟨hv, hP1⟩, hF⟩, stp⟩ := hrun T0 hT X0
  cases hv
  obtain ⟨-, -, k3⟩ := vx_keep h0 e1 a2 (fun _ _ z => z) (fun _ z => z) hL hF
  obtain ⟨t2, b1, b2⟩ := q T'.heap (locs ++ L9) ls (by rw [e1]; exact hP1) k3 a3 T' rfl X'
  exact ⟨t2, stp t2 b1, b2⟩
theorem g_callN (h : Ac a B D E own cc nL rm) (hN : NZ (axS a)) {L' : List va_E} {b m index maxL : Nat} {y : MethodName} {bytes : ByteArray} {r : Room} {As : List Value}
    (hM : CtG (axL a) B D E y (.code y bytes maxL none) r (.ref b :: As) L L') (ki : KI y bytes maxL m) {host : String} (w : (own, index, y, host) ∈ xml) (hst : st = As.reverse ++ .ref b :: rest) (hm : As.length = m) (hcat : (rest.map fun v => v.category).sum ≤ 8) (hR : RM rm r k n maxL) (d : decode cc pc = .ok (.invokespecial index, 3))
    (q : VV a B (GP B D L') (k + r.cells) (n + r.slots) (pc + 3) lv rest) : VV a B (GP B D L) k n pc lv st := by
  intro H locs ls a1 a2 a3 T0 hT X0
  have hr := h.room
  obtain ⟨⟨w1, w2, w3⟩, hnm, hd⟩ := ki
  have hG : GoodIn TS (Cond.code y bytes maxL none :: TS) := by
    intro z hz
    have hm : z ∈ TS := by
      rcases List.mem_cons.mp hz with e | hz
      · rw [e]; exact w3
      · exact hz
    exact ts_self z hm
  have hrun := va_runIN (e := axE a) (below := axB a) (meth := axF a) (R := axR a) (g := F0 (axM a) pc ls st) (rest := rest) (n := m) (cells := k) (slots := n) (locs := locs) (H := H) h.fix hM ⟨va_cnB m h.hts hG rfl rfl rfl (hN _ w) (h.hts _ w2) hd (by rw [hr]; exact hR.1), hnm, h.hts _ w1⟩
    ⟨EntG.blind, fun U hU hW => ⟨rfl, h.entG hN a1 a2 hU hW⟩⟩ rfl hm (by rw [← h.maxl]; exact a3.1) hst (lv_room hcat) d (by rw [hr]; exact hR.2)
  obtain ⟨v, st₀, t, T', L9, h0, X', hL, e1, e2, ⟨⟨hv, hP1⟩, hF⟩, stp⟩ := hrun T0 hT X0
  cases hv
  obtain ⟨-, -, k3⟩ := vx_keep h0 e1 a2 (fun _ _ z => z) (fun _ z => z) hL hF
  obtain ⟨t2, b1, b2⟩ := q T'.heap (locs ++ L9) ls (by rw [e1]; exact hP1) k3 a3 T' rfl X'
  exact ⟨t2, stp t2 b1, b2⟩
end RG
