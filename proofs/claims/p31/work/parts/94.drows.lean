/-! ===== rows of doubles; Math.abs of a double ===== -/
section
variable {a : Ax} {B : Nat} {D : va_G} {E : Nat → ClassId} {own : String} {cc : ByteArray} {nL : Nat} {rm : Room} {Pq : Heap → Prop} {k n pc : Nat} {lv lv' : List (Nat × Value)} {st rest : List Value}
theorem v_dadd (h : Ac a B D E own cc nL rm) {x y : UInt64} (d : decode cc pc = .ok (.dadd, 1)) (hne : vf_n64 (FP.dadd x y)) (q : VV a B Pq k n (pc + 1) lv (.double (FP.dadd x y) :: st)) : VV a B Pq k n pc lv (.double y :: .double x :: st) := fun H locs ls a1 a2 a3 => lv_dadd h.exec h.bytes d hne (q H locs ls a1 a2 a3)
theorem v_dsub (h : Ac a B D E own cc nL rm) {x y : UInt64} (d : decode cc pc = .ok (.dsub, 1)) (hne : vf_n64 (FP.dsub x y)) (q : VV a B Pq k n (pc + 1) lv (.double (FP.dsub x y) :: st)) : VV a B Pq k n pc lv (.double y :: .double x :: st) := fun H locs ls a1 a2 a3 => lv_dsub h.exec h.bytes d hne (q H locs ls a1 a2 a3)
theorem v_l2d (h : Ac a B D E own cc nL rm) {x : Int64} (d : decode cc pc = .ok (.l2d, 1)) (q : VV a B Pq k n (pc + 1) lv (.double (FP.l2d x) :: st)) : VV a B Pq k n pc lv (.long x :: st) := fun H locs ls a1 a2 a3 => lv_l2d h.exec h.bytes d (q H locs ls a1 a2 a3)
theorem v_ldc2d (h : Ac a B D E own cc nL rm) {z : UInt64} {index : Nat} (w : Cond.constantDouble own index z ∈ TS) (d : decode cc pc = .ok (.ldc2_w index, 3)) (q : VV a B Pq k n (pc + 3) lv (.double z :: st)) : VV a B Pq k n pc lv st := fun H locs ls a1 a2 a3 => lv_ldc2d h.exec h.bytes h.cls (h.hts _ w) d (q H locs ls a1 a2 a3)
theorem v_ldc2l (h : Ac a B D E own cc nL rm) {z : Int64} {index : Nat} (w : Cond.constantLong own index z ∈ TS) (d : decode cc pc = .ok (.ldc2_w index, 3)) (q : VV a B Pq k n (pc + 3) lv (.long z :: st)) : VV a B Pq k n pc lv st := fun H locs ls a1 a2 a3 => lv_ldc2 h.exec h.bytes h.cls (h.hts _ w) d (q H locs ls a1 a2 a3)
theorem v_dcmpL (h : Ac a B D E own cc nL rm) {x y : UInt64} {op : CmpOp} (e : ∃ r : Int, (-1 ≤ r ∧ r ≤ 0) ∧ Op.cmpValue (FP.dcmp x y) op = Int32.ofInt r) (d : decode cc pc = .ok (.dcmp op, 1)) (q : ∀ r : Int, (-1 ≤ r ∧ r ≤ 0) → VV a B Pq k n (pc + 1) lv (iI r :: st)) : VV a B Pq k n pc lv (.double y :: .double x :: st) := fun H locs ls a1 a2 a3 => by
  obtain ⟨r, hr, he⟩ := e
  refine lv_dcmp h.exec h.bytes d ?_
  rw [he]
  exact q r hr H locs ls a1 a2 a3
theorem v_landL (h : Ac a B D E own cc nL rm) {x y : Int64} (d : decode cc pc = .ok (.land, 1)) (q : VV a B Pq k n (pc + 1) lv (.long (x &&& y) :: st)) : VV a B Pq k n pc lv (.long y :: .long x :: st) := fun H locs ls a1 a2 a3 => lv_land h.exec h.bytes d (q H locs ls a1 a2 a3)
theorem wK_L_165 : Cond.constantDouble RL 165 cTol ∈ TS := tsm 878 (by decide +kernel) rfl
theorem kv_J9_abs : KO yJ9_abs_294c1 cJ9_abs_294c1 2 (some .double) 1 := ⟨⟨tsm 869 (by decide +kernel) rfl, tsm 49 (by decide +kernel) rfl, tsm 870 (by decide +kernel) rfl⟩, by decide +kernel⟩
end
section
/-- the model runs Math.abs of a double by an entry of its own, though there is bytecode -/
def absSem (x : UInt64) : Sem (Option Value) := Bind.bind (Jvm.anyNaN64 (x &&& 0x7fffffffffffffff)) fun r => Bind.bind (Jvm.mark "nat.java_lang_Math.abs") fun _ => Pure.pure (some (.double r))
set_option maxRecDepth 100000 in
theorem absr_find (p : Program) : ∃ row, NativeRow.find? p.tables.natives "java/lang/Math" "abs" "(D)D" = some row ∧ ∀ x : UInt64, row.sem #[.double x] = absSem x := by
  cases p <;> exact ⟨_, rfl, fun _ => rfl⟩
theorem absr_run {x : UInt64} (hx : vf_n64 x) (e : Env) (S : State) : ∃ acts, (absSem x).run e S = .ok (some (.double (dabs x))) S acts := by
  have hn : (x &&& 0x7fffffffffffffff) &&& 0x7fffffffffffffff ≤ 0x7ff0000000000000 := by rw [UInt64.and_assoc, UInt64.and_self]; exact hx
  have hw : wpRun (absSem x) (fun v s₂ _ => v = some (.double (dabs x)) ∧ s₂ = S) (fun _ _ _ => False) e S := by
    unfold absSem dabs
    simp [jvm, wpRun, anyNaN64, hn]
  have hq := (wpRun_iff_run _ _ _ _ _).mp hw
  split at hq
  · rename_i v s2 as he
    obtain ⟨rfl, rfl⟩ := hq
    exact ⟨as, he⟩
  · exact hq.elim
  · exact hq.elim
theorem mabsd_go (p : Program) {e : Env} {s target : State} {below : List Frame} {g : JFrame} {c cm : Code} {m : MethodId} {meth : Method} {k : Class} {b : UInt64} {ig : Instr} {len : Nat} (h : At s g.method c below) (acts : List Action)
    (hk : s.vm.classes[m.cls]? = some k) (hx : k.methods[m.idx]? = some meth) (hboot : k.loader = none) (hkn : k.name = "java/lang/Math") (hmn : meth.name = "abs") (hmd : meth.desc = "(D)D") (hpar : meth.sig.parameters.length = 1)
    (hc : meth.code = some cm) (hml : cm.maxLocals = 2) (hl : meth.locks = false) (hroom : e.platform.stackFull (((s.setTop g).threads[(s.setTop g).cur]?).getD { frames := [] }) (s.setTop g).frames 2 = false) (hn : vf_n64 b) (hdg : decode c.code g.pc = .ok (ig, len))
    (hrest : Steps p.tables e below (s.setTop { g with pc := g.pc + len, stack := .double (dabs b) :: g.stack }) target) : Steps p.tables e below (doInvoke e (s.setTop g) acts m #[.double b]).1 target := by
  obtain ⟨row, hrow, hsem⟩ := absr_find p
  obtain ⟨g0, hg0⟩ := Option.isSome_iff_exists.mp h.top
  obtain ⟨r, hr⟩ := State.topJava?_eq_some.mp hg0
  obtain ⟨mid, hmid⟩ := h.above
  have hcur : s.cur < s.threads.size := State.cur_lt_of_frames hr
  have hset : s.setTop g = s.setFrames (.java g :: r) := State.setTop_of_frames _ hr
  have hm : (s.setTop g).vm.method? m = some meth := by
    show s.vm.method? m = some meth
    simp [Vm.method?, hk, hx]
  rw [(doInvoke_java (s := s.setTop g) (e := e) (acts := acts) (args := #[.double b]) hm hc hl (by rw [hml]; exact hroom)).1, hml]
  obtain ⟨f, hf⟩ : ∃ f : JFrame, f = { method := m, pc := 0, locals := argsToLocals #[.double b] 2, stack := [], locked := none } := ⟨_, rfl⟩
  rw [← hf]
  have hU : (s.setTop g).pushFrame (.java f) = s.setFrames (.java f :: .java g :: r) := by
    rw [State.pushFrame, State.frames_setTop _ hr, hset, State.setFrames_setFrames]
  rw [hU]
  have hF : (s.setFrames (.java f :: .java g :: r)).frames = .java f :: .java g :: r := State.frames_setFrames _ hcur
  have hov : overridden p.tables e (s.setFrames (.java f :: .java g :: r)) f = some row := by
    have hk' : (s.setFrames (.java f :: .java g :: r)).vm.classes[f.method.cls]? = some k := by rw [hf]; exact hk
    have hx' : k.methods[f.method.idx]? = some meth := by rw [hf]; exact hx
    unfold overridden
    rw [hk', show (f.pc != 0) = false by rw [hf]; rfl]
    simp [hboot, hkn, hx', hmn, hmd, hrow, overriddenIn]
  have hcount : argCount (s.setFrames (.java f :: .java g :: r)) f.method = 1 + (if meth.isStatic then 0 else 1) := by
    have : ((s.setFrames (.java f :: .java g :: r)).vm.classes[f.method.cls]?).bind (fun y => y.methods[f.method.idx]?) = some meth := by
      rw [hf]; show (s.vm.classes[m.cls]?).bind _ = _; rw [hk]; exact hx
    unfold argCount
    simp only [this, hpar]
  obtain ⟨as, hrun⟩ := absr_run hn e (s.setFrames (.native { method := m, args := #[.double b], locked := none } :: .java g :: r))
  have hcode : (s.setFrames (.native { method := m, args := #[.double b], locked := none } :: .java g :: r)).code? g.method = some c := by
    have q := h.code
    rw [State.code?_eq] at q ⊢
    exact q
  have hover : handOver (s.setFrames (.native { method := m, args := #[.double b], locked := none } :: .java g :: r)) (some (.double (dabs b))) (.java g :: r) = some (.java { g with pc := g.pc + len, stack := .double (dabs b) :: g.stack } :: r) := by
    simp [handOver, hcode, hdg, Except.toOption]
  have hstep : (stepThread p.tables e (s.setFrames (.java f :: .java g :: r))).1 = s.setTop { g with pc := g.pc + len, stack := .double (dabs b) :: g.stack } := by
    unfold stepThread
    simp only [hF, hov, State.setFrames_setFrames, hcount]
    subst hf
    have hb : (if meth.isStatic then 0 else 1) = 0 ∨ (if meth.isStatic then 0 else 1) = 1 := by cases meth.isStatic <;> simp
    have hgo : (afterNative e { method := m, args := #[.double b], locked := none } (.java g :: r) ((row.sem #[.double b]).run e (s.setFrames (.native { method := m, args := #[.double b], locked := none } :: .java g :: r)))).1 = s.setTop { g with pc := g.pc + len, stack := .double (dabs b) :: g.stack } := by
      rw [hsem, hrun]
      show (doReturn e (s.setFrames (.native { method := m, args := #[.double b], locked := none } :: .java g :: r)) _ (some (.double (dabs b)))).1 = _
      rw [doReturn_native (f := { method := m, args := #[.double b], locked := none }) (State.frames_setFrames _ hcur) rfl hover, State.setFrames_setFrames, ← State.setTop_of_frames _ hr]
    rcases hb with hb | hb
    · rw [hb]; exact hgo
    · rw [hb]; exact hgo
  refine Steps.head ⟨h.running, by simpa using h.runnable, by simpa using h.alone⟩ ⟨.java f :: .java g :: mid, by rw [hF]; rw [hr] at hmid; simp at hmid; simp [hmid], by simp, by simp⟩ ?_
  rw [hstep]
  exact hrest
end
