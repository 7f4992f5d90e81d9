/-! ===== the row of Math.abs of a double ===== -/
section
theorem mabsd0 {p : Program} {l : Launch} {e : Env} {R : Room} {s : State} {m : MethodId} {args : Array Value} {below : List Frame} {meth : Method} {c : Code} {locs : List Loc} {cells slots : Nat} {T : State}
    (X : Stand p l e R s m args below meth c T locs cells slots) (hexec : p.tables.exec = Jvm.exec) {own : String} {index : Nat} (hown : s.vm.findClass own = some m.cls) (hlink : (Cond.methodLink own index yJ9_abs_294c1).before args s = true) (hstat : (Cond.static yJ9_abs_294c1).before args s = true) (hinit : (Cond.initialized "java/lang/Math").before args s = true)
    (hcode : (Cond.code yJ9_abs_294c1 cJ9_abs_294c1 2 (some .double)).before args s = true) {g : JFrame} (hg : g.method = m) (hsize : g.locals.size = c.maxLocals) {rest : List Value} {b : UInt64} (hn : vf_n64 b) (hstack : g.stack = .double b :: rest) (hdg : decode c.code g.pc = .ok (.invokestatic index, 3)) (hframes : 1 ≤ R.frames) (hlocals : 2 * g.monitorRoom + (rest.map fun v => v.category).sum + 13 ≤ R.locals) :
    ∃ vm', Stand p l e R s m args below meth c (T.setVm vm') locs cells slots ∧ ∀ target, Steps p.tables e below ((T.setVm vm').setTop { g with pc := g.pc + 3, stack := .double (dabs b) :: rest }) target → Steps p.tables e below (T.setTop g) target := by
  obtain ⟨mk, hnamed⟩ := Cond.code_named hcode
  obtain ⟨methM, cM, hmethM, hcodeM, -, hlocalsM, -, hlocksM, -, hsigM⟩ := Cond.code_spec hnamed hcode
  have hstatic : methM.isStatic = true := Cond.static_spec hnamed hmethM hstat
  obtain ⟨kP, hkP, hkname⟩ := className_of_methodNamed hnamed
  have hinitP : kP.init = .initialized := Cond.initialized_spec (findClass_of_methodNamed hnamed) hkP hinit
  obtain ⟨hmn, hmd⟩ := name_of_methodNamed hnamed hmethM
  have hboot : kP.loader = none := Vm.bootOf_findClass (findClass_of_methodNamed hnamed) hkP
  have hxP : kP.methods[mk.idx]? = some methM := by simpa [Vm.method?, hkP] using hmethM
  have hpar : methM.sig.parameters.length = 1 := by
    have h : parseMethodDescriptor "(D)D" = some { parameters := [.double], returnType := some .double } := by decide +kernel
    rw [show yJ9_abs_294c1.desc = "(D)D" from rfl, h] at hsigM
    rw [← Option.some.inj hsigM]; rfl
  obtain ⟨vm', X', step⟩ := X.invokestatic hexec hown hlink hnamed hmethM hstatic hkP hinitP (by decide) hg (argsL := [.double b]) (rest := rest) (by rw [hpar]; rfl) hstack hdg
  refine ⟨vm', X', fun target hrest => step target fun acts => ?_⟩
  subst hg
  obtain ⟨k1, hk1, he1⟩ := X'.warmed.alike.2.2 _ _ hkP
  have hroom := X'.notFull (g := { g with stack := rest }) hsize (vars := 2) hframes hlocals
  exact mabsd_go p (s := T.setVm vm') (g := { g with stack := rest }) X'.here acts hk1 (by rw [he1]; exact hxP) (by rw [he1]; exact hboot) (by rw [he1]; exact hkname) hmn hmd hpar hcodeM hlocalsM hlocksM hroom hn hdg hrest
end
section
variable {a : Ax} {B : Nat} {D : va_G} {E : Nat → ClassId} {cc : ByteArray} {nL : Nat} {rm : Room} {Pq : Heap → Prop} {k n pc : Nat} {lv : List (Nat × Value)} {st : List Value}
theorem v_absd (h : Ac a B D E RL cc nL rm) {x : UInt64} (hx : vf_n64 x) (hf : 1 ≤ rm.frames) (hl : (st.map fun v => v.category).sum + 13 ≤ rm.locals) (d : decode cc pc = .ok (.invokestatic 161, 3)) (q : VV a B Pq k n (pc + 3) lv (.double (dabs x) :: st)) : VV a B Pq k n pc lv (.double x :: st) := fun H locs ls a1 a2 a3 => by
  have hr := h.room
  intro T hT X
  obtain ⟨vm', X', stp⟩ := mabsd0 X h.exec h.cls (h.hts _ wM_L_161) (h.hts _ kv_J9_abs.1.1) (h.hts _ kv_J9_abs.1.2.1) (h.hts _ kv_J9_abs.1.2.2) (g := F0 (axM a) pc ls (.double x :: st)) rfl a3.1 hx rfl (by show decode (axC a).code pc = _; rw [h.bytes]; exact d) (by rw [hr]; exact hf) (by rw [hr]; show 2 * 0 + _ + 13 ≤ _; omega)
  obtain ⟨t, a1', b1⟩ := q H locs ls a1 a2 a3 (T.setVm vm') hT X'
  exact ⟨t, stp t a1', b1⟩
end
