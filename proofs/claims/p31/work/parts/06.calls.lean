/-! ===== calls ===== -/
/-- room for a callee's -/
def RM (rm r : Room) (k n maxL : Nat) : Prop := (r.frames + 1 ≤ rm.frames ∧ 8 + (maxL + 11) + r.locals ≤ rm.locals) ∧ k + r.cells ≤ rm.cells ∧ n + r.slots ≤ rm.slots
def rmb (rm r : Room) (k n maxL : Nat) : Bool := Nat.ble (r.frames + 1) rm.frames && (Nat.ble (8 + (maxL + 11) + r.locals) rm.locals && (Nat.ble (k + r.cells) rm.cells && Nat.ble (n + r.slots) rm.slots))
theorem RM.of {rm r : Room} {k n maxL : Nat} (h : rmb rm r k n maxL = true) : RM rm r k n maxL := by
  simp only [rmb, Bool.and_eq_true] at h
  exact ⟨⟨Nat.le_of_ble_eq_true h.1, Nat.le_of_ble_eq_true h.2.1⟩, Nat.le_of_ble_eq_true h.2.2.1, Nat.le_of_ble_eq_true h.2.2.2⟩
theorem Ent.blind {B : Nat} {D : va_G} {E : Nat → ClassId} {μ : Mm} {av : List Value} : FrameBlind (va_Pc av (Ent B D E μ)) := fun _ U g mk q =>
  ⟨q.1, q.2.1, va_K.moved (u := U) (U := U.calling g mk _) (Vm.Alike.refl U.vm) q.2.2.1, q.2.2.2.1, q.2.2.2.2⟩
section R4
variable {a : Ax} {B : Nat} {D : va_G} {E : Nat → ClassId} {own : String} {cc : ByteArray} {nL : Nat} {rm : Room} {μ : Mm} {k n pc : Nat} {lv : List (Nat × Value)} {rest st : List Value}
theorem Ac.ent (h : Ac a B D E own cc nL rm) {H : Heap} {locs : List Loc} (a1 : SP B D E μ H) (a2 : va_S (fun q : Nat => B ≤ q) (axS a).heap H locs) {U : State} (hU : U.heap = H) (hW : (axS a).WarmedH U.vm) : Ent B D E μ U :=
  ⟨by rw [hU]; exact a1, va_K.moved hW.alike h.known, h.zx.go a2 hU hW, by rw [hU]; exact Nat.le_trans h.base a2.1⟩
/-- a virtual call; what it returns, and what it throws -/
theorem v_callVX (h : Ac a B D E own cc nL rm) {C : String} {T : u_T} {N ci o m index maxL : Nat} {fs : List (Option Nat)} {y : MethodName} {bytes : ByteArray} {ret : Option FieldType} {r : Room} {As : List Value} {P : Pv} {X : Px}
    (hM : Ct (axL a) B D E y (.code y bytes maxL ret) r (.ref (pl B o) :: As) μ P X) (kv : KV ci C T N y bytes maxL ret m) (sh : shapes[o]? = some (.inl (ci, fs))) (w : Cond.methodLink own index y ∈ TS) (hst : st = As.reverse ++ .ref (pl B o) :: rest) (hm : As.length = m) (hcat : (rest.map fun v => v.category).sum ≤ 8) (hR : RM rm r k n maxL) (d : decode cc pc = .ok (.invokevirtual index, 3))
    (kx : ∀ (e : String) (μ' : Mm), X e μ' → VX a B (SP B D E μ') (k + r.cells) (n + r.slots) pc e lv rest)
    (q : ∀ (v : Option Value) (μ' : Mm), P v μ' → VV a B (SP B D E μ') (k + r.cells) (n + r.slots) (pc + 3) lv (v.toList ++ rest)) : VV a B (SP B D E μ) k n pc lv st := by
  intro H locs ls a1 a2 a3 T0 hT X0
  have hr := h.room
  obtain ⟨hci, ⟨w1, w2, w3, w4⟩, hd⟩ := kv
  have hG : GoodIn TS (wsV own index C y (Cond.code y bytes maxL ret :: TS)) := by
    intro z hz
    have hm : z ∈ TS := by
      rcases List.mem_append.mp hz with hz | hz
      · rcases List.mem_cons.mp hz with e | hz
        · rw [e]; exact w
        · rcases List.mem_cons.mp hz with e | hz
          · rw [e]; exact w1
          · rcases List.mem_cons.mp hz with e | hz
            · rw [e]; exact w2
            · rw [List.mem_singleton.mp hz]; exact w3
      · rcases List.mem_cons.mp hz with e | hz
        · rw [e]; exact w4
        · exact hz
    exact ts_self z hm
  have hrun := vx_runV (e := axE a) (below := axB a) (meth := axF a) (R := axR a) (g := F0 (axM a) pc ls st) (rest := rest) (n := m) (cells := k) (slots := n) (locs := locs) (H := H) h.fix hM (cwV m h.hts hG rfl rfl rfl hd (by rw [hr]; exact hR.1))
    ⟨Ent.blind, va_recv h.known a1 hci (wsm_get sh), fun U hU hW => ⟨rfl, h.ent a1 a2 hU hW⟩⟩ rfl hm (by rw [← h.maxl]; exact a3.1) hst (lv_room hcat) d (by rw [hr]; exact hR.2)
  rcases hrun T0 hT X0 with ⟨v, st₀, t, T', L, h0, X', hL, e1, e2, ⟨⟨v', μ', hv, hp, hP1⟩, hF⟩, stp⟩ | ⟨q9, st₀, t, T', L, e, ce, h0, X', hL, e1, e2, ⟨⟨μ', hx, hP1⟩, hF⟩, hce, hcv, hcl, stp⟩
  · cases hv
    obtain ⟨-, -, k3⟩ := vx_keep h0 e1 a2 (fun _ _ z => z) (fun _ z => z) hL hF
    obtain ⟨t2, b1, b2⟩ := q v μ' hp T'.heap (locs ++ L) ls (by rw [e1]; exact hP1) k3 a3 T' rfl X'
    exact ⟨t2, stp t2 b1, b2⟩
  · obtain ⟨-, -, k3⟩ := vx_keep h0 e1 a2 (fun _ _ z => z) (fun _ z => z) hL hF
    obtain ⟨t2, b1, b2⟩ := kx e μ' hx T'.heap (locs ++ L) ls q9 ce (by rw [e1]; exact hP1) k3 a3 (by rw [e1]; exact hce) hcv hcl T' rfl X'
    exact ⟨t2, stp.trans b1, b2⟩
theorem v_callV (h : Ac a B D E own cc nL rm) {C : String} {T : u_T} {N ci o m index maxL : Nat} {fs : List (Option Nat)} {y : MethodName} {bytes : ByteArray} {ret : Option FieldType} {r : Room} {As : List Value} {P : Pv}
    (hM : Ct (axL a) B D E y (.code y bytes maxL ret) r (.ref (pl B o) :: As) μ P NX) (kv : KV ci C T N y bytes maxL ret m) (sh : shapes[o]? = some (.inl (ci, fs))) (w : Cond.methodLink own index y ∈ TS) (hst : st = As.reverse ++ .ref (pl B o) :: rest) (hm : As.length = m) (hcat : (rest.map fun v => v.category).sum ≤ 8) (hR : RM rm r k n maxL) (d : decode cc pc = .ok (.invokevirtual index, 3))
    (q : ∀ (v : Option Value) (μ' : Mm), P v μ' → VV a B (SP B D E μ') (k + r.cells) (n + r.slots) (pc + 3) lv (v.toList ++ rest)) : VV a B (SP B D E μ) k n pc lv st :=
  v_callVX h hM kv sh w hst hm hcat hR d (fun _ _ z => z.elim) q
/-- .. of a method of which it is known what it returns, and that makes nothing -/
theorem v_callVi (h : Ac a B D E own cc nL rm) {C : String} {T : u_T} {N ci o m index maxL : Nat} {fs : List (Option Nat)} {y : MethodName} {bytes : ByteArray} {ret : Option FieldType} {r : Room} {As : List Value} {v : Value} {μ' : Mm}
    (hM : Ct (axL a) B D E y (.code y bytes maxL ret) r (.ref (pl B o) :: As) μ (dr (some v) μ') NX) (kv : KV ci C T N y bytes maxL ret m) (sh : shapes[o]? = some (.inl (ci, fs))) (w : Cond.methodLink own index y ∈ TS) (hst : st = As.reverse ++ .ref (pl B o) :: rest) (hm : As.length = m) (hcat : (rest.map fun v => v.category).sum ≤ 8) (hR : RM rm r k n maxL) (d : decode cc pc = .ok (.invokevirtual index, 3))
    (q : VV a B (SP B D E μ') (k + r.cells) (n + r.slots) (pc + 3) lv (v :: rest)) : VV a B (SP B D E μ) k n pc lv st :=
  v_callV h hM kv sh w hst hm hcat hR d (fun _ _ z => by obtain ⟨rfl, rfl⟩ := z; exact q)
theorem v_callVv (h : Ac a B D E own cc nL rm) {C : String} {T : u_T} {N ci o m index maxL : Nat} {fs : List (Option Nat)} {y : MethodName} {bytes : ByteArray} {ret : Option FieldType} {r : Room} {As : List Value} {μ' : Mm}
    (hM : Ct (axL a) B D E y (.code y bytes maxL ret) r (.ref (pl B o) :: As) μ (dr none μ') NX) (kv : KV ci C T N y bytes maxL ret m) (sh : shapes[o]? = some (.inl (ci, fs))) (w : Cond.methodLink own index y ∈ TS) (hst : st = As.reverse ++ .ref (pl B o) :: rest) (hm : As.length = m) (hcat : (rest.map fun v => v.category).sum ≤ 8) (hR : RM rm r k n maxL) (d : decode cc pc = .ok (.invokevirtual index, 3))
    (q : VV a B (SP B D E μ') (k + r.cells) (n + r.slots) (pc + 3) lv rest) : VV a B (SP B D E μ) k n pc lv st :=
  v_callV h hM kv sh w hst hm hcat hR d (fun _ _ z => by obtain ⟨rfl, rfl⟩ := z; exact q)
theorem v_cV (h : Ac a B D E own cc nL rm) {C : String} {T : u_T} {N ci o m index maxL : Nat} {fs : List (Option Nat)} {y : MethodName} {bytes : ByteArray} {ret : Option FieldType} {r : Room} {As : List Value} {P : Pv}
    (hM : Ct (axL a) B D E y (.code y bytes maxL ret) r (.ref (pl B o) :: As) μ P NX) (kv : KV ci C T N y bytes maxL ret m) (sh : shapes[o]? = some (.inl (ci, fs))) (w : Cond.methodLink own index y ∈ TS) (hst : st = As.reverse ++ .ref (pl B o) :: rest) (hm : As.length = m) (hcat : (rest.map fun v => v.category).sum ≤ 8) (hR : RM rm r k n maxL) (hc : r.cells = 0) (hs : r.slots = 0) (d : decode cc pc = .ok (.invokevirtual index, 3))
    (q : ∀ (v : Option Value) (μ' : Mm), P v μ' → VV a B (SP B D E μ') k n (pc + 3) lv (v.toList ++ rest)) : VV a B (SP B D E μ) k n pc lv st :=
  v_callV h hM kv sh w hst hm hcat hR d (by rw [hc, hs]; exact q)
theorem v_cVi (h : Ac a B D E own cc nL rm) {C : String} {T : u_T} {N ci o m index maxL : Nat} {fs : List (Option Nat)} {y : MethodName} {bytes : ByteArray} {ret : Option FieldType} {r : Room} {As : List Value} {v : Value} {μ' : Mm}
    (hM : Ct (axL a) B D E y (.code y bytes maxL ret) r (.ref (pl B o) :: As) μ (dr (some v) μ') NX) (kv : KV ci C T N y bytes maxL ret m) (sh : shapes[o]? = some (.inl (ci, fs))) (w : Cond.methodLink own index y ∈ TS) (hst : st = As.reverse ++ .ref (pl B o) :: rest) (hm : As.length = m) (hcat : (rest.map fun v => v.category).sum ≤ 8) (hR : RM rm r k n maxL) (hc : r.cells = 0) (hs : r.slots = 0) (d : decode cc pc = .ok (.invokevirtual index, 3))
    (q : VV a B (SP B D E μ') k n (pc + 3) lv (v :: rest)) : VV a B (SP B D E μ) k n pc lv st :=
  v_cV h hM kv sh w hst hm hcat hR hc hs d (fun _ _ z => by obtain ⟨rfl, rfl⟩ := z; exact q)
theorem v_cVv (h : Ac a B D E own cc nL rm) {C : String} {T : u_T} {N ci o m index maxL : Nat} {fs : List (Option Nat)} {y : MethodName} {bytes : ByteArray} {ret : Option FieldType} {r : Room} {As : List Value} {μ' : Mm}
    (hM : Ct (axL a) B D E y (.code y bytes maxL ret) r (.ref (pl B o) :: As) μ (dr none μ') NX) (kv : KV ci C T N y bytes maxL ret m) (sh : shapes[o]? = some (.inl (ci, fs))) (w : Cond.methodLink own index y ∈ TS) (hst : st = As.reverse ++ .ref (pl B o) :: rest) (hm : As.length = m) (hcat : (rest.map fun v => v.category).sum ≤ 8) (hR : RM rm r k n maxL) (hc : r.cells = 0) (hs : r.slots = 0) (d : decode cc pc = .ok (.invokevirtual index, 3))
    (q : VV a B (SP B D E μ') k n (pc + 3) lv rest) : VV a B (SP B D E μ) k n pc lv st :=
  v_cV h hM kv sh w hst hm hcat hR hc hs d (fun _ _ z => by obtain ⟨rfl, rfl⟩ := z; exact q)
/-- a static call within the class -/
theorem v_callS (h : Ac a B D E own cc nL rm) {m index maxL : Nat} {y : MethodName} {bytes : ByteArray} {ret : Option FieldType} {r : Room} {As : List Value} {P : Pv}
    (hM : Ct (axL a) B D E y (.code y bytes maxL ret) r As μ P NX) (kv : KS own y bytes maxL ret m) (w : Cond.methodLink own index y ∈ TS) (hst : st = As.reverse ++ rest) (hm : As.length = m) (hcat : (rest.map fun v => v.category).sum ≤ 8) (hR : RM rm r k n maxL) (d : decode cc pc = .ok (.invokestatic index, 3))
    (q : ∀ (v : Option Value) (μ' : Mm), P v μ' → VV a B (SP B D E μ') (k + r.cells) (n + r.slots) (pc + 3) lv (v.toList ++ rest)) : VV a B (SP B D E μ) k n pc lv st := by
  intro H locs ls a1 a2 a3 T0 hT X0
  have hr := h.room
  obtain ⟨⟨w1, w3, w4⟩, hd⟩ := kv
  have hG : GoodIn TS (wsS own index y (Cond.code y bytes maxL ret :: TS)) := by
    intro z hz
    have hm : z ∈ TS := by
      rcases List.mem_append.mp hz with hz | hz
      · rcases List.mem_cons.mp hz with e | hz
        · rw [e]; exact w
        · rcases List.mem_cons.mp hz with e | hz
          · rw [e]; exact w1
          · rw [List.mem_singleton.mp hz]; exact w3
      · rcases List.mem_cons.mp hz with e | hz
        · rw [e]; exact w4
        · exact hz
    exact ts_self z hm
  have hrun := vx_runS (e := axE a) (below := axB a) (meth := axF a) (R := axR a) (g := F0 (axM a) pc ls st) (rest := rest) (n := m) (cells := k) (slots := n) (locs := locs) (H := H) h.fix hM (cwS m h.hts hG rfl rfl rfl hd (by rw [hr]; exact hR.1))
    ⟨Ent.blind, fun U hU hW => ⟨rfl, h.ent a1 a2 hU hW⟩⟩ rfl hm (by rw [← h.maxl]; exact a3.1) hst (lv_room hcat) d (by rw [hr]; exact hR.2)
  rcases hrun T0 hT X0 with ⟨v, st₀, t, T', L, h0, X', hL, e1, e2, ⟨⟨v', μ', hv, hp, hP1⟩, hF⟩, stp⟩ | ⟨q9, st₀, t, T', L, e, ce, h0, X', hL, e1, e2, ⟨⟨μ', hx, hP1⟩, hF⟩, hce, hcv, hcl, stp⟩
  · cases hv
    obtain ⟨-, -, k3⟩ := vx_keep h0 e1 a2 (fun _ _ z => z) (fun _ z => z) hL hF
    obtain ⟨t2, b1, b2⟩ := q v μ' hp T'.heap (locs ++ L) ls (by rw [e1]; exact hP1) k3 a3 T' rfl X'
    exact ⟨t2, stp t2 b1, b2⟩
  · exact hx.elim
theorem v_callSi (h : Ac a B D E own cc nL rm) {m index maxL : Nat} {y : MethodName} {bytes : ByteArray} {ret : Option FieldType} {r : Room} {As : List Value} {v : Value} {μ' : Mm}
    (hM : Ct (axL a) B D E y (.code y bytes maxL ret) r As μ (dr (some v) μ') NX) (kv : KS own y bytes maxL ret m) (w : Cond.methodLink own index y ∈ TS) (hst : st = As.reverse ++ rest) (hm : As.length = m) (hcat : (rest.map fun v => v.category).sum ≤ 8) (hR : RM rm r k n maxL) (d : decode cc pc = .ok (.invokestatic index, 3))
    (q : VV a B (SP B D E μ') (k + r.cells) (n + r.slots) (pc + 3) lv (v :: rest)) : VV a B (SP B D E μ) k n pc lv st :=
  v_callS h hM kv w hst hm hcat hR d (fun _ _ z => by obtain ⟨rfl, rfl⟩ := z; exact q)
theorem v_cS (h : Ac a B D E own cc nL rm) {m index maxL : Nat} {y : MethodName} {bytes : ByteArray} {ret : Option FieldType} {r : Room} {As : List Value} {P : Pv}
    (hM : Ct (axL a) B D E y (.code y bytes maxL ret) r As μ P NX) (kv : KS own y bytes maxL ret m) (w : Cond.methodLink own index y ∈ TS) (hst : st = As.reverse ++ rest) (hm : As.length = m) (hcat : (rest.map fun v => v.category).sum ≤ 8) (hR : RM rm r k n maxL) (hc : r.cells = 0) (hs : r.slots = 0) (d : decode cc pc = .ok (.invokestatic index, 3))
    (q : ∀ (v : Option Value) (μ' : Mm), P v μ' → VV a B (SP B D E μ') k n (pc + 3) lv (v.toList ++ rest)) : VV a B (SP B D E μ) k n pc lv st :=
  v_callS h hM kv w hst hm hcat hR d (by rw [hc, hs]; exact q)
theorem v_cSi (h : Ac a B D E own cc nL rm) {m index maxL : Nat} {y : MethodName} {bytes : ByteArray} {ret : Option FieldType} {r : Room} {As : List Value} {v : Value} {μ' : Mm}
    (hM : Ct (axL a) B D E y (.code y bytes maxL ret) r As μ (dr (some v) μ') NX) (kv : KS own y bytes maxL ret m) (w : Cond.methodLink own index y ∈ TS) (hst : st = As.reverse ++ rest) (hm : As.length = m) (hcat : (rest.map fun v => v.category).sum ≤ 8) (hR : RM rm r k n maxL) (hc : r.cells = 0) (hs : r.slots = 0) (d : decode cc pc = .ok (.invokestatic index, 3))
    (q : VV a B (SP B D E μ') k n (pc + 3) lv (v :: rest)) : VV a B (SP B D E μ) k n pc lv st :=
  v_cS h hM kv w hst hm hcat hR hc hs d (fun _ _ z => by obtain ⟨rfl, rfl⟩ := z; exact q)
theorem v_max (h : Ac a B D E own cc nL rm) {index : Nat} {x y : Int} {P : Heap → Prop} (km : KM Lib.Math.max.name Lib.Math.max.code) (w : Cond.methodLink own index Lib.Math.max.name ∈ TS) (hx : InR x ∧ InR y) (hcat : (rest.map fun v => v.category).sum ≤ 8) (hf : 1 ≤ rm.frames ∧ 21 ≤ rm.locals ∧ k ≤ rm.cells ∧ n ≤ rm.slots) (d : decode cc pc = .ok (.invokestatic index, 3))
    (q : VV a B P k n (pc + 3) lv (iI (if x < y then y else x) :: rest)) : VV a B P k n pc lv (iI y :: iI x :: rest) := fun H locs ls a1 a2 a3 => by
  have hr := h.room
  refine va_mmax h.exec h.bytes a3.1.symm h.cls (h.hts _ w) (h.hts _ km.1) (h.hts _ km.2.1) (h.hts _ km.2.2) (by rw [hr]; exact hf.1) (by rw [hr]; omega) (by rw [hr]; exact hf.2.2.1) (by rw [hr]; exact hf.2.2.2) d ?_
  have e : (if Int32.ofInt x < Int32.ofInt y then Int32.ofInt y else Int32.ofInt x) = Int32.ofInt (if x < y then y else x) := by
    by_cases c : x < y
    · rw [if_pos c, if_pos ((iI_lt hx.1 hx.2).mpr c)]
    · rw [if_neg c, if_neg (fun z => c ((iI_lt hx.1 hx.2).mp z))]
  rw [e]
  exact q H locs ls a1 a2 a3
theorem v_min (h : Ac a B D E own cc nL rm) {index : Nat} {x y : Int} {P : Heap → Prop} (km : KM Lib.Math.min.name Lib.Math.min.code) (w : Cond.methodLink own index Lib.Math.min.name ∈ TS) (hx : InR x ∧ InR y) (hcat : (rest.map fun v => v.category).sum ≤ 8) (hf : 1 ≤ rm.frames ∧ 21 ≤ rm.locals ∧ k ≤ rm.cells ∧ n ≤ rm.slots) (d : decode cc pc = .ok (.invokestatic index, 3))
    (q : VV a B P k n (pc + 3) lv (iI (if y < x then y else x) :: rest)) : VV a B P k n pc lv (iI y :: iI x :: rest) := fun H locs ls a1 a2 a3 => by
  have hr := h.room
  refine va_mmin h.exec h.bytes a3.1.symm h.cls (h.hts _ w) (h.hts _ km.1) (h.hts _ km.2.1) (h.hts _ km.2.2) (by rw [hr]; exact hf.1) (by rw [hr]; omega) (by rw [hr]; exact hf.2.2.1) (by rw [hr]; exact hf.2.2.2) d ?_
  have e : (if Int32.ofInt y < Int32.ofInt x then Int32.ofInt y else Int32.ofInt x) = Int32.ofInt (if y < x then y else x) := by
    by_cases c : y < x
    · rw [if_pos c, if_pos ((iI_lt hx.2 hx.1).mpr c)]
    · rw [if_neg c, if_neg (fun z => c ((iI_lt hx.2 hx.1).mp z))]
  rw [e]
  exact q H locs ls a1 a2 a3
theorem v_throw (h : Ac a B D E own cc nL rm) {ret : Option FieldType} {P : Pv} {X : Px} {mc ms : Nat} {e : String} {names : List String} {ik ic : Nat} (r : Rt a B D E ret P X mc ms) (t : noTab a) (kt : KT own ik ic e names)
    (d0 : decode cc pc = .ok (.new ik, 3)) (d3 : decode cc (pc + 3) = .ok (.dup, 1)) (d4 : decode cc (pc + 4) = .ok (.invokespecial ic, 3)) (d7 : decode cc (pc + 7) = .ok (.athrow, 1))
    (hf : names.length + 3 < rm.frames ∧ 8 + (13 * (names.length + 1) + 42) ≤ rm.locals ∧ k + 1 ≤ rm.cells ∧ n + 6 ≤ rm.slots) (hcat : (rest.map fun v => v.category).sum ≤ 8) (hk : k + 1 ≤ mc) (hn : n + 6 ≤ ms) (x : X e μ) : VV a B (SP B D E μ) k n pc lv rest := fun H locs ls a1 a2 a3 => by
  have hr := h.room
  obtain ⟨⟨f1, f2⟩, ⟨w1, w2⟩, w3, w4, w5, w6⟩ := kt
  have hall : ∀ w ∈ vx_at0 own ic e names, w.before (axA a) (axS a) = true := by
    intro w hw
    by_cases hg : goodWord w = true
    · exact h.hts _ (w3 w (List.mem_filter.mpr ⟨hw, hg⟩))
    · rcases w4 w (List.mem_filter.mpr ⟨hw, by simpa using hg⟩) with z | z
      · rw [z]; exact va_Nw.use rfl (h.zx.2.2.1 _ w5)
      · obtain ⟨y, hy, rfl⟩ := List.mem_map.mp z
        exact va_Nw.use rfl (h.zx.2.2.2.1 y hy)
  rw [r.1]
  exact vx_throw0 (A := fun q : Nat => B ≤ q) h.exec h.bytes h.quiet h.cls f1 f2 (h.hts _ w1) (h.hts _ w2) hall w6 h.zx.1 h.zx.2.1 a2 a3.1 d0 d3 d4 d7 (fun y hy => (t y hy).elim)
    (by rw [hr]; exact hf.1) (by rw [hr]; omega) (by rw [hr]; exact hf.2.2.1) (by rw [hr]; exact hf.2.2.2) h.unlocked
    (fun t' _ z1 z2 => ⟨⟨μ, x, va_P.kept a1 (fun j q hj => z2 q.1 ((a1 j q hj).lt))⟩, ⟨Nat.le_trans a2.1 z1, fun q b1 b2 => (z2 q (Nat.lt_of_lt_of_le b1 a2.1)).trans (a2.2.1 q b1 b2)⟩⟩) a2.2.2 hk hn
end R4
