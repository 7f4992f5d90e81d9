/-! ===== rows of the law: handlers, the script ===== -/
theorem ctH_of {l : Launch} {B : Nat} {D : va_G} {E : Nat → ClassId} {y : MethodName} {own : String} {cc : ByteArray} {nL : Nat} {ret : Option FieldType} {hh : List (Nat × Nat × Nat × Nat)} {rm : Room} {av : List Value} {μ : Mm} {P : Pv} {X : Px} {lv : List (Nat × Value)}
    (hst : l.stackTraces = false) (hy : plainName y.cls = true) (hcl : y.cls = own) (hlv : lv_args 0 av = lv) (hsz : (lg_sl av).length ≤ nL)
    (body : ∀ a : Ax, Ac a B D E own cc nL rm → Rt a B D E ret P X rm.cells rm.slots → (axC a).exceptionTable.toList = tableOf hh → VV a B (SP B D E μ) 0 0 0 lv []) : Ct l B D E y (.codeWith y cc nL ret hh) rm av μ P X := by
  refine vx_ofWH (cc := cc) (maxL := nL) (ret := ret) hy rfl ?_
  intro p e s m args below meth c s₁ B0 hml hv
  obtain ⟨rfl, hP, hK, hZ, hB⟩ := hv
  have hts := atoms_spec (ws := Cond.codeWith y cc nL ret hh :: TS) B0.pre
  have htab := vx_table (x := y) B0 (hts _ List.mem_cons_self)
  have hown : s.vm.findClass own = some m.cls := by rw [← hcl]; exact findClass_of_methodNamed B0.named
  have hl := lv_entry av hsz
  rw [hlv] at hl
  rw [lg_entry_eq]
  generalize (lg_sl av ++ List.replicate (nL - (lg_sl av).length) Slot.unset).toArray = ls at hl ⊢
  have hb := body (p, l, e, rm, s, m, av.toArray, below, meth, c, vx_MQ below (Qt B D E P) (Xt B D E X) av.toArray s rm.cells rm.slots (fun q : Nat => B ≤ q))
    ⟨B0.exec, B0.bytes, hml, hown, fun w hw => hts w (List.mem_cons_of_mem _ hw), rfl, hK, hZ, hst, B0.notSynchronized, hB⟩ ⟨rfl, B0.returns⟩ htab
  exact hb s.heap [] ls hP va_S.rf (by rw [← hml] at hl; exact hl)
section RL
variable {a : Ax} {B : Nat} {D : va_G} {E : Nat → ClassId} {own : String} {cc : ByteArray} {nL : Nat} {rm : Room} {μ : Mm} {k n pc : Nat} {lv lv' : List (Nat × Value)} {st rest : List Value} {o : Nat} {Pq : Heap → Prop}
theorem v_catch (h : Ac a B D E own cc nL rm) {hh : List (Nat × Nat × Nat × Nat)} (tab : (axC a).exceptionTable.toList = tableOf hh) {e : String} (pre : List ExceptionTableEntry) (x : ExceptionTableEntry) (suf : List ExceptionTableEntry) (hsplit : tableOf hh = pre ++ x :: suf)
    (hpass : ∀ z ∈ pre, z.catchType ≠ 0 ∧ ∃ nm : String, Cond.classLink own z.catchType nm ∈ TS ∧ (e, nm) ∈ xnl) (hx : covers x pc = true) (h0 : x.catchType ≠ 0) (hlink : Cond.classLink own x.catchType e ∈ TS) (he : (e, e) ∈ xcl) (hd : Nat) (hhd : x.handlerPc = hd)
    (q : ∀ q : Nat, VV a B Pq k n hd lv [.ref q]) : VX a B Pq k n pc e lv st := fun H locs ls q9 ce a1 a2 a3 a4 a5 a6 =>
  vx_catch (E := e) h.cls pre x suf (tab.trans hsplit) (fun z hz => Or.inr ⟨(hpass z hz).1, (hpass z hz).2.choose, h.hts _ (hpass z hz).2.choose_spec.1, h.zx.2.2.2.2 _ (hpass z hz).2.choose_spec.2⟩) hx h0 (h.hts _ hlink) (va_Nw.use rfl (h.zx.2.2.1 _ he)) a4 a5 a6 (by rw [hhd]; exact q q9 H locs ls a1 a2 a3)
theorem v_dload (h : Ac a B D E own cc nL rm) {i : Nat} {x : UInt64} (d : decode cc pc = .ok (.dload i, 2)) (g : lvg lv i = some (.double x)) (q : VV a B Pq k n (pc + 2) lv (.double x :: st)) : VV a B Pq k n pc lv st := fun H locs ls a1 a2 a3 => lv_dload h.exec h.bytes d (lvg_at a3 g) (q H locs ls a1 a2 a3)
theorem v_dstore (h : Ac a B D E own cc nL rm) {i : Nat} {x : UInt64} (d : decode cc pc = .ok (.dstore i, 2)) (hn : i + 1 < nL) (e : (i, Value.double x) :: lvd2 i lv = lv') (q : VV a B Pq k n (pc + 2) lv' st) : VV a B Pq k n pc lv (.double x :: st) := fun H locs ls a1 a2 a3 => lv_dstore h.exec h.bytes d a3 (by rw [h.maxl]; exact hn) rfl fun ls' h' => q H locs ls' a1 a2 (e ▸ lvd2_has h')
theorem v_sld (h : Ac a B D E own cc nL rm) {b L : Nat} {xs : Nat → Int32} (hX : va_X b L xs (axS a) (axS a).heap) (hbl : b < (axS a).heap.size) (hB : b < B) {z : Int} (hL : L ≤ 3072) {j : Nat} (hz : z = (j : Int) ∧ j < L) (d : decode cc pc = .ok (.iaload, 1))
    (q : VV a B Pq k n (pc + 1) lv (iI (xs j).toInt :: st)) : VV a B Pq k n pc lv (iI z :: .ref b :: st) := fun H locs ls a1 a2 a3 =>
  va_sld h.exec h.bytes hX hbl (fun z => absurd z (Nat.not_le_of_lt hB)) a2 (iI_in (by omega) (by omega) (by omega)) d (by rw [iI_nat (by omega)]; have := q H locs ls a1 a2 a3; rw [show iI (xs j).toInt = Value.int (xs j) from congrArg Value.int (iI_toInt32 _)] at this; rw [show z.toNat = j by omega]; exact this)
theorem v_slen (h : Ac a B D E own cc nL rm) {b L : Nat} {xs : Nat → Int32} (hX : va_X b L xs (axS a) (axS a).heap) (hbl : b < (axS a).heap.size) (hB : b < B) (d : decode cc pc = .ok (.arraylength, 1))
    (q : VV a B Pq k n (pc + 1) lv (iI (L : Int) :: st)) : VV a B Pq k n pc lv (.ref b :: st) := fun H locs ls a1 a2 a3 =>
  va_slen h.exec h.bytes hX hbl (fun z => absurd z (Nat.not_le_of_lt hB)) a2 d (by have := q H locs ls a1 a2 a3; rw [show iI (L : Int) = Value.int (Int32.ofNat L) from congrArg Value.int Int32.ofInt_eq_ofNat] at this; exact this)
def KH (C : String) (y : MethodName) (bytes : ByteArray) (maxL : Nat) (ret : Option FieldType) (hh : List (Nat × Nat × Nat × Nat)) (m : Nat) : Prop :=
  (Cond.static y ∈ TS ∧ Cond.initialized C ∈ TS ∧ Cond.codeWith y bytes maxL ret hh ∈ TS) ∧ (y.cls = C ∧ y.cls ≠ "java/lang/invoke/MethodHandle" ∧ y.cls ≠ "java/lang/invoke/VarHandle" ∧ (parseMethodDescriptor y.desc).map (fun d => d.parameters.length) = some m)
theorem v_callH (h : Ac a B D E own cc nL rm) {m index maxL : Nat} {y : MethodName} {bytes : ByteArray} {ret : Option FieldType} {hh : List (Nat × Nat × Nat × Nat)} {r : Room} {As : List Value} {P : Pv}
    (hM : Ct (axL a) B D E y (.codeWith y bytes maxL ret hh) r As μ P NX) (kv : KH own y bytes maxL ret hh m) (w : Cond.methodLink own index y ∈ TS) (hst : st = As.reverse ++ rest) (hm : As.length = m) (hcat : (rest.map fun v => v.category).sum ≤ 8) (hR : RM rm r k n maxL) (d : decode cc pc = .ok (.invokestatic index, 3))
    (q : ∀ (v : Option Value) (μ' : Mm), P v μ' → VV a B (SP B D E μ') (k + r.cells) (n + r.slots) (pc + 3) lv (v.toList ++ rest)) : VV a B (SP B D E μ) k n pc lv st := by
  intro H locs ls a1 a2 a3 T0 hT X0
  have hr := h.room
  obtain ⟨⟨w1, w3, w4⟩, hd⟩ := kv
  have hG : GoodIn TS (va_wsS own index y (Cond.codeWith y bytes maxL ret hh :: TS)) := by
    intro z hz
    have hm : z ∈ TS := by
      rcases List.mem_append.mp hz with hz | hz
      · rcases List.mem_cons.mp hz with e | hz
        · rw [e]; exact w
        · rcases List.mem_cons.mp hz with e | hz
          · rw [e]; exact w1
          · rw [List.mem_singleton.mp hz, hd.1]; exact w3
      · rcases List.mem_cons.mp hz with e | hz
        · rw [e]; exact w4
        · exact hz
    exact ts_self z hm
  have hrun := vx_runSX (e := axE a) (below := axB a) (meth := axF a) (R := axR a) (g := F0 (axM a) pc ls st) (rest := rest) (n := m) (cells := k) (slots := n) (locs := locs) (H := H) h.fix hM (vx_cwSW m h.hts hG rfl rfl rfl hd.2 (by rw [hr]; exact hR.1))
    ⟨Ent.blind, fun U hU hW => ⟨rfl, h.ent a1 a2 hU hW⟩⟩ rfl hm (by rw [← h.maxl]; exact a3.1) hst (lv_room hcat) d (by rw [hr]; exact hR.2)
  rcases hrun T0 hT X0 with ⟨v, st₀, t, T', L, h0, X', hL, e1, e2, ⟨⟨v', μ', hv, hp, hP1⟩, hF⟩, stp⟩ | ⟨q9, st₀, t, T', L, e, ce, h0, X', hL, e1, e2, ⟨⟨μ', hx, hP1⟩, hF⟩, hce, hcv, hcl, stp⟩
  · cases hv
    obtain ⟨-, -, k3⟩ := vx_keep h0 e1 a2 (fun _ _ z => z) (fun _ z => z) hL hF
    obtain ⟨t2, b1, b2⟩ := q v μ' hp T'.heap (locs ++ L) ls (by rw [e1]; exact hP1) k3 a3 T' rfl X'
    exact ⟨t2, stp t2 b1, b2⟩
  · exact hx.elim
def w32 (x : Int) : Int := (Int32.ofInt x).toInt
theorem v_icmp_eqS (h : Ac a B D E own cc nL rm) {x : Int32} {off : Int} (tgt : Nat) (d : decode cc pc = .ok (.if_icmp .eq off, 3)) (ht : (pc : Int) + off = (tgt : Int)) (q : VV a B Pq k n tgt lv st) : VV a B Pq k n pc lv (.int x :: .int x :: st) := fun H locs ls a1 a2 a3 =>
  lv_icmp_eq h.exec h.bytes d ht (fun _ => q H locs ls a1 a2 a3) (fun z => absurd rfl z)
theorem v_icmp_neS (h : Ac a B D E own cc nL rm) {x : Int32} {off : Int} (tgt : Nat) (d : decode cc pc = .ok (.if_icmp .ne off, 3)) (ht : (pc : Int) + off = (tgt : Int)) (q : VV a B Pq k n (pc + 3) lv st) : VV a B Pq k n pc lv (.int x :: .int x :: st) := fun H locs ls a1 a2 a3 =>
  lv_icmp_ne h.exec h.bytes d ht (fun z => absurd rfl z) (fun _ => q H locs ls a1 a2 a3)
end RL
theorem mup_mup {μ : Mm} {o j : Nat} {x y : Int} : mup (mup μ o j x) o j y = mup μ o j y := by
  funext a b
  by_cases e : a = o ∧ b = j
  · rw [e.1, e.2, mup_eq, mup_eq]
  · rw [mup_ne e, mup_ne e, mup_ne e]
theorem bus_9 (x : Int) : 0 ≤ bus x 9 ∧ bus x 9 < 8388608 := by
  unfold bus
  have h : ((Int32.ofInt x).toUInt32 >>> ((Int32.ofInt 9).toUInt32 &&& Int32.toUInt32 31)).toInt32.toBitVec.toNat < 8388608 := by
    show ((Int32.ofInt x).toUInt32 >>> ((Int32.ofInt 9).toUInt32 &&& Int32.toUInt32 31)).toBitVec.toNat < 8388608
    rw [UInt32.toBitVec_shiftRight]
    have e : (((Int32.ofInt 9).toUInt32 &&& Int32.toUInt32 31).toBitVec % 32) = 9#32 := by decide
    rw [e]
    simp only [BitVec.ushiftRight_eq', BitVec.toNat_ushiftRight, Nat.shiftRight_eq_div_pow]
    have := (Int32.ofInt x).toUInt32.toBitVec.isLt
    have e2 : (9#32 : BitVec 32).toNat = 9 := rfl
    rw [e2]
    omega
  have h2 : ((Int32.ofInt x).toUInt32 >>> ((Int32.ofInt 9).toUInt32 &&& Int32.toUInt32 31)).toInt32.toInt = (((Int32.ofInt x).toUInt32 >>> ((Int32.ofInt 9).toUInt32 &&& Int32.toUInt32 31)).toInt32.toBitVec.toNat : Int) := by
    show BitVec.toInt _ = _
    rw [BitVec.toInt_eq_toNat_of_lt (by omega)]
  rw [h2]
  omega
section
variable {l : Launch} {B : Nat} {D : va_G} {E : Nat → ClassId} {μ m σ : Mm} {w n : Nat} {K : Nat → Int} {s : St} {J : Mm}
/-- a draw: a number, the row of draws changes -/
def PN (μ : Mm) (lo hi : Int) : Pv := fun v m => ∃ x y : Int, v = some (iI x) ∧ lo ≤ x ∧ x ≤ hi ∧ m = mup μ 123 0 y
theorem c_L_next (hst : l.stackTraces = false) :
    Ct l B D E yL_next (.code yL_next cL_next 1 (some .int)) rm_L_next [.ref (pl B 123)] μ (PN μ 0 8388607) NX := by
  refine ct_of (own := RL) (lv := [(0, _)]) hst (by decide) rfl rfl (Nat.le_of_ble_eq_true rfl) fun a h r t => ?_
  refine v_aload_n (pc := 0) h (dk dt_L_next 0 rfl) rfl ?_
  refine v_iconst (pc := 1) h (dk dt_L_next 1 rfl) ?_
  refine v_aload_n (pc := 2) h (dk dt_L_next 2 rfl) rfl ?_
  refine v_iconst (pc := 3) h (dk dt_L_next 3 rfl) ?_
  refine v_iald (pc := 4) h sh123 (Nat.le_of_ble_eq_true rfl) (by omega) (dk dt_L_next 4 rfl) ?_
  refine v_ldc (pc := 5) (z := 1103515245) h wK_L_7 (dk dt_L_next 5 rfl) ?_
  refine v_imul (pc := 7) h (dk dt_L_next 6 rfl) ?_
  refine v_sipush (pc := 8) h (dk dt_L_next 7 rfl) rfl ?_
  refine v_iadd (pc := 11) h (dk dt_L_next 8 rfl) ?_
  refine v_iast (pc := 12) h sh123 (Nat.le_of_ble_eq_true rfl) (by omega) (dk dt_L_next 9 rfl) ?_
  refine v_aload_n (pc := 13) h (dk dt_L_next 10 rfl) rfl ?_
  refine v_iconst (pc := 14) h (dk dt_L_next 11 rfl) ?_
  refine v_dup2 (pc := 15) h (dk dt_L_next 12 rfl) rfl rfl ?_
  refine v_iald (pc := 16) h sh123 (Nat.le_of_ble_eq_true rfl) (by omega) (dk dt_L_next 13 rfl) ?_
  refine v_aload_n (pc := 17) h (dk dt_L_next 14 rfl) rfl ?_
  refine v_iconst (pc := 18) h (dk dt_L_next 15 rfl) ?_
  refine v_iald (pc := 19) h sh123 (Nat.le_of_ble_eq_true rfl) (by omega) (dk dt_L_next 16 rfl) ?_
  refine v_bipush (pc := 20) h (dk dt_L_next 17 rfl) rfl ?_
  refine v_iushr (pc := 22) h (dk dt_L_next 18 rfl) ?_
  refine v_ixor (pc := 23) h (dk dt_L_next 19 rfl) ?_
  refine v_iast (pc := 24) h sh123 (Nat.le_of_ble_eq_true rfl) (by omega) (dk dt_L_next 20 rfl) ?_
  refine v_aload_n (pc := 25) h (dk dt_L_next 21 rfl) rfl ?_
  refine v_iconst (pc := 26) h (dk dt_L_next 22 rfl) ?_
  refine v_iald (pc := 27) h sh123 (Nat.le_of_ble_eq_true rfl) (by omega) (dk dt_L_next 23 rfl) ?_
  refine v_bipush (pc := 28) h (dk dt_L_next 24 rfl) rfl ?_
  refine v_iushr (pc := 30) h (dk dt_L_next 25 rfl) ?_
  exact v_iret (pc := 31) h r (dk dt_L_next 26 rfl) (Nat.le_of_ble_eq_true rfl) (Nat.le_of_ble_eq_true rfl) ⟨_, _, rfl, (bus_9 _).1, Int.le_of_lt_add_one (bus_9 _).2, mup_mup⟩
theorem c_L_from (hst : l.stackTraces = false) {lo hi : Int} (h1 : -1000 ≤ lo ∧ lo ≤ hi) (h2 : hi ≤ 100000) :
    Ct l B D E yL_from (.code yL_from cL_from 3 (some .int)) rm_L_from [.ref (pl B 123), iI lo, iI hi] μ (PN μ lo hi) NX := by
  refine ct_of (own := RL) (lv := [(0, _), (1, _), (2, _)]) hst (by decide) rfl rfl (Nat.le_of_ble_eq_true rfl) fun a h r t => ?_
  refine v_iload_n (pc := 0) h (dk dt_L_from 0 rfl) rfl ?_
  refine v_aload_n (pc := 1) h (dk dt_L_from 1 rfl) rfl ?_
  refine v_cS (pc := 2) h (c_L_next h.quiet) kv_L_next wM_L_8 rfl rfl (Nat.le_of_ble_eq_true rfl) (RM.of rfl) rfl rfl (dk dt_L_from 2 rfl) (fun v2 μ2 p2 => ?_)
  obtain ⟨x, y, rfl, p1, p2, rfl⟩ := p2
  refine v_iload_n (pc := 5) h (dk dt_L_from 3 rfl) rfl ?_
  refine v_iload_n (pc := 6) h (dk dt_L_from 4 rfl) rfl ?_
  refine v_isub (pc := 7) h (dk dt_L_from 5 rfl) ?_
  refine v_iconst (pc := 8) h (dk dt_L_from 6 rfl) ?_
  refine v_iadd (pc := 9) h (dk dt_L_from 7 rfl) ?_
  refine v_irem (pc := 10) h (dk dt_L_from 8 rfl) (by omega) (by omega) ?_
  have hm := Int.emod_lt_of_pos x (show 0 < hi - lo + 1 by omega)
  have hm2 := Int.emod_nonneg x (show hi - lo + 1 ≠ 0 by omega)
  refine v_iadd (pc := 11) h (dk dt_L_from 9 rfl) ?_
  exact v_iret (pc := 12) h r (dk dt_L_from 10 rfl) (Nat.le_of_ble_eq_true rfl) (Nat.le_of_ble_eq_true rfl) ⟨_, _, rfl, by omega, by omega, rfl⟩
end
