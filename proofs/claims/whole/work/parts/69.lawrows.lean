/-! ===== rows of the law: handlers, longs and doubles in arrays, the script ===== -/
theorem ctH_of {l : Launch} {B : Nat} {D : va_G} {E : Nat → ClassId} {y : MethodName} {own : String} {cc : ByteArray} {nL : Nat} {ret : Option FieldType} {hh : List (Nat × Nat × Nat × Nat)} {rm : Room} {av : List Value} {μ : Mm} {P : Pv} {X : Px} {lv : List (Nat × Value)}
    (hst : l.stackTraces = false) (hy : plainName y.cls = true) (hcl : y.cls = own) (hlv : lv_args 0 av = lv) (hsz : (lg_sl av).length ≤ nL)
    (body : ∀ a : Ax, Ac a B D E own cc nL rm → Rt a B D E ret P X rm.cells rm.slots → (axC a).exceptionTable.toList = tableOf hh → VV a B (SP B D E μ) 0 0 0 lv []) : Ct l B D E y (.codeWith y cc nL ret hh) rm av μ P X := by
  refine vx_ofWH (cc := cc) (maxL := nL) (ret := ret) hy rfl ?_
  intro p e s m args below meth c s₁ B0 hml hv
  obtain ⟨rfl, hP, hK, hZ, hB⟩ := hv
  have hts := atoms_spec (ws := Cond.codeWith y cc nL ret hh :: TS) B0.pre
  have htab := vx_table (x := y) B0 (hts _ List.mem_cons_self)
  have hown : s.vm.findClass own = some m.cls := by rw [← hcl]; exact findClass_of_methodNamed B0.named
  have hl := lv_entry av hsz
  rw [hlv] at hl
  rw [lg_entry_eq]
  generalize (lg_sl av ++ List.replicate (nL - (lg_sl av).length) Slot.unset).toArray = ls at hl ⊢
  have hb := body (p, l, e, rm, s, m, av.toArray, below, meth, c, vx_MQ below (Qt B D E P) (Xt B D E X) av.toArray s rm.cells rm.slots (fun q : Nat => B ≤ q))
    ⟨B0.exec, B0.bytes, hml, hown, fun w hw => hts w (List.mem_cons_of_mem _ hw), rfl, hK, hZ, hst, B0.notSynchronized, hB⟩ ⟨rfl, B0.returns⟩ htab
  exact hb s.heap [] ls hP va_S.rf (by rw [← hml] at hl; exact hl)
section RL
variable {a : Ax} {B : Nat} {D : va_G} {E : Nat → ClassId} {own : String} {cc : ByteArray} {nL : Nat} {rm : Room} {μ : Mm} {k n pc : Nat} {lv lv' : List (Nat × Value)} {st rest : List Value} {o : Nat} {Pq : Heap → Prop}
theorem v_catch (h : Ac a B D E own cc nL rm) {hh : List (Nat × Nat × Nat × Nat)} (tab : (axC a).exceptionTable.toList = tableOf hh) {e : String} (pre : List ExceptionTableEntry) (x : ExceptionTableEntry) (suf : List ExceptionTableEntry) (hsplit : tableOf hh = pre ++ x :: suf)
    (hpass : ∀ z ∈ pre, z.catchType ≠ 0 ∧ ∃ nm : String, Cond.classLink own z.catchType nm ∈ TS ∧ (e, nm) ∈ xnl) (hx : covers x pc = true) (h0 : x.catchType ≠ 0) (hlink : Cond.classLink own x.catchType e ∈ TS) (he : (e, e) ∈ xcl) (hd : Nat) (hhd : x.handlerPc = hd)
    (q : ∀ q : Nat, VV a B Pq k n hd lv [.ref q]) : VX a B Pq k n pc e lv st := fun H locs ls q9 ce a1 a2 a3 a4 a5 a6 =>
  vx_catch (E := e) h.cls pre x suf (tab.trans hsplit) (fun z hz => Or.inr ⟨(hpass z hz).1, (hpass z hz).2.choose, h.hts _ (hpass z hz).2.choose_spec.1, h.zx.2.2.2.2 _ (hpass z hz).2.choose_spec.2⟩) hx h0 (h.hts _ hlink) (va_Nw.use rfl (h.zx.2.2.1 _ he)) a4 a5 a6 (by rw [hhd]; exact q q9 H locs ls a1 a2 a3)
theorem upd_mup64 {j : Nat} {y : Int} : vf_upd (fun j => Int64.ofInt (μ o j)) j (Int64.ofInt y) = fun b => Int64.ofInt (mup μ o j y o b) := by
  funext b
  rw [mup_row]
  unfold vf_upd
  by_cases hb : b = j <;> simp [hb]
theorem v_last (h : Ac a B D E own cc nL rm) {len : Nat} {z y : Int} (sh : shapes[o]? = some (.inr (2, len))) (hl : len ≤ 4000) (hz : 0 ≤ z ∧ z < (len : Int)) (d : decode cc pc = .ok (.lastore, 1))
    (q : VV a B (SP B D E (mup μ o z.toNat y)) k n (pc + 1) lv st) : VV a B (SP B D E μ) k n pc lv (iL y :: iI z :: .ref (pl B o) :: st) := fun H locs ls a1 a2 a3 =>
  va_last h.exec h.bytes h.known a1 (wsm_apart B E μ) a2 o 2 (wsm_get sh) rfl (iI_in (by omega) hz.1 hz.2) d (fun H1 locs1 b1 _ b3 => q H1 locs1 ls (by
    rw [iI_nat (by omega)] at b1
    have e : (wsm B E μ).set o (pl B o, .inl (E 2, len, .inr (.inl (fun b => Int64.ofInt (mup μ o z.toNat y o b))))) = wsm B E (mup μ o z.toNat y) := wsm_set (s := .inr (2, len)) sh rfl
    show va_P D vwCl (wsm B E (mup μ o z.toNat y)) H1
    rw [← e, ← upd_mup64]
    exact b1) b3 a3)
theorem v_lald (h : Ac a B D E own cc nL rm) {len : Nat} {z : Int} (sh : shapes[o]? = some (.inr (2, len))) (hl : len ≤ 4000) (hz : 0 ≤ z ∧ z < (len : Int)) (d : decode cc pc = .ok (.laload, 1))
    (q : VV a B (SP B D E μ) k n (pc + 1) lv (iL (μ o z.toNat) :: st)) : VV a B (SP B D E μ) k n pc lv (iI z :: .ref (pl B o) :: st) := fun H locs ls a1 a2 a3 =>
  va_lald h.exec h.bytes h.known a1 o 2 (wsm_get sh) rfl (iI_in (by omega) hz.1 hz.2) d (by rw [iI_nat (by omega)]; exact q H locs ls a1 a2 a3)
theorem dbl_rt (y : UInt64) : UInt64.ofNat (((y.toNat : Nat) : Int)).toNat = y := by
  rw [Int.toNat_natCast]; exact UInt64.ofNat_toNat
theorem upd_mupd {j : Nat} {y : UInt64} : vf_upd (fun j => UInt64.ofNat (μ o j).toNat) j y = fun b => UInt64.ofNat (mup μ o j ((y.toNat : Nat) : Int) o b).toNat := by
  funext b
  rw [mup_row]
  unfold vf_upd
  by_cases hb : b = j
  · rw [if_pos hb, if_pos hb, dbl_rt]
  · rw [if_neg hb, if_neg hb]
theorem v_dast (h : Ac a B D E own cc nL rm) {len : Nat} {z : Int} {y : UInt64} (sh : shapes[o]? = some (.inr (3, len))) (hl : len ≤ 4000) (hz : 0 ≤ z ∧ z < (len : Int)) (d : decode cc pc = .ok (.dastore, 1))
    (q : VV a B (SP B D E (mup μ o z.toNat ((y.toNat : Nat) : Int))) k n (pc + 1) lv st) : VV a B (SP B D E μ) k n pc lv (.double y :: iI z :: .ref (pl B o) :: st) := fun H locs ls a1 a2 a3 =>
  va_dast h.exec h.bytes h.known a1 (wsm_apart B E μ) a2 o 3 (wsm_get sh) rfl (iI_in (by omega) hz.1 hz.2) d (fun H1 locs1 b1 _ b3 => q H1 locs1 ls (by
    rw [iI_nat (by omega)] at b1
    have e : (wsm B E μ).set o (pl B o, .inl (E 3, len, .inr (.inr (.inr (.inl (fun b => UInt64.ofNat (mup μ o z.toNat ((y.toNat : Nat) : Int) o b).toNat)))))) = wsm B E (mup μ o z.toNat ((y.toNat : Nat) : Int)) := wsm_set (s := .inr (3, len)) sh rfl
    show va_P D vwCl (wsm B E (mup μ o z.toNat ((y.toNat : Nat) : Int))) H1
    rw [← e, ← upd_mupd]
    exact b1) b3 a3)
theorem v_dald (h : Ac a B D E own cc nL rm) {len : Nat} {z : Int} (sh : shapes[o]? = some (.inr (3, len))) (hl : len ≤ 4000) (hz : 0 ≤ z ∧ z < (len : Int)) (d : decode cc pc = .ok (.daload, 1))
    (q : VV a B (SP B D E μ) k n (pc + 1) lv (.double (UInt64.ofNat (μ o z.toNat).toNat) :: st)) : VV a B (SP B D E μ) k n pc lv (iI z :: .ref (pl B o) :: st) := fun H locs ls a1 a2 a3 =>
  va_dald h.exec h.bytes h.known a1 o 3 (wsm_get sh) rfl (iI_in (by omega) hz.1 hz.2) d (by rw [iI_nat (by omega)]; exact q H locs ls a1 a2 a3)
theorem v_dload (h : Ac a B D E own cc nL rm) {i : Nat} {x : UInt64} (d : decode cc pc = .ok (.dload i, 2)) (g : lvg lv i = some (.double x)) (q : VV a B Pq k n (pc + 2) lv (.double x :: st)) : VV a B Pq k n pc lv st := fun H locs ls a1 a2 a3 => lv_dload h.exec h.bytes d (lvg_at a3 g) (q H locs ls a1 a2 a3)
theorem v_fload (h : Ac a B D E own cc nL rm) {i : Nat} {x : UInt32} (d : decode cc pc = .ok (.fload i, 2)) (g : lvg lv i = some (.float x)) (q : VV a B Pq k n (pc + 2) lv (.float x :: st)) : VV a B Pq k n pc lv st := fun H locs ls a1 a2 a3 => lv_fload h.exec h.bytes d (lvg_at a3 g) (q H locs ls a1 a2 a3)
theorem v_dstore (h : Ac a B D E own cc nL rm) {i : Nat} {x : UInt64} (d : decode cc pc = .ok (.dstore i, 2)) (hn : i + 1 < nL) (e : (i, Value.double x) :: lvd2 i lv = lv') (q : VV a B Pq k n (pc + 2) lv' st) : VV a B Pq k n pc lv (.double x :: st) := fun H locs ls a1 a2 a3 => lv_dstore h.exec h.bytes d a3 (by rw [h.maxl]; exact hn) rfl fun ls' h' => q H locs ls' a1 a2 (e ▸ lvd2_has h')
theorem v_fstore (h : Ac a B D E own cc nL rm) {i : Nat} {x : UInt32} (d : decode cc pc = .ok (.fstore i, 2)) (hn : i < nL) (e : (i, Value.float x) :: lvd i lv = lv') (q : VV a B Pq k n (pc + 2) lv' st) : VV a B Pq k n pc lv (.float x :: st) := fun H locs ls a1 a2 a3 => lv_fstore h.exec h.bytes d a3 (by rw [h.maxl]; exact hn) rfl fun ls' h' => q H locs ls' a1 a2 (e ▸ lvd_has h')
theorem dcmp_self {x : UInt64} (hx : FP.Core.decode FP.Core.b64 x.toNat ≠ .nan) (op : CmpOp) : Op.cmpValue (FP.dcmp x x) op = 0 := by
  have e : FP.dcmp x x = some .eq := by
    show FP.Core.order (FP.Core.decode FP.Core.b64 x.toNat) (FP.Core.decode FP.Core.b64 x.toNat) = some .eq
    cases q : FP.Core.decode FP.Core.b64 x.toNat with
    | nan => exact absurd q hx
    | inf s => simp [FP.Core.order]
    | fin s c r => simp [FP.Core.order]
  rw [e]
  cases op <;> rfl
/-- two doubles that are the same number -/
theorem v_dcmp (h : Ac a B D E own cc nL rm) {x y : UInt64} {op : CmpOp} (e : x = y) (hx : FP.Core.decode FP.Core.b64 x.toNat ≠ .nan) (d : decode cc pc = .ok (.dcmp op, 1)) (q : VV a B Pq k n (pc + 1) lv (iI 0 :: st)) : VV a B Pq k n pc lv (.double y :: .double x :: st) := fun H locs ls a1 a2 a3 => by
  subst e
  exact lv_dcmp h.exec h.bytes d (by rw [dcmp_self hx]; exact q H locs ls a1 a2 a3)
/-- the script: a place of it -/
theorem v_sld (h : Ac a B D E own cc nL rm) {b L : Nat} {xs : Nat → Int32} (hX : va_X b L xs (axS a) (axS a).heap) (hbl : b < (axS a).heap.size) (hB : b < B) {z : Int} (hL : L ≤ 3072) {j : Nat} (hz : z = (j : Int) ∧ j < L) (d : decode cc pc = .ok (.iaload, 1))
    (q : VV a B Pq k n (pc + 1) lv (iI (xs j).toInt :: st)) : VV a B Pq k n pc lv (iI z :: .ref b :: st) := fun H locs ls a1 a2 a3 =>
  va_sld h.exec h.bytes hX hbl (fun z => absurd z (Nat.not_le_of_lt hB)) a2 (iI_in (by omega) (by omega) (by omega)) d (by rw [iI_nat (by omega)]; have := q H locs ls a1 a2 a3; rw [show iI (xs j).toInt = Value.int (xs j) from congrArg Value.int (iI_toInt32 _)] at this; rw [show z.toNat = j by omega]; exact this)
theorem v_slen (h : Ac a B D E own cc nL rm) {b L : Nat} {xs : Nat → Int32} (hX : va_X b L xs (axS a) (axS a).heap) (hbl : b < (axS a).heap.size) (hB : b < B) (d : decode cc pc = .ok (.arraylength, 1))
    (q : VV a B Pq k n (pc + 1) lv (iI (L : Int) :: st)) : VV a B Pq k n pc lv (.ref b :: st) := fun H locs ls a1 a2 a3 =>
  va_slen h.exec h.bytes hX hbl (fun z => absurd z (Nat.not_le_of_lt hB)) a2 d (by have := q H locs ls a1 a2 a3; rw [show iI (L : Int) = Value.int (Int32.ofNat L) from congrArg Value.int Int32.ofInt_eq_ofNat] at this; exact this)
/-- what the words say of a static method with handlers -/
def KH (C : String) (y : MethodName) (bytes : ByteArray) (maxL : Nat) (ret : Option FieldType) (hh : List (Nat × Nat × Nat × Nat)) (m : Nat) : Prop :=
  (Cond.static y ∈ TS ∧ Cond.initialized C ∈ TS ∧ Cond.codeWith y bytes maxL ret hh ∈ TS) ∧ (y.cls = C ∧ y.cls ≠ "java/lang/invoke/MethodHandle" ∧ y.cls ≠ "java/lang/invoke/VarHandle" ∧ (parseMethodDescriptor y.desc).map (fun d => d.parameters.length) = some m)
theorem v_callH (h : Ac a B D E own cc nL rm) {m index maxL : Nat} {y : MethodName} {bytes : ByteArray} {ret : Option FieldType} {hh : List (Nat × Nat × Nat × Nat)} {r : Room} {As : List Value} {P : Pv}
    (hM : Ct (axL a) B D E y (.codeWith y bytes maxL ret hh) r As μ P NX) (kv : KH own y bytes maxL ret hh m) (w : Cond.methodLink own index y ∈ TS) (hst : st = As.reverse ++ rest) (hm : As.length = m) (hcat : (rest.map fun v => v.category).sum ≤ 8) (hR : RM rm r k n maxL) (d : decode cc pc = .ok (.invokestatic index, 3))
    (q : ∀ (v : Option Value) (μ' : Mm), P v μ' → VV a B (SP B D E μ') (k + r.cells) (n + r.slots) (pc + 3) lv (v.toList ++ rest)) : VV a B (SP B D E μ) k n pc lv st := by
  intro H locs ls a1 a2 a3 T0 hT X0
  have hr := h.room
  obtain ⟨⟨w1, w3, w4⟩, hd⟩ := kv
  have hG : GoodIn TS (va_wsS own index y (Cond.codeWith y bytes maxL ret hh :: TS)) := by
    intro z hz
    have hm : z ∈ TS := by
      rcases List.mem_append.mp hz with hz | hz
      · rcases List.mem_cons.mp hz with e | hz
        · rw [e]; exact w
        · rcases List.mem_cons.mp hz with e | hz
          · rw [e]; exact w1
          · rw [List.mem_singleton.mp hz, hd.1]; exact w3
      · rcases List.mem_cons.mp hz with e | hz
        · rw [e]; exact w4
        · exact hz
    exact ts_self z hm
  have hrun := vx_runSX (e := axE a) (below := axB a) (meth := axF a) (R := axR a) (g := F0 (axM a) pc ls st) (rest := rest) (n := m) (cells := k) (slots := n) (locs := locs) (H := H) h.fix hM (vx_cwSW m h.hts hG rfl rfl rfl hd.2 (by rw [hr]; exact hR.1))
    ⟨Ent.blind, fun U hU hW => ⟨rfl, h.ent a1 a2 hU hW⟩⟩ rfl hm (by rw [← h.maxl]; exact a3.1) hst (lv_room hcat) d (by rw [hr]; exact hR.2)
  rcases hrun T0 hT X0 with ⟨v, st₀, t, T', L, h0, X', hL, e1, e2, ⟨⟨v', μ', hv, hp, hP1⟩, hF⟩, stp⟩ | ⟨q9, st₀, t, T', L, e, ce, h0, X', hL, e1, e2, ⟨⟨μ', hx, hP1⟩, hF⟩, hce, hcv, hcl, stp⟩
  · cases hv
    obtain ⟨-, -, k3⟩ := vx_keep h0 e1 a2 (fun _ _ z => z) (fun _ z => z) hL hF
    obtain ⟨t2, b1, b2⟩ := q v μ' hp T'.heap (locs ++ L) ls (by rw [e1]; exact hP1) k3 a3 T' rfl X'
    exact ⟨t2, stp t2 b1, b2⟩
  · exact hx.elim
/-- an int as the law stores it -/
def w32 (x : Int) : Int := (Int32.ofInt x).toInt
theorem v_i2lw (h : Ac a B D E own cc nL rm) {x : Int} (d : decode cc pc = .ok (.i2l, 1)) (q : VV a B Pq k n (pc + 1) lv (iL (w32 x) :: st)) : VV a B Pq k n pc lv (iI x :: st) := fun H locs ls a1 a2 a3 => lv_i2l h.exec h.bytes d (Int64.ofInt_int32ToInt _).symm (q H locs ls a1 a2 a3)
theorem v_lcmpS (h : Ac a B D E own cc nL rm) {x : Int64} (d : decode cc pc = .ok (.lcmp, 1)) (q : VV a B Pq k n (pc + 1) lv (iI 0 :: st)) : VV a B Pq k n pc lv (.long x :: .long x :: st) := fun H locs ls a1 a2 a3 => W.lcmp h.exec h.bytes d (by
  rw [show lg_cmp x x = Int32.ofInt 0 by simp [lg_cmp]]; exact q H locs ls a1 a2 a3)
theorem v_icmp_eqS (h : Ac a B D E own cc nL rm) {x : Int32} {off : Int} (tgt : Nat) (d : decode cc pc = .ok (.if_icmp .eq off, 3)) (ht : (pc : Int) + off = (tgt : Int)) (q : VV a B Pq k n tgt lv st) : VV a B Pq k n pc lv (.int x :: .int x :: st) := fun H locs ls a1 a2 a3 =>
  lv_icmp_eq h.exec h.bytes d ht (fun _ => q H locs ls a1 a2 a3) (fun z => absurd rfl z)
end RL
