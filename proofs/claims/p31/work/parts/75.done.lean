/-! ===== the law's wrapper: by program (gendone.py) ===== -/
abbrev hhD : List (Nat × Nat × Nat × Nat) := [(0, 74, 188, 63), (75, 81, 188, 63), (82, 92, 188, 63), (93, 98, 188, 63), (99, 104, 188, 63), (105, 110, 188, 63), (111, 126, 188, 63), (127, 139, 188, 63), (140, 145, 188, 63), (146, 154, 188, 63), (155, 160, 188, 63), (161, 175, 188, 63), (176, 187, 188, 63), (0, 74, 193, 65), (75, 81, 193, 65), (82, 92, 193, 65), (93, 98, 193, 65), (99, 104, 193, 65), (105, 110, 193, 65), (111, 126, 193, 65), (127, 139, 193, 65), (140, 145, 193, 65), (146, 154, 193, 65), (155, 160, 193, 65), (161, 175, 193, 65), (176, 187, 193, 65), (0, 74, 198, 67), (75, 81, 198, 67), (82, 92, 198, 67), (93, 98, 198, 67), (99, 104, 198, 67), (105, 110, 198, 67), (111, 126, 198, 67), (127, 139, 198, 67), (140, 145, 198, 67), (146, 154, 198, 67), (155, 160, 198, 67), (161, 175, 198, 67), (176, 187, 198, 67), (0, 74, 203, 69), (75, 81, 203, 69), (82, 92, 203, 69), (93, 98, 203, 69), (99, 104, 203, 69), (105, 110, 203, 69), (111, 126, 203, 69), (127, 139, 203, 69), (140, 145, 203, 69), (146, 154, 203, 69), (155, 160, 203, 69), (161, 175, 203, 69), (176, 187, 203, 69)]
theorem kh_L_done : KH RL yL_done cL_done 7 (some .int) hhD 6 := ⟨⟨tsm 403 (by decide +kernel) rfl, wI_L, tsm 404 (by decide +kernel) rfl⟩, by decide +kernel⟩
/-- what the wrapper answers: what the call answers, or the number of what it throws -/
def PD (rc : Int) (R : Option Value → Mm → Prop) (f : Int → Int) (μ : Mm) : Pv := fun w m => (rc = 0 ∧ R w m) ∨ (rc ≠ 0 ∧ w = some (iI (f rc)) ∧ m = μ)
def hpB (pc : Nat) (S : List Nat) (pre : List ExceptionTableEntry) : Bool := pre.all (fun z => !covers z pc || S.contains z.catchType)
section
variable {a : Ax} {B : Nat} {D : va_G} {E : Nat → ClassId} {own : String} {cc : ByteArray} {nL : Nat} {rm : Room} {k n pc : Nat} {lv : List (Nat × Value)} {st : List Value} {Pq : Heap → Prop}
theorem v_catchN (h : Ac a B D E own cc nL rm) {hh : List (Nat × Nat × Nat × Nat)} (tab : (axC a).exceptionTable.toList = tableOf hh) {e : String} (i : Nat) (x : ExceptionTableEntry) (hi : (tableOf hh)[i]? = some x) (S : List Nat)
    (hp : hpB pc S ((tableOf hh).take i) = true) (hS : ∀ c, c ∈ S → c ≠ 0 ∧ ∃ nm : String, Cond.classLink own c nm ∈ TS ∧ (e, nm) ∈ xnl) (hx : covers x pc = true) (h0 : x.catchType ≠ 0) (hlink : Cond.classLink own x.catchType e ∈ TS) (he : (e, e) ∈ xcl) (hd : Nat) (hhd : x.handlerPc = hd)
    (q : ∀ q : Nat, VV a B Pq k n hd lv [.ref q]) : VX a B Pq k n pc e lv st := fun H locs ls q9 ce a1 a2 a3 a4 a5 a6 => by
  have hsplit : tableOf hh = (tableOf hh).take i ++ x :: (tableOf hh).drop (i + 1) := by
    have hlt : i < (tableOf hh).length := (List.getElem?_eq_some_iff.mp hi).1
    have hx : (tableOf hh)[i] = x := (List.getElem?_eq_some_iff.mp hi).2
    rw [← hx, List.getElem_cons_drop, List.take_append_drop]
  refine vx_catch (E := e) h.cls ((tableOf hh).take i) x ((tableOf hh).drop (i + 1)) (tab.trans hsplit) (fun z hz => ?_) hx h0 (h.hts _ hlink) (va_Nw.use rfl (h.zx.2.2.1 _ he)) a4 a5 a6 (by rw [hhd]; exact q q9 H locs ls a1 a2 a3)
  have h1 := List.all_eq_true.mp hp z hz
  rw [Bool.or_eq_true] at h1
  rcases h1 with h1 | h1
  · left
    cases hc : covers z pc with
    | false => rfl
    | true => rw [hc] at h1; exact absurd h1 (by decide)
  · right
    have h2 := hS _ (List.contains_iff_mem.mp h1)
    exact ⟨h2.1, h2.2.choose, h.hts _ h2.2.choose_spec.1, h.zx.2.2.2.2 _ h2.2.choose_spec.2⟩
end
section
variable {l : Launch} {B : Nat} {D : va_G} {E : Nat → ClassId} {μ m σ : Mm} {w n : Nat} {K : Nat → Int} {s : St} {J : Mm}
theorem hS_eB : ∀ c, c ∈ [65, 67, 69] → c ≠ 0 ∧ ∃ nm : String, Cond.classLink RL c nm ∈ TS ∧ (eB, nm) ∈ xnl := by
  intro c hc
  simp only [List.mem_cons, List.not_mem_nil, or_false] at hc
  rcases hc with rfl | rfl | rfl
  · exact ⟨by decide, _, wL_L_65, by decide⟩
  · exact ⟨by decide, _, wL_L_67, by decide⟩
  · exact ⟨by decide, _, wL_L_69, by decide⟩
theorem hS_eA : ∀ c, c ∈ [63, 67, 69] → c ≠ 0 ∧ ∃ nm : String, Cond.classLink RL c nm ∈ TS ∧ (eA, nm) ∈ xnl := by
  intro c hc
  simp only [List.mem_cons, List.not_mem_nil, or_false] at hc
  rcases hc with rfl | rfl | rfl
  · exact ⟨by decide, _, wL_L_63, by decide⟩
  · exact ⟨by decide, _, wL_L_67, by decide⟩
  · exact ⟨by decide, _, wL_L_69, by decide⟩
theorem hS_eS : ∀ c, c ∈ [63, 65, 69] → c ≠ 0 ∧ ∃ nm : String, Cond.classLink RL c nm ∈ TS ∧ (eS, nm) ∈ xnl := by
  intro c hc
  simp only [List.mem_cons, List.not_mem_nil, or_false] at hc
  rcases hc with rfl | rfl | rfl
  · exact ⟨by decide, _, wL_L_63, by decide⟩
  · exact ⟨by decide, _, wL_L_65, by decide⟩
  · exact ⟨by decide, _, wL_L_69, by decide⟩
theorem hS_eN : ∀ c, c ∈ [63, 65, 67] → c ≠ 0 ∧ ∃ nm : String, Cond.classLink RL c nm ∈ TS ∧ (eN, nm) ∈ xnl := by
  intro c hc
  simp only [List.mem_cons, List.not_mem_nil, or_false] at hc
  rcases hc with rfl | rfl | rfl
  · exact ⟨by decide, _, wL_L_63, by decide⟩
  · exact ⟨by decide, _, wL_L_65, by decide⟩
  · exact ⟨by decide, _, wL_L_67, by decide⟩
theorem d_job (hst : l.stackTraces = false) (hO : hOK μ) {c le d we : Int} (hc : InR c ∧ InR le) (hd : InR d ∧ InR we) :
    Ct l B D E yL_done (.codeWith yL_done cL_done 7 (some .int) hhD) rm_L_done [.ref (pl B 0), iI 0, iI c, iI le, iI d, iI we] μ (PD (rcJob (μ 1 9) c le d we) (fun w m => w = some (iI (μ 1 9)) ∧ m = mtell (mup μ 0 7 0) c le d we) (fun x => -11 - x) μ) NX := by
  refine ctH_of (own := RL) (lv := [(0, _), (1, _), (2, _), (3, _), (4, _), (5, _)]) hst (by decide) rfl rfl (Nat.le_of_ble_eq_true rfl) fun a h r tab => ?_
  have x0 : (rcJob (μ 1 9) c le d we) = 1 → ∀ q : Nat, VV a B (SP B D E μ) 1 6 193 [(0, .ref (pl B 0)), (1, iI 0), (2, iI c), (3, iI le), (4, iI d), (5, iI we)] [.ref q] := by
    intro hrc q
    refine v_astore (lv' := [(6, _), (0, _), (1, _), (2, _), (3, _), (4, _), (5, _)]) (pc := 193) h (dk dt_L_done 84 rfl) (Nat.le_of_ble_eq_true rfl) rfl ?_
    refine v_bipush (pc := 195) h (dk dt_L_done 85 rfl) rfl ?_
    exact v_iret (pc := 197) h r (dk dt_L_done 86 rfl) (Nat.le_of_ble_eq_true rfl) (Nat.le_of_ble_eq_true rfl) (Or.inr ⟨by omega, by rw [hrc]; rfl, rfl⟩)
  have x1 : (rcJob (μ 1 9) c le d we) = 2 → ∀ q : Nat, VV a B (SP B D E μ) 1 6 198 [(0, .ref (pl B 0)), (1, iI 0), (2, iI c), (3, iI le), (4, iI d), (5, iI we)] [.ref q] := by
    intro hrc q
    refine v_astore (lv' := [(6, _), (0, _), (1, _), (2, _), (3, _), (4, _), (5, _)]) (pc := 198) h (dk dt_L_done 87 rfl) (Nat.le_of_ble_eq_true rfl) rfl ?_
    refine v_bipush (pc := 200) h (dk dt_L_done 88 rfl) rfl ?_
    exact v_iret (pc := 202) h r (dk dt_L_done 89 rfl) (Nat.le_of_ble_eq_true rfl) (Nat.le_of_ble_eq_true rfl) (Or.inr ⟨by omega, by rw [hrc]; rfl, rfl⟩)
  have go : VV a B (SP B D E μ) 0 0 64 [(0, .ref (pl B 0)), (1, iI 0), (2, iI c), (3, iI le), (4, iI d), (5, iI we)] [] := by
    refine v_aload_n (pc := 64) h (dk dt_L_done 2 rfl) rfl ?_
    refine v_iload_n (pc := 65) h (dk dt_L_done 3 rfl) rfl ?_
    refine v_iload_n (pc := 66) h (dk dt_L_done 4 rfl) rfl ?_
    refine v_iload (pc := 67) h (dk dt_L_done 5 rfl) rfl ?_
    refine v_iload (pc := 69) h (dk dt_L_done 6 rfl) rfl ?_
    refine v_callVX (pc := 71) h (c_X11_job h.quiet hO hc hd) kv_X11_job sh0 wM_L_14 rfl rfl (Nat.le_of_ble_eq_true rfl) (RM.of rfl) (dk dt_L_done 7 rfl) (fun e71 μ71 p71 => ?_) (fun v71 μ71 p71 => ?_)
    ·
      obtain ⟨⟨i, h1, h2⟩, rfl⟩ := p71
      rcases i with _ | _ | i
      · have e9 := Option.some.inj h2; subst e9; exact v_catchN (pc := 71) h tab 13 _ rfl [63, 67, 69] (by decide) hS_eA rfl (by decide) wL_L_65 (by decide) 193 rfl (fun q => x0 (by omega) q)
      · have e9 := Option.some.inj h2; subst e9; exact v_catchN (pc := 71) h tab 26 _ rfl [63, 65, 69] (by decide) hS_eS rfl (by decide) wL_L_67 (by decide) 198 rfl (fun q => x1 (by omega) q)
      · exact absurd h2 (by simp)
    ·
      obtain ⟨e, rfl, rfl⟩ := p71
      exact v_iret (pc := 74) h r (dk dt_L_done 8 rfl) (Nat.le_of_ble_eq_true rfl) (Nat.le_of_ble_eq_true rfl) (Or.inl ⟨e, rfl, rfl⟩)
  refine v_iload_n (pc := 0) h (dk dt_L_done 0 rfl) rfl ?_
  exact v_switchIn (pc := 1) h 64 (dk dt_L_done 1 rfl) (by omega) (by omega) (by omega) rfl rfl go
theorem d_after (hst : l.stackTraces = false) (hO : hOK μ) {j p : Int} (hj : InR j ∧ InR p) :
    Ct l B D E yL_done (.codeWith yL_done cL_done 7 (some .int) hhD) rm_L_done [.ref (pl B 0), iI 1, iI j, iI p, iI 0, iI 0] μ (PD (rcAft (μ 1 9) j p) (fun w m => w = some (iI (pcN ((μ 11 j.toNat).toNat ||| 2 ^ p.toNat) 12)) ∧ m = mup (mup μ 0 7 0) 11 j.toNat (((μ 11 j.toNat).toNat ||| 2 ^ p.toNat : Nat) : Int)) (fun x => -10 - x) μ) NX := by
  refine ctH_of (own := RL) (lv := [(0, _), (1, _), (2, _), (3, _), (4, _), (5, _)]) hst (by decide) rfl rfl (Nat.le_of_ble_eq_true rfl) fun a h r tab => ?_
  have x0 : (rcAft (μ 1 9) j p) = 1 → ∀ q : Nat, VV a B (SP B D E μ) 3 18 188 [(0, .ref (pl B 0)), (1, iI 1), (2, iI j), (3, iI p), (4, iI 0), (5, iI 0)] [.ref q] := by
    intro hrc q
    refine v_astore (lv' := [(6, _), (0, _), (1, _), (2, _), (3, _), (4, _), (5, _)]) (pc := 188) h (dk dt_L_done 81 rfl) (Nat.le_of_ble_eq_true rfl) rfl ?_
    refine v_bipush (pc := 190) h (dk dt_L_done 82 rfl) rfl ?_
    exact v_iret (pc := 192) h r (dk dt_L_done 83 rfl) (Nat.le_of_ble_eq_true rfl) (Nat.le_of_ble_eq_true rfl) (Or.inr ⟨by omega, by rw [hrc]; rfl, rfl⟩)
  have x1 : (rcAft (μ 1 9) j p) = 2 → ∀ q : Nat, VV a B (SP B D E μ) 3 18 193 [(0, .ref (pl B 0)), (1, iI 1), (2, iI j), (3, iI p), (4, iI 0), (5, iI 0)] [.ref q] := by
    intro hrc q
    refine v_astore (lv' := [(6, _), (0, _), (1, _), (2, _), (3, _), (4, _), (5, _)]) (pc := 193) h (dk dt_L_done 84 rfl) (Nat.le_of_ble_eq_true rfl) rfl ?_
    refine v_bipush (pc := 195) h (dk dt_L_done 85 rfl) rfl ?_
    exact v_iret (pc := 197) h r (dk dt_L_done 86 rfl) (Nat.le_of_ble_eq_true rfl) (Nat.le_of_ble_eq_true rfl) (Or.inr ⟨by omega, by rw [hrc]; rfl, rfl⟩)
  have go : VV a B (SP B D E μ) 0 0 75 [(0, .ref (pl B 0)), (1, iI 1), (2, iI j), (3, iI p), (4, iI 0), (5, iI 0)] [] := by
    refine v_aload_n (pc := 75) h (dk dt_L_done 9 rfl) rfl ?_
    refine v_iload_n (pc := 76) h (dk dt_L_done 10 rfl) rfl ?_
    refine v_iload_n (pc := 77) h (dk dt_L_done 11 rfl) rfl ?_
    refine v_callVX (pc := 78) h (c_X11_after h.quiet hO hj) kv_X11_after sh0 wM_L_20 rfl rfl (Nat.le_of_ble_eq_true rfl) (RM.of rfl) (dk dt_L_done 12 rfl) (fun e78 μ78 p78 => ?_) (fun v78 μ78 p78 => ?_)
    ·
      obtain ⟨⟨i, h1, h2⟩, rfl⟩ := p78
      rcases i with _ | _ | i
      · have e9 := Option.some.inj h2; subst e9; exact v_catchN (pc := 78) h tab 1 _ rfl [65, 67, 69] (by decide) hS_eB rfl (by decide) wL_L_63 (by decide) 188 rfl (fun q => x0 (by omega) q)
      · have e9 := Option.some.inj h2; subst e9; exact v_catchN (pc := 78) h tab 14 _ rfl [63, 67, 69] (by decide) hS_eA rfl (by decide) wL_L_65 (by decide) 193 rfl (fun q => x1 (by omega) q)
      · exact absurd h2 (by simp)
    ·
      obtain ⟨e, rfl, rfl⟩ := p78
      exact v_iret (pc := 81) h r (dk dt_L_done 13 rfl) (Nat.le_of_ble_eq_true rfl) (Nat.le_of_ble_eq_true rfl) (Or.inl ⟨e, rfl, rfl⟩)
  refine v_iload_n (pc := 0) h (dk dt_L_done 0 rfl) rfl ?_
  exact v_switchIn (pc := 1) h 75 (dk dt_L_done 1 rfl) (by omega) (by omega) (by omega) rfl rfl go
theorem d_lock (hst : l.stackTraces = false) (hO : hOK μ) {j y f u : Int} (hj : InR j ∧ InR y) (hf : InR f ∧ InR u) :
    Ct l B D E yL_done (.codeWith yL_done cL_done 7 (some .int) hhD) rm_L_done [.ref (pl B 0), iI 2, iI j, iI y, iI f, iI u] μ (PD (rcLk (μ 1 9) (μ 5) (μ 13) (μ 17) (μ 19) j y f u) (fun w m => w = some (iI (μ 13 j.toNat + 1)) ∧ m = mstretch (mup μ 0 7 0) j.toNat y f u) (fun x => -10 - x) μ) NX := by
  refine ctH_of (own := RL) (lv := [(0, _), (1, _), (2, _), (3, _), (4, _), (5, _)]) hst (by decide) rfl rfl (Nat.le_of_ble_eq_true rfl) fun a h r tab => ?_
  have x0 : (rcLk (μ 1 9) (μ 5) (μ 13) (μ 17) (μ 19) j y f u) = 1 → ∀ q : Nat, VV a B (SP B D E μ) 2 12 188 [(0, .ref (pl B 0)), (1, iI 2), (2, iI j), (3, iI y), (4, iI f), (5, iI u)] [.ref q] := by
    intro hrc q
    refine v_astore (lv' := [(6, _), (0, _), (1, _), (2, _), (3, _), (4, _), (5, _)]) (pc := 188) h (dk dt_L_done 81 rfl) (Nat.le_of_ble_eq_true rfl) rfl ?_
    refine v_bipush (pc := 190) h (dk dt_L_done 82 rfl) rfl ?_
    exact v_iret (pc := 192) h r (dk dt_L_done 83 rfl) (Nat.le_of_ble_eq_true rfl) (Nat.le_of_ble_eq_true rfl) (Or.inr ⟨by omega, by rw [hrc]; rfl, rfl⟩)
  have x1 : (rcLk (μ 1 9) (μ 5) (μ 13) (μ 17) (μ 19) j y f u) = 2 → ∀ q : Nat, VV a B (SP B D E μ) 2 12 193 [(0, .ref (pl B 0)), (1, iI 2), (2, iI j), (3, iI y), (4, iI f), (5, iI u)] [.ref q] := by
    intro hrc q
    refine v_astore (lv' := [(6, _), (0, _), (1, _), (2, _), (3, _), (4, _), (5, _)]) (pc := 193) h (dk dt_L_done 84 rfl) (Nat.le_of_ble_eq_true rfl) rfl ?_
    refine v_bipush (pc := 195) h (dk dt_L_done 85 rfl) rfl ?_
    exact v_iret (pc := 197) h r (dk dt_L_done 86 rfl) (Nat.le_of_ble_eq_true rfl) (Nat.le_of_ble_eq_true rfl) (Or.inr ⟨by omega, by rw [hrc]; rfl, rfl⟩)
  have x2 : (rcLk (μ 1 9) (μ 5) (μ 13) (μ 17) (μ 19) j y f u) = 3 → ∀ q : Nat, VV a B (SP B D E μ) 2 12 198 [(0, .ref (pl B 0)), (1, iI 2), (2, iI j), (3, iI y), (4, iI f), (5, iI u)] [.ref q] := by
    intro hrc q
    refine v_astore (lv' := [(6, _), (0, _), (1, _), (2, _), (3, _), (4, _), (5, _)]) (pc := 198) h (dk dt_L_done 87 rfl) (Nat.le_of_ble_eq_true rfl) rfl ?_
    refine v_bipush (pc := 200) h (dk dt_L_done 88 rfl) rfl ?_
    exact v_iret (pc := 202) h r (dk dt_L_done 89 rfl) (Nat.le_of_ble_eq_true rfl) (Nat.le_of_ble_eq_true rfl) (Or.inr ⟨by omega, by rw [hrc]; rfl, rfl⟩)
  have go : VV a B (SP B D E μ) 0 0 82 [(0, .ref (pl B 0)), (1, iI 2), (2, iI j), (3, iI y), (4, iI f), (5, iI u)] [] := by
    refine v_aload_n (pc := 82) h (dk dt_L_done 14 rfl) rfl ?_
    refine v_iload_n (pc := 83) h (dk dt_L_done 15 rfl) rfl ?_
    refine v_iload_n (pc := 84) h (dk dt_L_done 16 rfl) rfl ?_
    refine v_iload (pc := 85) h (dk dt_L_done 17 rfl) rfl ?_
    refine v_iload (pc := 87) h (dk dt_L_done 18 rfl) rfl ?_
    refine v_callVX (pc := 89) h (c_X11_lock h.quiet hO hj hf) kv_X11_lock sh0 wM_L_24 rfl rfl (Nat.le_of_ble_eq_true rfl) (RM.of rfl) (dk dt_L_done 19 rfl) (fun e89 μ89 p89 => ?_) (fun v89 μ89 p89 => ?_)
    ·
      obtain ⟨⟨i, h1, h2⟩, rfl⟩ := p89
      rcases i with _ | _ | _ | i
      · have e9 := Option.some.inj h2; subst e9; exact v_catchN (pc := 89) h tab 2 _ rfl [65, 67, 69] (by decide) hS_eB rfl (by decide) wL_L_63 (by decide) 188 rfl (fun q => x0 (by omega) q)
      · have e9 := Option.some.inj h2; subst e9; exact v_catchN (pc := 89) h tab 15 _ rfl [63, 67, 69] (by decide) hS_eA rfl (by decide) wL_L_65 (by decide) 193 rfl (fun q => x1 (by omega) q)
      · have e9 := Option.some.inj h2; subst e9; exact v_catchN (pc := 89) h tab 28 _ rfl [63, 65, 69] (by decide) hS_eS rfl (by decide) wL_L_67 (by decide) 198 rfl (fun q => x2 (by omega) q)
      · exact absurd h2 (by simp)
    ·
      obtain ⟨e, rfl, rfl⟩ := p89
      exact v_iret (pc := 92) h r (dk dt_L_done 20 rfl) (Nat.le_of_ble_eq_true rfl) (Nat.le_of_ble_eq_true rfl) (Or.inl ⟨e, rfl, rfl⟩)
  refine v_iload_n (pc := 0) h (dk dt_L_done 0 rfl) rfl ?_
  exact v_switchIn (pc := 1) h 82 (dk dt_L_done 1 rfl) (by omega) (by omega) (by omega) rfl rfl go
theorem d_run (hst : l.stackTraces = false) (hO : hOK μ) (hn : μ 1 9 = (n : Int)) {ru : Int} (hr : InR ru) :
    Ct l B D E yL_done (.codeWith yL_done cL_done 7 (some .int) hhD) rm_L_done [.ref (pl B 0), iI 3, iI ru, iI 0, iI 0, iI 0] μ (PD (rcR1 ru) (fun w m => w = some (iI (m 47 0)) ∧ m 0 7 = 1 ∧ (∀ a, a ≠ 0 → a < 28 ∨ 57 ≤ a → m a = μ a) ∧ aR 28 n (kM μ ru) (jm μ) (μ 27 3) m) (fun x => -11 - x) μ) NX := by
  refine ctH_of (own := RL) (lv := [(0, _), (1, _), (2, _), (3, _), (4, _), (5, _)]) hst (by decide) rfl rfl (Nat.le_of_ble_eq_true rfl) fun a h r tab => ?_
  have x0 : (rcR1 ru) = 1 → ∀ q : Nat, VV a B (SP B D E μ) 1 6 193 [(0, .ref (pl B 0)), (1, iI 3), (2, iI ru), (3, iI 0), (4, iI 0), (5, iI 0)] [.ref q] := by
    intro hrc q
    refine v_astore (lv' := [(6, _), (0, _), (1, _), (2, _), (3, _), (4, _), (5, _)]) (pc := 193) h (dk dt_L_done 84 rfl) (Nat.le_of_ble_eq_true rfl) rfl ?_
    refine v_bipush (pc := 195) h (dk dt_L_done 85 rfl) rfl ?_
    exact v_iret (pc := 197) h r (dk dt_L_done 86 rfl) (Nat.le_of_ble_eq_true rfl) (Nat.le_of_ble_eq_true rfl) (Or.inr ⟨by omega, by rw [hrc]; rfl, rfl⟩)
  have go : VV a B (SP B D E μ) 0 0 93 [(0, .ref (pl B 0)), (1, iI 3), (2, iI ru), (3, iI 0), (4, iI 0), (5, iI 0)] [] := by
    refine v_aload_n (pc := 93) h (dk dt_L_done 21 rfl) rfl ?_
    refine v_iload_n (pc := 94) h (dk dt_L_done 22 rfl) rfl ?_
    refine v_callVX (pc := 95) h (c_X11_run h.quiet hO hn hr) kv_X11_run sh0 wM_L_27 rfl rfl (Nat.le_of_ble_eq_true rfl) (RM.of rfl) (dk dt_L_done 23 rfl) (fun e95 μ95 p95 => ?_) (fun v95 μ95 p95 => ?_)
    ·
      obtain ⟨⟨i, h1, h2⟩, rfl⟩ := p95
      rcases i with _ | i
      · have e9 := Option.some.inj h2; subst e9; exact v_catchN (pc := 95) h tab 16 _ rfl [63, 67, 69] (by decide) hS_eA rfl (by decide) wL_L_65 (by decide) 193 rfl (fun q => x0 (by omega) q)
      · exact absurd h2 (by simp)
    ·
      obtain ⟨e, rfl, q1, q2, q3⟩ := p95
      exact v_iret (pc := 98) h r (dk dt_L_done 24 rfl) (Nat.le_of_ble_eq_true rfl) (Nat.le_of_ble_eq_true rfl) (Or.inl ⟨e, rfl, q1, q2, q3⟩)
  refine v_iload_n (pc := 0) h (dk dt_L_done 0 rfl) rfl ?_
  exact v_switchIn (pc := 1) h 93 (dk dt_L_done 1 rfl) (by omega) (by omega) (by omega) rfl rfl go
theorem d_running (hst : l.stackTraces = false) (hO : hOK μ) {z : Int} (hz : InR z) :
    Ct l B D E yL_done (.codeWith yL_done cL_done 7 (some .int) hhD) rm_L_done [.ref (pl B 0), iI 4, iI z, iI 0, iI 0, iI 0] μ (PD (rcM (μ 0 7) z) (fun w m => w = some (iI (doF (μ 49) (μ 47 0) z)) ∧ m = μ) (fun x => -11 - x) μ) NX := by
  refine ctH_of (own := RL) (lv := [(0, _), (1, _), (2, _), (3, _), (4, _), (5, _)]) hst (by decide) rfl rfl (Nat.le_of_ble_eq_true rfl) fun a h r tab => ?_
  have x0 : (rcM (μ 0 7) z) = 1 → ∀ q : Nat, VV a B (SP B D E μ) 2 12 193 [(0, .ref (pl B 0)), (1, iI 4), (2, iI z), (3, iI 0), (4, iI 0), (5, iI 0)] [.ref q] := by
    intro hrc q
    refine v_astore (lv' := [(6, _), (0, _), (1, _), (2, _), (3, _), (4, _), (5, _)]) (pc := 193) h (dk dt_L_done 84 rfl) (Nat.le_of_ble_eq_true rfl) rfl ?_
    refine v_bipush (pc := 195) h (dk dt_L_done 85 rfl) rfl ?_
    exact v_iret (pc := 197) h r (dk dt_L_done 86 rfl) (Nat.le_of_ble_eq_true rfl) (Nat.le_of_ble_eq_true rfl) (Or.inr ⟨by omega, by rw [hrc]; rfl, rfl⟩)
  have x1 : (rcM (μ 0 7) z) = 2 → ∀ q : Nat, VV a B (SP B D E μ) 2 12 198 [(0, .ref (pl B 0)), (1, iI 4), (2, iI z), (3, iI 0), (4, iI 0), (5, iI 0)] [.ref q] := by
    intro hrc q
    refine v_astore (lv' := [(6, _), (0, _), (1, _), (2, _), (3, _), (4, _), (5, _)]) (pc := 198) h (dk dt_L_done 87 rfl) (Nat.le_of_ble_eq_true rfl) rfl ?_
    refine v_bipush (pc := 200) h (dk dt_L_done 88 rfl) rfl ?_
    exact v_iret (pc := 202) h r (dk dt_L_done 89 rfl) (Nat.le_of_ble_eq_true rfl) (Nat.le_of_ble_eq_true rfl) (Or.inr ⟨by omega, by rw [hrc]; rfl, rfl⟩)
  have go : VV a B (SP B D E μ) 0 0 99 [(0, .ref (pl B 0)), (1, iI 4), (2, iI z), (3, iI 0), (4, iI 0), (5, iI 0)] [] := by
    refine v_aload_n (pc := 99) h (dk dt_L_done 25 rfl) rfl ?_
    refine v_iload_n (pc := 100) h (dk dt_L_done 26 rfl) rfl ?_
    refine v_callVX (pc := 101) h (c_X11_running h.quiet hO hz) kv_X11_running sh0 wM_L_31 rfl rfl (Nat.le_of_ble_eq_true rfl) (RM.of rfl) (dk dt_L_done 27 rfl) (fun e101 μ101 p101 => ?_) (fun v101 μ101 p101 => ?_)
    ·
      obtain ⟨⟨i, h1, h2⟩, rfl⟩ := p101
      rcases i with _ | _ | i
      · have e9 := Option.some.inj h2; subst e9; exact v_catchN (pc := 101) h tab 17 _ rfl [63, 67, 69] (by decide) hS_eA rfl (by decide) wL_L_65 (by decide) 193 rfl (fun q => x0 (by omega) q)
      · have e9 := Option.some.inj h2; subst e9; exact v_catchN (pc := 101) h tab 30 _ rfl [63, 65, 69] (by decide) hS_eS rfl (by decide) wL_L_67 (by decide) 198 rfl (fun q => x1 (by omega) q)
      · exact absurd h2 (by simp)
    ·
      obtain ⟨e, rfl, rfl⟩ := p101
      exact v_iret (pc := 104) h r (dk dt_L_done 28 rfl) (Nat.le_of_ble_eq_true rfl) (Nat.le_of_ble_eq_true rfl) (Or.inl ⟨e, rfl, rfl⟩)
  refine v_iload_n (pc := 0) h (dk dt_L_done 0 rfl) rfl ?_
  exact v_switchIn (pc := 1) h 99 (dk dt_L_done 1 rfl) (by omega) (by omega) (by omega) rfl rfl go
theorem d_end (hst : l.stackTraces = false) (hO : hOK μ) {j : Int} (hj : InR j) :
    Ct l B D E yL_done (.codeWith yL_done cL_done 7 (some .int) hhD) rm_L_done [.ref (pl B 0), iI 5, iI j, iI 0, iI 0, iI 0] μ (PD (rcJ (μ 1 9) (μ 0 7) j) (fun w m => w = some (iI (μ 44 j.toNat)) ∧ m = μ) (fun x => if x = 1 then -11 else -13) μ) NX := by
  refine ctH_of (own := RL) (lv := [(0, _), (1, _), (2, _), (3, _), (4, _), (5, _)]) hst (by decide) rfl rfl (Nat.le_of_ble_eq_true rfl) fun a h r tab => ?_
  have x0 : (rcJ (μ 1 9) (μ 0 7) j) = 1 → ∀ q : Nat, VV a B (SP B D E μ) 2 12 188 [(0, .ref (pl B 0)), (1, iI 5), (2, iI j), (3, iI 0), (4, iI 0), (5, iI 0)] [.ref q] := by
    intro hrc q
    refine v_astore (lv' := [(6, _), (0, _), (1, _), (2, _), (3, _), (4, _), (5, _)]) (pc := 188) h (dk dt_L_done 81 rfl) (Nat.le_of_ble_eq_true rfl) rfl ?_
    refine v_bipush (pc := 190) h (dk dt_L_done 82 rfl) rfl ?_
    exact v_iret (pc := 192) h r (dk dt_L_done 83 rfl) (Nat.le_of_ble_eq_true rfl) (Nat.le_of_ble_eq_true rfl) (Or.inr ⟨by omega, by rw [hrc]; rfl, rfl⟩)
  have x1 : (rcJ (μ 1 9) (μ 0 7) j) = 2 → ∀ q : Nat, VV a B (SP B D E μ) 2 12 198 [(0, .ref (pl B 0)), (1, iI 5), (2, iI j), (3, iI 0), (4, iI 0), (5, iI 0)] [.ref q] := by
    intro hrc q
    refine v_astore (lv' := [(6, _), (0, _), (1, _), (2, _), (3, _), (4, _), (5, _)]) (pc := 198) h (dk dt_L_done 87 rfl) (Nat.le_of_ble_eq_true rfl) rfl ?_
    refine v_bipush (pc := 200) h (dk dt_L_done 88 rfl) rfl ?_
    exact v_iret (pc := 202) h r (dk dt_L_done 89 rfl) (Nat.le_of_ble_eq_true rfl) (Nat.le_of_ble_eq_true rfl) (Or.inr ⟨by omega, by rw [hrc]; rfl, rfl⟩)
  have go : VV a B (SP B D E μ) 0 0 105 [(0, .ref (pl B 0)), (1, iI 5), (2, iI j), (3, iI 0), (4, iI 0), (5, iI 0)] [] := by
    refine v_aload_n (pc := 105) h (dk dt_L_done 29 rfl) rfl ?_
    refine v_iload_n (pc := 106) h (dk dt_L_done 30 rfl) rfl ?_
    refine v_callVX (pc := 107) h (c_X11_end h.quiet hO hj) kv_X11_end sh0 wM_L_34 rfl rfl (Nat.le_of_ble_eq_true rfl) (RM.of rfl) (dk dt_L_done 31 rfl) (fun e107 μ107 p107 => ?_) (fun v107 μ107 p107 => ?_)
    ·
      obtain ⟨⟨i, h1, h2⟩, rfl⟩ := p107
      rcases i with _ | _ | i
      · have e9 := Option.some.inj h2; subst e9; exact v_catchN (pc := 107) h tab 5 _ rfl [65, 67, 69] (by decide) hS_eB rfl (by decide) wL_L_63 (by decide) 188 rfl (fun q => x0 (by omega) q)
      · have e9 := Option.some.inj h2; subst e9; exact v_catchN (pc := 107) h tab 31 _ rfl [63, 65, 69] (by decide) hS_eS rfl (by decide) wL_L_67 (by decide) 198 rfl (fun q => x1 (by omega) q)
      · exact absurd h2 (by simp)
    ·
      obtain ⟨e, rfl, rfl⟩ := p107
      exact v_iret (pc := 110) h r (dk dt_L_done 32 rfl) (Nat.le_of_ble_eq_true rfl) (Nat.le_of_ble_eq_true rfl) (Or.inl ⟨e, rfl, rfl⟩)
  refine v_iload_n (pc := 0) h (dk dt_L_done 0 rfl) rfl ?_
  exact v_switchIn (pc := 1) h 105 (dk dt_L_done 1 rfl) (by omega) (by omega) (by omega) rfl rfl go
theorem d_busy (hst : l.stackTraces = false) (hO : hOK μ) {z : Int} (hz : InR z) :
    Ct l B D E yL_done (.codeWith yL_done cL_done 7 (some .int) hhD) rm_L_done [.ref (pl B 0), iI 6, iI z, iI 0, iI 0, iI 0] μ (PD (rcB (μ 0 7) (μ 49) (μ 47 0) z) (fun w m => w = some (iI (anB (μ 49) (μ 47 0) z 0)) ∧ m = μ) (fun x => -12 - x) μ) NX := by
  refine ctH_of (own := RL) (lv := [(0, _), (1, _), (2, _), (3, _), (4, _), (5, _)]) hst (by decide) rfl rfl (Nat.le_of_ble_eq_true rfl) fun a h r tab => ?_
  have x0 : (rcB (μ 0 7) (μ 49) (μ 47 0) z) = 1 → ∀ q : Nat, VV a B (SP B D E μ) 2 12 198 [(0, .ref (pl B 0)), (1, iI 6), (2, iI z), (3, iI 0), (4, iI 0), (5, iI 0)] [.ref q] := by
    intro hrc q
    refine v_astore (lv' := [(6, _), (0, _), (1, _), (2, _), (3, _), (4, _), (5, _)]) (pc := 198) h (dk dt_L_done 87 rfl) (Nat.le_of_ble_eq_true rfl) rfl ?_
    refine v_bipush (pc := 200) h (dk dt_L_done 88 rfl) rfl ?_
    exact v_iret (pc := 202) h r (dk dt_L_done 89 rfl) (Nat.le_of_ble_eq_true rfl) (Nat.le_of_ble_eq_true rfl) (Or.inr ⟨by omega, by rw [hrc]; rfl, rfl⟩)
  have x1 : (rcB (μ 0 7) (μ 49) (μ 47 0) z) = 2 → ∀ q : Nat, VV a B (SP B D E μ) 2 12 203 [(0, .ref (pl B 0)), (1, iI 6), (2, iI z), (3, iI 0), (4, iI 0), (5, iI 0)] [.ref q] := by
    intro hrc q
    refine v_astore (lv' := [(6, _), (0, _), (1, _), (2, _), (3, _), (4, _), (5, _)]) (pc := 203) h (dk dt_L_done 90 rfl) (Nat.le_of_ble_eq_true rfl) rfl ?_
    refine v_bipush (pc := 205) h (dk dt_L_done 91 rfl) rfl ?_
    exact v_iret (pc := 207) h r (dk dt_L_done 92 rfl) (Nat.le_of_ble_eq_true rfl) (Nat.le_of_ble_eq_true rfl) (Or.inr ⟨by omega, by rw [hrc]; rfl, rfl⟩)
  have go : VV a B (SP B D E μ) 0 0 111 [(0, .ref (pl B 0)), (1, iI 6), (2, iI z), (3, iI 0), (4, iI 0), (5, iI 0)] [] := by
    refine v_aload_n (pc := 111) h (dk dt_L_done 33 rfl) rfl ?_
    refine v_iload_n (pc := 112) h (dk dt_L_done 34 rfl) rfl ?_
    refine v_iload_n (pc := 113) h (dk dt_L_done 35 rfl) rfl ?_
    refine v_iconst (pc := 114) h (dk dt_L_done 36 rfl) ?_
    refine v_icmp_ne (pc := 115) h 122 (dk dt_L_done 37 rfl) rfl (by omega) (fun c115 => ?_) (fun c115 => ?_)
    ·
      refine v_iconst (pc := 122) h (dk dt_L_done 40 rfl) ?_
      refine v_callVX (pc := 123) h (c_X11_busy h.quiet hO hz (Or.inl rfl)) kv_X11_busy sh0 wM_L_37 rfl rfl (Nat.le_of_ble_eq_true rfl) (RM.of rfl) (dk dt_L_done 41 rfl) (fun e123 μ123 p123 => ?_) (fun v123 μ123 p123 => ?_)
      ·
        obtain ⟨⟨i, h1, h2⟩, rfl⟩ := p123
        rcases i with _ | _ | i
        · have e9 := Option.some.inj h2; subst e9; exact v_catchN (pc := 123) h tab 32 _ rfl [63, 65, 69] (by decide) hS_eS rfl (by decide) wL_L_67 (by decide) 198 rfl (fun q => x0 (by omega) q)
        · have e9 := Option.some.inj h2; subst e9; exact v_catchN (pc := 123) h tab 45 _ rfl [63, 65, 67] (by decide) hS_eN rfl (by decide) wL_L_69 (by decide) 203 rfl (fun q => x1 (by omega) q)
        · exact absurd h2 (by simp)
      ·
        obtain ⟨e, rfl, rfl⟩ := p123
        exact v_iret (pc := 126) h r (dk dt_L_done 42 rfl) (Nat.le_of_ble_eq_true rfl) (Nat.le_of_ble_eq_true rfl) (Or.inl ⟨e, rfl, rfl⟩)
    ·
      exact absurd c115 (by omega)
  refine v_iload_n (pc := 0) h (dk dt_L_done 0 rfl) rfl ?_
  exact v_switchIn (pc := 1) h 111 (dk dt_L_done 1 rfl) (by omega) (by omega) (by omega) rfl rfl go
theorem d_isFeasible (hst : l.stackTraces = false) (hO : hOK μ) (hn : μ 1 9 = (n : Int)) :
    Ct l B D E yL_done (.codeWith yL_done cL_done 7 (some .int) hhD) rm_L_done [.ref (pl B 0), iI 7, iI 0, iI 0, iI 0, iI 0] μ (PD (rcW (μ 11) n) (fun w m => w = some (iI (if lateE (jm μ) n (kof 6 (μ 27 0) 0 (μ 27 4) (μ 27 2)) (μ 27 3) = 0 then 1 else 0)) ∧ fq μ m) (fun x => -12 - x) μ) NX := by
  refine ctH_of (own := RL) (lv := [(0, _), (1, _), (2, _), (3, _), (4, _), (5, _)]) hst (by decide) rfl rfl (Nat.le_of_ble_eq_true rfl) fun a h r tab => ?_
  have x0 : (rcW (μ 11) n) = 1 → ∀ q : Nat, VV a B (SP B D E μ) 1 6 198 [(0, .ref (pl B 0)), (1, iI 7), (2, iI 0), (3, iI 0), (4, iI 0), (5, iI 0)] [.ref q] := by
    intro hrc q
    refine v_astore (lv' := [(6, _), (0, _), (1, _), (2, _), (3, _), (4, _), (5, _)]) (pc := 198) h (dk dt_L_done 87 rfl) (Nat.le_of_ble_eq_true rfl) rfl ?_
    refine v_bipush (pc := 200) h (dk dt_L_done 88 rfl) rfl ?_
    exact v_iret (pc := 202) h r (dk dt_L_done 89 rfl) (Nat.le_of_ble_eq_true rfl) (Nat.le_of_ble_eq_true rfl) (Or.inr ⟨by omega, by rw [hrc]; rfl, rfl⟩)
  have go : VV a B (SP B D E μ) 0 0 127 [(0, .ref (pl B 0)), (1, iI 7), (2, iI 0), (3, iI 0), (4, iI 0), (5, iI 0)] [] := by
    refine v_aload_n (pc := 127) h (dk dt_L_done 43 rfl) rfl ?_
    refine v_callVX (pc := 128) h (c_X11_isFeasible h.quiet hO hn) kv_X11_isFeasible sh0 wM_L_41 rfl rfl (Nat.le_of_ble_eq_true rfl) (RM.of rfl) (dk dt_L_done 44 rfl) (fun e128 μ128 p128 => ?_) (fun v128 μ128 p128 => ?_)
    ·
      obtain ⟨⟨i, h1, h2⟩, rfl⟩ := p128
      rcases i with _ | i
      · have e9 := Option.some.inj h2; subst e9; exact v_catchN (pc := 128) h tab 33 _ rfl [63, 65, 69] (by decide) hS_eS rfl (by decide) wL_L_67 (by decide) 198 rfl (fun q => x0 (by omega) q)
      · exact absurd h2 (by simp)
    ·
      obtain ⟨e, rfl, q1⟩ := p128
      refine v_if_eq (pc := 131) h 138 (dk dt_L_done 45 rfl) rfl (by split <;> omega) (fun c131 => ?_) (fun c131 => ?_)
      ·
        refine v_iconst (pc := 138) h (dk dt_L_done 48 rfl) ?_
        exact v_iret (pc := 139) h r (dk dt_L_done 49 rfl) (Nat.le_of_ble_eq_true rfl) (Nat.le_of_ble_eq_true rfl) (Or.inl ⟨e, by first | (rw [if_pos (by by_cases y : lateE (jm μ) n (kof 6 (μ 27 0) 0 (μ 27 4) (μ 27 2)) (μ 27 3) = 0; exact y; rw [if_neg y] at c131; exact absurd rfl c131)]) | (rw [if_neg (fun y => by rw [if_pos y] at c131; omega)]), q1⟩)
      ·
        refine v_iconst (pc := 134) h (dk dt_L_done 46 rfl) ?_
        refine v_goto (pc := 135) h 139 (dk dt_L_done 47 rfl) rfl ?_
        exact v_iret (pc := 139) h r (dk dt_L_done 49 rfl) (Nat.le_of_ble_eq_true rfl) (Nat.le_of_ble_eq_true rfl) (Or.inl ⟨e, by first | (rw [if_pos (by by_cases y : lateE (jm μ) n (kof 6 (μ 27 0) 0 (μ 27 4) (μ 27 2)) (μ 27 3) = 0; exact y; rw [if_neg y] at c131; exact absurd rfl c131)]) | (rw [if_neg (fun y => by rw [if_pos y] at c131; omega)]), q1⟩)
  refine v_iload_n (pc := 0) h (dk dt_L_done 0 rfl) rfl ?_
  exact v_switchIn (pc := 1) h 127 (dk dt_L_done 1 rfl) (by omega) (by omega) (by omega) rfl rfl go
theorem d_full (hst : l.stackTraces = false) (hO : hOK μ) (hn : μ 1 9 = (n : Int)) {x : Int} (hx : InR x) :
    Ct l B D E yL_done (.codeWith yL_done cL_done 7 (some .int) hhD) rm_L_done [.ref (pl B 0), iI 8, iI x, iI 0, iI 0, iI 0] μ (PD (rcF x) (fun w m => w = some (iI (fullC (μ 3) (μ 5) (μ 7) n x)) ∧ m = μ) (fun x => -11 - x) μ) NX := by
  refine ctH_of (own := RL) (lv := [(0, _), (1, _), (2, _), (3, _), (4, _), (5, _)]) hst (by decide) rfl rfl (Nat.le_of_ble_eq_true rfl) fun a h r tab => ?_
  have x0 : (rcF x) = 1 → ∀ q : Nat, VV a B (SP B D E μ) 1 6 193 [(0, .ref (pl B 0)), (1, iI 8), (2, iI x), (3, iI 0), (4, iI 0), (5, iI 0)] [.ref q] := by
    intro hrc q
    refine v_astore (lv' := [(6, _), (0, _), (1, _), (2, _), (3, _), (4, _), (5, _)]) (pc := 193) h (dk dt_L_done 84 rfl) (Nat.le_of_ble_eq_true rfl) rfl ?_
    refine v_bipush (pc := 195) h (dk dt_L_done 85 rfl) rfl ?_
    exact v_iret (pc := 197) h r (dk dt_L_done 86 rfl) (Nat.le_of_ble_eq_true rfl) (Nat.le_of_ble_eq_true rfl) (Or.inr ⟨by omega, by rw [hrc]; rfl, rfl⟩)
  have go : VV a B (SP B D E μ) 0 0 140 [(0, .ref (pl B 0)), (1, iI 8), (2, iI x), (3, iI 0), (4, iI 0), (5, iI 0)] [] := by
    refine v_aload_n (pc := 140) h (dk dt_L_done 50 rfl) rfl ?_
    refine v_iload_n (pc := 141) h (dk dt_L_done 51 rfl) rfl ?_
    refine v_callVX (pc := 142) h (c_X11_full h.quiet hO hn hx) kv_X11_full sh0 wM_L_45 rfl rfl (Nat.le_of_ble_eq_true rfl) (RM.of rfl) (dk dt_L_done 52 rfl) (fun e142 μ142 p142 => ?_) (fun v142 μ142 p142 => ?_)
    ·
      obtain ⟨⟨i, h1, h2⟩, rfl⟩ := p142
      rcases i with _ | i
      · have e9 := Option.some.inj h2; subst e9; exact v_catchN (pc := 142) h tab 21 _ rfl [63, 67, 69] (by decide) hS_eA rfl (by decide) wL_L_65 (by decide) 193 rfl (fun q => x0 (by omega) q)
      · exact absurd h2 (by simp)
    ·
      obtain ⟨e, rfl, rfl⟩ := p142
      exact v_iret (pc := 145) h r (dk dt_L_done 53 rfl) (Nat.le_of_ble_eq_true rfl) (Nat.le_of_ble_eq_true rfl) (Or.inl ⟨e, rfl, rfl⟩)
  refine v_iload_n (pc := 0) h (dk dt_L_done 0 rfl) rfl ?_
  exact v_switchIn (pc := 1) h 140 (dk dt_L_done 1 rfl) (by omega) (by omega) (by omega) rfl rfl go
theorem d_task (hst : l.stackTraces = false) (hO : hOK μ) {p le d : Int} (hp : InR p ∧ InR le) (hd : InR d) :
    Ct l B D E yL_done (.codeWith yL_done cL_done 7 (some .int) hhD) rm_L_done [.ref (pl B 0), iI 9, iI p, iI le, iI d, iI 0] μ (PD (rcTk (μ 20 3) p le d) (fun w m => w = some (iI (μ 20 3)) ∧ m = mtask μ p le d) (fun x => -11 - x) μ) NX := by
  refine ctH_of (own := RL) (lv := [(0, _), (1, _), (2, _), (3, _), (4, _), (5, _)]) hst (by decide) rfl rfl (Nat.le_of_ble_eq_true rfl) fun a h r tab => ?_
  have x0 : (rcTk (μ 20 3) p le d) = 1 → ∀ q : Nat, VV a B (SP B D E μ) 1 6 193 [(0, .ref (pl B 0)), (1, iI 9), (2, iI p), (3, iI le), (4, iI d), (5, iI 0)] [.ref q] := by
    intro hrc q
    refine v_astore (lv' := [(6, _), (0, _), (1, _), (2, _), (3, _), (4, _), (5, _)]) (pc := 193) h (dk dt_L_done 84 rfl) (Nat.le_of_ble_eq_true rfl) rfl ?_
    refine v_bipush (pc := 195) h (dk dt_L_done 85 rfl) rfl ?_
    exact v_iret (pc := 197) h r (dk dt_L_done 86 rfl) (Nat.le_of_ble_eq_true rfl) (Nat.le_of_ble_eq_true rfl) (Or.inr ⟨by omega, by rw [hrc]; rfl, rfl⟩)
  have x1 : (rcTk (μ 20 3) p le d) = 2 → ∀ q : Nat, VV a B (SP B D E μ) 1 6 198 [(0, .ref (pl B 0)), (1, iI 9), (2, iI p), (3, iI le), (4, iI d), (5, iI 0)] [.ref q] := by
    intro hrc q
    refine v_astore (lv' := [(6, _), (0, _), (1, _), (2, _), (3, _), (4, _), (5, _)]) (pc := 198) h (dk dt_L_done 87 rfl) (Nat.le_of_ble_eq_true rfl) rfl ?_
    refine v_bipush (pc := 200) h (dk dt_L_done 88 rfl) rfl ?_
    exact v_iret (pc := 202) h r (dk dt_L_done 89 rfl) (Nat.le_of_ble_eq_true rfl) (Nat.le_of_ble_eq_true rfl) (Or.inr ⟨by omega, by rw [hrc]; rfl, rfl⟩)
  have go : VV a B (SP B D E μ) 0 0 146 [(0, .ref (pl B 0)), (1, iI 9), (2, iI p), (3, iI le), (4, iI d), (5, iI 0)] [] := by
    refine v_aload_n (pc := 146) h (dk dt_L_done 54 rfl) rfl ?_
    refine v_iload_n (pc := 147) h (dk dt_L_done 55 rfl) rfl ?_
    refine v_iload_n (pc := 148) h (dk dt_L_done 56 rfl) rfl ?_
    refine v_iload (pc := 149) h (dk dt_L_done 57 rfl) rfl ?_
    refine v_callVX (pc := 151) h (c_X11_task h.quiet hO hp hd) kv_X11_task sh0 wM_L_48 rfl rfl (Nat.le_of_ble_eq_true rfl) (RM.of rfl) (dk dt_L_done 58 rfl) (fun e151 μ151 p151 => ?_) (fun v151 μ151 p151 => ?_)
    ·
      obtain ⟨⟨i, h1, h2⟩, rfl⟩ := p151
      rcases i with _ | _ | i
      · have e9 := Option.some.inj h2; subst e9; exact v_catchN (pc := 151) h tab 22 _ rfl [63, 67, 69] (by decide) hS_eA rfl (by decide) wL_L_65 (by decide) 193 rfl (fun q => x0 (by omega) q)
      · have e9 := Option.some.inj h2; subst e9; exact v_catchN (pc := 151) h tab 35 _ rfl [63, 65, 69] (by decide) hS_eS rfl (by decide) wL_L_67 (by decide) 198 rfl (fun q => x1 (by omega) q)
      · exact absurd h2 (by simp)
    ·
      obtain ⟨e, rfl, rfl⟩ := p151
      exact v_iret (pc := 154) h r (dk dt_L_done 59 rfl) (Nat.le_of_ble_eq_true rfl) (Nat.le_of_ble_eq_true rfl) (Or.inl ⟨e, rfl, rfl⟩)
  refine v_iload_n (pc := 0) h (dk dt_L_done 0 rfl) rfl ?_
  exact v_switchIn (pc := 1) h 146 (dk dt_L_done 1 rfl) (by omega) (by omega) (by omega) rfl rfl go
theorem d_response (hst : l.stackTraces = false) (hO : hOK μ) (hn : μ 20 3 = (n : Int)) {j : Int} (hj : InR j) :
    Ct l B D E yL_done (.codeWith yL_done cL_done 7 (some .int) hhD) rm_L_done [.ref (pl B 0), iI 10, iI j, iI 0, iI 0, iI 0] μ (PD (rcRs (μ 20 3) j) (fun w m => w = some (iI (rsT (μ 22) (μ 24) (μ 26) n j.toNat (μ 26 j.toNat).toNat 1)) ∧ m = μ) (fun x => -10 - x) μ) NX := by
  refine ctH_of (own := RL) (lv := [(0, _), (1, _), (2, _), (3, _), (4, _), (5, _)]) hst (by decide) rfl rfl (Nat.le_of_ble_eq_true rfl) fun a h r tab => ?_
  have x0 : (rcRs (μ 20 3) j) = 1 → ∀ q : Nat, VV a B (SP B D E μ) 1 6 188 [(0, .ref (pl B 0)), (1, iI 10), (2, iI j), (3, iI 0), (4, iI 0), (5, iI 0)] [.ref q] := by
    intro hrc q
    refine v_astore (lv' := [(6, _), (0, _), (1, _), (2, _), (3, _), (4, _), (5, _)]) (pc := 188) h (dk dt_L_done 81 rfl) (Nat.le_of_ble_eq_true rfl) rfl ?_
    refine v_bipush (pc := 190) h (dk dt_L_done 82 rfl) rfl ?_
    exact v_iret (pc := 192) h r (dk dt_L_done 83 rfl) (Nat.le_of_ble_eq_true rfl) (Nat.le_of_ble_eq_true rfl) (Or.inr ⟨by omega, by rw [hrc]; rfl, rfl⟩)
  have go : VV a B (SP B D E μ) 0 0 155 [(0, .ref (pl B 0)), (1, iI 10), (2, iI j), (3, iI 0), (4, iI 0), (5, iI 0)] [] := by
    refine v_aload_n (pc := 155) h (dk dt_L_done 60 rfl) rfl ?_
    refine v_iload_n (pc := 156) h (dk dt_L_done 61 rfl) rfl ?_
    refine v_callVX (pc := 157) h (c_X11_response h.quiet hO hn hj) kv_X11_response sh0 wM_L_52 rfl rfl (Nat.le_of_ble_eq_true rfl) (RM.of rfl) (dk dt_L_done 62 rfl) (fun e157 μ157 p157 => ?_) (fun v157 μ157 p157 => ?_)
    ·
      obtain ⟨⟨i, h1, h2⟩, rfl⟩ := p157
      rcases i with _ | i
      · have e9 := Option.some.inj h2; subst e9; exact v_catchN (pc := 157) h tab 10 _ rfl [65, 67, 69] (by decide) hS_eB rfl (by decide) wL_L_63 (by decide) 188 rfl (fun q => x0 (by omega) q)
      · exact absurd h2 (by simp)
    ·
      obtain ⟨e, rfl, rfl⟩ := p157
      exact v_iret (pc := 160) h r (dk dt_L_done 63 rfl) (Nat.le_of_ble_eq_true rfl) (Nat.le_of_ble_eq_true rfl) (Or.inl ⟨e, rfl, rfl⟩)
  refine v_iload_n (pc := 0) h (dk dt_L_done 0 rfl) rfl ?_
  exact v_switchIn (pc := 1) h 155 (dk dt_L_done 1 rfl) (by omega) (by omega) (by omega) rfl rfl go
theorem d_slowest (hst : l.stackTraces = false) (hO : hOK μ) (hn : μ 1 9 = (n : Int)) {b : Int} (hb01 : b = 0 ∨ b = 1) :
    Ct l B D E yL_done (.codeWith yL_done cL_done 7 (some .int) hhD) rm_L_done [.ref (pl B 0), iI 11, iI b, iI 0, iI 0, iI 0] μ (PD (rcSl (μ 0 7) (μ 1 9)) (fun w m => w = some (iI (anSl (slF (μ 44) (μ 3) (μ 5) n) b)) ∧ m = μ) (fun x => -12 - x) μ) NX := by
  refine ctH_of (own := RL) (lv := [(0, _), (1, _), (2, _), (3, _), (4, _), (5, _)]) hst (by decide) rfl rfl (Nat.le_of_ble_eq_true rfl) fun a h r tab => ?_
  have x0 : (rcSl (μ 0 7) (μ 1 9)) = 1 → ∀ q : Nat, VV a B (SP B D E μ) 2 12 198 [(0, .ref (pl B 0)), (1, iI 11), (2, iI b), (3, iI 0), (4, iI 0), (5, iI 0)] [.ref q] := by
    intro hrc q
    refine v_astore (lv' := [(6, _), (0, _), (1, _), (2, _), (3, _), (4, _), (5, _)]) (pc := 198) h (dk dt_L_done 87 rfl) (Nat.le_of_ble_eq_true rfl) rfl ?_
    refine v_bipush (pc := 200) h (dk dt_L_done 88 rfl) rfl ?_
    exact v_iret (pc := 202) h r (dk dt_L_done 89 rfl) (Nat.le_of_ble_eq_true rfl) (Nat.le_of_ble_eq_true rfl) (Or.inr ⟨by omega, by rw [hrc]; rfl, rfl⟩)
  have go : VV a B (SP B D E μ) 0 0 161 [(0, .ref (pl B 0)), (1, iI 11), (2, iI b), (3, iI 0), (4, iI 0), (5, iI 0)] [] := by
    refine v_aload_n (pc := 161) h (dk dt_L_done 64 rfl) rfl ?_
    refine v_iload_n (pc := 162) h (dk dt_L_done 65 rfl) rfl ?_
    refine v_iconst (pc := 163) h (dk dt_L_done 66 rfl) ?_
    refine v_icmp_ne (pc := 164) h 171 (dk dt_L_done 67 rfl) rfl (by omega) (fun c164 => ?_) (fun c164 => ?_)
    ·
      have eb : b = 0 := by omega
      subst eb
      refine v_iconst (pc := 171) h (dk dt_L_done 70 rfl) ?_
      refine v_callVX (pc := 172) h (c_X11_slowest h.quiet hO hn hb01) kv_X11_slowest sh0 wM_L_55 rfl rfl (Nat.le_of_ble_eq_true rfl) (RM.of rfl) (dk dt_L_done 71 rfl) (fun e172 μ172 p172 => ?_) (fun v172 μ172 p172 => ?_)
      ·
        obtain ⟨⟨i, h1, h2⟩, rfl⟩ := p172
        rcases i with _ | i
        · have e9 := Option.some.inj h2; subst e9; exact v_catchN (pc := 172) h tab 37 _ rfl [63, 65, 69] (by decide) hS_eS rfl (by decide) wL_L_67 (by decide) 198 rfl (fun q => x0 (by omega) q)
        · exact absurd h2 (by simp)
      ·
        obtain ⟨e, rfl, rfl⟩ := p172
        exact v_iret (pc := 175) h r (dk dt_L_done 72 rfl) (Nat.le_of_ble_eq_true rfl) (Nat.le_of_ble_eq_true rfl) (Or.inl ⟨e, rfl, rfl⟩)
    ·
      subst c164
      refine v_iconst (pc := 167) h (dk dt_L_done 68 rfl) ?_
      refine v_goto (pc := 168) h 172 (dk dt_L_done 69 rfl) rfl ?_
      refine v_callVX (pc := 172) h (c_X11_slowest h.quiet hO hn hb01) kv_X11_slowest sh0 wM_L_55 rfl rfl (Nat.le_of_ble_eq_true rfl) (RM.of rfl) (dk dt_L_done 71 rfl) (fun e172 μ172 p172 => ?_) (fun v172 μ172 p172 => ?_)
      ·
        obtain ⟨⟨i, h1, h2⟩, rfl⟩ := p172
        rcases i with _ | i
        · have e9 := Option.some.inj h2; subst e9; exact v_catchN (pc := 172) h tab 37 _ rfl [63, 65, 69] (by decide) hS_eS rfl (by decide) wL_L_67 (by decide) 198 rfl (fun q => x0 (by omega) q)
        · exact absurd h2 (by simp)
      ·
        obtain ⟨e, rfl, rfl⟩ := p172
        exact v_iret (pc := 175) h r (dk dt_L_done 72 rfl) (Nat.le_of_ble_eq_true rfl) (Nat.le_of_ble_eq_true rfl) (Or.inl ⟨e, rfl, rfl⟩)
  refine v_iload_n (pc := 0) h (dk dt_L_done 0 rfl) rfl ?_
  exact v_switchIn (pc := 1) h 161 (dk dt_L_done 1 rfl) (by omega) (by omega) (by omega) rfl rfl go
theorem d_turns (hst : l.stackTraces = false) (hO : hOK μ) {s c ri sd : Int} (hs : InR s ∧ InR c) (hr : InR ri) :
    Ct l B D E yL_done (.codeWith yL_done cL_done 7 (some .int) hhD) rm_L_done [.ref (pl B 0), iI 12, iI s, iI c, iI ri, iI sd] μ (PD (rcTn s c ri) (fun w m => w = some (iI (μ 27 0)) ∧ m = mturn μ s c ri sd 0) (fun x => -11 - x) μ) NX := by
  refine ctH_of (own := RL) (lv := [(0, _), (1, _), (2, _), (3, _), (4, _), (5, _)]) hst (by decide) rfl rfl (Nat.le_of_ble_eq_true rfl) fun a h r tab => ?_
  have x0 : (rcTn s c ri) = 1 → ∀ q : Nat, VV a B (SP B D E μ) 1 6 193 [(0, .ref (pl B 0)), (1, iI 12), (2, iI s), (3, iI c), (4, iI ri), (5, iI sd)] [.ref q] := by
    intro hrc q
    refine v_astore (lv' := [(6, _), (0, _), (1, _), (2, _), (3, _), (4, _), (5, _)]) (pc := 193) h (dk dt_L_done 84 rfl) (Nat.le_of_ble_eq_true rfl) rfl ?_
    refine v_bipush (pc := 195) h (dk dt_L_done 85 rfl) rfl ?_
    exact v_iret (pc := 197) h r (dk dt_L_done 86 rfl) (Nat.le_of_ble_eq_true rfl) (Nat.le_of_ble_eq_true rfl) (Or.inr ⟨by omega, by rw [hrc]; rfl, rfl⟩)
  have go : VV a B (SP B D E μ) 0 0 176 [(0, .ref (pl B 0)), (1, iI 12), (2, iI s), (3, iI c), (4, iI ri), (5, iI sd)] [] := by
    refine v_aload_n (pc := 176) h (dk dt_L_done 73 rfl) rfl ?_
    refine v_iload_n (pc := 177) h (dk dt_L_done 74 rfl) rfl ?_
    refine v_iload_n (pc := 178) h (dk dt_L_done 75 rfl) rfl ?_
    refine v_iload (pc := 179) h (dk dt_L_done 76 rfl) rfl ?_
    refine v_iload (pc := 181) h (dk dt_L_done 77 rfl) rfl ?_
    refine v_iconst (pc := 183) h (dk dt_L_done 78 rfl) ?_
    refine v_callVX (pc := 184) h (c_X11_turns h.quiet hO hs hr (Or.inl rfl)) kv_X11_turns sh0 wM_L_59 rfl rfl (Nat.le_of_ble_eq_true rfl) (RM.of rfl) (dk dt_L_done 79 rfl) (fun e184 μ184 p184 => ?_) (fun v184 μ184 p184 => ?_)
    ·
      obtain ⟨⟨i, h1, h2⟩, rfl⟩ := p184
      rcases i with _ | i
      · have e9 := Option.some.inj h2; subst e9; exact v_catchN (pc := 184) h tab 25 _ rfl [63, 67, 69] (by decide) hS_eA rfl (by decide) wL_L_65 (by decide) 193 rfl (fun q => x0 (by omega) q)
      · exact absurd h2 (by simp)
    ·
      obtain ⟨e, rfl, rfl⟩ := p184
      exact v_iret (pc := 187) h r (dk dt_L_done 80 rfl) (Nat.le_of_ble_eq_true rfl) (Nat.le_of_ble_eq_true rfl) (Or.inl ⟨e, rfl, rfl⟩)
  refine v_iload_n (pc := 0) h (dk dt_L_done 0 rfl) rfl ?_
  exact v_switchOut (pc := 1) h 176 (dk dt_L_done 1 rfl) (by omega) (Or.inr (by omega)) rfl go
end
