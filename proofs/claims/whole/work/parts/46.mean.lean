/-! ===== the mean end, the share of work ===== -/
section
variable {a : Ax} {B : Nat} {D : va_G} {E : Nat → ClassId} {own : String} {cc : ByteArray} {nL : Nat} {rm : Room} {P : Heap → Prop} {k n pc : Nat} {lv : List (Nat × Value)} {st : List Value}
theorem v_i2d (h : Ac a B D E own cc nL rm) {x : Int32} (d : decode cc pc = .ok (.i2d, 1)) (q : VV a B P k n (pc + 1) lv (.double (FP.i2d x) :: st)) : VV a B P k n pc lv (.int x :: st) := fun H locs ls a1 a2 a3 => lv_i2d h.exec h.bytes d (q H locs ls a1 a2 a3)
theorem v_i2f (h : Ac a B D E own cc nL rm) {x : Int32} (d : decode cc pc = .ok (.i2f, 1)) (q : VV a B P k n (pc + 1) lv (.float (FP.i2f x) :: st)) : VV a B P k n pc lv (.int x :: st) := fun H locs ls a1 a2 a3 => lv_i2f h.exec h.bytes d (q H locs ls a1 a2 a3)
theorem v_ddiv (h : Ac a B D E own cc nL rm) {x y : UInt64} (d : decode cc pc = .ok (.ddiv, 1)) (hne : vf_n64 (FP.ddiv x y)) (q : VV a B P k n (pc + 1) lv (.double (FP.ddiv x y) :: st)) : VV a B P k n pc lv (.double y :: .double x :: st) := fun H locs ls a1 a2 a3 => lv_ddiv h.exec h.bytes d hne (q H locs ls a1 a2 a3)
theorem v_fdiv (h : Ac a B D E own cc nL rm) {x y : UInt32} (d : decode cc pc = .ok (.fdiv, 1)) (hne : vf_n32 (FP.fdiv x y)) (q : VV a B P k n (pc + 1) lv (.float (FP.fdiv x y) :: st)) : VV a B P k n pc lv (.float y :: .float x :: st) := fun H locs ls a1 a2 a3 => lv_fdiv h.exec h.bytes d hne (q H locs ls a1 a2 a3)
theorem v_f2d (h : Ac a B D E own cc nL rm) {x : UInt32} (d : decode cc pc = .ok (.f2d, 1)) (hne : vf_n64 (FP.f2d x)) (q : VV a B P k n (pc + 1) lv (.double (FP.f2d x) :: st)) : VV a B P k n pc lv (.float x :: st) := fun H locs ls a1 a2 a3 => lv_f2d h.exec h.bytes d hne (q H locs ls a1 a2 a3)
theorem v_dconst0 (h : Ac a B D E own cc nL rm) (d : decode cc pc = .ok (.dconst 0, 1)) (q : VV a B P k n (pc + 1) lv (.double FP.dconst0 :: st)) : VV a B P k n pc lv st := fun H locs ls a1 a2 a3 => lv_dconst0 h.exec h.bytes d (q H locs ls a1 a2 a3)
theorem v_fconst0 (h : Ac a B D E own cc nL rm) (d : decode cc pc = .ok (.fconst 0, 1)) (q : VV a B P k n (pc + 1) lv (.float FP.fconst0 :: st)) : VV a B P k n pc lv st := fun H locs ls a1 a2 a3 => lv_fconst0 h.exec h.bytes d (q H locs ls a1 a2 a3)
end
section
variable {a : Ax} {B : Nat} {D : va_G} {E : Nat → ClassId} {own : String} {cc : ByteArray} {nL : Nat} {rm : Room} {μ : Mm} {k n pc : Nat} {lv : List (Nat × Value)} {P : Pv} {X : Px} {mc ms : Nat}
theorem v_dret (h : Ac a B D E own cc nL rm) (r : Rt a B D E (some .double) P X mc ms) {z : UInt64} (d : decode cc pc = .ok (.dreturn, 1)) (hk : k ≤ mc) (hn : n ≤ ms) (p : P (some (.double z)) μ) : VV a B (SP B D E μ) k n pc lv [.double z] := fun H locs ls a1 a2 _ =>
  r.end hk hn (W.dret h.exec h.bytes r.2 (fun t ht _ => ⟨⟨_, μ, rfl, p, by rw [ht]; exact a1⟩, a2.F ht⟩) a2.2.2 d (hlocks := h.unlocked))
theorem v_fret (h : Ac a B D E own cc nL rm) (r : Rt a B D E (some .float) P X mc ms) {z : UInt32} (d : decode cc pc = .ok (.freturn, 1)) (hk : k ≤ mc) (hn : n ≤ ms) (p : P (some (.float z)) μ) : VV a B (SP B D E μ) k n pc lv [.float z] := fun H locs ls a1 a2 _ =>
  r.end hk hn (W.fret h.exec h.bytes r.2 (fun t ht _ => ⟨⟨_, μ, rfl, p, by rw [ht]; exact a1⟩, a2.F ht⟩) a2.2.2 d (hlocks := h.unlocked))
end
/-- the mean of n ends whose sum is z; the share of k of n moments -/
def mnE (z n : Int) : UInt64 := if n = 0 then FP.dconst0 else FP.ddiv (FP.i2d (Int32.ofInt z)) (FP.i2d (Int32.ofInt n))
def shW (z n : Int) : UInt32 := if n = 0 then FP.fconst0 else FP.fdiv (FP.i2f (Int32.ofInt z)) (FP.i2f (Int32.ofInt n))
/-- a number, and not 0 -/
def fpD (d : FP.Core.Datum) : Bool := match d with
  | .fin _ c _ => c != 0
  | _ => false
theorem fpD_is {d : FP.Core.Datum} (h : fpD d = true) : ∃ t c r, d = .fin t c r ∧ c ≠ 0 := by
  cases d with
  | nan => exact absurd h (by decide)
  | inf s => exact absurd h (by simp [fpD])
  | fin s c q => exact ⟨s, c, q, rfl, fun e => by subst e; exact absurd h (by simp [fpD])⟩
theorem den64 : ∀ k : Nat, k < 13 → 0 < k → fpD (FP.Core.decode FP.Core.b64 (FP.i2d (Int32.ofInt (k : Int))).toNat) = true := by decide +kernel
theorem den32 : ∀ k : Nat, k < 2305 → 0 < k → fpD (FP.Core.decode FP.Core.b32 (FP.i2f (Int32.ofInt (k : Int))).toNat) = true := by decide +kernel
theorem fpG_64 {n : Nat} (h : fpG FP.Core.b64 n) : fpG FP.Core.b64 (UInt64.ofNat n).toNat := by
  unfold fpG at *
  rw [UInt64.toNat_ofNat', Nat.mod_mod_of_dvd _ ⟨2, by decide⟩]
  exact h
theorem fpG_32 {n : Nat} (h : fpG FP.Core.b32 n) : fpG FP.Core.b32 (UInt32.ofNat n).toNat := by
  unfold fpG at *
  rw [UInt32.toNat_ofNat', Nat.mod_mod_of_dvd _ ⟨2, by decide⟩]
  exact h
theorem num64 (x : Int32) : FP.Core.decode FP.Core.b64 (FP.i2d x).toNat ≠ .nan := good_dec (Or.inr rfl) (fpG_64 (round_good (Or.inr rfl) (fun z => FP.Core.Datum.noConfusion z)))
theorem num32 (x : Int32) : FP.Core.decode FP.Core.b32 (FP.i2f x).toNat ≠ .nan := good_dec (Or.inl rfl) (fpG_32 (round_good (Or.inl rfl) (fun z => FP.Core.Datum.noConfusion z)))
theorem div_n64 (x : Int32) {k : Nat} (h1 : 0 < k) (h2 : k < 13) : vf_n64 (FP.ddiv (FP.i2d x) (FP.i2d (Int32.ofInt (k : Int)))) := n64_of (quot_good (Or.inr rfl) (num64 x) (fpD_is (den64 k h2 h1)))
theorem div_n32 (x : Int32) {k : Nat} (h1 : 0 < k) (h2 : k < 2305) : vf_n32 (FP.fdiv (FP.i2f x) (FP.i2f (Int32.ofInt (k : Int)))) := n32_of (quot_good (Or.inl rfl) (num32 x) (fpD_is (den32 k h2 h1)))
section
variable {l : Launch} {B : Nat} {D : va_G} {E : Nat → ClassId} {μ m σ : Mm} {w n : Nat} {K : Nat → Int} {s : St} {J : Mm}
theorem c_X11_meanEnd (hst : l.stackTraces = false) (hO : hOK μ) (hn : μ 1 9 = (n : Int)) :
    Ct l B D E yX11_meanEnd (.code yX11_meanEnd cX11_meanEnd 1 (some .double)) rm_X11_meanEnd [.ref (pl B 0)] μ (PX (rcN (μ 0 7)) (some (.double (mnE (smF (μ 44) n) (n : Int)))) μ) (XX (rcN (μ 0 7)) [eS] μ) := by
  have hb := hO.J.1
  have hrn := hO.h
  refine ct_of (own := RX11) (lv := [(0, _)]) hst (by decide) rfl rfl (Nat.le_of_ble_eq_true rfl) fun a h r t => ?_
  refine v_aload_n (pc := 0) h (dk dt_X11_meanEnd 0 rfl) rfl ?_
  refine v_callVX (pc := 1) h (c_X11_needRun h.quiet hrn) kv_X11_needRun sh0 wM_X11_137 rfl rfl (Nat.le_of_ble_eq_true rfl) (RM.of rfl) (dk dt_X11_meanEnd 1 rfl) (fun e1 μ1 p1 => ?_) (fun v1 μ1 p1 => ?_)
  ·
    obtain ⟨rfl, rfl, q1⟩ := p1
    exact v_out h r t (Nat.le_of_ble_eq_true rfl) (Nat.le_of_ble_eq_true rfl) ⟨⟨0, by unfold rcN; rw [if_pos q1]; rfl, rfl⟩, rfl⟩
  ·
    obtain ⟨rfl, e1, q1⟩ := p1
    rw [e1]
    refine v_aload_n (pc := 4) h (dk dt_X11_meanEnd 2 rfl) rfl ?_
    refine v_getr (pc := 5) h ci11 sh0 (Nat.le_of_ble_eq_true rfl) (j := 0) wF_X11_10 rfl (dk dt_X11_meanEnd 3 rfl) ?_
    refine v_geti (pc := 8) h ci1 sh1 (Nat.le_of_ble_eq_true rfl) (j := 9) wF_X11_65 rfl (dk dt_X11_meanEnd 4 rfl) ?_
    rw [hn]
    refine v_if_ne (pc := 11) h 16 (dk dt_X11_meanEnd 5 rfl) rfl (by omega) (fun c11 => ?_) (fun c11 => ?_)
    ·
      refine v_aload_n (pc := 16) h (dk dt_X11_meanEnd 8 rfl) rfl ?_
      refine v_getr (pc := 17) h ci11 sh0 (Nat.le_of_ble_eq_true rfl) (j := 3) wF_X11_35 rfl (dk dt_X11_meanEnd 9 rfl) ?_
      refine v_getr (pc := 20) h ci10 hd28 (Nat.le_of_ble_eq_true rfl) (j := 0) wF_X11_149 rfl (dk dt_X11_meanEnd 10 rfl) ?_
      refine v_cVi (pc := 23) h (c_X6_endsTogether h.quiet (W_prog W28) hO.J hn (fun j hj => by have := (hO.R q1).2 j (by omega); have := (hO.J.2 j (by omega)).1; show 0 ≤ μ 44 j ∧ μ 44 j ≤ 4000; omega)) kv_X6_endsTogether hd40 wM_X11_158 rfl rfl (Nat.le_of_ble_eq_true rfl) (RM.of rfl) rfl rfl (dk dt_X11_meanEnd 11 rfl) ?_
      refine v_i2d (pc := 26) h (dk dt_X11_meanEnd 12 rfl) ?_
      refine v_aload_n (pc := 27) h (dk dt_X11_meanEnd 13 rfl) rfl ?_
      refine v_getr (pc := 28) h ci11 sh0 (Nat.le_of_ble_eq_true rfl) (j := 0) wF_X11_10 rfl (dk dt_X11_meanEnd 14 rfl) ?_
      refine v_geti (pc := 31) h ci1 sh1 (Nat.le_of_ble_eq_true rfl) (j := 9) wF_X11_65 rfl (dk dt_X11_meanEnd 15 rfl) ?_
      rw [hn]
      refine v_i2d (pc := 34) h (dk dt_X11_meanEnd 16 rfl) ?_
      refine v_ddiv (pc := 35) h (dk dt_X11_meanEnd 17 rfl) (div_n64 _ (by omega) (by omega)) ?_
      exact v_dret (pc := 36) h r (dk dt_X11_meanEnd 18 rfl) (Nat.le_of_ble_eq_true rfl) (Nat.le_of_ble_eq_true rfl) ⟨rcN_0 q1, by unfold mnE; rw [if_neg (by omega)], rfl⟩
    ·
      refine v_dconst0 (pc := 14) h (dk dt_X11_meanEnd 6 rfl) ?_
      exact v_dret (pc := 15) h r (dk dt_X11_meanEnd 7 rfl) (Nat.le_of_ble_eq_true rfl) (Nat.le_of_ble_eq_true rfl) ⟨rcN_0 q1, by unfold mnE; rw [if_pos (by omega)], rfl⟩
theorem c_X11_workShare (hst : l.stackTraces = false) (hO : hOK μ) :
    Ct l B D E yX11_workShare (.code yX11_workShare cX11_workShare 1 (some .float)) rm_X11_workShare [.ref (pl B 0)] μ (PX (rcN (μ 0 7)) (some (.float (shW (cntW (μ 49) (μ 47 0).toNat) (μ 47 0)))) μ) (XX (rcN (μ 0 7)) [eS] μ) := by
  have hrn := hO.h
  refine ct_of (own := RX11) (lv := [(0, _)]) hst (by decide) rfl rfl (Nat.le_of_ble_eq_true rfl) fun a h r t => ?_
  refine v_aload_n (pc := 0) h (dk dt_X11_workShare 0 rfl) rfl ?_
  refine v_callVX (pc := 1) h (c_X11_needRun h.quiet hrn) kv_X11_needRun sh0 wM_X11_137 rfl rfl (Nat.le_of_ble_eq_true rfl) (RM.of rfl) (dk dt_X11_workShare 1 rfl) (fun e1 μ1 p1 => ?_) (fun v1 μ1 p1 => ?_)
  ·
    obtain ⟨rfl, rfl, q1⟩ := p1
    exact v_out h r t (Nat.le_of_ble_eq_true rfl) (Nat.le_of_ble_eq_true rfl) ⟨⟨0, by unfold rcN; rw [if_pos q1]; rfl, rfl⟩, rfl⟩
  ·
    obtain ⟨rfl, e1, q1⟩ := p1
    rw [e1]
    have hR := hO.R q1
    have hC := hR.1.1
    obtain ⟨T, hT⟩ : ∃ T : Nat, μ 47 0 = (T : Int) := ⟨(μ 47 0).toNat, by omega⟩
    rw [hT] at r
    refine v_aload_n (pc := 4) h (dk dt_X11_workShare 2 rfl) rfl ?_
    refine v_getr (pc := 5) h ci11 sh0 (Nat.le_of_ble_eq_true rfl) (j := 3) wF_X11_35 rfl (dk dt_X11_workShare 3 rfl) ?_
    refine v_getr (pc := 8) h ci10 hd28 (Nat.le_of_ble_eq_true rfl) (j := 1) wF_X11_125 rfl (dk dt_X11_workShare 4 rfl) ?_
    refine v_geti (pc := 11) h ci0 hd47 (Nat.le_of_ble_eq_true rfl) (j := 0) wF_X11_129 rfl (dk dt_X11_workShare 5 rfl) ?_
    rw [hT]
    refine v_if_ne (pc := 14) h 19 (dk dt_X11_workShare 6 rfl) rfl (by omega) (fun c14 => ?_) (fun c14 => ?_)
    ·
      refine v_aload_n (pc := 19) h (dk dt_X11_workShare 9 rfl) rfl ?_
      refine v_getr (pc := 20) h ci11 sh0 (Nat.le_of_ble_eq_true rfl) (j := 3) wF_X11_35 rfl (dk dt_X11_workShare 10 rfl) ?_
      refine v_getr (pc := 23) h ci10 hd28 (Nat.le_of_ble_eq_true rfl) (j := 1) wF_X11_125 rfl (dk dt_X11_workShare 11 rfl) ?_
      refine v_cVi (pc := 26) h (c_X0_countWork h.quiet (W_course W28) hR.1) kv_X0_countWork hd47 wM_X11_226 rfl rfl (Nat.le_of_ble_eq_true rfl) (RM.of rfl) rfl rfl (dk dt_X11_workShare 12 rfl) ?_
      rw [hT]
      refine v_i2f (pc := 29) h (dk dt_X11_workShare 13 rfl) ?_
      refine v_aload_n (pc := 30) h (dk dt_X11_workShare 14 rfl) rfl ?_
      refine v_getr (pc := 31) h ci11 sh0 (Nat.le_of_ble_eq_true rfl) (j := 3) wF_X11_35 rfl (dk dt_X11_workShare 15 rfl) ?_
      refine v_getr (pc := 34) h ci10 hd28 (Nat.le_of_ble_eq_true rfl) (j := 1) wF_X11_125 rfl (dk dt_X11_workShare 16 rfl) ?_
      refine v_geti (pc := 37) h ci0 hd47 (Nat.le_of_ble_eq_true rfl) (j := 0) wF_X11_129 rfl (dk dt_X11_workShare 17 rfl) ?_
      rw [hT]
      refine v_i2f (pc := 40) h (dk dt_X11_workShare 18 rfl) ?_
      refine v_fdiv (pc := 41) h (dk dt_X11_workShare 19 rfl) (div_n32 _ (by omega) (by omega)) ?_
      exact v_fret (pc := 42) h r (dk dt_X11_workShare 20 rfl) (Nat.le_of_ble_eq_true rfl) (Nat.le_of_ble_eq_true rfl) ⟨rcN_0 q1, by unfold shW; rw [if_neg (by omega)], rfl⟩
    ·
      refine v_fconst0 (pc := 17) h (dk dt_X11_workShare 7 rfl) ?_
      exact v_fret (pc := 18) h r (dk dt_X11_workShare 8 rfl) (Nat.le_of_ble_eq_true rfl) (Nat.le_of_ble_eq_true rfl) ⟨rcN_0 q1, by unfold shW; rw [if_pos (by omega)], rfl⟩
theorem mup_14 {μ : Mm} {x y : Int} : mup (mup μ 123 14 x) 123 14 y = mup μ 123 14 y := by
  funext a b
  by_cases e : a = 123 ∧ b = 14
  · rw [e.1, e.2, mup_eq, mup_eq]
  · rw [mup_ne (fun z => e ⟨z.1, z.2⟩), mup_ne (fun z => e ⟨z.1, z.2⟩), mup_ne (fun z => e ⟨z.1, z.2⟩)]
theorem eq_14 {x : Int} (hE : eqJ μ) (hH : eqH μ) (hO : hOK μ) : eqJ (mup μ 123 14 x) ∧ eqH (mup μ 123 14 x) ∧ hOK (mup μ 123 14 x) := by
  have g : ∀ a, a ≠ 123 → mup μ 123 14 x a = μ a := fun a h => by funext b; exact mup_nk h
  have g2 : ∀ b, b ≠ 14 → mup μ 123 14 x 123 b = μ 123 b := fun b h => mup_ne (fun z => h z.2)
  refine ⟨eqJ_c (fun a q => g a (by omega)) (g2 9 (by decide)) hE, ?_, hO_c (fun a q => g a (by omega)) hO⟩
  unfold eqH
  rw [g2 25 (by decide), g2 24 (by decide), g 0 (by decide), g 47 (by decide), g 49 (by decide), g 136 (by decide), g 137 (by decide), g 138 (by decide), g 139 (by decide), g 44 (by decide), g 46 (by decide), g 30 (by decide), g 1 (by decide)]
  exact hH
theorem c_X12_meanEnd (hst : l.stackTraces = false) (hE : eqJ μ) (hH : eqH μ) (hO : hOK μ) (hn : μ 1 9 = (n : Int)) :
    Ct l B D E yX12_meanEnd (.code yX12_meanEnd cX12_meanEnd 1 (some .double)) rm_X12_meanEnd [.ref (pl B 123)] μ (fun v m => m = mup μ 123 14 (rcN (μ 0 7)) ∧ v = some (.double (if rcN (μ 0 7) = 0 then mnE (smF (μ 44) n) (n : Int) else FP.dconst0))) NX := by
  have hb := hO.J.1
  have hrn := hO.h
  refine ct_of (own := RX12) (lv := [(0, _)]) hst (by decide) rfl rfl (Nat.le_of_ble_eq_true rfl) fun a h r t => ?_
  have h14 := fun x : Int => eq_14 (x := x) hE hH hO
  have e1 : ∀ x : Int, mup μ 123 14 x 1 = μ 1 := fun x => by funext b; exact mup_nk (by omega)
  have e0 : ∀ x : Int, mup μ 123 14 x 0 = μ 0 := fun x => by funext b; exact mup_nk (by omega)
  have e44 : ∀ x : Int, mup μ 123 14 x 44 = μ 44 := fun x => by funext b; exact mup_nk (by omega)
  have e9 : ∀ x : Int, mup μ 123 14 x 123 9 = (n : Int) := fun x => by rw [mup_ne (by omega)]; exact eqJ_n hE hn
  have e14 : ∀ x : Int, mup μ 123 14 x 123 14 = x := fun x => mup_eq _ _ _ _
  have go16 : μ 0 7 = 1 → VV a B (SP B D E (mup μ 123 14 0)) 0 0 16 [(0, .ref (pl B 123))] [] := by
    intro h1
    have hrc := rcN_0 h1
    rw [hrc, if_pos rfl] at r
    have hsum := (h14 0)
    have e1' := e1 0
    have e0' := e0 0
    have e44' := e44 0
    have e9' := e9 0
    have e14' := e14 0
    generalize hM : mup μ 123 14 0 = M at *
    refine v_aload_n (pc := 16) h (dk dt_X12_meanEnd 8 rfl) rfl ?_
    refine v_geti (pc := 17) h ci12 sh123 (Nat.le_of_ble_eq_true rfl) (j := 14) wF_X12_105 rfl (dk dt_X12_meanEnd 9 rfl) ?_
    rw [e14']
    refine v_if_ne (pc := 20) h 30 (dk dt_X12_meanEnd 10 rfl) rfl (by omega) (fun c20 => ?_) (fun c20 => ?_)
    ·
      exact absurd rfl c20
    ·
      refine v_aload_n (pc := 23) h (dk dt_X12_meanEnd 11 rfl) rfl ?_
      refine v_geti (pc := 24) h ci12 sh123 (Nat.le_of_ble_eq_true rfl) (j := 9) wF_X12_108 rfl (dk dt_X12_meanEnd 12 rfl) ?_
      rw [e9']
      refine v_if_ne (pc := 27) h 34 (dk dt_X12_meanEnd 13 rfl) rfl (by omega) (fun c27 => ?_) (fun c27 => ?_)
      ·
        refine v_aload_n (pc := 34) h (dk dt_X12_meanEnd 16 rfl) rfl ?_
        refine v_cVi (pc := 35) h (c_X12_sumOf (n := n) h.quiet hsum.1 hsum.2.1 hsum.2.2 (by rw [e1']; exact hn) (by rw [e0']; exact h1)) kv_X12_sumOf sh123 wM_X12_228 rfl rfl (Nat.le_of_ble_eq_true rfl) (RM.of rfl) rfl rfl (dk dt_X12_meanEnd 17 rfl) ?_
        rw [e44']
        refine v_i2d (pc := 38) h (dk dt_X12_meanEnd 18 rfl) ?_
        refine v_aload_n (pc := 39) h (dk dt_X12_meanEnd 19 rfl) rfl ?_
        refine v_geti (pc := 40) h ci12 sh123 (Nat.le_of_ble_eq_true rfl) (j := 9) wF_X12_108 rfl (dk dt_X12_meanEnd 20 rfl) ?_
        rw [e9']
        refine v_i2d (pc := 43) h (dk dt_X12_meanEnd 21 rfl) ?_
        refine v_ddiv (pc := 44) h (dk dt_X12_meanEnd 22 rfl) (div_n64 _ (by omega) (by omega)) ?_
        exact v_dret (pc := 45) h r (dk dt_X12_meanEnd 23 rfl) (Nat.le_of_ble_eq_true rfl) (Nat.le_of_ble_eq_true rfl) ⟨rfl, by unfold mnE; first | rw [if_neg c27] | rw [if_pos (by omega)]⟩
      ·
        refine v_dconst0 (pc := 30) h (dk dt_X12_meanEnd 14 rfl) ?_
        refine v_goto (pc := 31) h 45 (dk dt_X12_meanEnd 15 rfl) rfl ?_
        exact v_dret (pc := 45) h r (dk dt_X12_meanEnd 23 rfl) (Nat.le_of_ble_eq_true rfl) (Nat.le_of_ble_eq_true rfl) ⟨rfl, by unfold mnE; first | rw [if_neg c27] | rw [if_pos (by omega)]⟩
  have go16n : ¬ μ 0 7 = 1 → VV a B (SP B D E (mup μ 123 14 1)) 0 0 16 [(0, .ref (pl B 123))] [] := by
    intro h1
    have hrc := rcN_1 h1
    rw [hrc, if_neg (by decide)] at r
    have e14' := e14 1
    generalize hM : mup μ 123 14 1 = M at *
    refine v_aload_n (pc := 16) h (dk dt_X12_meanEnd 8 rfl) rfl ?_
    refine v_geti (pc := 17) h ci12 sh123 (Nat.le_of_ble_eq_true rfl) (j := 14) wF_X12_105 rfl (dk dt_X12_meanEnd 9 rfl) ?_
    rw [e14']
    refine v_if_ne (pc := 20) h 30 (dk dt_X12_meanEnd 10 rfl) rfl (by omega) (fun c20 => ?_) (fun c20 => ?_)
    ·
      refine v_dconst0 (pc := 30) h (dk dt_X12_meanEnd 14 rfl) ?_
      refine v_goto (pc := 31) h 45 (dk dt_X12_meanEnd 15 rfl) rfl ?_
      exact v_dret (pc := 45) h r (dk dt_X12_meanEnd 23 rfl) (Nat.le_of_ble_eq_true rfl) (Nat.le_of_ble_eq_true rfl) ⟨rfl, rfl⟩
    ·
      exact absurd c20 (by decide)
  refine v_aload_n (pc := 0) h (dk dt_X12_meanEnd 0 rfl) rfl ?_
  refine v_aload_n (pc := 1) h (dk dt_X12_meanEnd 1 rfl) rfl ?_
  refine v_cVi (pc := 2) h (c_X12_isRun h.quiet (by assumption)) kv_X12_isRun sh123 wM_X12_217 rfl rfl (Nat.le_of_ble_eq_true rfl) (RM.of rfl) rfl rfl (dk dt_X12_meanEnd 2 rfl) ?_
  refine v_if_eq (pc := 5) h 12 (dk dt_X12_meanEnd 3 rfl) rfl (by split <;> omega) (fun c5 => ?_) (fun c5 => ?_)
  ·
    have d5 : ¬ μ 0 7 = 1 := fun q => by rw [if_pos q] at c5; omega
    refine v_iconst (pc := 12) h (dk dt_X12_meanEnd 6 rfl) ?_
    refine v_put (pc := 13) h ci12 sh123 (Nat.le_of_ble_eq_true rfl) (j := 14) wF_X12_105 rfl rfl rfl rfl (dk dt_X12_meanEnd 7 rfl) ?_
    first
      | (have q : μ 0 7 = 1 := d5; exact VV.loc (go16 q) ⟨rfl, trivial⟩)
      | exact VV.loc (go16n d5) ⟨rfl, trivial⟩
  ·
    have d5 : μ 0 7 = 1 := by by_cases q : μ 0 7 = 1; exact q; rw [if_neg q] at c5; omega
    refine v_iconst (pc := 8) h (dk dt_X12_meanEnd 4 rfl) ?_
    refine v_goto (pc := 9) h 13 (dk dt_X12_meanEnd 5 rfl) rfl ?_
    refine v_put (pc := 13) h ci12 sh123 (Nat.le_of_ble_eq_true rfl) (j := 14) wF_X12_105 rfl rfl rfl rfl (dk dt_X12_meanEnd 7 rfl) ?_
    first
      | (have q : μ 0 7 = 1 := d5; exact VV.loc (go16 q) ⟨rfl, trivial⟩)
      | exact VV.loc (go16n d5) ⟨rfl, trivial⟩
theorem c_X12_workShare (hst : l.stackTraces = false) (hH : eqH μ) (hO : hOK μ) :
    Ct l B D E yX12_workShare (.code yX12_workShare cX12_workShare 3 (some .float)) rm_X12_workShare [.ref (pl B 123)] μ (fun v m => m = mup μ 123 14 (rcN (μ 0 7)) ∧ v = some (.float (if rcN (μ 0 7) = 0 then shW (cntW (μ 49) (μ 47 0).toNat) (μ 47 0) else FP.fconst0))) NX := by
  have hrn := hO.h
  refine ct_of (own := RX12) (lv := [(0, _)]) hst (by decide) rfl rfl (Nat.le_of_ble_eq_true rfl) fun a h r t => ?_
  have e14 : ∀ x : Int, mup μ 123 14 x 123 14 = x := fun x => mup_eq _ _ _ _
  have go16 : μ 0 7 = 1 → VV a B (SP B D E (mup μ 123 14 0)) 0 0 16 [(0, .ref (pl B 123))] [] := by
    intro h1
    have hrc := rcN_0 h1
    rw [hrc, if_pos rfl] at r
    have hR := hO.R h1
    have hL := hH.2 h1
    have hC := hR.1.1
    have e14' := e14 0
    have e24 : mup μ 123 14 0 123 24 = μ 47 0 := by rw [mup_ne (by omega)]; exact hL.1
    have e136 : ∀ t : Nat, (t : Int) < μ 47 0 → mup μ 123 14 0 136 t = μ 49 t := fun t ht => by rw [mup_nk (by omega)]; exact hL.2.1 t ht
    have hlg : ∀ t : Nat, (t : Int) < μ 47 0 → -2 ≤ μ 49 t ∧ μ 49 t < 12 := fun t ht => hR.1.2 t ht
    generalize hM : mup μ 123 14 0 = M at *
    obtain ⟨T, hT⟩ : ∃ T : Nat, μ 47 0 = (T : Int) := ⟨(μ 47 0).toNat, by omega⟩
    rw [hT] at r e24 e136 hlg hC
    rw [Int.toNat_natCast] at r
    have hcb : ∀ i, 0 ≤ cntW (μ 49) i ∧ cntW (μ 49) i ≤ i := by
      intro i
      induction i with
      | zero => simp [cntW]
      | succ i ih => simp only [cntW]; split <;> omega
    have loop : ∀ (d i : Nat), i + d = T → VV a B (SP B D E M) 0 0 20 [(2, iI (i : Int)), (1, iI (cntW (μ 49) i)), (0, .ref (pl B 123))] [] := by
      intro d
      induction d with
      | zero =>
        intro i hi
        have e : i = T := by omega
        rw [e]
        refine v_aload_n (pc := 20) h (dk dt_X12_workShare 12 rfl) rfl ?_
        refine v_geti (pc := 21) h ci12 sh123 (Nat.le_of_ble_eq_true rfl) (j := 14) wF_X12_105 rfl (dk dt_X12_workShare 13 rfl) ?_
        rw [e14']
        refine v_if_ne (pc := 24) h 58 (dk dt_X12_workShare 14 rfl) rfl (by omega) (fun c24 => ?_) (fun c24 => ?_)
        ·
          exact absurd rfl c24
        ·
          refine v_iload_n (pc := 27) h (dk dt_X12_workShare 15 rfl) rfl ?_
          refine v_aload_n (pc := 28) h (dk dt_X12_workShare 16 rfl) rfl ?_
          refine v_geti (pc := 29) h ci12 sh123 (Nat.le_of_ble_eq_true rfl) (j := 24) wF_X12_214 rfl (dk dt_X12_workShare 17 rfl) ?_
          rw [e24]
          refine v_icmp_ge (pc := 32) h 58 (dk dt_X12_workShare 18 rfl) rfl (by omega) (fun c32 => ?_) (fun c32 => ?_)
          ·
            refine v_aload_n (pc := 58) h (dk dt_X12_workShare 32 rfl) rfl ?_
            refine v_geti (pc := 59) h ci12 sh123 (Nat.le_of_ble_eq_true rfl) (j := 14) wF_X12_105 rfl (dk dt_X12_workShare 33 rfl) ?_
            rw [e14']
            refine v_if_ne (pc := 62) h 72 (dk dt_X12_workShare 34 rfl) rfl (by omega) (fun c62 => ?_) (fun c62 => ?_)
            ·
              exact absurd rfl c62
            ·
              refine v_aload_n (pc := 65) h (dk dt_X12_workShare 35 rfl) rfl ?_
              refine v_geti (pc := 66) h ci12 sh123 (Nat.le_of_ble_eq_true rfl) (j := 24) wF_X12_214 rfl (dk dt_X12_workShare 36 rfl) ?_
              rw [e24]
              refine v_if_ne (pc := 69) h 76 (dk dt_X12_workShare 37 rfl) rfl (by omega) (fun c69 => ?_) (fun c69 => ?_)
              ·
                refine v_iload_n (pc := 76) h (dk dt_X12_workShare 40 rfl) rfl ?_
                refine v_i2f (pc := 77) h (dk dt_X12_workShare 41 rfl) ?_
                refine v_aload_n (pc := 78) h (dk dt_X12_workShare 42 rfl) rfl ?_
                refine v_geti (pc := 79) h ci12 sh123 (Nat.le_of_ble_eq_true rfl) (j := 24) wF_X12_214 rfl (dk dt_X12_workShare 43 rfl) ?_
                rw [e24]
                refine v_i2f (pc := 82) h (dk dt_X12_workShare 44 rfl) ?_
                refine v_fdiv (pc := 83) h (dk dt_X12_workShare 45 rfl) (div_n32 _ (by omega) (by omega)) ?_
                exact v_fret (pc := 84) h r (dk dt_X12_workShare 46 rfl) (Nat.le_of_ble_eq_true rfl) (Nat.le_of_ble_eq_true rfl) ⟨rfl, by unfold shW; first | rw [if_neg c69] | rw [if_pos (by omega)]⟩
              ·
                refine v_fconst0 (pc := 72) h (dk dt_X12_workShare 38 rfl) ?_
                refine v_goto (pc := 73) h 84 (dk dt_X12_workShare 39 rfl) rfl ?_
                exact v_fret (pc := 84) h r (dk dt_X12_workShare 46 rfl) (Nat.le_of_ble_eq_true rfl) (Nat.le_of_ble_eq_true rfl) ⟨rfl, by unfold shW; first | rw [if_neg c69] | rw [if_pos (by omega)]⟩
          ·
            exact absurd c32 (by omega)
      | succ d ih =>
        intro i hi
        have hq := hcb i
        have hl := hlg i (by omega)
        have eY : 0 ≤ μ 49 i → cntW (μ 49) (i + 1) = cntW (μ 49) i + 1 := fun q => by simp only [cntW]; rw [if_pos q]
        have eN : ¬ 0 ≤ μ 49 i → cntW (μ 49) (i + 1) = cntW (μ 49) i + 0 := fun q => by simp only [cntW]; rw [if_neg q]
        refine v_aload_n (pc := 20) h (dk dt_X12_workShare 12 rfl) rfl ?_
        refine v_geti (pc := 21) h ci12 sh123 (Nat.le_of_ble_eq_true rfl) (j := 14) wF_X12_105 rfl (dk dt_X12_workShare 13 rfl) ?_
        rw [e14']
        refine v_if_ne (pc := 24) h 58 (dk dt_X12_workShare 14 rfl) rfl (by omega) (fun c24 => ?_) (fun c24 => ?_)
        ·
          exact absurd rfl c24
        ·
          refine v_iload_n (pc := 27) h (dk dt_X12_workShare 15 rfl) rfl ?_
          refine v_aload_n (pc := 28) h (dk dt_X12_workShare 16 rfl) rfl ?_
          refine v_geti (pc := 29) h ci12 sh123 (Nat.le_of_ble_eq_true rfl) (j := 24) wF_X12_214 rfl (dk dt_X12_workShare 17 rfl) ?_
          rw [e24]
          refine v_icmp_ge (pc := 32) h 58 (dk dt_X12_workShare 18 rfl) rfl (by omega) (fun c32 => ?_) (fun c32 => ?_)
          ·
            exact absurd c32 (by omega)
          ·
            refine v_iload_n (pc := 35) h (dk dt_X12_workShare 19 rfl) rfl ?_
            refine v_aload_n (pc := 36) h (dk dt_X12_workShare 20 rfl) rfl ?_
            refine v_getr (pc := 37) h ci12 sh123 (Nat.le_of_ble_eq_true rfl) (j := 20) wF_X12_56 rfl (dk dt_X12_workShare 21 rfl) ?_
            refine v_iload_n (pc := 40) h (dk dt_X12_workShare 22 rfl) rfl ?_
            refine v_iald (pc := 41) h sh136 (Nat.le_of_ble_eq_true rfl) (by omega) (dk dt_X12_workShare 23 rfl) ?_
            rw [Int.toNat_natCast, e136 i (by omega)]
            refine v_if_lt (pc := 42) h 49 (dk dt_X12_workShare 24 rfl) rfl (by omega) (fun c42 => ?_) (fun c42 => ?_)
            ·
              refine v_iconst (pc := 49) h (dk dt_X12_workShare 27 rfl) ?_
              refine v_iadd (pc := 50) h (dk dt_X12_workShare 28 rfl) ?_
              refine v_istore_n (lv' := [(1, _), (2, _), (0, _)]) (pc := 51) h (dk dt_X12_workShare 29 rfl) (Nat.le_of_ble_eq_true rfl) rfl ?_
              refine v_iinc (lv' := [(2, _), (1, _), (0, _)]) (pc := 52) h (dk dt_X12_workShare 30 rfl) rfl (Nat.le_of_ble_eq_true rfl) rfl ?_
              refine v_goto (pc := 55) h 20 (dk dt_X12_workShare 31 rfl) rfl ?_
              first
                | (have q : 0 ≤ μ 49 i := by omega
                   exact VV.loc (lv' := [(2, _), (1, _), (0, _)]) (ih (i + 1) (by omega)) ⟨rfl, lvI (eY q).symm, rfl, trivial⟩)
                | (have q : ¬ 0 ≤ μ 49 i := by omega
                   exact VV.loc (lv' := [(2, _), (1, _), (0, _)]) (ih (i + 1) (by omega)) ⟨rfl, lvI (eN q).symm, rfl, trivial⟩)
            ·
              refine v_iconst (pc := 45) h (dk dt_X12_workShare 25 rfl) ?_
              refine v_goto (pc := 46) h 50 (dk dt_X12_workShare 26 rfl) rfl ?_
              refine v_iadd (pc := 50) h (dk dt_X12_workShare 28 rfl) ?_
              refine v_istore_n (lv' := [(1, _), (2, _), (0, _)]) (pc := 51) h (dk dt_X12_workShare 29 rfl) (Nat.le_of_ble_eq_true rfl) rfl ?_
              refine v_iinc (lv' := [(2, _), (1, _), (0, _)]) (pc := 52) h (dk dt_X12_workShare 30 rfl) rfl (Nat.le_of_ble_eq_true rfl) rfl ?_
              refine v_goto (pc := 55) h 20 (dk dt_X12_workShare 31 rfl) rfl ?_
              first
                | (have q : 0 ≤ μ 49 i := by omega
                   exact VV.loc (lv' := [(2, _), (1, _), (0, _)]) (ih (i + 1) (by omega)) ⟨rfl, lvI (eY q).symm, rfl, trivial⟩)
                | (have q : ¬ 0 ≤ μ 49 i := by omega
                   exact VV.loc (lv' := [(2, _), (1, _), (0, _)]) (ih (i + 1) (by omega)) ⟨rfl, lvI (eN q).symm, rfl, trivial⟩)
    refine v_iconst (pc := 16) h (dk dt_X12_workShare 8 rfl) ?_
    refine v_istore_n (lv' := [(1, _), (0, _)]) (pc := 17) h (dk dt_X12_workShare 9 rfl) (Nat.le_of_ble_eq_true rfl) rfl ?_
    refine v_iconst (pc := 18) h (dk dt_X12_workShare 10 rfl) ?_
    refine v_istore_n (lv' := [(2, _), (1, _), (0, _)]) (pc := 19) h (dk dt_X12_workShare 11 rfl) (Nat.le_of_ble_eq_true rfl) rfl ?_
    exact VV.loc (loop T 0 (by omega)) ⟨rfl, rfl, rfl, trivial⟩
  have go16n : ¬ μ 0 7 = 1 → VV a B (SP B D E (mup μ 123 14 1)) 0 0 16 [(0, .ref (pl B 123))] [] := by
    intro h1
    have hrc := rcN_1 h1
    rw [hrc, if_neg (by decide)] at r
    have e14' := e14 1
    generalize hM : mup μ 123 14 1 = M at *
    refine v_iconst (pc := 16) h (dk dt_X12_workShare 8 rfl) ?_
    refine v_istore_n (lv' := [(1, _), (0, _)]) (pc := 17) h (dk dt_X12_workShare 9 rfl) (Nat.le_of_ble_eq_true rfl) rfl ?_
    refine v_iconst (pc := 18) h (dk dt_X12_workShare 10 rfl) ?_
    refine v_istore_n (lv' := [(2, _), (1, _), (0, _)]) (pc := 19) h (dk dt_X12_workShare 11 rfl) (Nat.le_of_ble_eq_true rfl) rfl ?_
    refine v_aload_n (pc := 20) h (dk dt_X12_workShare 12 rfl) rfl ?_
    refine v_geti (pc := 21) h ci12 sh123 (Nat.le_of_ble_eq_true rfl) (j := 14) wF_X12_105 rfl (dk dt_X12_workShare 13 rfl) ?_
    rw [e14']
    refine v_if_ne (pc := 24) h 58 (dk dt_X12_workShare 14 rfl) rfl (by omega) (fun c24 => ?_) (fun c24 => ?_)
    ·
      refine v_aload_n (pc := 58) h (dk dt_X12_workShare 32 rfl) rfl ?_
      refine v_geti (pc := 59) h ci12 sh123 (Nat.le_of_ble_eq_true rfl) (j := 14) wF_X12_105 rfl (dk dt_X12_workShare 33 rfl) ?_
      rw [e14']
      refine v_if_ne (pc := 62) h 72 (dk dt_X12_workShare 34 rfl) rfl (by omega) (fun c62 => ?_) (fun c62 => ?_)
      ·
        refine v_fconst0 (pc := 72) h (dk dt_X12_workShare 38 rfl) ?_
        refine v_goto (pc := 73) h 84 (dk dt_X12_workShare 39 rfl) rfl ?_
        exact v_fret (pc := 84) h r (dk dt_X12_workShare 46 rfl) (Nat.le_of_ble_eq_true rfl) (Nat.le_of_ble_eq_true rfl) ⟨rfl, rfl⟩
      ·
        exact absurd c62 (by decide)
    ·
      exact absurd c24 (by decide)
  refine v_aload_n (pc := 0) h (dk dt_X12_workShare 0 rfl) rfl ?_
  refine v_aload_n (pc := 1) h (dk dt_X12_workShare 1 rfl) rfl ?_
  refine v_cVi (pc := 2) h (c_X12_isRun h.quiet (by assumption)) kv_X12_isRun sh123 wM_X12_217 rfl rfl (Nat.le_of_ble_eq_true rfl) (RM.of rfl) rfl rfl (dk dt_X12_workShare 2 rfl) ?_
  refine v_if_eq (pc := 5) h 12 (dk dt_X12_workShare 3 rfl) rfl (by split <;> omega) (fun c5 => ?_) (fun c5 => ?_)
  ·
    have d5 : ¬ μ 0 7 = 1 := fun q => by rw [if_pos q] at c5; omega
    refine v_iconst (pc := 12) h (dk dt_X12_workShare 6 rfl) ?_
    refine v_put (pc := 13) h ci12 sh123 (Nat.le_of_ble_eq_true rfl) (j := 14) wF_X12_105 rfl rfl rfl rfl (dk dt_X12_workShare 7 rfl) ?_
    first
      | (have q : μ 0 7 = 1 := d5; exact VV.loc (go16 q) ⟨rfl, trivial⟩)
      | exact VV.loc (go16n d5) ⟨rfl, trivial⟩
  ·
    have d5 : μ 0 7 = 1 := by by_cases q : μ 0 7 = 1; exact q; rw [if_neg q] at c5; omega
    refine v_iconst (pc := 8) h (dk dt_X12_workShare 4 rfl) ?_
    refine v_goto (pc := 9) h 13 (dk dt_X12_workShare 5 rfl) rfl ?_
    refine v_put (pc := 13) h ci12 sh123 (Nat.le_of_ble_eq_true rfl) (j := 14) wF_X12_105 rfl rfl rfl rfl (dk dt_X12_workShare 7 rfl) ?_
    first
      | (have q : μ 0 7 = 1 := d5; exact VV.loc (go16 q) ⟨rfl, trivial⟩)
      | exact VV.loc (go16n d5) ⟨rfl, trivial⟩
end
