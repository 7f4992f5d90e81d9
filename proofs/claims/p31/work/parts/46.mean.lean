/-! ===== the mean end, the share of work ===== -/
section
variable {a : Ax} {B : Nat} {D : va_G} {E : Nat → ClassId} {own : String} {cc : ByteArray} {nL : Nat} {rm : Room} {P : Heap → Prop} {k n pc : Nat} {lv : List (Nat × Value)} {st : List Value}
theorem v_i2d (h : Ac a B D E own cc nL rm) {x : Int32} (d : decode cc pc = .ok (.i2d, 1)) (q : VV a B P k n (pc + 1) lv (.double (FP.i2d x) :: st)) : VV a B P k n pc lv (.int x :: st) := fun H locs ls a1 a2 a3 => lv_i2d h.exec h.bytes d (q H locs ls a1 a2 a3)
theorem v_i2f (h : Ac a B D E own cc nL rm) {x : Int32} (d : decode cc pc = .ok (.i2f, 1)) (q : VV a B P k n (pc + 1) lv (.float (FP.i2f x) :: st)) : VV a B P k n pc lv (.int x :: st) := fun H locs ls a1 a2 a3 => lv_i2f h.exec h.bytes d (q H locs ls a1 a2 a3)
theorem v_ddiv (h : Ac a B D E own cc nL rm) {x y : UInt64} (d : decode cc pc = .ok (.ddiv, 1)) (hne : vf_n64 (FP.ddiv x y)) (q : VV a B P k n (pc + 1) lv (.double (FP.ddiv x y) :: st)) : VV a B P k n pc lv (.double y :: .double x :: st) := fun H locs ls a1 a2 a3 => lv_ddiv h.exec h.bytes d hne (q H locs ls a1 a2 a3)
theorem v_fdiv (h : Ac a B D E own cc nL rm) {x y : UInt32} (d : decode cc pc = .ok (.fdiv, 1)) (hne : vf_n32 (FP.fdiv x y)) (q : VV a B P k n (pc + 1) lv (.float (FP.fdiv x y) :: st)) : VV a B P k n pc lv (.float y :: .float x :: st) := fun H locs ls a1 a2 a3 => lv_fdiv h.exec h.bytes d hne (q H locs ls a1 a2 a3)
theorem v_f2d (h : Ac a B D E own cc nL rm) {x : UInt32} (d : decode cc pc = .ok (.f2d, 1)) (hne : vf_n64 (FP.f2d x)) (q : VV a B P k n (pc + 1) lv (.double (FP.f2d x) :: st)) : VV a B P k n pc lv (.float x :: st) := fun H locs ls a1 a2 a3 => lv_f2d h.exec h.bytes d hne (q H locs ls a1 a2 a3)
theorem v_dconst0 (h : Ac a B D E own cc nL rm) (d : decode cc pc = .ok (.dconst 0, 1)) (q : VV a B P k n (pc + 1) lv (.double FP.dconst0 :: st)) : VV a B P k n pc lv st := fun H locs ls a1 a2 a3 => lv_dconst0 h.exec h.bytes d (q H locs ls a1 a2 a3)
theorem v_fconst0 (h : Ac a B D E own cc nL rm) (d : decode cc pc = .ok (.fconst 0, 1)) (q : VV a B P k n (pc + 1) lv (.float FP.fconst0 :: st)) : VV a B P k n pc lv st := fun H locs ls a1 a2 a3 => lv_fconst0 h.exec h.bytes d (q H locs ls a1 a2 a3)
end
section
variable {a : Ax} {B : Nat} {D : va_G} {E : Nat → ClassId} {own : String} {cc : ByteArray} {nL : Nat} {rm : Room} {μ : Mm} {k n pc : Nat} {lv : List (Nat × Value)} {P : Pv} {X : Px} {mc ms : Nat}
theorem v_dret (h : Ac a B D E own cc nL rm) (r : Rt a B D E (some .double) P X mc ms) {z : UInt64} (d : decode cc pc = .ok (.dreturn, 1)) (hk : k ≤ mc) (hn : n ≤ ms) (p : P (some (.double z)) μ) : VV a B (SP B D E μ) k n pc lv [.double z] := fun H locs ls a1 a2 _ =>
  r.end hk hn (W.dret h.exec h.bytes r.2 (fun t ht _ => ⟨⟨_, μ, rfl, p, by rw [ht]; exact a1⟩, a2.F ht⟩) a2.2.2 d (hlocks := h.unlocked))
theorem v_fret (h : Ac a B D E own cc nL rm) (r : Rt a B D E (some .float) P X mc ms) {z : UInt32} (d : decode cc pc = .ok (.freturn, 1)) (hk : k ≤ mc) (hn : n ≤ ms) (p : P (some (.float z)) μ) : VV a B (SP B D E μ) k n pc lv [.float z] := fun H locs ls a1 a2 _ =>
  r.end hk hn (W.fret h.exec h.bytes r.2 (fun t ht _ => ⟨⟨_, μ, rfl, p, by rw [ht]; exact a1⟩, a2.F ht⟩) a2.2.2 d (hlocks := h.unlocked))
end
/-- the mean of n ends whose sum is z; the share of k of n moments -/
def mnE (z n : Int) : UInt64 := if n = 0 then FP.dconst0 else FP.ddiv (FP.i2d (Int32.ofInt z)) (FP.i2d (Int32.ofInt n))
def shW (z n : Int) : UInt32 := if n = 0 then FP.fconst0 else FP.fdiv (FP.i2f (Int32.ofInt z)) (FP.i2f (Int32.ofInt n))
/-- a number, and not 0 -/
def fpD (d : FP.Core.Datum) : Bool := match d with
  | .fin _ c _ => c != 0
  | _ => false
theorem fpD_is {d : FP.Core.Datum} (h : fpD d = true) : ∃ t c r, d = .fin t c r ∧ c ≠ 0 := by
  cases d with
  | nan => exact absurd h (by decide)
  | inf s => exact absurd h (by simp [fpD])
  | fin s c q => exact ⟨s, c, q, rfl, fun e => by subst e; exact absurd h (by simp [fpD])⟩
theorem den64 : ∀ k : Nat, k < 13 → 0 < k → fpD (FP.Core.decode FP.Core.b64 (FP.i2d (Int32.ofInt (k : Int))).toNat) = true := by decide +kernel
theorem den32 : ∀ k : Nat, k < 2305 → 0 < k → fpD (FP.Core.decode FP.Core.b32 (FP.i2f (Int32.ofInt (k : Int))).toNat) = true := by decide +kernel
theorem fpG_64 {n : Nat} (h : fpG FP.Core.b64 n) : fpG FP.Core.b64 (UInt64.ofNat n).toNat := by
  unfold fpG at *
  rw [UInt64.toNat_ofNat', Nat.mod_mod_of_dvd _ ⟨2, by decide⟩]
  exact h
theorem fpG_32 {n : Nat} (h : fpG FP.Core.b32 n) : fpG FP.Core.b32 (UInt32.ofNat n).toNat := by
  unfold fpG at *
  rw [UInt32.toNat_ofNat', Nat.mod_mod_of_dvd _ ⟨2, by decide⟩]
  exact h
theorem num64 (x : Int32) : FP.Core.decode FP.Core.b64 (FP.i2d x).toNat ≠ .nan := good_dec (Or.inr rfl) (fpG_64 (round_good (Or.inr rfl) (fun z => FP.Core.Datum.noConfusion z)))
theorem num32 (x : Int32) : FP.Core.decode FP.Core.b32 (FP.i2f x).toNat ≠ .nan := good_dec (Or.inl rfl) (fpG_32 (round_good (Or.inl rfl) (fun z => FP.Core.Datum.noConfusion z)))
theorem div_n64 (x : Int32) {k : Nat} (h1 : 0 < k) (h2 : k < 13) : vf_n64 (FP.ddiv (FP.i2d x) (FP.i2d (Int32.ofInt (k : Int)))) := n64_of (quot_good (Or.inr rfl) (num64 x) (fpD_is (den64 k h2 h1)))
theorem div_n32 (x : Int32) {k : Nat} (h1 : 0 < k) (h2 : k < 2305) : vf_n32 (FP.fdiv (FP.i2f x) (FP.i2f (Int32.ofInt (k : Int)))) := n32_of (quot_good (Or.inl rfl) (num32 x) (fpD_is (den32 k h2 h1)))
section
variable {l : Launch} {B : Nat} {D : va_G} {E : Nat → ClassId} {μ m σ : Mm} {w n : Nat} {K : Nat → Int} {s : St} {J : Mm}
theorem c_X11_workShare (hst : l.stackTraces = false) (hO : hOK μ) :
    Ct l B D E yX11_workShare (.code yX11_workShare cX11_workShare 1 (some .float)) rm_X11_workShare [.ref (pl B 0)] μ (PX (rcN (μ 0 7)) (some (.float (shW (cntW (μ 49) (μ 47 0).toNat) (μ 47 0)))) μ) (XX (rcN (μ 0 7)) [eS] μ) := by
  have hrn := hO.h
  refine ct_of (own := RX11) (lv := [(0, _)]) hst (by decide) rfl rfl (Nat.le_of_ble_eq_true rfl) fun a h r t => ?_
  refine v_aload_n (pc := 0) h (dk dt_X11_workShare 0 rfl) rfl ?_
  refine v_callVX (pc := 1) h (c_X11_needRun h.quiet hrn) kv_X11_needRun sh0 wM_X11_137 rfl rfl (Nat.le_of_ble_eq_true rfl) (RM.of rfl) (dk dt_X11_workShare 1 rfl) (fun e1 μ1 p1 => ?_) (fun v1 μ1 p1 => ?_)
  ·
    obtain ⟨rfl, rfl, q1⟩ := p1
    exact v_out h r t (Nat.le_of_ble_eq_true rfl) (Nat.le_of_ble_eq_true rfl) ⟨⟨0, by unfold rcN; rw [if_pos q1]; rfl, rfl⟩, rfl⟩
  ·
    obtain ⟨rfl, e1, q1⟩ := p1
    rw [e1]
    have hR := hO.R q1
    have hC := hR.1.1
    obtain ⟨T, hT⟩ : ∃ T : Nat, μ 47 0 = (T : Int) := ⟨(μ 47 0).toNat, by omega⟩
    rw [hT] at r
    refine v_aload_n (pc := 4) h (dk dt_X11_workShare 2 rfl) rfl ?_
    refine v_getr (pc := 5) h ci11 sh0 (Nat.le_of_ble_eq_true rfl) (j := 3) wF_X11_35 rfl (dk dt_X11_workShare 3 rfl) ?_
    refine v_getr (pc := 8) h ci10 hd28 (Nat.le_of_ble_eq_true rfl) (j := 1) wF_X11_125 rfl (dk dt_X11_workShare 4 rfl) ?_
    refine v_geti (pc := 11) h ci0 hd47 (Nat.le_of_ble_eq_true rfl) (j := 0) wF_X11_129 rfl (dk dt_X11_workShare 5 rfl) ?_
    rw [hT]
    refine v_if_ne (pc := 14) h 19 (dk dt_X11_workShare 6 rfl) rfl (by omega) (fun c14 => ?_) (fun c14 => ?_)
    ·
      refine v_aload_n (pc := 19) h (dk dt_X11_workShare 9 rfl) rfl ?_
      refine v_getr (pc := 20) h ci11 sh0 (Nat.le_of_ble_eq_true rfl) (j := 3) wF_X11_35 rfl (dk dt_X11_workShare 10 rfl) ?_
      refine v_getr (pc := 23) h ci10 hd28 (Nat.le_of_ble_eq_true rfl) (j := 1) wF_X11_125 rfl (dk dt_X11_workShare 11 rfl) ?_
      refine v_cVi (pc := 26) h (c_X0_countWork h.quiet (W_course W28) hR.1) kv_X0_countWork hd47 wM_X11_226 rfl rfl (Nat.le_of_ble_eq_true rfl) (RM.of rfl) rfl rfl (dk dt_X11_workShare 12 rfl) ?_
      rw [hT]
      refine v_i2f (pc := 29) h (dk dt_X11_workShare 13 rfl) ?_
      refine v_aload_n (pc := 30) h (dk dt_X11_workShare 14 rfl) rfl ?_
      refine v_getr (pc := 31) h ci11 sh0 (Nat.le_of_ble_eq_true rfl) (j := 3) wF_X11_35 rfl (dk dt_X11_workShare 15 rfl) ?_
      refine v_getr (pc := 34) h ci10 hd28 (Nat.le_of_ble_eq_true rfl) (j := 1) wF_X11_125 rfl (dk dt_X11_workShare 16 rfl) ?_
      refine v_geti (pc := 37) h ci0 hd47 (Nat.le_of_ble_eq_true rfl) (j := 0) wF_X11_129 rfl (dk dt_X11_workShare 17 rfl) ?_
      rw [hT]
      refine v_i2f (pc := 40) h (dk dt_X11_workShare 18 rfl) ?_
      refine v_fdiv (pc := 41) h (dk dt_X11_workShare 19 rfl) (div_n32 _ (by omega) (by omega)) ?_
      exact v_fret (pc := 42) h r (dk dt_X11_workShare 20 rfl) (Nat.le_of_ble_eq_true rfl) (Nat.le_of_ble_eq_true rfl) ⟨rcN_0 q1, by unfold shW; rw [if_neg (by omega)], rfl⟩
    ·
      refine v_fconst0 (pc := 17) h (dk dt_X11_workShare 7 rfl) ?_
      exact v_fret (pc := 18) h r (dk dt_X11_workShare 8 rfl) (Nat.le_of_ble_eq_true rfl) (Nat.le_of_ble_eq_true rfl) ⟨rcN_0 q1, by unfold shW; rw [if_pos (by omega)], rfl⟩
end
