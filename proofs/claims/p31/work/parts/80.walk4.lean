/-! ===== the law's walk through a run: all of it ===== -/
theorem fcmp_self {x : UInt32} (hx : FP.Core.decode FP.Core.b32 x.toNat ≠ .nan) (op : CmpOp) : Op.cmpValue (FP.fcmp x x) op = 0 := by
  have e : FP.fcmp x x = some .eq := by
    show FP.Core.order (FP.Core.decode FP.Core.b32 x.toNat) (FP.Core.decode FP.Core.b32 x.toNat) = some .eq
    cases q : FP.Core.decode FP.Core.b32 x.toNat with
    | nan => exact absurd q hx
    | inf s => simp [FP.Core.order]
    | fin s c r => simp [FP.Core.order]
  rw [e]
  cases op <;> rfl
theorem shW_dec {z n : Int} (h : 0 ≤ n ∧ n ≤ 2304) : FP.Core.decode FP.Core.b32 (shW z n).toNat ≠ .nan := by
  unfold shW
  by_cases e : n = 0
  · rw [if_pos e]; decide +kernel
  · rw [if_neg e]
    have hd := den32 n.toNat (by omega) (by omega)
    rw [show ((n.toNat : Nat) : Int) = n by omega] at hd
    exact good_dec (Or.inl rfl) (fpG_32 (quot_good (Or.inl rfl) (num32 _) (fpD_is hd)))
section
variable {a : Ax} {B : Nat} {D : va_G} {E : Nat → ClassId} {own : String} {cc : ByteArray} {nL : Nat} {rm : Room} {k n pc : Nat} {lv : List (Nat × Value)} {st : List Value} {Pq : Heap → Prop}
/-- two floats that are the same number -/
theorem v_fcmpS (h : Ac a B D E own cc nL rm) {x y : UInt32} {op : CmpOp} (e : x = y ∧ FP.Core.decode FP.Core.b32 x.toNat ≠ .nan) (d : decode cc pc = .ok (.fcmp op, 1)) (q : VV a B Pq k n (pc + 1) lv (iI 0 :: st)) : VV a B Pq k n pc lv (.float y :: .float x :: st) := fun H locs ls a1 a2 a3 => by
  obtain ⟨rfl, hx⟩ := e
  exact lv_fcmp h.exec h.bytes d (by rw [fcmp_self hx]; exact q H locs ls a1 a2 a3)
end
/-- behind a run the house is in order -/
theorem hOK_run {μ m : Mm} {n : Nat} {r : Int} (hO : hOK μ) (hn : μ 1 9 = (n : Int)) (hr : 0 ≤ r ∧ r ≤ 8) (f : ∀ a, a ≠ 0 → a < 28 ∨ 57 ≤ a → m a = μ a) (h7 : m 0 7 = 1) (hR : aR 28 n (kM μ r) (jm μ) (μ 27 3) m) : hOK m := by
  have hW := hO.W
  have hK : okK (kM μ r) := okK_kof hr hW.1 hW.2.1 hW.2.2.2 hW.2.2.1
  have ha := aR_is (okJD hO.J hn) hK hR
  refine ⟨?_, ?_, ?_, Or.inr h7, fun _ => ⟨ha.1, fun j hj => ?_⟩⟩
  · unfold okJ
    rw [f 3 (by decide) (by decide), f 5 (by decide) (by decide), f 7 (by decide) (by decide), f 9 (by decide) (by decide), f 11 (by decide) (by decide), f 13 (by decide) (by decide), f 15 (by decide) (by decide), f 17 (by decide) (by decide), f 19 (by decide) (by decide), f 2 (by decide) (by decide), f 1 (by decide) (by decide)]
    exact hO.J
  · unfold okTk; rw [f 22 (by decide) (by decide), f 24 (by decide) (by decide), f 26 (by decide) (by decide), f 20 (by decide) (by decide)]; exact hO.T
  · unfold okWy; rw [f 27 (by decide) (by decide)]; exact hO.W
  · rw [f 1 (by decide) (by decide), hn] at hj
    have := ha.2.2.2 j (by omega)
    rw [f 3 (by decide) (by decide)]
    exact ⟨⟨this.1.2.1, this.1.2.2⟩, this.2.1.2, this.2.2.2⟩
/-- what the law finds behind a walk: the sum of ends, whether all deadlines are kept, .. -/
def PW (μ : Mm) (n : Nat) (J : Mm) (K : Nat → Int) (z : Int) (m : Mm) : Prop :=
  hOK m ∧ m 0 7 = 1 ∧ (∀ a, a ≠ 0 → a < 28 ∨ 123 ≤ a → a ≠ 124 → a ≠ 125 → a ≠ 126 → m a = μ a) ∧ (∀ k c, k < n → c < 20 → m 124 (60 * k + c) = μ 124 (60 * k + c)) ∧
  (∃ T : Nat, T ≤ 2264 ∧ (fnF J n K z).1 6 6 = (T : Int) ∧ m 126 0 = (T : Int) ∧ ∀ t, t < T → m 125 t = (fnF J n K z).1 7 t) ∧ m 126 1 = sumE J n K z ∧ m 126 3 = (if lateE J n K z = 0 then 1 else 0) ∧
  ∀ k, k < n → m 124 (60 * k + 21) = (fnF J n K z).1 1 k ∧ m 44 k = (fnF J n K z).1 1 k ∧ m 30 k = (fnF J n K z).1 4 k
section
variable {a : Ax} {B : Nat} {D : va_G} {E : Nat → ClassId} {J : Mm} {n : Nat} {K : Nat → Int} {g : Nat → Int} {m m1 : Mm} {s s' : St} {t T : Nat} {z : Int} {l : Launch} {μ : Mm} {P : Pv} {X : Px}
theorem w_loop (h : Ac a B D E RL cL_walks 20 rm_L_walks) (hX : WX J n K T g m1) (hR : RunT J n K z T) (hg : (fnF J n K z).1 7 = g)
    (next : ∀ m, WIm J n g m1 m T T ((itN J n K z T).1 0) ((itN J n K z T).1 1) ((itN J n K z T).1 2) ((itN J n K z T).1 5) → VV a B (SP B D E m) 20 120 607 [(14, iI (T : Int)), (13, iI (cntB g T)), (12, iI (cntW g T)), (11, iI (ckS g T)), (7, iI (T : Int)), (0, .ref (pl B 0)), (1, .ref (pl B 124)), (2, iI (n : Int)), (3, iI (K 0)), (4, iI (K 2)), (5, .ref (pl B 125)), (6, .ref (pl B 126))] []) :
    ∀ (d t : Nat) (m : Mm), t + d = T → WIm J n g m1 m t t ((itN J n K z t).1 0) ((itN J n K z t).1 1) ((itN J n K z t).1 2) ((itN J n K z t).1 5) → VV a B (SP B D E m) 20 120 112 [(14, iI (t : Int)), (13, iI (cntB g t)), (12, iI (cntW g t)), (11, iI (ckS g t)), (10, iI (chgN g t)), (9, iI (lstN g t)), (8, iI (ufN ((itN J n K z t).1 0) n)), (7, iI (T : Int)), (0, .ref (pl B 0)), (1, .ref (pl B 124)), (2, iI (n : Int)), (3, iI (K 0)), (4, iI (K 2)), (5, .ref (pl B 125)), (6, .ref (pl B 126))] [] := by
  have hD := hX.2.1.1
  have hK := hX.2.1.2
  have hn12 : n ≤ 12 := by have := hD.1; omega
  intro d
  induction d with
  | zero =>
    intro t m ht hW
    have et : t = T := by omega
    subst et
    have hu := uf_le12 (a0 := (itN J n K z t).1 0) (n := n)
    have hB := uf_pos (a0 := (itN J n K z t).1 0) (n := n) (fun k hk => ((hR.2.2.2.2 t (Nat.le_refl _)).1.1.2 k hk).2.1.1)
    refine v_iload (pc := 112) h (dk dt_L_walks_1 13 rfl) rfl ?_
    refine v_if_le (pc := 114) h 607 (dk dt_L_walks_1 14 rfl) rfl (by omega) (fun c114 => ?_) (fun c114 => ?_)
    ·
      exact VV.loc (next m hW) ⟨rfl, rfl, rfl, rfl, rfl, rfl, rfl, rfl, rfl, rfl, rfl, rfl, trivial⟩
    ·
      exact absurd (hB.mp (by omega)) (fun q => q (fun k hk => hR.2.2.1 k hk))
  | succ d ih =>
    intro t m ht hW
    have htT : t < T := by omega
    obtain ⟨i1, i2, i3⟩ := run_ch hD hK hR t (by omega)
    have ho := hR.2.2.2.2 t (by omega)
    have hst := run_st hD hK hR htT
    have hl := run_left hD hK hR t (by omega)
    have hcost := run_cost hD hK hR htT
    rw [hg] at i1 i2 i3 hst hl hcost
    have hls : -1 ≤ lstN g t ∧ lstN g t < 12 := by
      have := ho.1.2.2.2.1.2.1
      rw [i1] at this
      omega
    refine w_moment h hX ho.1 ho.2.2 hst hl htT (hR.2.1 t htT) hcost hls i3 hW (fun m' hW' => ?_)
    refine v_iinc (lv' := [(14, _), (13, _), (12, _), (11, _), (10, _), (9, _), (8, _), (7, _), (0, _), (1, _), (2, _), (3, _), (4, _), (5, _), (6, _)]) (pc := 601) h (dk dt_L_walks_5 51 rfl) rfl (Nat.le_of_ble_eq_true rfl) rfl ?_
    refine v_goto (pc := 604) h 112 (dk dt_L_walks_5 52 rfl) rfl ?_
    exact VV.loc (ih (t + 1) m' (by omega) hW') ⟨rfl, rfl, rfl, rfl, rfl, rfl, rfl, rfl, rfl, rfl, rfl, rfl, rfl, rfl, rfl, trivial⟩
/-- the jobs, one by one, behind the run -/
theorem w_jobs (h : Ac a B D E RL cL_walks 20 rm_L_walks) (r : Rt a B D E (some .boolean) P X rm_L_walks.cells rm_L_walks.slots) {m : Mm} (hO : hOK m) (hn : m 1 9 = (n : Int)) (h7 : m 0 7 = 1) (hT : T ≤ 2264) (e47 : m 47 0 = (T : Int)) (hcw : cntW (m 49) T = cntW g T)
    (hk : ∀ k, k < n → m 124 (60 * k + 21) = m 44 k ∧ m 124 (60 * k + 23) = gapJ (m 49) (k : Int) (T - (m 46 k).toNat) (m 46 k).toNat ((m 46 k).toNat : Int) 0 ∧ m 124 (60 * k + 2) = m 7 k) (hp : P (some (iI 1)) m) :
    ∀ (d i kc ns : Nat), i + d = n → kc ≤ 100 + 24 * i → ns ≤ 600 + 144 * i → VV a B (SP B D E m) kc ns 712 [(16, iI (i : Int)), (15, iI 1), (14, iI (T : Int)), (12, iI (cntW g T)), (0, .ref (pl B 0)), (1, .ref (pl B 124)), (2, iI (n : Int))] [] := by
  have hn12 : n ≤ 12 := by have := hO.J.1; omega
  intro d
  induction d with
  | zero =>
    intro i kc ns hi hkc hns
    have esh1 : T ≠ 0 → shW (cntW (m 49) (m 47 0).toNat) (m 47 0) = FP.fdiv (FP.i2f (Int32.ofInt (cntW g T))) (FP.i2f (Int32.ofInt (T : Int))) := fun q => by
      rw [e47, Int.toNat_natCast, hcw]; unfold shW; rw [if_neg (by omega)]
    have esh0 : T = 0 → shW (cntW (m 49) (m 47 0).toNat) (m 47 0) = FP.fconst0 := fun q => by
      unfold shW; rw [if_pos (by omega)]
    have hdec := shW_dec (z := cntW (m 49) (m 47 0).toNat) (n := m 47 0) (by omega)
    refine v_iload (pc := 712) h (dk dt_L_walks_6 49 rfl) rfl ?_
    refine v_iload_n (pc := 714) h (dk dt_L_walks_6 50 rfl) rfl ?_
    refine v_icmp_ge (pc := 715) h 819 (dk dt_L_walks_6 51 rfl) rfl (by omega) (fun c715 => ?_) (fun c715 => ?_)
    ·
      refine v_iload (pc := 819) h (dk dt_L_walks_7 47 rfl) rfl ?_
      refine v_if_eq (pc := 821) h 852 (dk dt_L_walks_7 48 rfl) rfl (by omega) (fun c821 => ?_) (fun c821 => ?_)
      ·
        exact absurd c821 (by omega)
      ·
        refine v_aload_n (pc := 824) h (dk dt_L_walks_7 49 rfl) rfl ?_
        refine v_callVX (pc := 825) h (c_X11_workShare h.quiet hO) kv_X11_workShare sh0 wM_L_125 rfl rfl (Nat.le_of_ble_eq_true rfl) ⟨⟨Nat.le_of_ble_eq_true rfl, Nat.le_of_ble_eq_true rfl⟩, by show kc + 1 ≤ 400; omega, by show ns + 6 ≤ 2400; omega⟩ (dk dt_L_walks_7 50 rfl) (fun e825 μ825 p825 => ?_) (fun v825 μ825 p825 => ?_)
        ·
          exfalso
          obtain ⟨⟨i2, q1, -⟩, -⟩ := p825
          rw [rcN_0 h7] at q1; omega
        ·
          obtain ⟨-, rfl, rfl⟩ := p825
          refine v_iload (pc := 828) h (dk dt_L_walks_7 51 rfl) rfl ?_
          refine v_if_ne (pc := 830) h 837 (dk dt_L_walks_7 52 rfl) rfl (by omega) (fun c830 => ?_) (fun c830 => ?_)
          ·
            refine v_iload (pc := 837) h (dk dt_L_walks_7 55 rfl) rfl ?_
            refine v_i2f (pc := 839) h (dk dt_L_walks_7 56 rfl) ?_
            refine v_iload (pc := 840) h (dk dt_L_walks_7 57 rfl) rfl ?_
            refine v_i2f (pc := 842) h (dk dt_L_walks_7 58 rfl) ?_
            refine v_fdiv (pc := 843) h (dk dt_L_walks_7 59 rfl) (div_n32 _ (by omega) (by omega)) ?_
            refine v_fcmpS (pc := 844) h (by first | exact ⟨esh1 (by omega), hdec⟩ | exact ⟨esh0 (by omega), hdec⟩) (dk dt_L_walks_7 60 rfl) ?_
            refine v_if_ne (pc := 845) h 852 (dk dt_L_walks_7 61 rfl) rfl (by omega) (fun c845 => ?_) (fun c845 => ?_)
            ·
              exact absurd rfl c845
            ·
              refine v_iconst (pc := 848) h (dk dt_L_walks_7 62 rfl) ?_
              refine v_goto (pc := 849) h 853 (dk dt_L_walks_7 63 rfl) rfl ?_
              exact v_zret (pc := 853) h r (dk dt_L_walks_8 1 rfl) (by show kc + 1 ≤ 400; omega) (by show ns + 6 ≤ 2400; omega) (by omega) hp
          ·
            refine v_fconst0 (pc := 833) h (dk dt_L_walks_7 53 rfl) ?_
            refine v_goto (pc := 834) h 844 (dk dt_L_walks_7 54 rfl) rfl ?_
            refine v_fcmpS (pc := 844) h (by first | exact ⟨esh1 (by omega), hdec⟩ | exact ⟨esh0 (by omega), hdec⟩) (dk dt_L_walks_7 60 rfl) ?_
            refine v_if_ne (pc := 845) h 852 (dk dt_L_walks_7 61 rfl) rfl (by omega) (fun c845 => ?_) (fun c845 => ?_)
            ·
              exact absurd rfl c845
            ·
              refine v_iconst (pc := 848) h (dk dt_L_walks_7 62 rfl) ?_
              refine v_goto (pc := 849) h 853 (dk dt_L_walks_7 63 rfl) rfl ?_
              exact v_zret (pc := 853) h r (dk dt_L_walks_8 1 rfl) (by show kc + 1 ≤ 400; omega) (by show ns + 6 ≤ 2400; omega) (by omega) hp
    ·
      exact absurd c715 (by omega)
  | succ d ih =>
    intro i kc ns hi hkc hns
    have hin : i < n := by omega
    obtain ⟨k21, k23, k2⟩ := hk i hin
    have e21 : m 124 (60 * (i : Int) + 21).toNat = m 44 i := by rw [show (60 * (i : Int) + 21).toNat = 60 * i + 21 by omega]; exact k21
    have e23 : m 124 (60 * (i : Int) + 23).toNat = gapJ (m 49) (i : Int) (T - (m 46 i).toNat) (m 46 i).toNat ((m 46 i).toNat : Int) 0 := by rw [show (60 * (i : Int) + 23).toNat = 60 * i + 23 by omega]; exact k23
    have e2 : m 124 (60 * (i : Int) + 2).toNat = m 7 i := by rw [show (60 * (i : Int) + 2).toNat = 60 * i + 2 by omega]; exact k2
    have hd := (hO.J.2 i (by omega)).2.2.1
    have he := (hO.R h7).2 i (by omega)
    have hc := (hO.J.2 i (by omega)).1
    have el0 : m 7 i = 0 → lat (m 7 (i : Int).toNat) (m 44 (i : Int).toNat) = 0 := fun q => by rw [Int.toNat_natCast]; unfold lat; rw [if_pos q]
    have el1 : m 7 i ≠ 0 → lat (m 7 (i : Int).toNat) (m 44 (i : Int).toNat) = if 0 < m 44 i - m 7 i then m 44 i - m 7 i else 0 := fun q => by rw [Int.toNat_natCast]; unfold lat; rw [if_neg q]
    have hrc : rcJ (m 1 9) (m 0 7) (i : Int) = 0 := by unfold rcJ; rw [if_neg (by omega), if_neg (by omega)]
    refine v_iload (pc := 712) h (dk dt_L_walks_6 49 rfl) rfl ?_
    refine v_iload_n (pc := 714) h (dk dt_L_walks_6 50 rfl) rfl ?_
    refine v_icmp_ge (pc := 715) h 819 (dk dt_L_walks_6 51 rfl) rfl (by omega) (fun c715 => ?_) (fun c715 => ?_)
    ·
      exact absurd c715 (by omega)
    ·
      refine v_iload (pc := 718) h (dk dt_L_walks_6 52 rfl) rfl ?_
      refine v_if_eq (pc := 720) h 819 (dk dt_L_walks_6 53 rfl) rfl (by omega) (fun c720 => ?_) (fun c720 => ?_)
      ·
        exact absurd c720 (by omega)
      ·
        refine v_bipush (pc := 723) h (dk dt_L_walks_6 54 rfl) rfl ?_
        refine v_iload (pc := 725) h (dk dt_L_walks_6 55 rfl) rfl ?_
        refine v_imul (pc := 727) h (dk dt_L_walks_6 56 rfl) ?_
        refine v_istore (lv' := [(17, _), (16, _), (15, _), (14, _), (12, _), (0, _), (1, _), (2, _)]) (pc := 728) h (dk dt_L_walks_6 57 rfl) (Nat.le_of_ble_eq_true rfl) rfl ?_
        refine v_aload_n (pc := 730) h (dk dt_L_walks_6 58 rfl) rfl ?_
        refine v_iconst (pc := 731) h (dk dt_L_walks_6 59 rfl) ?_
        refine v_iload (pc := 732) h (dk dt_L_walks_6 60 rfl) rfl ?_
        refine v_iconst (pc := 734) h (dk dt_L_walks_6 61 rfl) ?_
        refine v_iconst (pc := 735) h (dk dt_L_walks_6 62 rfl) ?_
        refine v_iconst (pc := 736) h (dk dt_L_walks_6 63 rfl) ?_
        refine v_callH (pc := 737) h (d_end h.quiet hO (by omega)) kh_L_done wM_L_84 rfl rfl (Nat.le_of_ble_eq_true rfl) ⟨⟨Nat.le_of_ble_eq_true rfl, Nat.le_of_ble_eq_true rfl⟩, by show kc + 20 ≤ 400; omega, by show ns + 120 ≤ 2400; omega⟩ (dk dt_L_walks_7 0 rfl) (fun v737 μ737 p737 => ?_)
        rcases p737 with ⟨-, rfl, rfl⟩ | ⟨q, -, -⟩
        case inr => exact absurd hrc q
        rw [Int.toNat_natCast]
        refine v_aload_n (pc := 740) h (dk dt_L_walks_7 1 rfl) rfl ?_
        refine v_iload (pc := 741) h (dk dt_L_walks_7 2 rfl) rfl ?_
        refine v_bipush (pc := 743) h (dk dt_L_walks_7 3 rfl) rfl ?_
        refine v_iadd (pc := 745) h (dk dt_L_walks_7 4 rfl) ?_
        refine v_iald (pc := 746) h sh124 (Nat.le_of_ble_eq_true rfl) (by omega) (dk dt_L_walks_7 5 rfl) ?_
        rw [e21]
        refine v_icmp_neS (pc := 747) h 810 (dk dt_L_walks_7 6 rfl) rfl ?_
        refine v_aload_n (pc := 750) h (dk dt_L_walks_7 7 rfl) rfl ?_
        refine v_iload (pc := 751) h (dk dt_L_walks_7 8 rfl) rfl ?_
        refine v_callVX (pc := 753) h (c_X11_waits h.quiet hO (by omega)) kv_X11_waits sh0 wM_L_119 rfl rfl (Nat.le_of_ble_eq_true rfl) ⟨⟨Nat.le_of_ble_eq_true rfl, Nat.le_of_ble_eq_true rfl⟩, by show kc + 20 + (2) ≤ 400; omega, by show ns + 120 + (12) ≤ 2400; omega⟩ (dk dt_L_walks_7 9 rfl) (fun e753 μ753 p753 => ?_) (fun v753 μ753 p753 => ?_)
        ·
          exfalso
          obtain ⟨⟨i2, q1, -⟩, -⟩ := p753
          rw [hrc] at q1; omega
        ·
          obtain ⟨-, rfl, rfl⟩ := p753
          rw [Int.toNat_natCast, e47, Int.toNat_natCast]
          refine v_aload_n (pc := 756) h (dk dt_L_walks_7 10 rfl) rfl ?_
          refine v_iload (pc := 757) h (dk dt_L_walks_7 11 rfl) rfl ?_
          refine v_bipush (pc := 759) h (dk dt_L_walks_7 12 rfl) rfl ?_
          refine v_iadd (pc := 761) h (dk dt_L_walks_7 13 rfl) ?_
          refine v_iald (pc := 762) h sh124 (Nat.le_of_ble_eq_true rfl) (by omega) (dk dt_L_walks_7 14 rfl) ?_
          rw [e23]
          refine v_icmp_neS (pc := 763) h 810 (dk dt_L_walks_7 15 rfl) rfl ?_
          refine v_aload_n (pc := 766) h (dk dt_L_walks_7 16 rfl) rfl ?_
          refine v_iload (pc := 767) h (dk dt_L_walks_7 17 rfl) rfl ?_
          refine v_callVX (pc := 769) h (c_X11_late h.quiet hO (by omega)) kv_X11_late sh0 wM_L_122 rfl rfl (Nat.le_of_ble_eq_true rfl) ⟨⟨Nat.le_of_ble_eq_true rfl, Nat.le_of_ble_eq_true rfl⟩, by show kc + 22 + (2) ≤ 400; omega, by show ns + 132 + (12) ≤ 2400; omega⟩ (dk dt_L_walks_7 18 rfl) (fun e769 μ769 p769 => ?_) (fun v769 μ769 p769 => ?_)
          ·
            exfalso
            obtain ⟨⟨i2, q1, -⟩, -⟩ := p769
            rw [hrc] at q1; omega
          ·
            obtain ⟨-, rfl, rfl⟩ := p769
            refine v_aload_n (pc := 772) h (dk dt_L_walks_7 19 rfl) rfl ?_
            refine v_iload (pc := 773) h (dk dt_L_walks_7 20 rfl) rfl ?_
            refine v_iconst (pc := 775) h (dk dt_L_walks_7 21 rfl) ?_
            refine v_iadd (pc := 776) h (dk dt_L_walks_7 22 rfl) ?_
            refine v_iald (pc := 777) h sh124 (Nat.le_of_ble_eq_true rfl) (by omega) (dk dt_L_walks_7 23 rfl) ?_
            rw [e2]
            refine v_if_ne (pc := 778) h 785 (dk dt_L_walks_7 24 rfl) rfl (by omega) (fun c778 => ?_) (fun c778 => ?_)
            ·
              rw [el1 c778]
              refine v_iconst (pc := 785) h (dk dt_L_walks_7 27 rfl) ?_
              refine v_aload_n (pc := 786) h (dk dt_L_walks_7 28 rfl) rfl ?_
              refine v_iload (pc := 787) h (dk dt_L_walks_7 29 rfl) rfl ?_
              refine v_bipush (pc := 789) h (dk dt_L_walks_7 30 rfl) rfl ?_
              refine v_iadd (pc := 791) h (dk dt_L_walks_7 31 rfl) ?_
              refine v_iald (pc := 792) h sh124 (Nat.le_of_ble_eq_true rfl) (by omega) (dk dt_L_walks_7 32 rfl) ?_
              rw [e21]
              refine v_aload_n (pc := 793) h (dk dt_L_walks_7 33 rfl) rfl ?_
              refine v_iload (pc := 794) h (dk dt_L_walks_7 34 rfl) rfl ?_
              refine v_iconst (pc := 796) h (dk dt_L_walks_7 35 rfl) ?_
              refine v_iadd (pc := 797) h (dk dt_L_walks_7 36 rfl) ?_
              refine v_iald (pc := 798) h sh124 (Nat.le_of_ble_eq_true rfl) (by omega) (dk dt_L_walks_7 37 rfl) ?_
              rw [e2]
              refine v_isub (pc := 799) h (dk dt_L_walks_7 38 rfl) ?_
              refine v_max (pc := 800) h km_max wM_L_79 (by omega) (Nat.le_of_ble_eq_true rfl) ⟨Nat.le_of_ble_eq_true rfl, Nat.le_of_ble_eq_true rfl, by show kc + 24 ≤ 400; omega, by show ns + 144 ≤ 2400; omega⟩ (dk dt_L_walks_7 39 rfl) ?_
              refine v_icmp_neS (pc := 803) h 810 (dk dt_L_walks_7 40 rfl) rfl ?_
              refine v_iconst (pc := 806) h (dk dt_L_walks_7 41 rfl) ?_
              refine v_goto (pc := 807) h 811 (dk dt_L_walks_7 42 rfl) rfl ?_
              refine v_istore (lv' := [(15, _), (17, _), (16, _), (14, _), (12, _), (0, _), (1, _), (2, _)]) (pc := 811) h (dk dt_L_walks_7 44 rfl) (Nat.le_of_ble_eq_true rfl) rfl ?_
              refine v_iinc (lv' := [(16, _), (15, _), (17, _), (14, _), (12, _), (0, _), (1, _), (2, _)]) (pc := 813) h (dk dt_L_walks_7 45 rfl) rfl (Nat.le_of_ble_eq_true rfl) rfl ?_
              refine v_goto (pc := 816) h 712 (dk dt_L_walks_7 46 rfl) rfl ?_
              exact VV.loc (ih (i + 1) _ _ (by omega) (by show kc + _ + _ + _ ≤ _; simp only [rm_L_done, rm_X11_waits, rm_X11_late]; omega) (by simp only [rm_L_done, rm_X11_waits, rm_X11_late]; omega)) ⟨rfl, rfl, rfl, rfl, rfl, rfl, rfl, trivial⟩
            ·
              rw [el0 c778]
              refine v_iconst (pc := 781) h (dk dt_L_walks_7 25 rfl) ?_
              refine v_goto (pc := 782) h 803 (dk dt_L_walks_7 26 rfl) rfl ?_
              refine v_icmp_neS (pc := 803) h 810 (dk dt_L_walks_7 40 rfl) rfl ?_
              refine v_iconst (pc := 806) h (dk dt_L_walks_7 41 rfl) ?_
              refine v_goto (pc := 807) h 811 (dk dt_L_walks_7 42 rfl) rfl ?_
              refine v_istore (lv' := [(15, _), (17, _), (16, _), (14, _), (12, _), (0, _), (1, _), (2, _)]) (pc := 811) h (dk dt_L_walks_7 44 rfl) (Nat.le_of_ble_eq_true rfl) rfl ?_
              refine v_iinc (lv' := [(16, _), (15, _), (17, _), (14, _), (12, _), (0, _), (1, _), (2, _)]) (pc := 813) h (dk dt_L_walks_7 45 rfl) rfl (Nat.le_of_ble_eq_true rfl) rfl ?_
              refine v_goto (pc := 816) h 712 (dk dt_L_walks_7 46 rfl) rfl ?_
              exact VV.loc (ih (i + 1) _ _ (by omega) (by show kc + _ + _ + _ ≤ _; simp only [rm_L_done, rm_X11_waits, rm_X11_late]; omega) (by simp only [rm_L_done, rm_X11_waits, rm_X11_late]; omega)) ⟨rfl, rfl, rfl, rfl, rfl, rfl, rfl, trivial⟩
end
