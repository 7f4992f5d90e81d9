/-! ===== the law's wrappers: by program (genwrap.py) ===== -/
/-- what a wrapper answers: 0 and what is told, or which one is thrown -/
def PL (rc : Int) (Q : Mm → Prop) (μ : Mm) : Pv := fun w m => (rc = 0 ∧ w = some (iI 0) ∧ Q m) ∨ (rc ≠ 0 ∧ w = some (iI rc) ∧ m = μ)
theorem shW_dec {z n : Int} (h : 0 ≤ n ∧ n ≤ 2304) : FP.Core.decode FP.Core.b32 (shW z n).toNat ≠ .nan := by
  unfold shW
  by_cases e : n = 0
  · rw [if_pos e]; decide +kernel
  · rw [if_neg e]
    have hd := den32 n.toNat (by omega) (by omega)
    rw [show ((n.toNat : Nat) : Int) = n by omega] at hd
    exact good_dec (Or.inl rfl) (fpG_32 (quot_good (Or.inl rfl) (num32 _) (fpD_is hd)))
theorem mnE_dec {z n : Int} (h : 0 ≤ n ∧ n ≤ 12) : FP.Core.decode FP.Core.b64 (mnE z n).toNat ≠ .nan := by
  unfold mnE
  by_cases e : n = 0
  · rw [if_pos e]; decide +kernel
  · rw [if_neg e]
    have hd := den64 n.toNat (by omega) (by omega)
    rw [show ((n.toNat : Nat) : Int) = n by omega] at hd
    exact good_dec (Or.inr rfl) (fpG_64 (quot_good (Or.inr rfl) (num64 _) (fpD_is hd)))
theorem f2d_is {x : UInt32} (h : FP.Core.decode FP.Core.b32 x.toNat ≠ .nan) : vf_n64 (FP.f2d x) ∧ FP.Core.decode FP.Core.b64 (FP.f2d x).toNat ≠ .nan := by
  have e : FP.f2d x = UInt64.ofNat (FP.Core.convert FP.Core.b32 FP.Core.b64 x.toNat) := by
    unfold FP.f2d
    rw [if_neg (by unfold FP.Core.fIsNaN FP.Core.isNaN; rw [decide_eq_false h]; decide)]
    rfl
  have g : fpG FP.Core.b64 (FP.Core.convert FP.Core.b32 FP.Core.b64 x.toNat) := round_good (Or.inr rfl) h
  rw [e]
  exact ⟨n64_of g, good_dec (Or.inr rfl) (fpG_64 g)⟩
theorem kh_L_job : KH RL yL_job cL_job 7 (some .int) [(0, 14, 17, 13), (0, 14, 21, 15)] 6 := ⟨⟨tsm 801 (by decide +kernel) rfl, wI_L, tsm 802 (by decide +kernel) rfl⟩, by decide +kernel⟩
theorem kh_L_after : KH RL yL_after cL_after 5 (some .int) [(0, 10, 13, 21), (0, 10, 17, 13)] 4 := ⟨⟨tsm 830 (by decide +kernel) rfl, wI_L, tsm 831 (by decide +kernel) rfl⟩, by decide +kernel⟩
theorem kh_L_lock : KH RL yL_lock cL_lock 7 (some .int) [(0, 14, 17, 21), (0, 14, 21, 13), (0, 14, 25, 15)] 6 := ⟨⟨tsm 867 (by decide +kernel) rfl, wI_L, tsm 868 (by decide +kernel) rfl⟩, by decide +kernel⟩
theorem kh_L_turns : KH RL yL_turns cL_turns 8 (some .int) [(0, 16, 19, 13)] 7 := ⟨⟨tsm 882 (by decide +kernel) rfl, wI_L, tsm 883 (by decide +kernel) rfl⟩, by decide +kernel⟩
theorem kh_L_run : KH RL yL_run cL_run 4 (some .int) [(0, 9, 12, 13)] 3 := ⟨⟨tsm 889 (by decide +kernel) rfl, wI_L, tsm 890 (by decide +kernel) rfl⟩, by decide +kernel⟩
theorem kh_L_running : KH RL yL_running cL_running 4 (some .int) [(0, 9, 12, 13), (0, 9, 15, 15)] 3 := ⟨⟨tsm 896 (by decide +kernel) rfl, wI_L, tsm 897 (by decide +kernel) rfl⟩, by decide +kernel⟩
theorem kh_L_left : KH RL yL_left cL_left 5 (some .int) [(0, 10, 13, 21), (0, 10, 17, 13), (0, 10, 21, 15)] 4 := ⟨⟨tsm 912 (by decide +kernel) rfl, wI_L, tsm 913 (by decide +kernel) rfl⟩, by decide +kernel⟩
theorem kh_L_work : KH RL yL_work cL_work 4 (some .int) [(0, 9, 12, 13), (0, 9, 15, 15)] 3 := ⟨⟨tsm 923 (by decide +kernel) rfl, wI_L, tsm 924 (by decide +kernel) rfl⟩, by decide +kernel⟩
theorem kh_L_end : KH RL yL_end cL_end 4 (some .int) [(0, 9, 12, 21), (0, 9, 15, 15)] 3 := ⟨⟨tsm 930 (by decide +kernel) rfl, wI_L, tsm 931 (by decide +kernel) rfl⟩, by decide +kernel⟩
theorem kh_L_sumOfEnds : KH RL yL_sumOfEnds cL_sumOfEnds 3 (some .int) [(0, 8, 11, 15)] 2 := ⟨⟨tsm 937 (by decide +kernel) rfl, wI_L, tsm 938 (by decide +kernel) rfl⟩, by decide +kernel⟩
theorem kh_L_waits : KH RL yL_waits cL_waits 4 (some .int) [(0, 9, 12, 21), (0, 9, 15, 15)] 3 := ⟨⟨tsm 944 (by decide +kernel) rfl, wI_L, tsm 945 (by decide +kernel) rfl⟩, by decide +kernel⟩
theorem kh_L_blocked : KH RL yL_blocked cL_blocked 4 (some .int) [(0, 9, 12, 21), (0, 9, 15, 15)] 3 := ⟨⟨tsm 951 (by decide +kernel) rfl, wI_L, tsm 952 (by decide +kernel) rfl⟩, by decide +kernel⟩
theorem kh_L_late : KH RL yL_late cL_late 4 (some .int) [(0, 9, 12, 21), (0, 9, 15, 15)] 3 := ⟨⟨tsm 958 (by decide +kernel) rfl, wI_L, tsm 959 (by decide +kernel) rfl⟩, by decide +kernel⟩
theorem kh_L_slowest : KH RL yL_slowest cL_slowest 4 (some .int) [(0, 9, 12, 15)] 3 := ⟨⟨tsm 966 (by decide +kernel) rfl, wI_L, tsm 967 (by decide +kernel) rfl⟩, by decide +kernel⟩
theorem kh_L_busy : KH RL yL_busy cL_busy 5 (some .int) [(0, 10, 13, 15), (0, 10, 17, 67)] 4 := ⟨⟨tsm 973 (by decide +kernel) rfl, wI_L, tsm 974 (by decide +kernel) rfl⟩, by decide +kernel⟩
theorem kh_L_checksum : KH RL yL_checksum cL_checksum 3 (some .int) [(0, 8, 11, 15)] 2 := ⟨⟨tsm 1012 (by decide +kernel) rfl, wI_L, tsm 1013 (by decide +kernel) rfl⟩, by decide +kernel⟩
theorem kh_L_which : KH RL yL_which cL_which 3 (some .int) [(0, 8, 11, 15)] 2 := ⟨⟨tsm 1019 (by decide +kernel) rfl, wI_L, tsm 1020 (by decide +kernel) rfl⟩, by decide +kernel⟩
theorem kh_L_isFeasible : KH RL yL_isFeasible cL_isFeasible 3 (some .int) [(0, 15, 18, 15)] 2 := ⟨⟨tsm 1030 (by decide +kernel) rfl, wI_L, tsm 1031 (by decide +kernel) rfl⟩, by decide +kernel⟩
theorem kh_L_full : KH RL yL_full cL_full 4 (some .int) [(0, 9, 12, 13)] 3 := ⟨⟨tsm 1037 (by decide +kernel) rfl, wI_L, tsm 1038 (by decide +kernel) rfl⟩, by decide +kernel⟩
theorem kh_L_task : KH RL yL_task cL_task 6 (some .int) [(0, 12, 15, 13), (0, 12, 19, 15)] 5 := ⟨⟨tsm 1041 (by decide +kernel) rfl, wI_L, tsm 1042 (by decide +kernel) rfl⟩, by decide +kernel⟩
theorem kh_L_response : KH RL yL_response cL_response 4 (some .int) [(0, 9, 12, 21)] 3 := ⟨⟨tsm 1053 (by decide +kernel) rfl, wI_L, tsm 1054 (by decide +kernel) rfl⟩, by decide +kernel⟩
theorem kh_L_meanEnd : KH RL yL_meanEnd cL_meanEnd 3 (some .int) [(0, 7, 10, 15)] 2 := ⟨⟨tsm 1069 (by decide +kernel) rfl, wI_L, tsm 1070 (by decide +kernel) rfl⟩, by decide +kernel⟩
theorem kh_L_workShare : KH RL yL_workShare cL_workShare 3 (some .int) [(0, 8, 11, 15)] 2 := ⟨⟨tsm 1076 (by decide +kernel) rfl, wI_L, tsm 1077 (by decide +kernel) rfl⟩, by decide +kernel⟩
section
variable {l : Launch} {B : Nat} {D : va_G} {E : Nat → ClassId} {μ m σ : Mm} {w n : Nat} {K : Nat → Int} {s : St} {J : Mm}
theorem w_job (hst : l.stackTraces = false) (hO : hOK μ) {c le d we : Int} (hc : InR c ∧ InR le) (hd : InR d ∧ InR we) :
    Ct l B D E yL_job (.codeWith yL_job cL_job 7 (some .int) [(0, 14, 17, 13), (0, 14, 21, 15)]) rm_L_job [.ref (pl B 0), iI c, iI le, iI d, iI we, .ref (pl B 151)] μ (PL (rcJob (μ 1 9) c le d we) (fun m1 => m1 = mup (mtell (mup μ 0 7 0) c le d we) 151 0 (w32 (μ 1 9))) μ) NX := by
  refine ctH_of (own := RL) (lv := [(0, _), (1, _), (2, _), (3, _), (4, _), (5, _)]) hst (by decide) rfl rfl (Nat.le_of_ble_eq_true rfl) fun a h r tab => ?_
  have x0 : rcJob (μ 1 9) c le d we = 1 → ∀ q : Nat, VV a B (SP B D E μ) 1 6 17 [(0, .ref (pl B 0)), (1, iI c), (2, iI le), (3, iI d), (4, iI we), (5, .ref (pl B 151))] [.ref q] := by
    intro hrc q
    refine v_astore (lv' := [(6, _), (0, _), (1, _), (2, _), (3, _), (4, _), (5, _)]) (pc := 17) h (dk dt_L_job 11 rfl) (Nat.le_of_ble_eq_true rfl) rfl ?_
    refine v_iconst (pc := 19) h (dk dt_L_job 12 rfl) ?_
    exact v_iret (pc := 20) h r (dk dt_L_job 13 rfl) (Nat.le_of_ble_eq_true rfl) (Nat.le_of_ble_eq_true rfl) (Or.inr ⟨by omega, by rw [hrc], rfl⟩)
  have x1 : rcJob (μ 1 9) c le d we = 2 → ∀ q : Nat, VV a B (SP B D E μ) 1 6 21 [(0, .ref (pl B 0)), (1, iI c), (2, iI le), (3, iI d), (4, iI we), (5, .ref (pl B 151))] [.ref q] := by
    intro hrc q
    refine v_astore (lv' := [(6, _), (0, _), (1, _), (2, _), (3, _), (4, _), (5, _)]) (pc := 21) h (dk dt_L_job 14 rfl) (Nat.le_of_ble_eq_true rfl) rfl ?_
    refine v_iconst (pc := 23) h (dk dt_L_job 15 rfl) ?_
    exact v_iret (pc := 24) h r (dk dt_L_job 16 rfl) (Nat.le_of_ble_eq_true rfl) (Nat.le_of_ble_eq_true rfl) (Or.inr ⟨by omega, by rw [hrc], rfl⟩)
  refine v_aload (pc := 0) h (dk dt_L_job 0 rfl) rfl ?_
  refine v_iconst (pc := 2) h (dk dt_L_job 1 rfl) ?_
  refine v_aload_n (pc := 3) h (dk dt_L_job 2 rfl) rfl ?_
  refine v_iload_n (pc := 4) h (dk dt_L_job 3 rfl) rfl ?_
  refine v_iload_n (pc := 5) h (dk dt_L_job 4 rfl) rfl ?_
  refine v_iload_n (pc := 6) h (dk dt_L_job 5 rfl) rfl ?_
  refine v_iload (pc := 7) h (dk dt_L_job 6 rfl) rfl ?_
  refine v_callVX (pc := 9) h (c_X11_job h.quiet hO hc hd) kv_X11_job sh0 wM_L_7 rfl rfl (Nat.le_of_ble_eq_true rfl) (RM.of rfl) (dk dt_L_job 7 rfl) (fun e9 μ9 p9 => ?_) (fun v9 μ9 p9 => ?_)
  ·
    obtain ⟨⟨i, h1, h2⟩, rfl⟩ := p9
    rcases i with _ | _ | i
    · have e9 := Option.some.inj h2; subst e9; exact v_catch h tab [] ⟨0, 14, 17, 13⟩ [⟨0, 14, 21, 15⟩] rfl (fun z hz => absurd hz List.not_mem_nil) rfl (by decide) wL_L_13 (by decide) 17 rfl (fun q => x0 (by omega) q)
    · have e9 := Option.some.inj h2; subst e9; exact v_catch h tab [⟨0, 14, 17, 13⟩] ⟨0, 14, 21, 15⟩ [] rfl (fun z hz => (List.mem_cons.mp hz).elim (fun e => by rw [e]; exact ⟨by decide, _, wL_L_13, by decide⟩) (fun hz => absurd hz List.not_mem_nil)) rfl (by decide) wL_L_15 (by decide) 21 rfl (fun q => x1 (by omega) q)
    · exact absurd h2 (by simp)
  ·
    obtain ⟨e, rfl, rfl⟩ := p9
    refine v_i2lw (pc := 12) h (dk dt_L_job 8 rfl) ?_
    refine v_last (pc := 13) h sh151 (Nat.le_of_ble_eq_true rfl) (by omega) (dk dt_L_job 9 rfl) ?_
    refine v_goto (pc := 14) h 25 (dk dt_L_job 10 rfl) rfl ?_
    refine v_iconst (pc := 25) h (dk dt_L_job 17 rfl) ?_
    exact v_iret (pc := 26) h r (dk dt_L_job 18 rfl) (Nat.le_of_ble_eq_true rfl) (Nat.le_of_ble_eq_true rfl) (Or.inl ⟨e, rfl, rfl⟩)
theorem w_after (hst : l.stackTraces = false) (hO : hOK μ) {j p : Int} (hj : InR j ∧ InR p) :
    Ct l B D E yL_after (.codeWith yL_after cL_after 5 (some .int) [(0, 10, 13, 21), (0, 10, 17, 13)]) rm_L_after [.ref (pl B 0), iI j, iI p, .ref (pl B 151)] μ (PL (rcAft (μ 1 9) j p) (fun m1 => m1 = mup (mup (mup μ 0 7 0) 11 j.toNat (((μ 11 j.toNat).toNat ||| 2 ^ p.toNat : Nat) : Int)) 151 0 (w32 (pcN ((μ 11 j.toNat).toNat ||| 2 ^ p.toNat) 12))) μ) NX := by
  refine ctH_of (own := RL) (lv := [(0, _), (1, _), (2, _), (3, _)]) hst (by decide) rfl rfl (Nat.le_of_ble_eq_true rfl) fun a h r tab => ?_
  have x0 : rcAft (μ 1 9) j p = 1 → ∀ q : Nat, VV a B (SP B D E μ) 3 18 13 [(0, .ref (pl B 0)), (1, iI j), (2, iI p), (3, .ref (pl B 151))] [.ref q] := by
    intro hrc q
    refine v_astore (lv' := [(4, _), (0, _), (1, _), (2, _), (3, _)]) (pc := 13) h (dk dt_L_after 9 rfl) (Nat.le_of_ble_eq_true rfl) rfl ?_
    refine v_iconst (pc := 15) h (dk dt_L_after 10 rfl) ?_
    exact v_iret (pc := 16) h r (dk dt_L_after 11 rfl) (Nat.le_of_ble_eq_true rfl) (Nat.le_of_ble_eq_true rfl) (Or.inr ⟨by omega, by rw [hrc], rfl⟩)
  have x1 : rcAft (μ 1 9) j p = 2 → ∀ q : Nat, VV a B (SP B D E μ) 3 18 17 [(0, .ref (pl B 0)), (1, iI j), (2, iI p), (3, .ref (pl B 151))] [.ref q] := by
    intro hrc q
    refine v_astore (lv' := [(4, _), (0, _), (1, _), (2, _), (3, _)]) (pc := 17) h (dk dt_L_after 12 rfl) (Nat.le_of_ble_eq_true rfl) rfl ?_
    refine v_iconst (pc := 19) h (dk dt_L_after 13 rfl) ?_
    exact v_iret (pc := 20) h r (dk dt_L_after 14 rfl) (Nat.le_of_ble_eq_true rfl) (Nat.le_of_ble_eq_true rfl) (Or.inr ⟨by omega, by rw [hrc], rfl⟩)
  refine v_aload_n (pc := 0) h (dk dt_L_after 0 rfl) rfl ?_
  refine v_iconst (pc := 1) h (dk dt_L_after 1 rfl) ?_
  refine v_aload_n (pc := 2) h (dk dt_L_after 2 rfl) rfl ?_
  refine v_iload_n (pc := 3) h (dk dt_L_after 3 rfl) rfl ?_
  refine v_iload_n (pc := 4) h (dk dt_L_after 4 rfl) rfl ?_
  refine v_callVX (pc := 5) h (c_X11_after h.quiet hO hj) kv_X11_after sh0 wM_L_17 rfl rfl (Nat.le_of_ble_eq_true rfl) (RM.of rfl) (dk dt_L_after 5 rfl) (fun e5 μ5 p5 => ?_) (fun v5 μ5 p5 => ?_)
  ·
    obtain ⟨⟨i, h1, h2⟩, rfl⟩ := p5
    rcases i with _ | _ | i
    · have e9 := Option.some.inj h2; subst e9; exact v_catch h tab [] ⟨0, 10, 13, 21⟩ [⟨0, 10, 17, 13⟩] rfl (fun z hz => absurd hz List.not_mem_nil) rfl (by decide) wL_L_21 (by decide) 13 rfl (fun q => x0 (by omega) q)
    · have e9 := Option.some.inj h2; subst e9; exact v_catch h tab [⟨0, 10, 13, 21⟩] ⟨0, 10, 17, 13⟩ [] rfl (fun z hz => (List.mem_cons.mp hz).elim (fun e => by rw [e]; exact ⟨by decide, _, wL_L_21, by decide⟩) (fun hz => absurd hz List.not_mem_nil)) rfl (by decide) wL_L_13 (by decide) 17 rfl (fun q => x1 (by omega) q)
    · exact absurd h2 (by simp)
  ·
    obtain ⟨e, rfl, rfl⟩ := p5
    refine v_i2lw (pc := 8) h (dk dt_L_after 6 rfl) ?_
    refine v_last (pc := 9) h sh151 (Nat.le_of_ble_eq_true rfl) (by omega) (dk dt_L_after 7 rfl) ?_
    refine v_goto (pc := 10) h 21 (dk dt_L_after 8 rfl) rfl ?_
    refine v_iconst (pc := 21) h (dk dt_L_after 15 rfl) ?_
    exact v_iret (pc := 22) h r (dk dt_L_after 16 rfl) (Nat.le_of_ble_eq_true rfl) (Nat.le_of_ble_eq_true rfl) (Or.inl ⟨e, rfl, rfl⟩)
theorem w_lock (hst : l.stackTraces = false) (hO : hOK μ) {j y f u : Int} (hj : InR j ∧ InR y) (hf : InR f ∧ InR u) :
    Ct l B D E yL_lock (.codeWith yL_lock cL_lock 7 (some .int) [(0, 14, 17, 21), (0, 14, 21, 13), (0, 14, 25, 15)]) rm_L_lock [.ref (pl B 0), iI j, iI y, iI f, iI u, .ref (pl B 151)] μ (PL (rcLk (μ 1 9) (μ 5) (μ 13) (μ 17) (μ 19) j y f u) (fun m1 => m1 = mup (mstretch (mup μ 0 7 0) j.toNat y f u) 151 0 (w32 (μ 13 j.toNat + 1))) μ) NX := by
  refine ctH_of (own := RL) (lv := [(0, _), (1, _), (2, _), (3, _), (4, _), (5, _)]) hst (by decide) rfl rfl (Nat.le_of_ble_eq_true rfl) fun a h r tab => ?_
  have x0 : rcLk (μ 1 9) (μ 5) (μ 13) (μ 17) (μ 19) j y f u = 1 → ∀ q : Nat, VV a B (SP B D E μ) 2 12 17 [(0, .ref (pl B 0)), (1, iI j), (2, iI y), (3, iI f), (4, iI u), (5, .ref (pl B 151))] [.ref q] := by
    intro hrc q
    refine v_astore (lv' := [(6, _), (0, _), (1, _), (2, _), (3, _), (4, _), (5, _)]) (pc := 17) h (dk dt_L_lock 11 rfl) (Nat.le_of_ble_eq_true rfl) rfl ?_
    refine v_iconst (pc := 19) h (dk dt_L_lock 12 rfl) ?_
    exact v_iret (pc := 20) h r (dk dt_L_lock 13 rfl) (Nat.le_of_ble_eq_true rfl) (Nat.le_of_ble_eq_true rfl) (Or.inr ⟨by omega, by rw [hrc], rfl⟩)
  have x1 : rcLk (μ 1 9) (μ 5) (μ 13) (μ 17) (μ 19) j y f u = 2 → ∀ q : Nat, VV a B (SP B D E μ) 2 12 21 [(0, .ref (pl B 0)), (1, iI j), (2, iI y), (3, iI f), (4, iI u), (5, .ref (pl B 151))] [.ref q] := by
    intro hrc q
    refine v_astore (lv' := [(6, _), (0, _), (1, _), (2, _), (3, _), (4, _), (5, _)]) (pc := 21) h (dk dt_L_lock 14 rfl) (Nat.le_of_ble_eq_true rfl) rfl ?_
    refine v_iconst (pc := 23) h (dk dt_L_lock 15 rfl) ?_
    exact v_iret (pc := 24) h r (dk dt_L_lock 16 rfl) (Nat.le_of_ble_eq_true rfl) (Nat.le_of_ble_eq_true rfl) (Or.inr ⟨by omega, by rw [hrc], rfl⟩)
  have x2 : rcLk (μ 1 9) (μ 5) (μ 13) (μ 17) (μ 19) j y f u = 3 → ∀ q : Nat, VV a B (SP B D E μ) 2 12 25 [(0, .ref (pl B 0)), (1, iI j), (2, iI y), (3, iI f), (4, iI u), (5, .ref (pl B 151))] [.ref q] := by
    intro hrc q
    refine v_astore (lv' := [(6, _), (0, _), (1, _), (2, _), (3, _), (4, _), (5, _)]) (pc := 25) h (dk dt_L_lock 17 rfl) (Nat.le_of_ble_eq_true rfl) rfl ?_
    refine v_iconst (pc := 27) h (dk dt_L_lock 18 rfl) ?_
    exact v_iret (pc := 28) h r (dk dt_L_lock 19 rfl) (Nat.le_of_ble_eq_true rfl) (Nat.le_of_ble_eq_true rfl) (Or.inr ⟨by omega, by rw [hrc], rfl⟩)
  refine v_aload (pc := 0) h (dk dt_L_lock 0 rfl) rfl ?_
  refine v_iconst (pc := 2) h (dk dt_L_lock 1 rfl) ?_
  refine v_aload_n (pc := 3) h (dk dt_L_lock 2 rfl) rfl ?_
  refine v_iload_n (pc := 4) h (dk dt_L_lock 3 rfl) rfl ?_
  refine v_iload_n (pc := 5) h (dk dt_L_lock 4 rfl) rfl ?_
  refine v_iload_n (pc := 6) h (dk dt_L_lock 5 rfl) rfl ?_
  refine v_iload (pc := 7) h (dk dt_L_lock 6 rfl) rfl ?_
  refine v_callVX (pc := 9) h (c_X11_lock h.quiet hO hj hf) kv_X11_lock sh0 wM_L_23 rfl rfl (Nat.le_of_ble_eq_true rfl) (RM.of rfl) (dk dt_L_lock 7 rfl) (fun e9 μ9 p9 => ?_) (fun v9 μ9 p9 => ?_)
  ·
    obtain ⟨⟨i, h1, h2⟩, rfl⟩ := p9
    rcases i with _ | _ | _ | i
    · have e9 := Option.some.inj h2; subst e9; exact v_catch h tab [] ⟨0, 14, 17, 21⟩ [⟨0, 14, 21, 13⟩, ⟨0, 14, 25, 15⟩] rfl (fun z hz => absurd hz List.not_mem_nil) rfl (by decide) wL_L_21 (by decide) 17 rfl (fun q => x0 (by omega) q)
    · have e9 := Option.some.inj h2; subst e9; exact v_catch h tab [⟨0, 14, 17, 21⟩] ⟨0, 14, 21, 13⟩ [⟨0, 14, 25, 15⟩] rfl (fun z hz => (List.mem_cons.mp hz).elim (fun e => by rw [e]; exact ⟨by decide, _, wL_L_21, by decide⟩) (fun hz => absurd hz List.not_mem_nil)) rfl (by decide) wL_L_13 (by decide) 21 rfl (fun q => x1 (by omega) q)
    · have e9 := Option.some.inj h2; subst e9; exact v_catch h tab [⟨0, 14, 17, 21⟩, ⟨0, 14, 21, 13⟩] ⟨0, 14, 25, 15⟩ [] rfl (fun z hz => (List.mem_cons.mp hz).elim (fun e => by rw [e]; exact ⟨by decide, _, wL_L_21, by decide⟩) (fun hz => (List.mem_cons.mp hz).elim (fun e => by rw [e]; exact ⟨by decide, _, wL_L_13, by decide⟩) (fun hz => absurd hz List.not_mem_nil))) rfl (by decide) wL_L_15 (by decide) 25 rfl (fun q => x2 (by omega) q)
    · exact absurd h2 (by simp)
  ·
    obtain ⟨e, rfl, rfl⟩ := p9
    refine v_i2lw (pc := 12) h (dk dt_L_lock 8 rfl) ?_
    refine v_last (pc := 13) h sh151 (Nat.le_of_ble_eq_true rfl) (by omega) (dk dt_L_lock 9 rfl) ?_
    refine v_goto (pc := 14) h 29 (dk dt_L_lock 10 rfl) rfl ?_
    refine v_iconst (pc := 29) h (dk dt_L_lock 20 rfl) ?_
    exact v_iret (pc := 30) h r (dk dt_L_lock 21 rfl) (Nat.le_of_ble_eq_true rfl) (Nat.le_of_ble_eq_true rfl) (Or.inl ⟨e, rfl, rfl⟩)
theorem w_turns (hst : l.stackTraces = false) (hO : hOK μ) {s c ri sd le : Int} (hs : InR s ∧ InR c) (hri : InR ri) (hle : le = 0 ∨ le = 1) :
    Ct l B D E yL_turns (.codeWith yL_turns cL_turns 8 (some .int) [(0, 16, 19, 13)]) rm_L_turns [.ref (pl B 0), iI s, iI c, iI ri, iI sd, iI le, .ref (pl B 151)] μ (PL (rcTn s c ri) (fun m1 => m1 = mup (mturn μ s c ri sd le) 151 0 (w32 (μ 27 0))) μ) NX := by
  refine ctH_of (own := RL) (lv := [(0, _), (1, _), (2, _), (3, _), (4, _), (5, _), (6, _)]) hst (by decide) rfl rfl (Nat.le_of_ble_eq_true rfl) fun a h r tab => ?_
  have x0 : rcTn s c ri = 1 → ∀ q : Nat, VV a B (SP B D E μ) 1 6 19 [(0, .ref (pl B 0)), (1, iI s), (2, iI c), (3, iI ri), (4, iI sd), (5, iI le), (6, .ref (pl B 151))] [.ref q] := by
    intro hrc q
    refine v_astore (lv' := [(7, _), (0, _), (1, _), (2, _), (3, _), (4, _), (5, _), (6, _)]) (pc := 19) h (dk dt_L_turns 12 rfl) (Nat.le_of_ble_eq_true rfl) rfl ?_
    refine v_iconst (pc := 21) h (dk dt_L_turns 13 rfl) ?_
    exact v_iret (pc := 22) h r (dk dt_L_turns 14 rfl) (Nat.le_of_ble_eq_true rfl) (Nat.le_of_ble_eq_true rfl) (Or.inr ⟨by omega, by rw [hrc], rfl⟩)
  refine v_aload (pc := 0) h (dk dt_L_turns 0 rfl) rfl ?_
  refine v_iconst (pc := 2) h (dk dt_L_turns 1 rfl) ?_
  refine v_aload_n (pc := 3) h (dk dt_L_turns 2 rfl) rfl ?_
  refine v_iload_n (pc := 4) h (dk dt_L_turns 3 rfl) rfl ?_
  refine v_iload_n (pc := 5) h (dk dt_L_turns 4 rfl) rfl ?_
  refine v_iload_n (pc := 6) h (dk dt_L_turns 5 rfl) rfl ?_
  refine v_iload (pc := 7) h (dk dt_L_turns 6 rfl) rfl ?_
  refine v_iload (pc := 9) h (dk dt_L_turns 7 rfl) rfl ?_
  refine v_callVX (pc := 11) h (c_X11_turns h.quiet hO hs hri hle) kv_X11_turns sh0 wM_L_26 rfl rfl (Nat.le_of_ble_eq_true rfl) (RM.of rfl) (dk dt_L_turns 8 rfl) (fun e11 μ11 p11 => ?_) (fun v11 μ11 p11 => ?_)
  ·
    obtain ⟨⟨i, h1, h2⟩, rfl⟩ := p11
    rcases i with _ | i
    · have e9 := Option.some.inj h2; subst e9; exact v_catch h tab [] ⟨0, 16, 19, 13⟩ [] rfl (fun z hz => absurd hz List.not_mem_nil) rfl (by decide) wL_L_13 (by decide) 19 rfl (fun q => x0 (by omega) q)
    · exact absurd h2 (by simp)
  ·
    obtain ⟨e, rfl, rfl⟩ := p11
    refine v_i2lw (pc := 14) h (dk dt_L_turns 9 rfl) ?_
    refine v_last (pc := 15) h sh151 (Nat.le_of_ble_eq_true rfl) (by omega) (dk dt_L_turns 10 rfl) ?_
    refine v_goto (pc := 16) h 23 (dk dt_L_turns 11 rfl) rfl ?_
    refine v_iconst (pc := 23) h (dk dt_L_turns 15 rfl) ?_
    exact v_iret (pc := 24) h r (dk dt_L_turns 16 rfl) (Nat.le_of_ble_eq_true rfl) (Nat.le_of_ble_eq_true rfl) (Or.inl ⟨e, rfl, rfl⟩)
theorem w_run (hst : l.stackTraces = false) (hO : hOK μ) (hn : μ 1 9 = (n : Int)) {ru : Int} (hru : InR ru) :
    Ct l B D E yL_run (.codeWith yL_run cL_run 4 (some .int) [(0, 9, 12, 13)]) rm_L_run [.ref (pl B 0), iI ru, .ref (pl B 151)] μ (PL (rcR1 ru) (fun m1 => ∃ m0 : Mm, (m0 0 7 = 1 ∧ (∀ a, a ≠ 0 → a < 28 ∨ 57 ≤ a → m0 a = μ a) ∧ aR 28 n (kM μ ru) (jm μ) (μ 27 3) m0) ∧ m1 = mup m0 151 0 (w32 (m0 47 0))) μ) NX := by
  refine ctH_of (own := RL) (lv := [(0, _), (1, _), (2, _)]) hst (by decide) rfl rfl (Nat.le_of_ble_eq_true rfl) fun a h r tab => ?_
  have x0 : rcR1 ru = 1 → ∀ q : Nat, VV a B (SP B D E μ) 1 6 12 [(0, .ref (pl B 0)), (1, iI ru), (2, .ref (pl B 151))] [.ref q] := by
    intro hrc q
    refine v_astore_n (lv' := [(3, _), (0, _), (1, _), (2, _)]) (pc := 12) h (dk dt_L_run 8 rfl) (Nat.le_of_ble_eq_true rfl) rfl ?_
    refine v_iconst (pc := 13) h (dk dt_L_run 9 rfl) ?_
    exact v_iret (pc := 14) h r (dk dt_L_run 10 rfl) (Nat.le_of_ble_eq_true rfl) (Nat.le_of_ble_eq_true rfl) (Or.inr ⟨by omega, by rw [hrc], rfl⟩)
  refine v_aload_n (pc := 0) h (dk dt_L_run 0 rfl) rfl ?_
  refine v_iconst (pc := 1) h (dk dt_L_run 1 rfl) ?_
  refine v_aload_n (pc := 2) h (dk dt_L_run 2 rfl) rfl ?_
  refine v_iload_n (pc := 3) h (dk dt_L_run 3 rfl) rfl ?_
  refine v_callVX (pc := 4) h (c_X11_run h.quiet hO hn hru) kv_X11_run sh0 wM_L_30 rfl rfl (Nat.le_of_ble_eq_true rfl) (RM.of rfl) (dk dt_L_run 4 rfl) (fun e4 μ4 p4 => ?_) (fun v4 μ4 p4 => ?_)
  ·
    obtain ⟨⟨i, h1, h2⟩, rfl⟩ := p4
    rcases i with _ | i
    · have e9 := Option.some.inj h2; subst e9; exact v_catch h tab [] ⟨0, 9, 12, 13⟩ [] rfl (fun z hz => absurd hz List.not_mem_nil) rfl (by decide) wL_L_13 (by decide) 12 rfl (fun q => x0 (by omega) q)
    · exact absurd h2 (by simp)
  ·
    obtain ⟨e, rfl, g1, g2, g3⟩ := p4
    refine v_i2lw (pc := 7) h (dk dt_L_run 5 rfl) ?_
    refine v_last (pc := 8) h sh151 (Nat.le_of_ble_eq_true rfl) (by omega) (dk dt_L_run 6 rfl) ?_
    refine v_goto (pc := 9) h 15 (dk dt_L_run 7 rfl) rfl ?_
    refine v_iconst (pc := 15) h (dk dt_L_run 11 rfl) ?_
    exact v_iret (pc := 16) h r (dk dt_L_run 12 rfl) (Nat.le_of_ble_eq_true rfl) (Nat.le_of_ble_eq_true rfl) (Or.inl ⟨e, rfl, ⟨μ4, ⟨g1, g2, g3⟩, rfl⟩⟩)
theorem w_running (hst : l.stackTraces = false) (hO : hOK μ) {z : Int} (hz : InR z) :
    Ct l B D E yL_running (.codeWith yL_running cL_running 4 (some .int) [(0, 9, 12, 13), (0, 9, 15, 15)]) rm_L_running [.ref (pl B 0), iI z, .ref (pl B 151)] μ (PL (rcM (μ 0 7) z) (fun m1 => m1 = mup (μ) 151 0 (w32 (doF (μ 49) (μ 47 0) z))) μ) NX := by
  refine ctH_of (own := RL) (lv := [(0, _), (1, _), (2, _)]) hst (by decide) rfl rfl (Nat.le_of_ble_eq_true rfl) fun a h r tab => ?_
  have x0 : rcM (μ 0 7) z = 1 → ∀ q : Nat, VV a B (SP B D E μ) 2 12 12 [(0, .ref (pl B 0)), (1, iI z), (2, .ref (pl B 151))] [.ref q] := by
    intro hrc q
    refine v_astore_n (lv' := [(3, _), (0, _), (1, _), (2, _)]) (pc := 12) h (dk dt_L_running 8 rfl) (Nat.le_of_ble_eq_true rfl) rfl ?_
    refine v_iconst (pc := 13) h (dk dt_L_running 9 rfl) ?_
    exact v_iret (pc := 14) h r (dk dt_L_running 10 rfl) (Nat.le_of_ble_eq_true rfl) (Nat.le_of_ble_eq_true rfl) (Or.inr ⟨by omega, by rw [hrc], rfl⟩)
  have x1 : rcM (μ 0 7) z = 2 → ∀ q : Nat, VV a B (SP B D E μ) 2 12 15 [(0, .ref (pl B 0)), (1, iI z), (2, .ref (pl B 151))] [.ref q] := by
    intro hrc q
    refine v_astore_n (lv' := [(3, _), (0, _), (1, _), (2, _)]) (pc := 15) h (dk dt_L_running 11 rfl) (Nat.le_of_ble_eq_true rfl) rfl ?_
    refine v_iconst (pc := 16) h (dk dt_L_running 12 rfl) ?_
    exact v_iret (pc := 17) h r (dk dt_L_running 13 rfl) (Nat.le_of_ble_eq_true rfl) (Nat.le_of_ble_eq_true rfl) (Or.inr ⟨by omega, by rw [hrc], rfl⟩)
  refine v_aload_n (pc := 0) h (dk dt_L_running 0 rfl) rfl ?_
  refine v_iconst (pc := 1) h (dk dt_L_running 1 rfl) ?_
  refine v_aload_n (pc := 2) h (dk dt_L_running 2 rfl) rfl ?_
  refine v_iload_n (pc := 3) h (dk dt_L_running 3 rfl) rfl ?_
  refine v_callVX (pc := 4) h (c_X11_running h.quiet hO hz) kv_X11_running sh0 wM_L_34 rfl rfl (Nat.le_of_ble_eq_true rfl) (RM.of rfl) (dk dt_L_running 4 rfl) (fun e4 μ4 p4 => ?_) (fun v4 μ4 p4 => ?_)
  ·
    obtain ⟨⟨i, h1, h2⟩, rfl⟩ := p4
    rcases i with _ | _ | i
    · have e9 := Option.some.inj h2; subst e9; exact v_catch h tab [] ⟨0, 9, 12, 13⟩ [⟨0, 9, 15, 15⟩] rfl (fun z hz => absurd hz List.not_mem_nil) rfl (by decide) wL_L_13 (by decide) 12 rfl (fun q => x0 (by omega) q)
    · have e9 := Option.some.inj h2; subst e9; exact v_catch h tab [⟨0, 9, 12, 13⟩] ⟨0, 9, 15, 15⟩ [] rfl (fun z hz => (List.mem_cons.mp hz).elim (fun e => by rw [e]; exact ⟨by decide, _, wL_L_13, by decide⟩) (fun hz => absurd hz List.not_mem_nil)) rfl (by decide) wL_L_15 (by decide) 15 rfl (fun q => x1 (by omega) q)
    · exact absurd h2 (by simp)
  ·
    obtain ⟨e, rfl, rfl⟩ := p4
    refine v_i2lw (pc := 7) h (dk dt_L_running 5 rfl) ?_
    refine v_last (pc := 8) h sh151 (Nat.le_of_ble_eq_true rfl) (by omega) (dk dt_L_running 6 rfl) ?_
    refine v_goto (pc := 9) h 18 (dk dt_L_running 7 rfl) rfl ?_
    refine v_iconst (pc := 18) h (dk dt_L_running 14 rfl) ?_
    exact v_iret (pc := 19) h r (dk dt_L_running 15 rfl) (Nat.le_of_ble_eq_true rfl) (Nat.le_of_ble_eq_true rfl) (Or.inl ⟨e, rfl, rfl⟩)
theorem w_left (hst : l.stackTraces = false) (hO : hOK μ) {j z : Int} (hj : InR j) (hz : InR z) :
    Ct l B D E yL_left (.codeWith yL_left cL_left 5 (some .int) [(0, 10, 13, 21), (0, 10, 17, 13), (0, 10, 21, 15)]) rm_L_left [.ref (pl B 0), iI j, iI z, .ref (pl B 151)] μ (PL (rcL (μ 1 9) (μ 0 7) j z) (fun m1 => m1 = mup (μ) 151 0 (w32 (lfF (μ 5) (μ 49) (μ 47 0) j.toNat z))) μ) NX := by
  refine ctH_of (own := RL) (lv := [(0, _), (1, _), (2, _), (3, _)]) hst (by decide) rfl rfl (Nat.le_of_ble_eq_true rfl) fun a h r tab => ?_
  have x0 : rcL (μ 1 9) (μ 0 7) j z = 1 → ∀ q : Nat, VV a B (SP B D E μ) 3 18 13 [(0, .ref (pl B 0)), (1, iI j), (2, iI z), (3, .ref (pl B 151))] [.ref q] := by
    intro hrc q
    refine v_astore (lv' := [(4, _), (0, _), (1, _), (2, _), (3, _)]) (pc := 13) h (dk dt_L_left 9 rfl) (Nat.le_of_ble_eq_true rfl) rfl ?_
    refine v_iconst (pc := 15) h (dk dt_L_left 10 rfl) ?_
    exact v_iret (pc := 16) h r (dk dt_L_left 11 rfl) (Nat.le_of_ble_eq_true rfl) (Nat.le_of_ble_eq_true rfl) (Or.inr ⟨by omega, by rw [hrc], rfl⟩)
  have x1 : rcL (μ 1 9) (μ 0 7) j z = 2 → ∀ q : Nat, VV a B (SP B D E μ) 3 18 17 [(0, .ref (pl B 0)), (1, iI j), (2, iI z), (3, .ref (pl B 151))] [.ref q] := by
    intro hrc q
    refine v_astore (lv' := [(4, _), (0, _), (1, _), (2, _), (3, _)]) (pc := 17) h (dk dt_L_left 12 rfl) (Nat.le_of_ble_eq_true rfl) rfl ?_
    refine v_iconst (pc := 19) h (dk dt_L_left 13 rfl) ?_
    exact v_iret (pc := 20) h r (dk dt_L_left 14 rfl) (Nat.le_of_ble_eq_true rfl) (Nat.le_of_ble_eq_true rfl) (Or.inr ⟨by omega, by rw [hrc], rfl⟩)
  have x2 : rcL (μ 1 9) (μ 0 7) j z = 3 → ∀ q : Nat, VV a B (SP B D E μ) 3 18 21 [(0, .ref (pl B 0)), (1, iI j), (2, iI z), (3, .ref (pl B 151))] [.ref q] := by
    intro hrc q
    refine v_astore (lv' := [(4, _), (0, _), (1, _), (2, _), (3, _)]) (pc := 21) h (dk dt_L_left 15 rfl) (Nat.le_of_ble_eq_true rfl) rfl ?_
    refine v_iconst (pc := 23) h (dk dt_L_left 16 rfl) ?_
    exact v_iret (pc := 24) h r (dk dt_L_left 17 rfl) (Nat.le_of_ble_eq_true rfl) (Nat.le_of_ble_eq_true rfl) (Or.inr ⟨by omega, by rw [hrc], rfl⟩)
  refine v_aload_n (pc := 0) h (dk dt_L_left 0 rfl) rfl ?_
  refine v_iconst (pc := 1) h (dk dt_L_left 1 rfl) ?_
  refine v_aload_n (pc := 2) h (dk dt_L_left 2 rfl) rfl ?_
  refine v_iload_n (pc := 3) h (dk dt_L_left 3 rfl) rfl ?_
  refine v_iload_n (pc := 4) h (dk dt_L_left 4 rfl) rfl ?_
  refine v_callVX (pc := 5) h (c_X11_left h.quiet hO hj hz) kv_X11_left sh0 wM_L_37 rfl rfl (Nat.le_of_ble_eq_true rfl) (RM.of rfl) (dk dt_L_left 5 rfl) (fun e5 μ5 p5 => ?_) (fun v5 μ5 p5 => ?_)
  ·
    obtain ⟨⟨i, h1, h2⟩, rfl⟩ := p5
    rcases i with _ | _ | _ | i
    · have e9 := Option.some.inj h2; subst e9; exact v_catch h tab [] ⟨0, 10, 13, 21⟩ [⟨0, 10, 17, 13⟩, ⟨0, 10, 21, 15⟩] rfl (fun z hz => absurd hz List.not_mem_nil) rfl (by decide) wL_L_21 (by decide) 13 rfl (fun q => x0 (by omega) q)
    · have e9 := Option.some.inj h2; subst e9; exact v_catch h tab [⟨0, 10, 13, 21⟩] ⟨0, 10, 17, 13⟩ [⟨0, 10, 21, 15⟩] rfl (fun z hz => (List.mem_cons.mp hz).elim (fun e => by rw [e]; exact ⟨by decide, _, wL_L_21, by decide⟩) (fun hz => absurd hz List.not_mem_nil)) rfl (by decide) wL_L_13 (by decide) 17 rfl (fun q => x1 (by omega) q)
    · have e9 := Option.some.inj h2; subst e9; exact v_catch h tab [⟨0, 10, 13, 21⟩, ⟨0, 10, 17, 13⟩] ⟨0, 10, 21, 15⟩ [] rfl (fun z hz => (List.mem_cons.mp hz).elim (fun e => by rw [e]; exact ⟨by decide, _, wL_L_21, by decide⟩) (fun hz => (List.mem_cons.mp hz).elim (fun e => by rw [e]; exact ⟨by decide, _, wL_L_13, by decide⟩) (fun hz => absurd hz List.not_mem_nil))) rfl (by decide) wL_L_15 (by decide) 21 rfl (fun q => x2 (by omega) q)
    · exact absurd h2 (by simp)
  ·
    obtain ⟨e, rfl, rfl⟩ := p5
    refine v_i2lw (pc := 8) h (dk dt_L_left 6 rfl) ?_
    refine v_last (pc := 9) h sh151 (Nat.le_of_ble_eq_true rfl) (by omega) (dk dt_L_left 7 rfl) ?_
    refine v_goto (pc := 10) h 25 (dk dt_L_left 8 rfl) rfl ?_
    refine v_iconst (pc := 25) h (dk dt_L_left 18 rfl) ?_
    exact v_iret (pc := 26) h r (dk dt_L_left 19 rfl) (Nat.le_of_ble_eq_true rfl) (Nat.le_of_ble_eq_true rfl) (Or.inl ⟨e, rfl, rfl⟩)
theorem w_work (hst : l.stackTraces = false) (hO : hOK μ) (hn : μ 1 9 = (n : Int)) {z : Int} (hz : InR z) :
    Ct l B D E yL_work (.codeWith yL_work cL_work 4 (some .int) [(0, 9, 12, 13), (0, 9, 15, 15)]) rm_L_work [.ref (pl B 0), iI z, .ref (pl B 151)] μ (PL (rcM (μ 0 7) z) (fun m1 => m1 = mup (μ) 151 0 (w32 (wkS (μ 3) (μ 5) (μ 49) (μ 47 0) z n))) μ) NX := by
  refine ctH_of (own := RL) (lv := [(0, _), (1, _), (2, _)]) hst (by decide) rfl rfl (Nat.le_of_ble_eq_true rfl) fun a h r tab => ?_
  have x0 : rcM (μ 0 7) z = 1 → ∀ q : Nat, VV a B (SP B D E μ) 2 12 12 [(0, .ref (pl B 0)), (1, iI z), (2, .ref (pl B 151))] [.ref q] := by
    intro hrc q
    refine v_astore_n (lv' := [(3, _), (0, _), (1, _), (2, _)]) (pc := 12) h (dk dt_L_work 8 rfl) (Nat.le_of_ble_eq_true rfl) rfl ?_
    refine v_iconst (pc := 13) h (dk dt_L_work 9 rfl) ?_
    exact v_iret (pc := 14) h r (dk dt_L_work 10 rfl) (Nat.le_of_ble_eq_true rfl) (Nat.le_of_ble_eq_true rfl) (Or.inr ⟨by omega, by rw [hrc], rfl⟩)
  have x1 : rcM (μ 0 7) z = 2 → ∀ q : Nat, VV a B (SP B D E μ) 2 12 15 [(0, .ref (pl B 0)), (1, iI z), (2, .ref (pl B 151))] [.ref q] := by
    intro hrc q
    refine v_astore_n (lv' := [(3, _), (0, _), (1, _), (2, _)]) (pc := 15) h (dk dt_L_work 11 rfl) (Nat.le_of_ble_eq_true rfl) rfl ?_
    refine v_iconst (pc := 16) h (dk dt_L_work 12 rfl) ?_
    exact v_iret (pc := 17) h r (dk dt_L_work 13 rfl) (Nat.le_of_ble_eq_true rfl) (Nat.le_of_ble_eq_true rfl) (Or.inr ⟨by omega, by rw [hrc], rfl⟩)
  refine v_aload_n (pc := 0) h (dk dt_L_work 0 rfl) rfl ?_
  refine v_iconst (pc := 1) h (dk dt_L_work 1 rfl) ?_
  refine v_aload_n (pc := 2) h (dk dt_L_work 2 rfl) rfl ?_
  refine v_iload_n (pc := 3) h (dk dt_L_work 3 rfl) rfl ?_
  refine v_callVX (pc := 4) h (c_X11_work h.quiet hO hn hz) kv_X11_work sh0 wM_L_40 rfl rfl (Nat.le_of_ble_eq_true rfl) (RM.of rfl) (dk dt_L_work 4 rfl) (fun e4 μ4 p4 => ?_) (fun v4 μ4 p4 => ?_)
  ·
    obtain ⟨⟨i, h1, h2⟩, rfl⟩ := p4
    rcases i with _ | _ | i
    · have e9 := Option.some.inj h2; subst e9; exact v_catch h tab [] ⟨0, 9, 12, 13⟩ [⟨0, 9, 15, 15⟩] rfl (fun z hz => absurd hz List.not_mem_nil) rfl (by decide) wL_L_13 (by decide) 12 rfl (fun q => x0 (by omega) q)
    · have e9 := Option.some.inj h2; subst e9; exact v_catch h tab [⟨0, 9, 12, 13⟩] ⟨0, 9, 15, 15⟩ [] rfl (fun z hz => (List.mem_cons.mp hz).elim (fun e => by rw [e]; exact ⟨by decide, _, wL_L_13, by decide⟩) (fun hz => absurd hz List.not_mem_nil)) rfl (by decide) wL_L_15 (by decide) 15 rfl (fun q => x1 (by omega) q)
    · exact absurd h2 (by simp)
  ·
    obtain ⟨e, rfl, rfl⟩ := p4
    refine v_i2lw (pc := 7) h (dk dt_L_work 5 rfl) ?_
    refine v_last (pc := 8) h sh151 (Nat.le_of_ble_eq_true rfl) (by omega) (dk dt_L_work 6 rfl) ?_
    refine v_goto (pc := 9) h 18 (dk dt_L_work 7 rfl) rfl ?_
    refine v_iconst (pc := 18) h (dk dt_L_work 14 rfl) ?_
    exact v_iret (pc := 19) h r (dk dt_L_work 15 rfl) (Nat.le_of_ble_eq_true rfl) (Nat.le_of_ble_eq_true rfl) (Or.inl ⟨e, rfl, rfl⟩)
theorem w_end (hst : l.stackTraces = false) (hO : hOK μ) {j : Int} (hj : InR j) :
    Ct l B D E yL_end (.codeWith yL_end cL_end 4 (some .int) [(0, 9, 12, 21), (0, 9, 15, 15)]) rm_L_end [.ref (pl B 0), iI j, .ref (pl B 151)] μ (PL (rcJ (μ 1 9) (μ 0 7) j) (fun m1 => m1 = mup (μ) 151 0 (w32 (μ 44 j.toNat))) μ) NX := by
  refine ctH_of (own := RL) (lv := [(0, _), (1, _), (2, _)]) hst (by decide) rfl rfl (Nat.le_of_ble_eq_true rfl) fun a h r tab => ?_
  have x0 : rcJ (μ 1 9) (μ 0 7) j = 1 → ∀ q : Nat, VV a B (SP B D E μ) 2 12 12 [(0, .ref (pl B 0)), (1, iI j), (2, .ref (pl B 151))] [.ref q] := by
    intro hrc q
    refine v_astore_n (lv' := [(3, _), (0, _), (1, _), (2, _)]) (pc := 12) h (dk dt_L_end 8 rfl) (Nat.le_of_ble_eq_true rfl) rfl ?_
    refine v_iconst (pc := 13) h (dk dt_L_end 9 rfl) ?_
    exact v_iret (pc := 14) h r (dk dt_L_end 10 rfl) (Nat.le_of_ble_eq_true rfl) (Nat.le_of_ble_eq_true rfl) (Or.inr ⟨by omega, by rw [hrc], rfl⟩)
  have x1 : rcJ (μ 1 9) (μ 0 7) j = 2 → ∀ q : Nat, VV a B (SP B D E μ) 2 12 15 [(0, .ref (pl B 0)), (1, iI j), (2, .ref (pl B 151))] [.ref q] := by
    intro hrc q
    refine v_astore_n (lv' := [(3, _), (0, _), (1, _), (2, _)]) (pc := 15) h (dk dt_L_end 11 rfl) (Nat.le_of_ble_eq_true rfl) rfl ?_
    refine v_iconst (pc := 16) h (dk dt_L_end 12 rfl) ?_
    exact v_iret (pc := 17) h r (dk dt_L_end 13 rfl) (Nat.le_of_ble_eq_true rfl) (Nat.le_of_ble_eq_true rfl) (Or.inr ⟨by omega, by rw [hrc], rfl⟩)
  refine v_aload_n (pc := 0) h (dk dt_L_end 0 rfl) rfl ?_
  refine v_iconst (pc := 1) h (dk dt_L_end 1 rfl) ?_
  refine v_aload_n (pc := 2) h (dk dt_L_end 2 rfl) rfl ?_
  refine v_iload_n (pc := 3) h (dk dt_L_end 3 rfl) rfl ?_
  refine v_callVX (pc := 4) h (c_X11_end h.quiet hO hj) kv_X11_end sh0 wM_L_43 rfl rfl (Nat.le_of_ble_eq_true rfl) (RM.of rfl) (dk dt_L_end 4 rfl) (fun e4 μ4 p4 => ?_) (fun v4 μ4 p4 => ?_)
  ·
    obtain ⟨⟨i, h1, h2⟩, rfl⟩ := p4
    rcases i with _ | _ | i
    · have e9 := Option.some.inj h2; subst e9; exact v_catch h tab [] ⟨0, 9, 12, 21⟩ [⟨0, 9, 15, 15⟩] rfl (fun z hz => absurd hz List.not_mem_nil) rfl (by decide) wL_L_21 (by decide) 12 rfl (fun q => x0 (by omega) q)
    · have e9 := Option.some.inj h2; subst e9; exact v_catch h tab [⟨0, 9, 12, 21⟩] ⟨0, 9, 15, 15⟩ [] rfl (fun z hz => (List.mem_cons.mp hz).elim (fun e => by rw [e]; exact ⟨by decide, _, wL_L_21, by decide⟩) (fun hz => absurd hz List.not_mem_nil)) rfl (by decide) wL_L_15 (by decide) 15 rfl (fun q => x1 (by omega) q)
    · exact absurd h2 (by simp)
  ·
    obtain ⟨e, rfl, rfl⟩ := p4
    refine v_i2lw (pc := 7) h (dk dt_L_end 5 rfl) ?_
    refine v_last (pc := 8) h sh151 (Nat.le_of_ble_eq_true rfl) (by omega) (dk dt_L_end 6 rfl) ?_
    refine v_goto (pc := 9) h 18 (dk dt_L_end 7 rfl) rfl ?_
    refine v_iconst (pc := 18) h (dk dt_L_end 14 rfl) ?_
    exact v_iret (pc := 19) h r (dk dt_L_end 15 rfl) (Nat.le_of_ble_eq_true rfl) (Nat.le_of_ble_eq_true rfl) (Or.inl ⟨e, rfl, rfl⟩)
theorem w_sumOfEnds (hst : l.stackTraces = false) (hO : hOK μ) (hn : μ 1 9 = (n : Int)) :
    Ct l B D E yL_sumOfEnds (.codeWith yL_sumOfEnds cL_sumOfEnds 3 (some .int) [(0, 8, 11, 15)]) rm_L_sumOfEnds [.ref (pl B 0), .ref (pl B 151)] μ (PL (rcN (μ 0 7)) (fun m1 => m1 = mup (μ) 151 0 (w32 (smF (μ 44) n))) μ) NX := by
  refine ctH_of (own := RL) (lv := [(0, _), (1, _)]) hst (by decide) rfl rfl (Nat.le_of_ble_eq_true rfl) fun a h r tab => ?_
  have x0 : rcN (μ 0 7) = 1 → ∀ q : Nat, VV a B (SP B D E μ) 1 6 11 [(0, .ref (pl B 0)), (1, .ref (pl B 151))] [.ref q] := by
    intro hrc q
    refine v_astore_n (lv' := [(2, _), (0, _), (1, _)]) (pc := 11) h (dk dt_L_sumOfEnds 7 rfl) (Nat.le_of_ble_eq_true rfl) rfl ?_
    refine v_iconst (pc := 12) h (dk dt_L_sumOfEnds 8 rfl) ?_
    exact v_iret (pc := 13) h r (dk dt_L_sumOfEnds 9 rfl) (Nat.le_of_ble_eq_true rfl) (Nat.le_of_ble_eq_true rfl) (Or.inr ⟨by omega, by rw [hrc], rfl⟩)
  refine v_aload_n (pc := 0) h (dk dt_L_sumOfEnds 0 rfl) rfl ?_
  refine v_iconst (pc := 1) h (dk dt_L_sumOfEnds 1 rfl) ?_
  refine v_aload_n (pc := 2) h (dk dt_L_sumOfEnds 2 rfl) rfl ?_
  refine v_callVX (pc := 3) h (c_X11_sumOfEnds h.quiet hO hn) kv_X11_sumOfEnds sh0 wM_L_46 rfl rfl (Nat.le_of_ble_eq_true rfl) (RM.of rfl) (dk dt_L_sumOfEnds 3 rfl) (fun e3 μ3 p3 => ?_) (fun v3 μ3 p3 => ?_)
  ·
    obtain ⟨⟨i, h1, h2⟩, rfl⟩ := p3
    rcases i with _ | i
    · have e9 := Option.some.inj h2; subst e9; exact v_catch h tab [] ⟨0, 8, 11, 15⟩ [] rfl (fun z hz => absurd hz List.not_mem_nil) rfl (by decide) wL_L_15 (by decide) 11 rfl (fun q => x0 (by omega) q)
    · exact absurd h2 (by simp)
  ·
    obtain ⟨e, rfl, rfl⟩ := p3
    refine v_i2lw (pc := 6) h (dk dt_L_sumOfEnds 4 rfl) ?_
    refine v_last (pc := 7) h sh151 (Nat.le_of_ble_eq_true rfl) (by omega) (dk dt_L_sumOfEnds 5 rfl) ?_
    refine v_goto (pc := 8) h 14 (dk dt_L_sumOfEnds 6 rfl) rfl ?_
    refine v_iconst (pc := 14) h (dk dt_L_sumOfEnds 10 rfl) ?_
    exact v_iret (pc := 15) h r (dk dt_L_sumOfEnds 11 rfl) (Nat.le_of_ble_eq_true rfl) (Nat.le_of_ble_eq_true rfl) (Or.inl ⟨e, rfl, rfl⟩)
theorem w_waits (hst : l.stackTraces = false) (hO : hOK μ) {j : Int} (hj : InR j) :
    Ct l B D E yL_waits (.codeWith yL_waits cL_waits 4 (some .int) [(0, 9, 12, 21), (0, 9, 15, 15)]) rm_L_waits [.ref (pl B 0), iI j, .ref (pl B 151)] μ (PL (rcJ (μ 1 9) (μ 0 7) j) (fun m1 => m1 = mup (μ) 151 0 (w32 (gapJ (μ 49) (j.toNat : Int) ((μ 47 0).toNat - (μ 46 j.toNat).toNat) (μ 46 j.toNat).toNat ((μ 46 j.toNat).toNat : Int) 0))) μ) NX := by
  refine ctH_of (own := RL) (lv := [(0, _), (1, _), (2, _)]) hst (by decide) rfl rfl (Nat.le_of_ble_eq_true rfl) fun a h r tab => ?_
  have x0 : rcJ (μ 1 9) (μ 0 7) j = 1 → ∀ q : Nat, VV a B (SP B D E μ) 2 12 12 [(0, .ref (pl B 0)), (1, iI j), (2, .ref (pl B 151))] [.ref q] := by
    intro hrc q
    refine v_astore_n (lv' := [(3, _), (0, _), (1, _), (2, _)]) (pc := 12) h (dk dt_L_waits 8 rfl) (Nat.le_of_ble_eq_true rfl) rfl ?_
    refine v_iconst (pc := 13) h (dk dt_L_waits 9 rfl) ?_
    exact v_iret (pc := 14) h r (dk dt_L_waits 10 rfl) (Nat.le_of_ble_eq_true rfl) (Nat.le_of_ble_eq_true rfl) (Or.inr ⟨by omega, by rw [hrc], rfl⟩)
  have x1 : rcJ (μ 1 9) (μ 0 7) j = 2 → ∀ q : Nat, VV a B (SP B D E μ) 2 12 15 [(0, .ref (pl B 0)), (1, iI j), (2, .ref (pl B 151))] [.ref q] := by
    intro hrc q
    refine v_astore_n (lv' := [(3, _), (0, _), (1, _), (2, _)]) (pc := 15) h (dk dt_L_waits 11 rfl) (Nat.le_of_ble_eq_true rfl) rfl ?_
    refine v_iconst (pc := 16) h (dk dt_L_waits 12 rfl) ?_
    exact v_iret (pc := 17) h r (dk dt_L_waits 13 rfl) (Nat.le_of_ble_eq_true rfl) (Nat.le_of_ble_eq_true rfl) (Or.inr ⟨by omega, by rw [hrc], rfl⟩)
  refine v_aload_n (pc := 0) h (dk dt_L_waits 0 rfl) rfl ?_
  refine v_iconst (pc := 1) h (dk dt_L_waits 1 rfl) ?_
  refine v_aload_n (pc := 2) h (dk dt_L_waits 2 rfl) rfl ?_
  refine v_iload_n (pc := 3) h (dk dt_L_waits 3 rfl) rfl ?_
  refine v_callVX (pc := 4) h (c_X11_waits h.quiet hO hj) kv_X11_waits sh0 wM_L_50 rfl rfl (Nat.le_of_ble_eq_true rfl) (RM.of rfl) (dk dt_L_waits 4 rfl) (fun e4 μ4 p4 => ?_) (fun v4 μ4 p4 => ?_)
  ·
    obtain ⟨⟨i, h1, h2⟩, rfl⟩ := p4
    rcases i with _ | _ | i
    · have e9 := Option.some.inj h2; subst e9; exact v_catch h tab [] ⟨0, 9, 12, 21⟩ [⟨0, 9, 15, 15⟩] rfl (fun z hz => absurd hz List.not_mem_nil) rfl (by decide) wL_L_21 (by decide) 12 rfl (fun q => x0 (by omega) q)
    · have e9 := Option.some.inj h2; subst e9; exact v_catch h tab [⟨0, 9, 12, 21⟩] ⟨0, 9, 15, 15⟩ [] rfl (fun z hz => (List.mem_cons.mp hz).elim (fun e => by rw [e]; exact ⟨by decide, _, wL_L_21, by decide⟩) (fun hz => absurd hz List.not_mem_nil)) rfl (by decide) wL_L_15 (by decide) 15 rfl (fun q => x1 (by omega) q)
    · exact absurd h2 (by simp)
  ·
    obtain ⟨e, rfl, rfl⟩ := p4
    refine v_i2lw (pc := 7) h (dk dt_L_waits 5 rfl) ?_
    refine v_last (pc := 8) h sh151 (Nat.le_of_ble_eq_true rfl) (by omega) (dk dt_L_waits 6 rfl) ?_
    refine v_goto (pc := 9) h 18 (dk dt_L_waits 7 rfl) rfl ?_
    refine v_iconst (pc := 18) h (dk dt_L_waits 14 rfl) ?_
    exact v_iret (pc := 19) h r (dk dt_L_waits 15 rfl) (Nat.le_of_ble_eq_true rfl) (Nat.le_of_ble_eq_true rfl) (Or.inl ⟨e, rfl, rfl⟩)
theorem w_blocked (hst : l.stackTraces = false) (hO : hOK μ) {j : Int} (hj : InR j) :
    Ct l B D E yL_blocked (.codeWith yL_blocked cL_blocked 4 (some .int) [(0, 9, 12, 21), (0, 9, 15, 15)]) rm_L_blocked [.ref (pl B 0), iI j, .ref (pl B 151)] μ (PL (rcJ (μ 1 9) (μ 0 7) j) (fun m1 => m1 = mup (μ) 151 0 (w32 (μ 30 j.toNat))) μ) NX := by
  refine ctH_of (own := RL) (lv := [(0, _), (1, _), (2, _)]) hst (by decide) rfl rfl (Nat.le_of_ble_eq_true rfl) fun a h r tab => ?_
  have x0 : rcJ (μ 1 9) (μ 0 7) j = 1 → ∀ q : Nat, VV a B (SP B D E μ) 2 12 12 [(0, .ref (pl B 0)), (1, iI j), (2, .ref (pl B 151))] [.ref q] := by
    intro hrc q
    refine v_astore_n (lv' := [(3, _), (0, _), (1, _), (2, _)]) (pc := 12) h (dk dt_L_blocked 8 rfl) (Nat.le_of_ble_eq_true rfl) rfl ?_
    refine v_iconst (pc := 13) h (dk dt_L_blocked 9 rfl) ?_
    exact v_iret (pc := 14) h r (dk dt_L_blocked 10 rfl) (Nat.le_of_ble_eq_true rfl) (Nat.le_of_ble_eq_true rfl) (Or.inr ⟨by omega, by rw [hrc], rfl⟩)
  have x1 : rcJ (μ 1 9) (μ 0 7) j = 2 → ∀ q : Nat, VV a B (SP B D E μ) 2 12 15 [(0, .ref (pl B 0)), (1, iI j), (2, .ref (pl B 151))] [.ref q] := by
    intro hrc q
    refine v_astore_n (lv' := [(3, _), (0, _), (1, _), (2, _)]) (pc := 15) h (dk dt_L_blocked 11 rfl) (Nat.le_of_ble_eq_true rfl) rfl ?_
    refine v_iconst (pc := 16) h (dk dt_L_blocked 12 rfl) ?_
    exact v_iret (pc := 17) h r (dk dt_L_blocked 13 rfl) (Nat.le_of_ble_eq_true rfl) (Nat.le_of_ble_eq_true rfl) (Or.inr ⟨by omega, by rw [hrc], rfl⟩)
  refine v_aload_n (pc := 0) h (dk dt_L_blocked 0 rfl) rfl ?_
  refine v_iconst (pc := 1) h (dk dt_L_blocked 1 rfl) ?_
  refine v_aload_n (pc := 2) h (dk dt_L_blocked 2 rfl) rfl ?_
  refine v_iload_n (pc := 3) h (dk dt_L_blocked 3 rfl) rfl ?_
  refine v_callVX (pc := 4) h (c_X11_blocked h.quiet hO hj) kv_X11_blocked sh0 wM_L_53 rfl rfl (Nat.le_of_ble_eq_true rfl) (RM.of rfl) (dk dt_L_blocked 4 rfl) (fun e4 μ4 p4 => ?_) (fun v4 μ4 p4 => ?_)
  ·
    obtain ⟨⟨i, h1, h2⟩, rfl⟩ := p4
    rcases i with _ | _ | i
    · have e9 := Option.some.inj h2; subst e9; exact v_catch h tab [] ⟨0, 9, 12, 21⟩ [⟨0, 9, 15, 15⟩] rfl (fun z hz => absurd hz List.not_mem_nil) rfl (by decide) wL_L_21 (by decide) 12 rfl (fun q => x0 (by omega) q)
    · have e9 := Option.some.inj h2; subst e9; exact v_catch h tab [⟨0, 9, 12, 21⟩] ⟨0, 9, 15, 15⟩ [] rfl (fun z hz => (List.mem_cons.mp hz).elim (fun e => by rw [e]; exact ⟨by decide, _, wL_L_21, by decide⟩) (fun hz => absurd hz List.not_mem_nil)) rfl (by decide) wL_L_15 (by decide) 15 rfl (fun q => x1 (by omega) q)
    · exact absurd h2 (by simp)
  ·
    obtain ⟨e, rfl, rfl⟩ := p4
    refine v_i2lw (pc := 7) h (dk dt_L_blocked 5 rfl) ?_
    refine v_last (pc := 8) h sh151 (Nat.le_of_ble_eq_true rfl) (by omega) (dk dt_L_blocked 6 rfl) ?_
    refine v_goto (pc := 9) h 18 (dk dt_L_blocked 7 rfl) rfl ?_
    refine v_iconst (pc := 18) h (dk dt_L_blocked 14 rfl) ?_
    exact v_iret (pc := 19) h r (dk dt_L_blocked 15 rfl) (Nat.le_of_ble_eq_true rfl) (Nat.le_of_ble_eq_true rfl) (Or.inl ⟨e, rfl, rfl⟩)
theorem w_late (hst : l.stackTraces = false) (hO : hOK μ) {j : Int} (hj : InR j) :
    Ct l B D E yL_late (.codeWith yL_late cL_late 4 (some .int) [(0, 9, 12, 21), (0, 9, 15, 15)]) rm_L_late [.ref (pl B 0), iI j, .ref (pl B 151)] μ (PL (rcJ (μ 1 9) (μ 0 7) j) (fun m1 => m1 = mup (μ) 151 0 (w32 (lat (μ 7 j.toNat) (μ 44 j.toNat)))) μ) NX := by
  refine ctH_of (own := RL) (lv := [(0, _), (1, _), (2, _)]) hst (by decide) rfl rfl (Nat.le_of_ble_eq_true rfl) fun a h r tab => ?_
  have x0 : rcJ (μ 1 9) (μ 0 7) j = 1 → ∀ q : Nat, VV a B (SP B D E μ) 2 12 12 [(0, .ref (pl B 0)), (1, iI j), (2, .ref (pl B 151))] [.ref q] := by
    intro hrc q
    refine v_astore_n (lv' := [(3, _), (0, _), (1, _), (2, _)]) (pc := 12) h (dk dt_L_late 8 rfl) (Nat.le_of_ble_eq_true rfl) rfl ?_
    refine v_iconst (pc := 13) h (dk dt_L_late 9 rfl) ?_
    exact v_iret (pc := 14) h r (dk dt_L_late 10 rfl) (Nat.le_of_ble_eq_true rfl) (Nat.le_of_ble_eq_true rfl) (Or.inr ⟨by omega, by rw [hrc], rfl⟩)
  have x1 : rcJ (μ 1 9) (μ 0 7) j = 2 → ∀ q : Nat, VV a B (SP B D E μ) 2 12 15 [(0, .ref (pl B 0)), (1, iI j), (2, .ref (pl B 151))] [.ref q] := by
    intro hrc q
    refine v_astore_n (lv' := [(3, _), (0, _), (1, _), (2, _)]) (pc := 15) h (dk dt_L_late 11 rfl) (Nat.le_of_ble_eq_true rfl) rfl ?_
    refine v_iconst (pc := 16) h (dk dt_L_late 12 rfl) ?_
    exact v_iret (pc := 17) h r (dk dt_L_late 13 rfl) (Nat.le_of_ble_eq_true rfl) (Nat.le_of_ble_eq_true rfl) (Or.inr ⟨by omega, by rw [hrc], rfl⟩)
  refine v_aload_n (pc := 0) h (dk dt_L_late 0 rfl) rfl ?_
  refine v_iconst (pc := 1) h (dk dt_L_late 1 rfl) ?_
  refine v_aload_n (pc := 2) h (dk dt_L_late 2 rfl) rfl ?_
  refine v_iload_n (pc := 3) h (dk dt_L_late 3 rfl) rfl ?_
  refine v_callVX (pc := 4) h (c_X11_late h.quiet hO hj) kv_X11_late sh0 wM_L_56 rfl rfl (Nat.le_of_ble_eq_true rfl) (RM.of rfl) (dk dt_L_late 4 rfl) (fun e4 μ4 p4 => ?_) (fun v4 μ4 p4 => ?_)
  ·
    obtain ⟨⟨i, h1, h2⟩, rfl⟩ := p4
    rcases i with _ | _ | i
    · have e9 := Option.some.inj h2; subst e9; exact v_catch h tab [] ⟨0, 9, 12, 21⟩ [⟨0, 9, 15, 15⟩] rfl (fun z hz => absurd hz List.not_mem_nil) rfl (by decide) wL_L_21 (by decide) 12 rfl (fun q => x0 (by omega) q)
    · have e9 := Option.some.inj h2; subst e9; exact v_catch h tab [⟨0, 9, 12, 21⟩] ⟨0, 9, 15, 15⟩ [] rfl (fun z hz => (List.mem_cons.mp hz).elim (fun e => by rw [e]; exact ⟨by decide, _, wL_L_21, by decide⟩) (fun hz => absurd hz List.not_mem_nil)) rfl (by decide) wL_L_15 (by decide) 15 rfl (fun q => x1 (by omega) q)
    · exact absurd h2 (by simp)
  ·
    obtain ⟨e, rfl, rfl⟩ := p4
    refine v_i2lw (pc := 7) h (dk dt_L_late 5 rfl) ?_
    refine v_last (pc := 8) h sh151 (Nat.le_of_ble_eq_true rfl) (by omega) (dk dt_L_late 6 rfl) ?_
    refine v_goto (pc := 9) h 18 (dk dt_L_late 7 rfl) rfl ?_
    refine v_iconst (pc := 18) h (dk dt_L_late 14 rfl) ?_
    exact v_iret (pc := 19) h r (dk dt_L_late 15 rfl) (Nat.le_of_ble_eq_true rfl) (Nat.le_of_ble_eq_true rfl) (Or.inl ⟨e, rfl, rfl⟩)
theorem w_slowest (hst : l.stackTraces = false) (hO : hOK μ) (hn : μ 1 9 = (n : Int)) {b : Int} (hb01 : b = 0 ∨ b = 1) :
    Ct l B D E yL_slowest (.codeWith yL_slowest cL_slowest 4 (some .int) [(0, 9, 12, 15)]) rm_L_slowest [.ref (pl B 0), iI b, .ref (pl B 151)] μ (PL (rcSl (μ 0 7) (μ 1 9)) (fun m1 => m1 = mup (μ) 151 0 (w32 (anSl (slF (μ 44) (μ 3) (μ 5) n) b))) μ) NX := by
  refine ctH_of (own := RL) (lv := [(0, _), (1, _), (2, _)]) hst (by decide) rfl rfl (Nat.le_of_ble_eq_true rfl) fun a h r tab => ?_
  have x0 : rcSl (μ 0 7) (μ 1 9) = 1 → ∀ q : Nat, VV a B (SP B D E μ) 2 12 12 [(0, .ref (pl B 0)), (1, iI b), (2, .ref (pl B 151))] [.ref q] := by
    intro hrc q
    refine v_astore_n (lv' := [(3, _), (0, _), (1, _), (2, _)]) (pc := 12) h (dk dt_L_slowest 8 rfl) (Nat.le_of_ble_eq_true rfl) rfl ?_
    refine v_iconst (pc := 13) h (dk dt_L_slowest 9 rfl) ?_
    exact v_iret (pc := 14) h r (dk dt_L_slowest 10 rfl) (Nat.le_of_ble_eq_true rfl) (Nat.le_of_ble_eq_true rfl) (Or.inr ⟨by omega, by rw [hrc], rfl⟩)
  refine v_aload_n (pc := 0) h (dk dt_L_slowest 0 rfl) rfl ?_
  refine v_iconst (pc := 1) h (dk dt_L_slowest 1 rfl) ?_
  refine v_aload_n (pc := 2) h (dk dt_L_slowest 2 rfl) rfl ?_
  refine v_iload_n (pc := 3) h (dk dt_L_slowest 3 rfl) rfl ?_
  refine v_callVX (pc := 4) h (c_X11_slowest h.quiet hO hn hb01) kv_X11_slowest sh0 wM_L_59 rfl rfl (Nat.le_of_ble_eq_true rfl) (RM.of rfl) (dk dt_L_slowest 4 rfl) (fun e4 μ4 p4 => ?_) (fun v4 μ4 p4 => ?_)
  ·
    obtain ⟨⟨i, h1, h2⟩, rfl⟩ := p4
    rcases i with _ | i
    · have e9 := Option.some.inj h2; subst e9; exact v_catch h tab [] ⟨0, 9, 12, 15⟩ [] rfl (fun z hz => absurd hz List.not_mem_nil) rfl (by decide) wL_L_15 (by decide) 12 rfl (fun q => x0 (by omega) q)
    · exact absurd h2 (by simp)
  ·
    obtain ⟨e, rfl, rfl⟩ := p4
    refine v_i2lw (pc := 7) h (dk dt_L_slowest 5 rfl) ?_
    refine v_last (pc := 8) h sh151 (Nat.le_of_ble_eq_true rfl) (by omega) (dk dt_L_slowest 6 rfl) ?_
    refine v_goto (pc := 9) h 15 (dk dt_L_slowest 7 rfl) rfl ?_
    refine v_iconst (pc := 15) h (dk dt_L_slowest 11 rfl) ?_
    exact v_iret (pc := 16) h r (dk dt_L_slowest 12 rfl) (Nat.le_of_ble_eq_true rfl) (Nat.le_of_ble_eq_true rfl) (Or.inl ⟨e, rfl, rfl⟩)
theorem w_busy (hst : l.stackTraces = false) (hO : hOK μ) {x e : Int} (hx : InR x) (he : e = 0 ∨ e = 1) :
    Ct l B D E yL_busy (.codeWith yL_busy cL_busy 5 (some .int) [(0, 10, 13, 15), (0, 10, 17, 67)]) rm_L_busy [.ref (pl B 0), iI x, iI e, .ref (pl B 151)] μ (PL (rcB (μ 0 7) (μ 49) (μ 47 0) x) (fun m1 => m1 = mup (μ) 151 0 (w32 (anB (μ 49) (μ 47 0) x e))) μ) NX := by
  refine ctH_of (own := RL) (lv := [(0, _), (1, _), (2, _), (3, _)]) hst (by decide) rfl rfl (Nat.le_of_ble_eq_true rfl) fun a h r tab => ?_
  have x0 : rcB (μ 0 7) (μ 49) (μ 47 0) x = 1 → ∀ q : Nat, VV a B (SP B D E μ) 2 12 13 [(0, .ref (pl B 0)), (1, iI x), (2, iI e), (3, .ref (pl B 151))] [.ref q] := by
    intro hrc q
    refine v_astore (lv' := [(4, _), (0, _), (1, _), (2, _), (3, _)]) (pc := 13) h (dk dt_L_busy 9 rfl) (Nat.le_of_ble_eq_true rfl) rfl ?_
    refine v_iconst (pc := 15) h (dk dt_L_busy 10 rfl) ?_
    exact v_iret (pc := 16) h r (dk dt_L_busy 11 rfl) (Nat.le_of_ble_eq_true rfl) (Nat.le_of_ble_eq_true rfl) (Or.inr ⟨by omega, by rw [hrc], rfl⟩)
  have x1 : rcB (μ 0 7) (μ 49) (μ 47 0) x = 2 → ∀ q : Nat, VV a B (SP B D E μ) 2 12 17 [(0, .ref (pl B 0)), (1, iI x), (2, iI e), (3, .ref (pl B 151))] [.ref q] := by
    intro hrc q
    refine v_astore (lv' := [(4, _), (0, _), (1, _), (2, _), (3, _)]) (pc := 17) h (dk dt_L_busy 12 rfl) (Nat.le_of_ble_eq_true rfl) rfl ?_
    refine v_iconst (pc := 19) h (dk dt_L_busy 13 rfl) ?_
    exact v_iret (pc := 20) h r (dk dt_L_busy 14 rfl) (Nat.le_of_ble_eq_true rfl) (Nat.le_of_ble_eq_true rfl) (Or.inr ⟨by omega, by rw [hrc], rfl⟩)
  refine v_aload_n (pc := 0) h (dk dt_L_busy 0 rfl) rfl ?_
  refine v_iconst (pc := 1) h (dk dt_L_busy 1 rfl) ?_
  refine v_aload_n (pc := 2) h (dk dt_L_busy 2 rfl) rfl ?_
  refine v_iload_n (pc := 3) h (dk dt_L_busy 3 rfl) rfl ?_
  refine v_iload_n (pc := 4) h (dk dt_L_busy 4 rfl) rfl ?_
  refine v_callVX (pc := 5) h (c_X11_busy h.quiet hO hx he) kv_X11_busy sh0 wM_L_63 rfl rfl (Nat.le_of_ble_eq_true rfl) (RM.of rfl) (dk dt_L_busy 5 rfl) (fun e5 μ5 p5 => ?_) (fun v5 μ5 p5 => ?_)
  ·
    obtain ⟨⟨i, h1, h2⟩, rfl⟩ := p5
    rcases i with _ | _ | i
    · have e9 := Option.some.inj h2; subst e9; exact v_catch h tab [] ⟨0, 10, 13, 15⟩ [⟨0, 10, 17, 67⟩] rfl (fun z hz => absurd hz List.not_mem_nil) rfl (by decide) wL_L_15 (by decide) 13 rfl (fun q => x0 (by omega) q)
    · have e9 := Option.some.inj h2; subst e9; exact v_catch h tab [⟨0, 10, 13, 15⟩] ⟨0, 10, 17, 67⟩ [] rfl (fun z hz => (List.mem_cons.mp hz).elim (fun e => by rw [e]; exact ⟨by decide, _, wL_L_15, by decide⟩) (fun hz => absurd hz List.not_mem_nil)) rfl (by decide) wL_L_67 (by decide) 17 rfl (fun q => x1 (by omega) q)
    · exact absurd h2 (by simp)
  ·
    obtain ⟨e, rfl, rfl⟩ := p5
    refine v_i2lw (pc := 8) h (dk dt_L_busy 6 rfl) ?_
    refine v_last (pc := 9) h sh151 (Nat.le_of_ble_eq_true rfl) (by omega) (dk dt_L_busy 7 rfl) ?_
    refine v_goto (pc := 10) h 21 (dk dt_L_busy 8 rfl) rfl ?_
    refine v_iconst (pc := 21) h (dk dt_L_busy 15 rfl) ?_
    exact v_iret (pc := 22) h r (dk dt_L_busy 16 rfl) (Nat.le_of_ble_eq_true rfl) (Nat.le_of_ble_eq_true rfl) (Or.inl ⟨e, rfl, rfl⟩)
theorem w_checksum (hst : l.stackTraces = false) (hO : hOK μ) :
    Ct l B D E yL_checksum (.codeWith yL_checksum cL_checksum 3 (some .int) [(0, 8, 11, 15)]) rm_L_checksum [.ref (pl B 0), .ref (pl B 151)] μ (PL (rcN (μ 0 7)) (fun m1 => m1 = mup (μ) 151 0 (w32 (ckS (μ 49) (μ 47 0).toNat))) μ) NX := by
  refine ctH_of (own := RL) (lv := [(0, _), (1, _)]) hst (by decide) rfl rfl (Nat.le_of_ble_eq_true rfl) fun a h r tab => ?_
  have x0 : rcN (μ 0 7) = 1 → ∀ q : Nat, VV a B (SP B D E μ) 1 6 11 [(0, .ref (pl B 0)), (1, .ref (pl B 151))] [.ref q] := by
    intro hrc q
    refine v_astore_n (lv' := [(2, _), (0, _), (1, _)]) (pc := 11) h (dk dt_L_checksum 7 rfl) (Nat.le_of_ble_eq_true rfl) rfl ?_
    refine v_iconst (pc := 12) h (dk dt_L_checksum 8 rfl) ?_
    exact v_iret (pc := 13) h r (dk dt_L_checksum 9 rfl) (Nat.le_of_ble_eq_true rfl) (Nat.le_of_ble_eq_true rfl) (Or.inr ⟨by omega, by rw [hrc], rfl⟩)
  refine v_aload_n (pc := 0) h (dk dt_L_checksum 0 rfl) rfl ?_
  refine v_iconst (pc := 1) h (dk dt_L_checksum 1 rfl) ?_
  refine v_aload_n (pc := 2) h (dk dt_L_checksum 2 rfl) rfl ?_
  refine v_callVX (pc := 3) h (c_X11_checksum h.quiet hO) kv_X11_checksum sh0 wM_L_69 rfl rfl (Nat.le_of_ble_eq_true rfl) (RM.of rfl) (dk dt_L_checksum 3 rfl) (fun e3 μ3 p3 => ?_) (fun v3 μ3 p3 => ?_)
  ·
    obtain ⟨⟨i, h1, h2⟩, rfl⟩ := p3
    rcases i with _ | i
    · have e9 := Option.some.inj h2; subst e9; exact v_catch h tab [] ⟨0, 8, 11, 15⟩ [] rfl (fun z hz => absurd hz List.not_mem_nil) rfl (by decide) wL_L_15 (by decide) 11 rfl (fun q => x0 (by omega) q)
    · exact absurd h2 (by simp)
  ·
    obtain ⟨e, rfl, rfl⟩ := p3
    refine v_i2lw (pc := 6) h (dk dt_L_checksum 4 rfl) ?_
    refine v_last (pc := 7) h sh151 (Nat.le_of_ble_eq_true rfl) (by omega) (dk dt_L_checksum 5 rfl) ?_
    refine v_goto (pc := 8) h 14 (dk dt_L_checksum 6 rfl) rfl ?_
    refine v_iconst (pc := 14) h (dk dt_L_checksum 10 rfl) ?_
    exact v_iret (pc := 15) h r (dk dt_L_checksum 11 rfl) (Nat.le_of_ble_eq_true rfl) (Nat.le_of_ble_eq_true rfl) (Or.inl ⟨e, rfl, rfl⟩)
theorem w_which (hst : l.stackTraces = false) (hO : hOK μ) (hn : μ 1 9 = (n : Int)) :
    Ct l B D E yL_which (.codeWith yL_which cL_which 3 (some .int) [(0, 8, 11, 15)]) rm_L_which [.ref (pl B 0), .ref (pl B 151)] μ (PL (rcN (μ 0 7)) (fun m1 => ∃ m0 : Mm, fq μ m0 ∧ m1 = mup m0 151 0 (w32 ((whS μ n : Nat)))) μ) NX := by
  refine ctH_of (own := RL) (lv := [(0, _), (1, _)]) hst (by decide) rfl rfl (Nat.le_of_ble_eq_true rfl) fun a h r tab => ?_
  have x0 : rcN (μ 0 7) = 1 → ∀ q : Nat, VV a B (SP B D E μ) 1 6 11 [(0, .ref (pl B 0)), (1, .ref (pl B 151))] [.ref q] := by
    intro hrc q
    refine v_astore_n (lv' := [(2, _), (0, _), (1, _)]) (pc := 11) h (dk dt_L_which 7 rfl) (Nat.le_of_ble_eq_true rfl) rfl ?_
    refine v_iconst (pc := 12) h (dk dt_L_which 8 rfl) ?_
    exact v_iret (pc := 13) h r (dk dt_L_which 9 rfl) (Nat.le_of_ble_eq_true rfl) (Nat.le_of_ble_eq_true rfl) (Or.inr ⟨by omega, by rw [hrc], rfl⟩)
  refine v_aload_n (pc := 0) h (dk dt_L_which 0 rfl) rfl ?_
  refine v_iconst (pc := 1) h (dk dt_L_which 1 rfl) ?_
  refine v_aload_n (pc := 2) h (dk dt_L_which 2 rfl) rfl ?_
  refine v_callVX (pc := 3) h (c_X11_which h.quiet hO hn) kv_X11_which sh0 wM_L_72 rfl rfl (Nat.le_of_ble_eq_true rfl) (RM.of rfl) (dk dt_L_which 3 rfl) (fun e3 μ3 p3 => ?_) (fun v3 μ3 p3 => ?_)
  ·
    obtain ⟨⟨i, h1, h2⟩, rfl⟩ := p3
    rcases i with _ | i
    · have e9 := Option.some.inj h2; subst e9; exact v_catch h tab [] ⟨0, 8, 11, 15⟩ [] rfl (fun z hz => absurd hz List.not_mem_nil) rfl (by decide) wL_L_15 (by decide) 11 rfl (fun q => x0 (by omega) q)
    · exact absurd h2 (by simp)
  ·
    obtain ⟨e, rfl, g1⟩ := p3
    refine v_i2lw (pc := 6) h (dk dt_L_which 4 rfl) ?_
    refine v_last (pc := 7) h sh151 (Nat.le_of_ble_eq_true rfl) (by omega) (dk dt_L_which 5 rfl) ?_
    refine v_goto (pc := 8) h 14 (dk dt_L_which 6 rfl) rfl ?_
    refine v_iconst (pc := 14) h (dk dt_L_which 10 rfl) ?_
    exact v_iret (pc := 15) h r (dk dt_L_which 11 rfl) (Nat.le_of_ble_eq_true rfl) (Nat.le_of_ble_eq_true rfl) (Or.inl ⟨e, rfl, ⟨μ3, g1, rfl⟩⟩)
theorem w_isFeasible (hst : l.stackTraces = false) (hO : hOK μ) (hn : μ 1 9 = (n : Int)) :
    Ct l B D E yL_isFeasible (.codeWith yL_isFeasible cL_isFeasible 3 (some .int) [(0, 15, 18, 15)]) rm_L_isFeasible [.ref (pl B 0), .ref (pl B 151)] μ (PL (rcW (μ 11) n) (fun m1 => ∃ m0 : Mm, fq μ m0 ∧ m1 = mup m0 151 0 (if lateE (jm μ) n (kof 6 (μ 27 0) 0 (μ 27 4) (μ 27 2)) (μ 27 3) = 0 then 1 else 0)) μ) NX := by
  refine ctH_of (own := RL) (lv := [(0, _), (1, _)]) hst (by decide) rfl rfl (Nat.le_of_ble_eq_true rfl) fun a h r tab => ?_
  have x0 : rcW (μ 11) n = 1 → ∀ q : Nat, VV a B (SP B D E μ) 1 6 18 [(0, .ref (pl B 0)), (1, .ref (pl B 151))] [.ref q] := by
    intro hrc q
    refine v_astore_n (lv' := [(2, _), (0, _), (1, _)]) (pc := 18) h (dk dt_L_isFeasible 10 rfl) (Nat.le_of_ble_eq_true rfl) rfl ?_
    refine v_iconst (pc := 19) h (dk dt_L_isFeasible 11 rfl) ?_
    exact v_iret (pc := 20) h r (dk dt_L_isFeasible 12 rfl) (Nat.le_of_ble_eq_true rfl) (Nat.le_of_ble_eq_true rfl) (Or.inr ⟨by omega, by rw [hrc], rfl⟩)
  refine v_aload_n (pc := 0) h (dk dt_L_isFeasible 0 rfl) rfl ?_
  refine v_iconst (pc := 1) h (dk dt_L_isFeasible 1 rfl) ?_
  refine v_aload_n (pc := 2) h (dk dt_L_isFeasible 2 rfl) rfl ?_
  refine v_callVX (pc := 3) h (c_X11_isFeasible h.quiet hO hn) kv_X11_isFeasible sh0 wM_L_75 rfl rfl (Nat.le_of_ble_eq_true rfl) (RM.of rfl) (dk dt_L_isFeasible 3 rfl) (fun e3 μ3 p3 => ?_) (fun v3 μ3 p3 => ?_)
  ·
    obtain ⟨⟨i, h1, h2⟩, rfl⟩ := p3
    rcases i with _ | i
    · have e9 := Option.some.inj h2; subst e9; exact v_catch h tab [] ⟨0, 15, 18, 15⟩ [] rfl (fun z hz => absurd hz List.not_mem_nil) rfl (by decide) wL_L_15 (by decide) 18 rfl (fun q => x0 (by omega) q)
    · exact absurd h2 (by simp)
  ·
    obtain ⟨e, rfl, g1⟩ := p3
    refine v_if_eq (pc := 6) h 13 (dk dt_L_isFeasible 4 rfl) rfl (by split <;> omega) (fun c6 => ?_) (fun c6 => ?_)
    ·
      have ez : (if lateE (jm μ) n (kof 6 (μ 27 0) 0 (μ 27 4) (μ 27 2)) (μ 27 3) = 0 then (1 : Int) else 0) = 0 := c6
      refine v_lconst (pc := 13) (y := 0) h (dk dt_L_isFeasible 7 rfl) rfl ?_
      refine v_last (pc := 14) h sh151 (Nat.le_of_ble_eq_true rfl) (by omega) (dk dt_L_isFeasible 8 rfl) ?_
      refine v_goto (pc := 15) h 21 (dk dt_L_isFeasible 9 rfl) rfl ?_
      refine v_iconst (pc := 21) h (dk dt_L_isFeasible 13 rfl) ?_
      exact v_iret (pc := 22) h r (dk dt_L_isFeasible 14 rfl) (Nat.le_of_ble_eq_true rfl) (Nat.le_of_ble_eq_true rfl) (Or.inl ⟨e, rfl, ⟨μ3, g1, by rw [ez]; rfl⟩⟩)
    ·
      have ez : (if lateE (jm μ) n (kof 6 (μ 27 0) 0 (μ 27 4) (μ 27 2)) (μ 27 3) = 0 then (1 : Int) else 0) = 1 := by rcases isB_ite (p := lateE (jm μ) n (kof 6 (μ 27 0) 0 (μ 27 4) (μ 27 2)) (μ 27 3) = 0) with q | q; exact q.1; exact absurd q.1 c6
      refine v_lconst (pc := 9) (y := 1) h (dk dt_L_isFeasible 5 rfl) rfl ?_
      refine v_goto (pc := 10) h 14 (dk dt_L_isFeasible 6 rfl) rfl ?_
      refine v_last (pc := 14) h sh151 (Nat.le_of_ble_eq_true rfl) (by omega) (dk dt_L_isFeasible 8 rfl) ?_
      refine v_goto (pc := 15) h 21 (dk dt_L_isFeasible 9 rfl) rfl ?_
      refine v_iconst (pc := 21) h (dk dt_L_isFeasible 13 rfl) ?_
      exact v_iret (pc := 22) h r (dk dt_L_isFeasible 14 rfl) (Nat.le_of_ble_eq_true rfl) (Nat.le_of_ble_eq_true rfl) (Or.inl ⟨e, rfl, ⟨μ3, g1, by rw [ez]; rfl⟩⟩)
theorem w_full (hst : l.stackTraces = false) (hO : hOK μ) (hn : μ 1 9 = (n : Int)) {x : Int} (hx : InR x) :
    Ct l B D E yL_full (.codeWith yL_full cL_full 4 (some .int) [(0, 9, 12, 13)]) rm_L_full [.ref (pl B 0), iI x, .ref (pl B 151)] μ (PL (rcF x) (fun m1 => m1 = mup (μ) 151 0 (w32 (fullC (μ 3) (μ 5) (μ 7) n x))) μ) NX := by
  refine ctH_of (own := RL) (lv := [(0, _), (1, _), (2, _)]) hst (by decide) rfl rfl (Nat.le_of_ble_eq_true rfl) fun a h r tab => ?_
  have x0 : rcF x = 1 → ∀ q : Nat, VV a B (SP B D E μ) 1 6 12 [(0, .ref (pl B 0)), (1, iI x), (2, .ref (pl B 151))] [.ref q] := by
    intro hrc q
    refine v_astore_n (lv' := [(3, _), (0, _), (1, _), (2, _)]) (pc := 12) h (dk dt_L_full 8 rfl) (Nat.le_of_ble_eq_true rfl) rfl ?_
    refine v_iconst (pc := 13) h (dk dt_L_full 9 rfl) ?_
    exact v_iret (pc := 14) h r (dk dt_L_full 10 rfl) (Nat.le_of_ble_eq_true rfl) (Nat.le_of_ble_eq_true rfl) (Or.inr ⟨by omega, by rw [hrc], rfl⟩)
  refine v_aload_n (pc := 0) h (dk dt_L_full 0 rfl) rfl ?_
  refine v_iconst (pc := 1) h (dk dt_L_full 1 rfl) ?_
  refine v_aload_n (pc := 2) h (dk dt_L_full 2 rfl) rfl ?_
  refine v_iload_n (pc := 3) h (dk dt_L_full 3 rfl) rfl ?_
  refine v_callVX (pc := 4) h (c_X11_full h.quiet hO hn hx) kv_X11_full sh0 wM_L_79 rfl rfl (Nat.le_of_ble_eq_true rfl) (RM.of rfl) (dk dt_L_full 4 rfl) (fun e4 μ4 p4 => ?_) (fun v4 μ4 p4 => ?_)
  ·
    obtain ⟨⟨i, h1, h2⟩, rfl⟩ := p4
    rcases i with _ | i
    · have e9 := Option.some.inj h2; subst e9; exact v_catch h tab [] ⟨0, 9, 12, 13⟩ [] rfl (fun z hz => absurd hz List.not_mem_nil) rfl (by decide) wL_L_13 (by decide) 12 rfl (fun q => x0 (by omega) q)
    · exact absurd h2 (by simp)
  ·
    obtain ⟨e, rfl, rfl⟩ := p4
    refine v_i2lw (pc := 7) h (dk dt_L_full 5 rfl) ?_
    refine v_last (pc := 8) h sh151 (Nat.le_of_ble_eq_true rfl) (by omega) (dk dt_L_full 6 rfl) ?_
    refine v_goto (pc := 9) h 15 (dk dt_L_full 7 rfl) rfl ?_
    refine v_iconst (pc := 15) h (dk dt_L_full 11 rfl) ?_
    exact v_iret (pc := 16) h r (dk dt_L_full 12 rfl) (Nat.le_of_ble_eq_true rfl) (Nat.le_of_ble_eq_true rfl) (Or.inl ⟨e, rfl, rfl⟩)
theorem w_task (hst : l.stackTraces = false) (hO : hOK μ) {p le d : Int} (hp : InR p ∧ InR le) (hd : InR d) :
    Ct l B D E yL_task (.codeWith yL_task cL_task 6 (some .int) [(0, 12, 15, 13), (0, 12, 19, 15)]) rm_L_task [.ref (pl B 0), iI p, iI le, iI d, .ref (pl B 151)] μ (PL (rcTk (μ 20 3) p le d) (fun m1 => m1 = mup (mtask μ p le d) 151 0 (w32 (μ 20 3))) μ) NX := by
  refine ctH_of (own := RL) (lv := [(0, _), (1, _), (2, _), (3, _), (4, _)]) hst (by decide) rfl rfl (Nat.le_of_ble_eq_true rfl) fun a h r tab => ?_
  have x0 : rcTk (μ 20 3) p le d = 1 → ∀ q : Nat, VV a B (SP B D E μ) 1 6 15 [(0, .ref (pl B 0)), (1, iI p), (2, iI le), (3, iI d), (4, .ref (pl B 151))] [.ref q] := by
    intro hrc q
    refine v_astore (lv' := [(5, _), (0, _), (1, _), (2, _), (3, _), (4, _)]) (pc := 15) h (dk dt_L_task 10 rfl) (Nat.le_of_ble_eq_true rfl) rfl ?_
    refine v_iconst (pc := 17) h (dk dt_L_task 11 rfl) ?_
    exact v_iret (pc := 18) h r (dk dt_L_task 12 rfl) (Nat.le_of_ble_eq_true rfl) (Nat.le_of_ble_eq_true rfl) (Or.inr ⟨by omega, by rw [hrc], rfl⟩)
  have x1 : rcTk (μ 20 3) p le d = 2 → ∀ q : Nat, VV a B (SP B D E μ) 1 6 19 [(0, .ref (pl B 0)), (1, iI p), (2, iI le), (3, iI d), (4, .ref (pl B 151))] [.ref q] := by
    intro hrc q
    refine v_astore (lv' := [(5, _), (0, _), (1, _), (2, _), (3, _), (4, _)]) (pc := 19) h (dk dt_L_task 13 rfl) (Nat.le_of_ble_eq_true rfl) rfl ?_
    refine v_iconst (pc := 21) h (dk dt_L_task 14 rfl) ?_
    exact v_iret (pc := 22) h r (dk dt_L_task 15 rfl) (Nat.le_of_ble_eq_true rfl) (Nat.le_of_ble_eq_true rfl) (Or.inr ⟨by omega, by rw [hrc], rfl⟩)
  refine v_aload (pc := 0) h (dk dt_L_task 0 rfl) rfl ?_
  refine v_iconst (pc := 2) h (dk dt_L_task 1 rfl) ?_
  refine v_aload_n (pc := 3) h (dk dt_L_task 2 rfl) rfl ?_
  refine v_iload_n (pc := 4) h (dk dt_L_task 3 rfl) rfl ?_
  refine v_iload_n (pc := 5) h (dk dt_L_task 4 rfl) rfl ?_
  refine v_iload_n (pc := 6) h (dk dt_L_task 5 rfl) rfl ?_
  refine v_callVX (pc := 7) h (c_X11_task h.quiet hO hp hd) kv_X11_task sh0 wM_L_82 rfl rfl (Nat.le_of_ble_eq_true rfl) (RM.of rfl) (dk dt_L_task 6 rfl) (fun e7 μ7 p7 => ?_) (fun v7 μ7 p7 => ?_)
  ·
    obtain ⟨⟨i, h1, h2⟩, rfl⟩ := p7
    rcases i with _ | _ | i
    · have e9 := Option.some.inj h2; subst e9; exact v_catch h tab [] ⟨0, 12, 15, 13⟩ [⟨0, 12, 19, 15⟩] rfl (fun z hz => absurd hz List.not_mem_nil) rfl (by decide) wL_L_13 (by decide) 15 rfl (fun q => x0 (by omega) q)
    · have e9 := Option.some.inj h2; subst e9; exact v_catch h tab [⟨0, 12, 15, 13⟩] ⟨0, 12, 19, 15⟩ [] rfl (fun z hz => (List.mem_cons.mp hz).elim (fun e => by rw [e]; exact ⟨by decide, _, wL_L_13, by decide⟩) (fun hz => absurd hz List.not_mem_nil)) rfl (by decide) wL_L_15 (by decide) 19 rfl (fun q => x1 (by omega) q)
    · exact absurd h2 (by simp)
  ·
    obtain ⟨e, rfl, rfl⟩ := p7
    refine v_i2lw (pc := 10) h (dk dt_L_task 7 rfl) ?_
    refine v_last (pc := 11) h sh151 (Nat.le_of_ble_eq_true rfl) (by omega) (dk dt_L_task 8 rfl) ?_
    refine v_goto (pc := 12) h 23 (dk dt_L_task 9 rfl) rfl ?_
    refine v_iconst (pc := 23) h (dk dt_L_task 16 rfl) ?_
    exact v_iret (pc := 24) h r (dk dt_L_task 17 rfl) (Nat.le_of_ble_eq_true rfl) (Nat.le_of_ble_eq_true rfl) (Or.inl ⟨e, rfl, rfl⟩)
theorem w_response (hst : l.stackTraces = false) (hO : hOK μ) (hn : μ 20 3 = (n : Int)) {j : Int} (hj : InR j) :
    Ct l B D E yL_response (.codeWith yL_response cL_response 4 (some .int) [(0, 9, 12, 21)]) rm_L_response [.ref (pl B 0), iI j, .ref (pl B 151)] μ (PL (rcRs (μ 20 3) j) (fun m1 => m1 = mup (μ) 151 0 (w32 (rsT (μ 22) (μ 24) (μ 26) n j.toNat (μ 26 j.toNat).toNat 1))) μ) NX := by
  refine ctH_of (own := RL) (lv := [(0, _), (1, _), (2, _)]) hst (by decide) rfl rfl (Nat.le_of_ble_eq_true rfl) fun a h r tab => ?_
  have x0 : rcRs (μ 20 3) j = 1 → ∀ q : Nat, VV a B (SP B D E μ) 1 6 12 [(0, .ref (pl B 0)), (1, iI j), (2, .ref (pl B 151))] [.ref q] := by
    intro hrc q
    refine v_astore_n (lv' := [(3, _), (0, _), (1, _), (2, _)]) (pc := 12) h (dk dt_L_response 8 rfl) (Nat.le_of_ble_eq_true rfl) rfl ?_
    refine v_iconst (pc := 13) h (dk dt_L_response 9 rfl) ?_
    exact v_iret (pc := 14) h r (dk dt_L_response 10 rfl) (Nat.le_of_ble_eq_true rfl) (Nat.le_of_ble_eq_true rfl) (Or.inr ⟨by omega, by rw [hrc], rfl⟩)
  refine v_aload_n (pc := 0) h (dk dt_L_response 0 rfl) rfl ?_
  refine v_iconst (pc := 1) h (dk dt_L_response 1 rfl) ?_
  refine v_aload_n (pc := 2) h (dk dt_L_response 2 rfl) rfl ?_
  refine v_iload_n (pc := 3) h (dk dt_L_response 3 rfl) rfl ?_
  refine v_callVX (pc := 4) h (c_X11_response h.quiet hO hn hj) kv_X11_response sh0 wM_L_86 rfl rfl (Nat.le_of_ble_eq_true rfl) (RM.of rfl) (dk dt_L_response 4 rfl) (fun e4 μ4 p4 => ?_) (fun v4 μ4 p4 => ?_)
  ·
    obtain ⟨⟨i, h1, h2⟩, rfl⟩ := p4
    rcases i with _ | i
    · have e9 := Option.some.inj h2; subst e9; exact v_catch h tab [] ⟨0, 9, 12, 21⟩ [] rfl (fun z hz => absurd hz List.not_mem_nil) rfl (by decide) wL_L_21 (by decide) 12 rfl (fun q => x0 (by omega) q)
    · exact absurd h2 (by simp)
  ·
    obtain ⟨e, rfl, rfl⟩ := p4
    refine v_i2lw (pc := 7) h (dk dt_L_response 5 rfl) ?_
    refine v_last (pc := 8) h sh151 (Nat.le_of_ble_eq_true rfl) (by omega) (dk dt_L_response 6 rfl) ?_
    refine v_goto (pc := 9) h 15 (dk dt_L_response 7 rfl) rfl ?_
    refine v_iconst (pc := 15) h (dk dt_L_response 11 rfl) ?_
    exact v_iret (pc := 16) h r (dk dt_L_response 12 rfl) (Nat.le_of_ble_eq_true rfl) (Nat.le_of_ble_eq_true rfl) (Or.inl ⟨e, rfl, rfl⟩)
theorem w_meanEnd (hst : l.stackTraces = false) (hO : hOK μ) (hn : μ 1 9 = (n : Int)) :
    Ct l B D E yL_meanEnd (.codeWith yL_meanEnd cL_meanEnd 3 (some .int) [(0, 7, 10, 15)]) rm_L_meanEnd [.ref (pl B 0), .ref (pl B 152)] μ (PL (rcN (μ 0 7)) (fun m1 => m1 = mup μ 152 0 (((mnE (smF (μ 44) n) (n : Int)).toNat : Nat) : Int)) μ) NX := by
  refine ctH_of (own := RL) (lv := [(0, _), (1, _)]) hst (by decide) rfl rfl (Nat.le_of_ble_eq_true rfl) fun a h r tab => ?_
  have x0 : rcN (μ 0 7) = 1 → ∀ q : Nat, VV a B (SP B D E μ) 1 6 10 [(0, .ref (pl B 0)), (1, .ref (pl B 152))] [.ref q] := by
    intro hrc q
    refine v_astore_n (lv' := [(2, _), (0, _), (1, _)]) (pc := 10) h (dk dt_L_meanEnd 6 rfl) (Nat.le_of_ble_eq_true rfl) rfl ?_
    refine v_iconst (pc := 11) h (dk dt_L_meanEnd 7 rfl) ?_
    exact v_iret (pc := 12) h r (dk dt_L_meanEnd 8 rfl) (Nat.le_of_ble_eq_true rfl) (Nat.le_of_ble_eq_true rfl) (Or.inr ⟨by omega, by rw [hrc], rfl⟩)
  refine v_aload_n (pc := 0) h (dk dt_L_meanEnd 0 rfl) rfl ?_
  refine v_iconst (pc := 1) h (dk dt_L_meanEnd 1 rfl) ?_
  refine v_aload_n (pc := 2) h (dk dt_L_meanEnd 2 rfl) rfl ?_
  refine v_callVX (pc := 3) h (c_X11_meanEnd h.quiet hO hn) kv_X11_meanEnd sh0 wM_L_89 rfl rfl (Nat.le_of_ble_eq_true rfl) (RM.of rfl) (dk dt_L_meanEnd 3 rfl) (fun e3 μ3 p3 => ?_) (fun v3 μ3 p3 => ?_)
  ·
    obtain ⟨⟨i, h1, h2⟩, rfl⟩ := p3
    rcases i with _ | i
    · have e9 := Option.some.inj h2; subst e9; exact v_catch h tab [] ⟨0, 7, 10, 15⟩ [] rfl (fun z hz => absurd hz List.not_mem_nil) rfl (by decide) wL_L_15 (by decide) 10 rfl (fun q => x0 (by omega) q)
    · exact absurd h2 (by simp)
  ·
    obtain ⟨e, rfl, rfl⟩ := p3
    refine v_dast (pc := 6) h sh152 (Nat.le_of_ble_eq_true rfl) (by omega) (dk dt_L_meanEnd 4 rfl) ?_
    refine v_goto (pc := 7) h 13 (dk dt_L_meanEnd 5 rfl) rfl ?_
    refine v_iconst (pc := 13) h (dk dt_L_meanEnd 9 rfl) ?_
    exact v_iret (pc := 14) h r (dk dt_L_meanEnd 10 rfl) (Nat.le_of_ble_eq_true rfl) (Nat.le_of_ble_eq_true rfl) (Or.inl ⟨e, rfl, rfl⟩)
theorem w_workShare (hst : l.stackTraces = false) (hO : hOK μ) :
    Ct l B D E yL_workShare (.codeWith yL_workShare cL_workShare 3 (some .int) [(0, 8, 11, 15)]) rm_L_workShare [.ref (pl B 0), .ref (pl B 152)] μ (PL (rcN (μ 0 7)) (fun m1 => m1 = mup μ 152 0 (((FP.f2d (shW (cntW (μ 49) (μ 47 0).toNat) (μ 47 0))).toNat : Nat) : Int)) μ) NX := by
  refine ctH_of (own := RL) (lv := [(0, _), (1, _)]) hst (by decide) rfl rfl (Nat.le_of_ble_eq_true rfl) fun a h r tab => ?_
  have x0 : rcN (μ 0 7) = 1 → ∀ q : Nat, VV a B (SP B D E μ) 1 6 11 [(0, .ref (pl B 0)), (1, .ref (pl B 152))] [.ref q] := by
    intro hrc q
    refine v_astore_n (lv' := [(2, _), (0, _), (1, _)]) (pc := 11) h (dk dt_L_workShare 7 rfl) (Nat.le_of_ble_eq_true rfl) rfl ?_
    refine v_iconst (pc := 12) h (dk dt_L_workShare 8 rfl) ?_
    exact v_iret (pc := 13) h r (dk dt_L_workShare 9 rfl) (Nat.le_of_ble_eq_true rfl) (Nat.le_of_ble_eq_true rfl) (Or.inr ⟨by omega, by rw [hrc], rfl⟩)
  refine v_aload_n (pc := 0) h (dk dt_L_workShare 0 rfl) rfl ?_
  refine v_iconst (pc := 1) h (dk dt_L_workShare 1 rfl) ?_
  refine v_aload_n (pc := 2) h (dk dt_L_workShare 2 rfl) rfl ?_
  have hrun := hO.R
  refine v_callVX (pc := 3) h (c_X11_workShare h.quiet hO) kv_X11_workShare sh0 wM_L_93 rfl rfl (Nat.le_of_ble_eq_true rfl) (RM.of rfl) (dk dt_L_workShare 3 rfl) (fun e3 μ3 p3 => ?_) (fun v3 μ3 p3 => ?_)
  ·
    obtain ⟨⟨i, h1, h2⟩, rfl⟩ := p3
    rcases i with _ | i
    · have e9 := Option.some.inj h2; subst e9; exact v_catch h tab [] ⟨0, 8, 11, 15⟩ [] rfl (fun z hz => absurd hz List.not_mem_nil) rfl (by decide) wL_L_15 (by decide) 11 rfl (fun q => x0 (by omega) q)
    · exact absurd h2 (by simp)
  ·
    obtain ⟨e, rfl, rfl⟩ := p3
    have h1 : μ3 0 7 = 1 := by by_cases z : μ3 0 7 = 1; exact z; (unfold rcN at e; rw [if_pos z] at e; exact absurd e (by decide))
    have hC : 0 ≤ μ3 47 0 ∧ μ3 47 0 ≤ 2304 := (hO.R h1).1.1
    refine v_f2d (pc := 6) h (dk dt_L_workShare 4 rfl) (f2d_is (shW_dec hC)).1 ?_
    refine v_dast (pc := 7) h sh152 (Nat.le_of_ble_eq_true rfl) (by omega) (dk dt_L_workShare 5 rfl) ?_
    refine v_goto (pc := 8) h 14 (dk dt_L_workShare 6 rfl) rfl ?_
    refine v_iconst (pc := 14) h (dk dt_L_workShare 10 rfl) ?_
    exact v_iret (pc := 15) h r (dk dt_L_workShare 11 rfl) (Nat.le_of_ble_eq_true rfl) (Nat.le_of_ble_eq_true rfl) (Or.inl ⟨e, rfl, rfl⟩)
end
