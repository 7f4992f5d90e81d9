/-! ===== the law's glue: the calls that change the house, both sides ===== -/
section
variable {l : Launch} {B : Nat} {D : va_G} {E : Nat → ClassId} {m : Mm}
theorem gl_job (hst : l.stackTraces = false) (hR : RLm m) {c le d we : Int} (hc : InR c ∧ InR le) (hd : InR d ∧ InR we) :
    LawOK l B D E yL_job (.codeWith yL_job cL_job 7 (some .int) [(0, 14, 17, 13), (0, 14, 21, 15)]) rm_L_job [.ref (pl B 0), iI c, iI le, iI d, iI we, .ref (pl B 151)] yX12_job (.code yX12_job cX12_job 5 (some .int)) rm_X12_job [.ref (pl B 123), iI c, iI le, iI d, iI we] m := by
  have hO := hR.1
  have e9 : m 123 9 = m 1 9 := hR.2.1.2
  have hb : 0 ≤ m 1 9 ∧ m 1 9 ≤ 12 := hO.J.1
  refine ⟨rcJob (m 1 9) c le d we, _, by unfold rcJob; (repeat' split) <;> omega, w_job hst hO hc hd, fun e => (c_X12_job hst (by omega) hc hd).weak (PM_n' (by rw [e9]; exact e)) |>.weak (fun w m' h => by rw [e9] at h; exact h), fun ez m1 h1 => ?_⟩
  subst h1
  have k9 : (mup (mtell (mup m 0 7 0) c le d we) 151 0 (w32 (m 1 9))) 123 9 = m 1 9 := by rw [← e9]; simp [mtell, mup]
  exact ⟨m 1 9, (c_X12_job hst (by rw [k9]; exact hb) hc hd).weak (PM_y' (by rw [k9]; exact ez) k9 (mup_eq _ _ _ _) (by simp [Mjob, mup]) (RL_job hR ez))⟩
theorem gl_after (hst : l.stackTraces = false) (hR : RLm m) {j p : Int} (hj : InR j ∧ InR p) :
    LawOK l B D E yL_after (.codeWith yL_after cL_after 5 (some .int) [(0, 10, 13, 21), (0, 10, 17, 13)]) rm_L_after [.ref (pl B 0), iI j, iI p, .ref (pl B 151)] yX12_after (.code yX12_after cX12_after 3 (some .int)) rm_X12_after [.ref (pl B 123), iI j, iI p] m := by
  have hO := hR.1
  have e9 : m 123 9 = m 1 9 := hR.2.1.2
  have hE := hR.2.1.1
  have hM : okM m := by
    unfold okM
    rw [hE.1, hE.2.1, hE.2.2.1, hE.2.2.2.1, hE.2.2.2.2.1, hE.2.2.2.2.2.1, hE.2.2.2.2.2.2.1, hE.2.2.2.2.2.2.2.1, hE.2.2.2.2.2.2.2.2, e9]
    exact okT_ky hO.J
  refine ⟨rcAft (m 1 9) j p, _, by unfold rcAft; (repeat' split) <;> omega, w_after hst hO hj, fun e => (c_X12_after hst hM hj).weak (PM_n' (by rw [e9]; exact e)) |>.weak (fun w m' h => by rw [e9] at h; exact h), fun ez m1 h1 => ?_⟩
  subst h1
  have ea : ∀ a, a ∉ [0, 11, 151] → (mup (mup (mup m 0 7 0) 11 j.toNat (((m 11 j.toNat).toNat ||| 2 ^ p.toNat : Nat) : Int)) 151 0 (w32 (pcN ((m 11 j.toNat).toNat ||| 2 ^ p.toNat) 12))) a = m a := fun a ha => by
    simp only [List.mem_cons, List.not_mem_nil, or_false, not_or] at ha
    funext b; rw [mup_nk ha.2.2, mup_nk ha.2.1, mup_nk ha.1]
  have k128 : (mup (mup (mup m 0 7 0) 11 j.toNat (((m 11 j.toNat).toNat ||| 2 ^ p.toNat : Nat) : Int)) 151 0 (w32 (pcN ((m 11 j.toNat).toNat ||| 2 ^ p.toNat) 12))) 128 = m 11 := by rw [ea 128 (by decide)]; exact hE.2.2.2.2.1
  have h151 : (Maft (mup (mup (mup m 0 7 0) 11 j.toNat (((m 11 j.toNat).toNat ||| 2 ^ p.toNat : Nat) : Int)) 151 0 (w32 (pcN ((m 11 j.toNat).toNat ||| 2 ^ p.toNat) 12))) j.toNat p.toNat) 151 0 = w32 (pcN ((m 11 j.toNat).toNat ||| 2 ^ p.toNat) 12) := by
    unfold Maft
    show mup (mup (mup _ 128 _ _) 123 25 (-1)) 123 14 0 151 0 = _
    rw [mup_nk (by decide), mup_nk (by decide), mup_nk (by decide), mup_eq]
  refine ⟨pcN ((m 11 j.toNat).toNat ||| 2 ^ p.toNat) 12, (c_X12_after hst ?_ hj).weak (PM_y' ?_ ?_ (mup_eq _ _ _ _) h151 (RL_after hR ez))⟩
  · unfold okM
    rw [ea 124 (by decide), ea 125 (by decide), ea 126 (by decide), ea 127 (by decide), ea 128 (by decide), ea 129 (by decide), ea 130 (by decide), ea 131 (by decide), ea 132 (by decide), ea 123 (by decide)]
    exact hM
  · rw [ea 123 (by decide), e9]; exact ez
  · rw [k128]
theorem gl_lock (hst : l.stackTraces = false) (hR : RLm m) {j y f u : Int} (hj : InR j ∧ InR y) (hf : InR f ∧ InR u) :
    LawOK l B D E yL_lock (.codeWith yL_lock cL_lock 7 (some .int) [(0, 14, 17, 21), (0, 14, 21, 13), (0, 14, 25, 15)]) rm_L_lock [.ref (pl B 0), iI j, iI y, iI f, iI u, .ref (pl B 151)] yX12_lock (.code yX12_lock cX12_lock 7 (some .int)) rm_X12_lock [.ref (pl B 123), iI j, iI y, iI f, iI u] m := by
  have hO := hR.1
  have e9 : m 123 9 = m 1 9 := hR.2.1.2
  have hE := hR.2.1.1
  have hM : okM m := by
    unfold okM
    rw [hE.1, hE.2.1, hE.2.2.1, hE.2.2.2.1, hE.2.2.2.2.1, hE.2.2.2.2.2.1, hE.2.2.2.2.2.2.1, hE.2.2.2.2.2.2.2.1, hE.2.2.2.2.2.2.2.2, e9]
    exact okT_ky hO.J
  have erc : rcLk (m 123 9) (m 125) (m 129) (m 131) (m 132) j y f u = rcLk (m 1 9) (m 5) (m 13) (m 17) (m 19) j y f u := by
    rw [e9, hE.2.1, hE.2.2.2.2.2.1, hE.2.2.2.2.2.2.2.1, hE.2.2.2.2.2.2.2.2]
  refine ⟨rcLk (m 1 9) (m 5) (m 13) (m 17) (m 19) j y f u, _, by unfold rcLk; (repeat' split) <;> omega, w_lock hst hO hj hf, fun e => (c_X12_lock hst hM hj hf).weak (PM_n' (by rw [erc]; exact e)) |>.weak (fun w m' h => by rw [erc] at h; exact h), fun ez m1 h1 => ?_⟩
  have ea : ∀ a, a ∉ [0, 13, 15, 17, 19, 151] → m1 a = m a := fun a ha => by
    simp only [List.mem_cons, List.not_mem_nil, or_false, not_or] at ha
    obtain ⟨q0, q13, q15, q17, q19, q151⟩ := ha
    rw [h1]; unfold mstretch
    funext b; rw [mup_nk q151, mup_nk q13, mup_nk q19, mup_nk q17, mup_nk q15, mup_nk q0]
  have h151 : (Mlk m1 j.toNat y f u) 151 0 = w32 (m 13 j.toNat + 1) := by
    unfold Mlk
    show mup (mup (mup (mup (mup (mup _ 130 _ _) 131 _ _) 132 _ _) 129 _ _) 123 25 (-1)) 123 14 0 151 0 = _
    rw [mup_nk (by decide), mup_nk (by decide), mup_nk (by decide), mup_nk (by decide), mup_nk (by decide), mup_nk (by decide), h1, mup_eq]
  refine ⟨m 13 j.toNat + 1, (c_X12_lock hst ?_ hj hf).weak (PM_y' ?_ ?_ (mup_eq _ _ _ _) h151 (by rw [h1]; exact RL_lock hR ez))⟩
  · unfold okM
    rw [ea 124 (by decide), ea 125 (by decide), ea 126 (by decide), ea 127 (by decide), ea 128 (by decide), ea 129 (by decide), ea 130 (by decide), ea 131 (by decide), ea 132 (by decide), ea 123 (by decide)]
    exact hM
  · rw [ea 123 (by decide), ea 125 (by decide), ea 129 (by decide), ea 131 (by decide), ea 132 (by decide), erc]; exact ez
  · rw [ea 129 (by decide), hE.2.2.2.2.2.1]
theorem gl_turns (hst : l.stackTraces = false) (hR : RLm m) {s c ri sd le : Int} (hs : InR s ∧ InR c) (hri : InR ri) (hle : le = 0 ∨ le = 1) :
    LawOK l B D E yL_turns (.codeWith yL_turns cL_turns 8 (some .int) [(0, 16, 19, 13)]) rm_L_turns [.ref (pl B 0), iI s, iI c, iI ri, iI sd, iI le, .ref (pl B 151)] yX12_turns (.code yX12_turns cX12_turns 7 (some .int)) rm_X12_turns [.ref (pl B 123), iI s, iI c, iI ri, iI sd, iI le] m := by
  have hO := hR.1
  refine ⟨rcTn s c ri, _, by unfold rcTn; split <;> omega, w_turns hst hO hs hri hle, fun e => (c_X12_turns hst hs hri hle).weak (PM_n' e), fun ez m1 h1 => ?_⟩
  have h151 : (Mtn m1 s c ri sd le) 151 0 = w32 (m 27 0) := by
    rw [h1]; simp [Mtn, mup]
  have h10 : m1 123 10 = m 27 0 := by rw [h1, ← hR.2.2.1.1]; simp [mturn, mup]
  exact ⟨m 27 0, (c_X12_turns hst hs hri hle).weak (PM_y' ez h10 (mup_eq _ _ _ _) h151 (by rw [h1]; exact RL_turns hR hle ez))⟩
theorem gl_task (hst : l.stackTraces = false) (hR : RLm m) {p le d : Int} (hp : InR p ∧ InR le) (hd : InR d) :
    LawOK l B D E yL_task (.codeWith yL_task cL_task 6 (some .int) [(0, 12, 15, 13), (0, 12, 19, 15)]) rm_L_task [.ref (pl B 0), iI p, iI le, iI d, .ref (pl B 151)] yX12_task (.code yX12_task cX12_task 4 (some .int)) rm_X12_task [.ref (pl B 123), iI p, iI le, iI d] m := by
  have hO := hR.1
  have e19 : m 123 19 = m 20 3 := hR.2.2.2.1.2.2.2
  have hb : 0 ≤ m 20 3 ∧ m 20 3 ≤ 5 := hO.T.1
  refine ⟨rcTk (m 20 3) p le d, _, by unfold rcTk; (repeat' split) <;> omega, w_task hst hO hp hd, fun e => (c_X12_task hst (by omega) hp hd).weak (PM_n' (by rw [e19]; exact e)) |>.weak (fun w m' h => by rw [e19] at h; exact h), fun ez m1 h1 => ?_⟩
  have k19 : m1 123 19 = m 20 3 := by rw [h1, ← e19]; simp [mtask, mup]
  have h151 : (Mtk m1 p le d) 151 0 = w32 (m 20 3) := by rw [h1]; simp [Mtk, mup]
  exact ⟨m 20 3, (c_X12_task hst (by rw [k19]; exact hb) hp hd).weak (PM_y' (by rw [k19]; exact ez) k19 (mup_eq _ _ _ _) h151 (by rw [h1]; exact RL_task hR ez))⟩
theorem gl_clear (hst : l.stackTraces = false) (hR : RLm m) :
    LawEq l B D E yX11_clear (.code yX11_clear cX11_clear 2 (some .int)) rm_X11_clear [.ref (pl B 0)] yX12_clear (.code yX12_clear cX12_clear 2 (some .int)) rm_X12_clear [.ref (pl B 123)] m (fun v => iI v) := by
  refine ⟨m 1 9, (fun m1 => m1 = mup (mup m 1 9 0) 0 7 0), c_X11_clear hst, fun m1 h1 => ?_⟩
  refine (c_X12_clear hst).weak (fun w m' h => ⟨?_, ?_⟩)
  · rw [h.1, h1, ← hR.2.1.2]; simp [mup]
  · rw [h.2, h1]; exact RL_clear hR
theorem gl_run (hst : l.stackTraces = false) (hR : RLm m) {ru : Int} (hru : InR ru) :
    LawOK l B D E yL_run (.codeWith yL_run cL_run 4 (some .int) [(0, 9, 12, 13)]) rm_L_run [.ref (pl B 0), iI ru, .ref (pl B 151)] yX12_run (.code yX12_run cX12_run 3 (some .int)) rm_X12_run [.ref (pl B 123), iI ru] m := by
  have hR0 := hR
  obtain ⟨hO, hE, hW, hT, hH⟩ := hR0
  obtain ⟨n, hn⟩ := RLm_n hR
  refine ⟨rcR1 ru, _, by unfold rcR1; split <;> omega, w_run hst hO hn hru, fun e => (c_X12_run hst hE hW hO hn hru).weak (fun w m' h => by rw [if_neg e] at h; exact h), fun ez m1 h1 => ?_⟩
  obtain ⟨m0, ⟨g1, g2, g3⟩, h1⟩ := h1
  have hr8 : 0 ≤ ru ∧ ru ≤ 8 := by unfold rcR1 at ez; split at ez; omega; (rename_i q; exact Classical.byContradiction q)
  have hD := okJD hO.J hn
  have hK := okK_kof (r := ru) (s := m 27 0) (c := m 27 1) (le := m 27 4) (ri := m 27 2) hr8 hO.W.1 hO.W.2.1 hO.W.2.2.2 hO.W.2.2.1
  have hA := aR_is hD hK g3
  have f4 := fun (j : Nat) (h8 : ru ≠ 8) => fn_4 (J := jm m) (n := n) (K := kM m ru) (z := m 27 3) (show kM m ru 0 ≠ 8 from h8) j
  generalize hs : (fnF (jm m) n (kof ru (m 27 0) (m 27 1) (m 27 4) (m 27 2)) (m 27 3)).1 = σ at *
  have ea : ∀ a, a ≠ 0 → (a < 28 ∨ 57 ≤ a ∧ a ≠ 151) → m1 a = m a := fun a h0 h => by rw [h1]; funext b; rw [mup_nk (by omega), g2 a h0 (by omega)]
  have eb : ∀ a, a ≠ 151 → m1 a = m0 a := fun a h => by rw [h1]; funext b; exact mup_nk h
  have jm1 : jm m1 = jm m := by
    funext k
    match k with
    | 0 => exact ea 3 (by decide) (by omega)
    | 1 => exact ea 5 (by decide) (by omega)
    | 2 => exact ea 7 (by decide) (by omega)
    | 3 => exact ea 9 (by decide) (by omega)
    | 4 => exact ea 11 (by decide) (by omega)
    | 5 => exact ea 13 (by decide) (by omega)
    | 6 => exact ea 15 (by decide) (by omega)
    | 7 => exact ea 17 (by decide) (by omega)
    | 8 => exact ea 19 (by decide) (by omega)
    | k + 9 => rfl
  have h07 : m1 0 7 = 1 := by rw [eb 0 (by decide)]; exact g1
  have hRn : okRn m1 := by
    refine ⟨?_, fun j hj => ?_⟩
    · unfold okC
      rw [eb 47 (by decide), eb (47 + 2) (by decide)]
      exact hA.1
    · rw [ea 1 (by decide) (by omega), hn] at hj
      have h := hA.2.2.2 j (by omega)
      rw [ea 3 (by decide) (by omega), eb 44 (by decide), eb 46 (by decide), eb 30 (by decide)]
      exact ⟨h.1.2, h.2.1.2, h.2.2.2⟩
  have hO1 : hOK m1 := by
    refine ⟨?_, ?_, ?_, Or.inr h07, fun _ => hRn⟩
    · unfold okJ
      rw [ea 1 (by decide) (by omega), ea 2 (by decide) (by omega), ea 3 (by decide) (by omega), ea 5 (by decide) (by omega), ea 7 (by decide) (by omega), ea 9 (by decide) (by omega), ea 11 (by decide) (by omega), ea 13 (by decide) (by omega), ea 15 (by decide) (by omega), ea 17 (by decide) (by omega), ea 19 (by decide) (by omega)]
      exact hO.J
    · unfold okTk
      rw [ea 20 (by decide) (by omega), ea 22 (by decide) (by omega), ea 24 (by decide) (by omega), ea 26 (by decide) (by omega)]
      exact hO.T
    · unfold okWy
      rw [ea 27 (by decide) (by omega)]
      exact hO.W
  have hE1 : eqJ m1 := by
    unfold eqJ
    rw [ea 123 (by decide) (by omega), ea 1 (by decide) (by omega), ea 3 (by decide) (by omega), ea 5 (by decide) (by omega), ea 7 (by decide) (by omega), ea 9 (by decide) (by omega), ea 11 (by decide) (by omega), ea 13 (by decide) (by omega), ea 15 (by decide) (by omega), ea 17 (by decide) (by omega), ea 19 (by decide) (by omega), ea 124 (by decide) (by omega), ea 125 (by decide) (by omega), ea 126 (by decide) (by omega), ea 127 (by decide) (by omega), ea 128 (by decide) (by omega), ea 129 (by decide) (by omega), ea 130 (by decide) (by omega), ea 131 (by decide) (by omega), ea 132 (by decide) (by omega)]
    exact hE
  have hW1 : eqW m1 := by
    unfold eqW
    rw [ea 123 (by decide) (by omega), ea 27 (by decide) (by omega)]
    exact hW
  refine ⟨m0 47 0, (c_X12_run hst hE1 hW1 hO1 (by rw [ea 1 (by decide) (by omega)]; exact hn) hru).weak (fun w m2 h => ?_)⟩
  rw [if_pos ez, jm1] at h
  obtain ⟨h2, h14, hL, hl⟩ := h
  have hl : lR n m2 (fnF (jm m) n (kof ru (m1 27 0) (m1 27 1) (m1 27 4) (m1 27 2)) (m1 27 3)).1 ru := hl
  rw [ea 27 (by decide) (by omega), hs] at hl
  have e2 : ∀ a, a ≠ 123 → (a < 136 ∨ 149 < a) → m2 a = m1 a := hL.1
  have f2 : ∀ b, b ≠ 14 → b < 24 → m2 123 b = m1 123 b := fun b q1 q2 => hL.2 b q1 (by omega) (by omega) (by omega) (by omega) (by omega)
  obtain ⟨l25, l24, l36, lj⟩ := hl
  have hO2 : hOK m2 := hO_c (fun a q => e2 a (by omega) (by omega)) hO1
  refine ⟨by rw [h2, l24, ← hA.2.1], h14, by rw [e2 151 (by decide) (by omega), h1, mup_eq], hO2, eqJ_c (fun a q => e2 a (by omega) (by omega)) (f2 9 (by decide) (by decide)) hE1, ?_, ?_, ?_⟩
  · unfold eqW
    rw [f2 10 (by decide) (by decide), f2 11 (by decide) (by decide), f2 12 (by decide) (by decide), f2 13 (by decide) (by decide), f2 15 (by decide) (by decide), e2 27 (by decide) (by omega)]
    exact hW1
  · unfold eqT
    rw [f2 19 (by decide) (by decide), e2 133 (by decide) (by omega), e2 134 (by decide) (by omega), e2 135 (by decide) (by omega), e2 20 (by decide) (by omega), e2 22 (by decide) (by omega), e2 24 (by decide) (by omega), e2 26 (by decide) (by omega), ea 123 (by decide) (by omega), ea 133 (by decide) (by omega), ea 134 (by decide) (by omega), ea 135 (by decide) (by omega), ea 20 (by decide) (by omega), ea 22 (by decide) (by omega), ea 24 (by decide) (by omega), ea 26 (by decide) (by omega)]
    exact hT
  · unfold eqH
    rw [l25, l24, e2 0 (by decide) (by omega), e2 47 (by decide) (by omega), e2 49 (by decide) (by omega), e2 1 (by decide) (by omega), e2 44 (by decide) (by omega), e2 46 (by decide) (by omega), e2 30 (by decide) (by omega), eb 47 (by decide), eb 49 (by decide), eb 44 (by decide), eb 46 (by decide), eb 30 (by decide), ea 1 (by decide) (by omega), h07, hn]
    refine ⟨⟨by omega, ⟨fun _ => by omega, fun _ => rfl⟩⟩, fun _ => ⟨hA.2.1.symm, fun t ht => ?_, fun j hj => ?_⟩⟩
    · rw [hA.2.1] at ht
      rw [l36 t ht]
      exact (hA.2.2.1 t ht).symm
    · have hq := lj j (by omega)
      have ha := hA.2.2.2 j (by omega)
      refine ⟨hq.1.trans ha.1.1.symm, hq.2.1.trans ha.2.1.1.symm, ?_⟩
      by_cases q : ru = 8
      · rw [if_pos q]; exact hq.2.2.trans ha.2.2.1.symm
      · rw [if_neg q]; exact (ha.2.2.1.trans (f4 j q)).symm
end
