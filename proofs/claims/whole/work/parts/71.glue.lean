/-! ===== the law's glue: what holds between two calls; the calls that only ask ===== -/
/-- what holds between two calls -/
def RLm (m : Mm) : Prop := hOK m ∧ eqJ m ∧ eqW m ∧ eqT m ∧ eqH m
/-- nothing changes but what nobody asks for later -/
def sf (μ m : Mm) : Prop := (∀ a, a ≠ 123 → (a < 57 ∨ (122 < a ∧ a < 140)) → m a = μ a) ∧ ∀ b, b ≠ 14 → b < 26 → m 123 b = μ 123 b
theorem sf_tr {μ m m' : Mm} (h1 : sf μ m) (h2 : sf m m') : sf μ m' := ⟨fun a p q => (h2.1 a p q).trans (h1.1 a p q), fun b p q => (h2.2 b p q).trans (h1.2 b p q)⟩
theorem sf_up {μ : Mm} {o j : Nat} {x : Int} (h : 139 < o) : sf μ (mup μ o j x) := ⟨fun a p q => by funext b; exact mup_nk (by omega), fun b p q => mup_nk (by omega)⟩
theorem sf_14 {μ : Mm} {x : Int} : sf μ (mup μ 123 14 x) := ⟨fun a p q => by funext b; exact mup_nk p, fun b p q => mup_ne (fun z => p z.2)⟩
theorem sf_fq {μ m : Mm} (h : fq μ m) : sf μ m := ⟨fun a p q => h a (by omega), fun b _ _ => by rw [h 123 (by omega)]⟩
theorem sf_un {μ m : Mm} {x : Int} (h : sf μ (mup m 123 14 x)) : sf μ m := ⟨fun a p q => by have := h.1 a p q; rw [← this]; funext b; exact (mup_nk p).symm, fun b p q => by have := h.2 b p q; rw [← this]; exact (mup_ne (fun z => p z.2)).symm⟩
theorem sf_fT {μ m : Mm} (h : fT μ m) : sf μ m := sf_un (x := μ 123 14) ⟨fun a p q => h.1.1 a p (by omega), fun b p q => h.1.2 b (by omega) (by omega) (by omega)⟩
theorem sf_fE {μ m : Mm} (h : fE μ m) : sf μ m := sf_un (x := μ 123 14) ⟨fun a p q => h.1.1 a p (by omega), fun b p q => h.1.2 b (by omega) (by omega) (by omega) (by omega) (by omega) (by omega)⟩
theorem sf_fF {μ m : Mm} (h : fF μ m) : sf μ m := ⟨fun a p q => h.1.1 a p, fun b p q => h.1.2 b p (by omega) (by omega)⟩
theorem RLm_sf {μ m : Mm} (h : RLm μ) (s : sf μ m) : RLm m := by
  obtain ⟨h1, h2, h3, h4, h5⟩ := h
  have g : ∀ a, a ≠ 123 → (a < 57 ∨ (122 < a ∧ a < 140)) → m a = μ a := s.1
  refine ⟨hO_c (fun a q => g a (by omega) (by omega)) h1, eqJ_c (fun a q => g a (by omega) (by omega)) (s.2 9 (by decide) (by decide)) h2, ?_, ?_, ?_⟩
  · unfold eqW
    rw [s.2 10 (by decide) (by decide), s.2 11 (by decide) (by decide), s.2 12 (by decide) (by decide), s.2 13 (by decide) (by decide), s.2 15 (by decide) (by decide), g 27 (by decide) (by decide)]
    exact h3
  · unfold eqT
    rw [s.2 19 (by decide) (by decide), g 133 (by decide) (by decide), g 134 (by decide) (by decide), g 135 (by decide) (by decide), g 22 (by decide) (by decide), g 24 (by decide) (by decide), g 26 (by decide) (by decide), g 20 (by decide) (by decide)]
    exact h4
  · unfold eqH
    rw [s.2 25 (by decide) (by decide), s.2 24 (by decide) (by decide), g 0 (by decide) (by decide), g 47 (by decide) (by decide), g 49 (by decide) (by decide), g 136 (by decide) (by decide), g 137 (by decide) (by decide), g 138 (by decide) (by decide), g 139 (by decide) (by decide), g 1 (by decide) (by decide), g 44 (by decide) (by decide), g 46 (by decide) (by decide), g 30 (by decide) (by decide)]
    exact h5
theorem RLm_n {m : Mm} (h : RLm m) : ∃ n : Nat, m 1 9 = (n : Int) := ⟨(m 1 9).toNat, by have : 0 ≤ m 1 9 := h.1.J.1.1; omega⟩
theorem RLm_k {m : Mm} (h : RLm m) : ∃ n : Nat, m 20 3 = (n : Int) := ⟨(m 20 3).toNat, by have : 0 ≤ m 20 3 := h.1.T.1.1; omega⟩
theorem Ct.weak {l : Launch} {B : Nat} {D : va_G} {E : Nat → ClassId} {y : MethodName} {cw : Cond} {rm : Room} {av : List Value} {μ : Mm} {P P' : Pv} {X : Px} (h : Ct l B D E y cw rm av μ P X) (hp : ∀ v m, P v m → P' v m) : Ct l B D E y cw rm av μ P' X := by
  intro p e ha hc hk s m args below hf happ hP htr
  obtain ⟨n, o, h1, h2, h3, hQ⟩ := h p e ha hc hk s m args below hf happ hP htr
  refine ⟨n, o, h1, h2, h3, ?_⟩
  rcases hQ with ⟨⟨⟨v, m', q1, q2, q3⟩, q4⟩, q5⟩ | q
  · exact Or.inl ⟨⟨⟨v, m', q1, hp _ _ q2, q3⟩, q4⟩, q5⟩
  · exact Or.inr q
/-- the model refuses with rc -/
def MN (rc : Int) (μ : Mm) : Pv := fun w m => w = some (iI 0) ∧ m = mup μ 123 14 rc
/-- the model tells v, which the law has kept -/
def MY (v : Int) : Pv := fun w m => w = some (iI v) ∧ m 123 14 = 0 ∧ m 151 0 = w32 v ∧ RLm m
/-- a call that may be refused: what the law finds of it on both sides -/
def LawOK (l : Launch) (B : Nat) (D : va_G) (E : Nat → ClassId) (yL : MethodName) (cwL : Cond) (rmL : Room) (avL : List Value) (yM : MethodName) (cwM : Cond) (rmM : Room) (avM : List Value) (m : Mm) : Prop :=
  ∃ (rc : Int) (Q : Mm → Prop), (0 ≤ rc ∧ rc ≤ 3) ∧ Ct l B D E yL cwL rmL avL m (PL rc Q m) NX ∧ (rc ≠ 0 → Ct l B D E yM cwM rmM avM m (MN rc m) NX) ∧ (rc = 0 → ∀ m1, Q m1 → ∃ v, Ct l B D E yM cwM rmM avM m1 (MY v) NX)
theorem PM_n' {rc : Int} {v : Option Value} {μ M : Mm} (e : rc ≠ 0) : ∀ w m, PM rc v μ M w m → MN rc μ w m := fun w m h => by unfold PM at h; rw [if_neg e] at h; exact h
theorem PM_y' {rc v v' : Int} {m1 M : Mm} (e : rc = 0) (ev : v' = v) (h14 : M 123 14 = 0) (h151 : M 151 0 = w32 v) (hR : RLm M) : ∀ w m, PM rc (some (iI v')) m1 M w m → MY v w m := fun w m h => by
  unfold PM at h; rw [if_pos e] at h; obtain ⟨h1, rfl⟩ := h
  exact ⟨by rw [h1, ev], h14, h151, hR⟩
theorem ask_M {m m1 : Mm} {x : Int} (hR : RLm m) (e : m1 = mup m 151 0 x) : RLm m1 ∧ (∀ a, a ≠ 151 → m1 a = m a) ∧ (mup m1 123 14 0) 123 14 = 0 ∧ (mup m1 123 14 0) 151 0 = x ∧ RLm (mup m1 123 14 0) := by
  subst e
  have h1 := RLm_sf hR (sf_up (j := 0) (x := x) (show 139 < 151 by decide))
  exact ⟨h1, fun a h => by funext b; exact mup_nk h, mup_eq _ _ _ _, by rw [mup_nk (by decide), mup_eq], RLm_sf h1 sf_14⟩
section
variable {l : Launch} {B : Nat} {D : va_G} {E : Nat → ClassId} {m : Mm}
theorem gl_running (hst : l.stackTraces = false) (hR : RLm m) {z : Int} (hz : InR z) :
    LawOK l B D E yL_running (.codeWith yL_running cL_running 4 (some .int) [(0, 9, 12, 13), (0, 9, 15, 15)]) rm_L_running [.ref (pl B 0), iI z, .ref (pl B 151)] yX12_running (.code yX12_running cX12_running 2 (some .int)) rm_X12_running [.ref (pl B 123), iI z] m := by
  have hR0 := hR
  obtain ⟨hO, hE, hW, hT, hH⟩ := hR0
  refine ⟨rcM (m 0 7) z, _, by unfold rcM; (repeat' split) <;> omega, w_running hst hO hz, fun e => (c_X12_running hst hH hO hz).weak (PM_n' e), fun ez m1 h1 => ?_⟩
  obtain ⟨hR1, ea, h14, h151, hRM⟩ := ask_M hR h1
  have hR1' := hR1
  obtain ⟨hO1, hE1, hW1, hT1, hH1⟩ := hR1'
  refine ⟨doF (m 49) (m 47 0) z, (c_X12_running hst hH1 hO1 hz).weak (PM_y' ?_ ?_ h14 h151 hRM)⟩
  · rw [ea 0 (by decide)]; exact ez
  · rw [ea 47 (by decide), ea 49 (by decide)]
theorem gl_left (hst : l.stackTraces = false) (hR : RLm m) {j z : Int} (hj : InR j) (hz : InR z) :
    LawOK l B D E yL_left (.codeWith yL_left cL_left 5 (some .int) [(0, 10, 13, 21), (0, 10, 17, 13), (0, 10, 21, 15)]) rm_L_left [.ref (pl B 0), iI j, iI z, .ref (pl B 151)] yX12_left (.code yX12_left cX12_left 3 (some .int)) rm_X12_left [.ref (pl B 123), iI j, iI z] m := by
  have hR0 := hR
  obtain ⟨hO, hE, hW, hT, hH⟩ := hR0
  refine ⟨rcL (m 1 9) (m 0 7) j z, _, by unfold rcL; (repeat' split) <;> omega, w_left hst hO hj hz, fun e => (c_X12_left hst hE hH hO hj hz).weak (PM_n' e), fun ez m1 h1 => ?_⟩
  obtain ⟨hR1, ea, h14, h151, hRM⟩ := ask_M hR h1
  have hR1' := hR1
  obtain ⟨hO1, hE1, hW1, hT1, hH1⟩ := hR1'
  refine ⟨lfF (m 5) (m 49) (m 47 0) j.toNat z, (c_X12_left hst hE1 hH1 hO1 hj hz).weak (PM_y' ?_ ?_ h14 h151 hRM)⟩
  · rw [ea 0 (by decide), ea 1 (by decide)]; exact ez
  · rw [ea 5 (by decide), ea 47 (by decide), ea 49 (by decide)]
theorem gl_work (hst : l.stackTraces = false) (hR : RLm m) {z : Int} (hz : InR z) :
    LawOK l B D E yL_work (.codeWith yL_work cL_work 4 (some .int) [(0, 9, 12, 13), (0, 9, 15, 15)]) rm_L_work [.ref (pl B 0), iI z, .ref (pl B 151)] yX12_work (.code yX12_work cX12_work 4 (some .int)) rm_X12_work [.ref (pl B 123), iI z] m := by
  have hR0 := hR
  obtain ⟨hO, hE, hW, hT, hH⟩ := hR0
  obtain ⟨n, hn⟩ := RLm_n hR
  refine ⟨rcM (m 0 7) z, _, by unfold rcM; (repeat' split) <;> omega, w_work hst hO hn hz, fun e => (c_X12_work hst hE hH hO hn hz).weak (PM_n' e), fun ez m1 h1 => ?_⟩
  obtain ⟨hR1, ea, h14, h151, hRM⟩ := ask_M hR h1
  have hR1' := hR1
  obtain ⟨hO1, hE1, hW1, hT1, hH1⟩ := hR1'
  have hn1 : m1 1 9 = (n : Int) := by rw [ea 1 (by decide)]; exact hn
  refine ⟨wkS (m 3) (m 5) (m 49) (m 47 0) z n, (c_X12_work hst hE1 hH1 hO1 hn1 hz).weak (PM_y' ?_ ?_ h14 h151 hRM)⟩
  · rw [ea 0 (by decide)]; exact ez
  · rw [ea 3 (by decide), ea 5 (by decide), ea 47 (by decide), ea 49 (by decide)]
theorem gl_end (hst : l.stackTraces = false) (hR : RLm m) {j : Int} (hj : InR j) :
    LawOK l B D E yL_end (.codeWith yL_end cL_end 4 (some .int) [(0, 9, 12, 21), (0, 9, 15, 15)]) rm_L_end [.ref (pl B 0), iI j, .ref (pl B 151)] yX12_end (.code yX12_end cX12_end 2 (some .int)) rm_X12_end [.ref (pl B 123), iI j] m := by
  have hR0 := hR
  obtain ⟨hO, hE, hW, hT, hH⟩ := hR0
  refine ⟨rcJ (m 1 9) (m 0 7) j, _, by unfold rcJ; (repeat' split) <;> omega, w_end hst hO hj, fun e => (c_X12_end hst hE hH hO hj).weak (PM_n' e), fun ez m1 h1 => ?_⟩
  obtain ⟨hR1, ea, h14, h151, hRM⟩ := ask_M hR h1
  have hR1' := hR1
  obtain ⟨hO1, hE1, hW1, hT1, hH1⟩ := hR1'
  refine ⟨m 44 j.toNat, (c_X12_end hst hE1 hH1 hO1 hj).weak (PM_y' ?_ ?_ h14 h151 hRM)⟩
  · rw [ea 0 (by decide), ea 1 (by decide)]; exact ez
  · rw [ea 44 (by decide)]
theorem gl_sumOfEnds (hst : l.stackTraces = false) (hR : RLm m)  :
    LawOK l B D E yL_sumOfEnds (.codeWith yL_sumOfEnds cL_sumOfEnds 3 (some .int) [(0, 8, 11, 15)]) rm_L_sumOfEnds [.ref (pl B 0), .ref (pl B 151)] yX12_sumOfEnds (.code yX12_sumOfEnds cX12_sumOfEnds 1 (some .int)) rm_X12_sumOfEnds [.ref (pl B 123)] m := by
  have hR0 := hR
  obtain ⟨hO, hE, hW, hT, hH⟩ := hR0
  obtain ⟨n, hn⟩ := RLm_n hR
  refine ⟨rcN (m 0 7), _, by unfold rcN; (repeat' split) <;> omega, w_sumOfEnds hst hO hn, fun e => (c_X12_sumOfEnds hst hE hH hO hn ).weak (PM_n' e), fun ez m1 h1 => ?_⟩
  obtain ⟨hR1, ea, h14, h151, hRM⟩ := ask_M hR h1
  have hR1' := hR1
  obtain ⟨hO1, hE1, hW1, hT1, hH1⟩ := hR1'
  have hn1 : m1 1 9 = (n : Int) := by rw [ea 1 (by decide)]; exact hn
  refine ⟨smF (m 44) n, (c_X12_sumOfEnds hst hE1 hH1 hO1 hn1 ).weak (PM_y' ?_ ?_ h14 h151 hRM)⟩
  · rw [ea 0 (by decide)]; exact ez
  · rw [ea 44 (by decide)]
theorem gl_waits (hst : l.stackTraces = false) (hR : RLm m) {j : Int} (hj : InR j) :
    LawOK l B D E yL_waits (.codeWith yL_waits cL_waits 4 (some .int) [(0, 9, 12, 21), (0, 9, 15, 15)]) rm_L_waits [.ref (pl B 0), iI j, .ref (pl B 151)] yX12_waits (.code yX12_waits cX12_waits 2 (some .int)) rm_X12_waits [.ref (pl B 123), iI j] m := by
  have hR0 := hR
  obtain ⟨hO, hE, hW, hT, hH⟩ := hR0
  refine ⟨rcJ (m 1 9) (m 0 7) j, _, by unfold rcJ; (repeat' split) <;> omega, w_waits hst hO hj, fun e => (c_X12_waits hst hE hH hO hj).weak (PM_n' e), fun ez m1 h1 => ?_⟩
  obtain ⟨hR1, ea, h14, h151, hRM⟩ := ask_M hR h1
  have hR1' := hR1
  obtain ⟨hO1, hE1, hW1, hT1, hH1⟩ := hR1'
  refine ⟨gapJ (m 49) (j.toNat : Int) ((m 47 0).toNat - (m 46 j.toNat).toNat) (m 46 j.toNat).toNat ((m 46 j.toNat).toNat : Int) 0, (c_X12_waits hst hE1 hH1 hO1 hj).weak (PM_y' ?_ ?_ h14 h151 hRM)⟩
  · rw [ea 0 (by decide), ea 1 (by decide)]; exact ez
  · rw [ea 46 (by decide), ea 47 (by decide), ea 49 (by decide)]
theorem gl_blocked (hst : l.stackTraces = false) (hR : RLm m) {j : Int} (hj : InR j) :
    LawOK l B D E yL_blocked (.codeWith yL_blocked cL_blocked 4 (some .int) [(0, 9, 12, 21), (0, 9, 15, 15)]) rm_L_blocked [.ref (pl B 0), iI j, .ref (pl B 151)] yX12_blocked (.code yX12_blocked cX12_blocked 2 (some .int)) rm_X12_blocked [.ref (pl B 123), iI j] m := by
  have hR0 := hR
  obtain ⟨hO, hE, hW, hT, hH⟩ := hR0
  refine ⟨rcJ (m 1 9) (m 0 7) j, _, by unfold rcJ; (repeat' split) <;> omega, w_blocked hst hO hj, fun e => (c_X12_blocked hst hE hH hO hj).weak (PM_n' e), fun ez m1 h1 => ?_⟩
  obtain ⟨hR1, ea, h14, h151, hRM⟩ := ask_M hR h1
  have hR1' := hR1
  obtain ⟨hO1, hE1, hW1, hT1, hH1⟩ := hR1'
  refine ⟨m 30 j.toNat, (c_X12_blocked hst hE1 hH1 hO1 hj).weak (PM_y' ?_ ?_ h14 h151 hRM)⟩
  · rw [ea 0 (by decide), ea 1 (by decide)]; exact ez
  · rw [ea 30 (by decide)]
theorem gl_late (hst : l.stackTraces = false) (hR : RLm m) {j : Int} (hj : InR j) :
    LawOK l B D E yL_late (.codeWith yL_late cL_late 4 (some .int) [(0, 9, 12, 21), (0, 9, 15, 15)]) rm_L_late [.ref (pl B 0), iI j, .ref (pl B 151)] yX12_late (.code yX12_late cX12_late 2 (some .int)) rm_X12_late [.ref (pl B 123), iI j] m := by
  have hR0 := hR
  obtain ⟨hO, hE, hW, hT, hH⟩ := hR0
  refine ⟨rcJ (m 1 9) (m 0 7) j, _, by unfold rcJ; (repeat' split) <;> omega, w_late hst hO hj, fun e => (c_X12_late hst hE hH hO hj).weak (PM_n' e), fun ez m1 h1 => ?_⟩
  obtain ⟨hR1, ea, h14, h151, hRM⟩ := ask_M hR h1
  have hR1' := hR1
  obtain ⟨hO1, hE1, hW1, hT1, hH1⟩ := hR1'
  refine ⟨lat (m 7 j.toNat) (m 44 j.toNat), (c_X12_late hst hE1 hH1 hO1 hj).weak (PM_y' ?_ ?_ h14 h151 hRM)⟩
  · rw [ea 0 (by decide), ea 1 (by decide)]; exact ez
  · rw [ea 7 (by decide), ea 44 (by decide)]
theorem gl_slowest (hst : l.stackTraces = false) (hR : RLm m) {b : Int} (hb01 : b = 0 ∨ b = 1) :
    LawOK l B D E yL_slowest (.codeWith yL_slowest cL_slowest 4 (some .int) [(0, 9, 12, 15)]) rm_L_slowest [.ref (pl B 0), iI b, .ref (pl B 151)] yX12_slowest (.code yX12_slowest cX12_slowest 6 (some .int)) rm_X12_slowest [.ref (pl B 123), iI b] m := by
  have hR0 := hR
  obtain ⟨hO, hE, hW, hT, hH⟩ := hR0
  obtain ⟨n, hn⟩ := RLm_n hR
  refine ⟨rcSl (m 0 7) (m 1 9), _, by unfold rcSl; (repeat' split) <;> omega, w_slowest hst hO hn hb01, fun e => (c_X12_slowest hst hE hH hO hn hb01).weak (PM_n' e), fun ez m1 h1 => ?_⟩
  obtain ⟨hR1, ea, h14, h151, hRM⟩ := ask_M hR h1
  have hR1' := hR1
  obtain ⟨hO1, hE1, hW1, hT1, hH1⟩ := hR1'
  have hn1 : m1 1 9 = (n : Int) := by rw [ea 1 (by decide)]; exact hn
  refine ⟨anSl (slF (m 44) (m 3) (m 5) n) b, (c_X12_slowest hst hE1 hH1 hO1 hn1 hb01).weak (PM_y' ?_ ?_ h14 h151 hRM)⟩
  · rw [ea 0 (by decide), ea 1 (by decide)]; exact ez
  · rw [ea 3 (by decide), ea 5 (by decide), ea 44 (by decide)]
theorem gl_busy (hst : l.stackTraces = false) (hR : RLm m) {x e : Int} (hx : InR x) (he : e = 0 ∨ e = 1) :
    LawOK l B D E yL_busy (.codeWith yL_busy cL_busy 5 (some .int) [(0, 10, 13, 15), (0, 10, 17, 67)]) rm_L_busy [.ref (pl B 0), iI x, iI e, .ref (pl B 151)] yX12_busy (.code yX12_busy cX12_busy 6 (some .int)) rm_X12_busy [.ref (pl B 123), iI x, iI e] m := by
  have hR0 := hR
  obtain ⟨hO, hE, hW, hT, hH⟩ := hR0
  refine ⟨rcB (m 0 7) (m 49) (m 47 0) x, _, by unfold rcB; (repeat' split) <;> omega, w_busy hst hO hx he, fun e => (c_X12_busy hst hE hH hO hx he).weak (PM_n' e), fun ez m1 h1 => ?_⟩
  obtain ⟨hR1, ea, h14, h151, hRM⟩ := ask_M hR h1
  have hR1' := hR1
  obtain ⟨hO1, hE1, hW1, hT1, hH1⟩ := hR1'
  refine ⟨anB (m 49) (m 47 0) x e, (c_X12_busy hst hE1 hH1 hO1 hx he).weak (PM_y' ?_ ?_ h14 h151 hRM)⟩
  · rw [ea 0 (by decide), ea 47 (by decide), ea 49 (by decide)]; exact ez
  · rw [ea 47 (by decide), ea 49 (by decide)]
theorem gl_checksum (hst : l.stackTraces = false) (hR : RLm m)  :
    LawOK l B D E yL_checksum (.codeWith yL_checksum cL_checksum 3 (some .int) [(0, 8, 11, 15)]) rm_L_checksum [.ref (pl B 0), .ref (pl B 151)] yX12_checksum (.code yX12_checksum cX12_checksum 3 (some .int)) rm_X12_checksum [.ref (pl B 123)] m := by
  have hR0 := hR
  obtain ⟨hO, hE, hW, hT, hH⟩ := hR0
  refine ⟨rcN (m 0 7), _, by unfold rcN; (repeat' split) <;> omega, w_checksum hst hO, fun e => (c_X12_checksum hst hE hH hO ).weak (PM_n' e), fun ez m1 h1 => ?_⟩
  obtain ⟨hR1, ea, h14, h151, hRM⟩ := ask_M hR h1
  have hR1' := hR1
  obtain ⟨hO1, hE1, hW1, hT1, hH1⟩ := hR1'
  refine ⟨ckS (m 49) (m 47 0).toNat, (c_X12_checksum hst hE1 hH1 hO1 ).weak (PM_y' ?_ ?_ h14 h151 hRM)⟩
  · rw [ea 0 (by decide)]; exact ez
  · rw [ea 47 (by decide), ea 49 (by decide)]
theorem gl_response (hst : l.stackTraces = false) (hR : RLm m) {j : Int} (hj : InR j) :
    LawOK l B D E yL_response (.codeWith yL_response cL_response 4 (some .int) [(0, 9, 12, 21)]) rm_L_response [.ref (pl B 0), iI j, .ref (pl B 151)] yX12_response (.code yX12_response cX12_response 6 (some .int)) rm_X12_response [.ref (pl B 123), iI j] m := by
  have hR0 := hR
  obtain ⟨hO, hE, hW, hT, hH⟩ := hR0
  obtain ⟨n, hn⟩ := RLm_k hR
  refine ⟨rcRs (m 20 3) j, _, by unfold rcRs; (repeat' split) <;> omega, w_response hst hO hn hj, fun e => (c_X12_response hst hT hO hn hj).weak (PM_n' e), fun ez m1 h1 => ?_⟩
  obtain ⟨hR1, ea, h14, h151, hRM⟩ := ask_M hR h1
  have hR1' := hR1
  obtain ⟨hO1, hE1, hW1, hT1, hH1⟩ := hR1'
  have hn1 : m1 20 3 = (n : Int) := by rw [ea 20 (by decide)]; exact hn
  refine ⟨rsT (m 22) (m 24) (m 26) n j.toNat (m 26 j.toNat).toNat 1, (c_X12_response hst hT1 hO1 hn1 hj).weak (PM_y' ?_ ?_ h14 h151 hRM)⟩
  · rw [ea 20 (by decide)]; exact ez
  · rw [ea 22 (by decide), ea 24 (by decide), ea 26 (by decide)]
end
