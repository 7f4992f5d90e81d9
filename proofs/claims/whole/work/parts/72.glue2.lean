/-! ===== the law's glue: runs tried out, both sides' numbers ===== -/
section
variable {J m μ m1 : Mm} {n : Nat} {K : Nat → Int} {s : St}
theorem st_4 (h : K 0 ≠ 8) : (stF J n K s).1 4 = s.1 4 := by
  have h1 : (stF J n K s).1 4 = (chF J n K (bgF J n K s)).1 4 := by
    show psN J n K (chF J n K (bgF J n K s)).1 4 = _
    generalize (chF J n K (bgF J n K s)).1 = σ
    have hk : keN J n K σ = σ := by unfold keN; rw [if_neg h]
    have hw : ∀ c t, wk1 J σ c t 4 = σ 4 := fun c t => by funext b; unfold wk1; simp [mup]
    unfold psN
    rw [hk]
    split
    · funext b; simp [mup]
    · split
      · funext b; simp [mup]
      · unfold wkN
        split
        · funext b
          rw [mup_nk (by decide), mup_nk (by decide), hw]
        · exact hw _ _
  rw [h1, ch_o (by decide), bg_o (by decide) (by decide) (by decide) (by decide)]
theorem ru_4 (h : K 0 ≠ 8) : ∀ (d : Nat) (s : St), (ruF J n K d s).1 4 = s.1 4 := by
  intro d
  induction d with
  | zero => intro s; rfl
  | succ d ih =>
    intro s
    unfold ruF
    split
    · rfl
    · rw [ih, st_4 h]
theorem fn_4 (h : K 0 ≠ 8) {z : Int} (j : Nat) : (fnF J n K z).1 4 j = 0 := by
  unfold fnF
  rw [ru_4 h]
  simp [inS, inN]
theorem whS_c (h : ∀ a, a < 57 → m1 a = m a) : whS m1 n = whS m n := by
  have hj : jm m1 = jm m := jm_c (fun a q => h a (by omega))
  unfold whS
  show bsN (fun r => sameR (jm m1) n (kof (r : Int) (m1 27 0) (m1 27 1) (m1 27 4) (m1 27 2)) (m1 27 3) (m1 49) (m1 47 0)) 9 = _
  rw [hj, h 27 (by decide), h 49 (by decide), h 47 (by decide)]
theorem bst_c (h : ∀ a, a < 57 → m1 a = m a) : bstG m1 n = bstG m n := by
  have hj : jm m1 = jm m := jm_c (fun a q => h a (by omega))
  unfold bstG
  rw [hj, h 27 (by decide)]
theorem smD_57 (h : ∀ a, a < 57 → m1 a = m a) : ∀ i, smD m1 n i = smD m n i := by
  have hj : jm m1 = jm m := jm_c (fun a q => h a (by omega))
  intro i
  induction i with
  | zero => rfl
  | succ i ih =>
    simp only [smD]
    rw [ih]
    show (smD m n i || decide (lateE (jm m1) n (kof (i : Int) (m1 27 0) 0 (m1 27 4) (m1 27 2)) (m1 27 3) = 0)) = _
    rw [hj, h 27 (by decide)]
theorem erA_c (h : ∀ a, a < 57 → m1 a = m a) : erA m1 n = erA m n := by
  have hj : jm m1 = jm m := jm_c (fun a q => h a (by omega))
  unfold erA er3 er4
  rw [smD_57 h, h 3 (by decide), h 5 (by decide), h 7 (by decide), h 11 (by decide)]
  show (if smW (m 11) n then 0 else (if ¬ lateE (jm m1) n (kof 6 (m1 27 0) 0 (m1 27 4) (m1 27 2)) (m1 27 3) = 0 ∧ smD m n 9 = true then 1 else 0) + (if (lateE (jm m1) n (kof 6 (m1 27 0) 0 (m1 27 4) (m1 27 2)) (m1 27 3) = 0 ↔ fuB (m 3) (m 5) (m 7) n 100 0 = -1) then 0 else 1)) = _
  rw [hj, h 27 (by decide)]
end
/-- two calls that cannot be refused: both tell v -/
def LawEq (l : Launch) (B : Nat) (D : va_G) (E : Nat → ClassId) (yC : MethodName) (cwC : Cond) (rmC : Room) (avC : List Value) (yM : MethodName) (cwM : Cond) (rmM : Room) (avM : List Value) (m : Mm) (V : Int → Value) : Prop :=
  ∃ (v : Int) (Q : Mm → Prop), Ct l B D E yC cwC rmC avC m (fun w m1 => w = some (V v) ∧ Q m1) NX ∧ ∀ m1, Q m1 → Ct l B D E yM cwM rmM avM m1 (fun w m2 => w = some (V v) ∧ RLm m2) NX
/-- a call that tells a truth, kept as 1 or 0 -/
def LawZ (l : Launch) (B : Nat) (D : va_G) (E : Nat → ClassId) (yL : MethodName) (cwL : Cond) (rmL : Room) (avL : List Value) (yM : MethodName) (cwM : Cond) (rmM : Room) (avM : List Value) (m : Mm) : Prop :=
  ∃ (rc : Int) (Q : Mm → Prop), (0 ≤ rc ∧ rc ≤ 3) ∧ Ct l B D E yL cwL rmL avL m (PL rc Q m) NX ∧ (rc ≠ 0 → Ct l B D E yM cwM rmM avM m (MN rc m) NX) ∧ (rc = 0 → ∀ m1, Q m1 → ∃ v : Int, (v = 0 ∨ v = 1) ∧ Ct l B D E yM cwM rmM avM m1 (fun w m2 => w = some (iI v) ∧ m2 123 14 = 0 ∧ m2 151 0 = v ∧ RLm m2) NX)
/-- a call that tells a double -/
def LawD (l : Launch) (B : Nat) (D : va_G) (E : Nat → ClassId) (yL : MethodName) (cwL : Cond) (rmL : Room) (avL : List Value) (yM : MethodName) (cwM : Cond) (rmM : Room) (avM : List Value) (m : Mm) : Prop :=
  ∃ (rc : Int) (Q : Mm → Prop), (0 ≤ rc ∧ rc ≤ 3) ∧ Ct l B D E yL cwL rmL avL m (PL rc Q m) NX ∧ (rc ≠ 0 → Ct l B D E yM cwM rmM avM m (fun w m2 => (∃ z : UInt64, w = some (.double z)) ∧ m2 = mup m 123 14 rc) NX) ∧ (rc = 0 → ∀ m1, Q m1 → ∃ z : UInt64, FP.Core.decode FP.Core.b64 z.toNat ≠ .nan ∧ Ct l B D E yM cwM rmM avM m1 (fun w m2 => w = some (.double z) ∧ m2 123 14 = 0 ∧ UInt64.ofNat (m2 152 0).toNat = z ∧ RLm m2) NX)
/-- .. a float, kept as a double -/
def LawF (l : Launch) (B : Nat) (D : va_G) (E : Nat → ClassId) (yL : MethodName) (cwL : Cond) (rmL : Room) (avL : List Value) (yM : MethodName) (cwM : Cond) (rmM : Room) (avM : List Value) (m : Mm) : Prop :=
  ∃ (rc : Int) (Q : Mm → Prop), (0 ≤ rc ∧ rc ≤ 3) ∧ Ct l B D E yL cwL rmL avL m (PL rc Q m) NX ∧ (rc ≠ 0 → Ct l B D E yM cwM rmM avM m (fun w m2 => (∃ z : UInt32, w = some (.float z)) ∧ m2 = mup m 123 14 rc) NX) ∧ (rc = 0 → ∀ m1, Q m1 → ∃ z : UInt32, FP.Core.decode FP.Core.b32 z.toNat ≠ .nan ∧ Ct l B D E yM cwM rmM avM m1 (fun w m2 => w = some (.float z) ∧ m2 123 14 = 0 ∧ UInt64.ofNat (m2 152 0).toNat = FP.f2d z ∧ RLm m2) NX)
section
variable {l : Launch} {B : Nat} {D : va_G} {E : Nat → ClassId} {m : Mm}
theorem fq57 {m m0 m1 : Mm} {x : Int} (h : fq m m0) (e : m1 = mup m0 151 0 x) : (∀ a, a < 57 → m1 a = m a) ∧ sf m m1 := by
  subst e
  exact ⟨fun a q => by rw [← h a (by omega)]; funext b; exact mup_nk (by omega), sf_tr (sf_fq h) (sf_up (by decide))⟩
theorem gl_which (hst : l.stackTraces = false) (hR : RLm m) :
    LawOK l B D E yL_which (.codeWith yL_which cL_which 3 (some .int) [(0, 8, 11, 15)]) rm_L_which [.ref (pl B 0), .ref (pl B 151)] yX12_which (.code yX12_which cX12_which 3 (some .int)) rm_X12_which [.ref (pl B 123)] m := by
  have hR0 := hR
  obtain ⟨hO, hE, hW, hT, hH⟩ := hR0
  obtain ⟨n, hn⟩ := RLm_n hR
  refine ⟨rcN (m 0 7), _, by unfold rcN; split <;> omega, w_which hst hO hn, fun e => (c_X12_which hst hE hW hH hO hn).weak (fun w m' h => by unfold PT at h; rw [if_neg e] at h; exact h), fun ez m1 h1 => ?_⟩
  obtain ⟨m0, h0, h1⟩ := h1
  obtain ⟨ea, hs⟩ := fq57 h0 h1
  have hR1 := RLm_sf hR hs
  have hR1' := hR1
  obtain ⟨hO1, hE1, hW1, hT1, hH1⟩ := hR1'
  refine ⟨(whS m n : Nat), (c_X12_which hst hE1 hW1 hH1 hO1 (by rw [ea 1 (by decide)]; exact hn)).weak (fun w m' h => ?_)⟩
  unfold PT at h
  rw [ea 0 (by decide), if_pos ez, whS_c ea] at h
  refine ⟨h.1, h.2.2, ?_, RLm_sf hR1 (sf_fT h.2)⟩
  have e1 : m' 151 = m1 151 := by have := h.2.1.1 151 (by decide) (by decide); rw [← this]; funext b; exact (mup_nk (by decide)).symm
  rw [e1, h1, mup_eq]
theorem gl_isFeasible (hst : l.stackTraces = false) (hR : RLm m) :
    LawZ l B D E yL_isFeasible (.codeWith yL_isFeasible cL_isFeasible 3 (some .int) [(0, 15, 18, 15)]) rm_L_isFeasible [.ref (pl B 0), .ref (pl B 151)] yX12_isFeasible (.code yX12_isFeasible cX12_isFeasible 1 (some .boolean)) rm_X12_isFeasible [.ref (pl B 123)] m := by
  have hR0 := hR
  obtain ⟨hO, hE, hW, hT, hH⟩ := hR0
  obtain ⟨n, hn⟩ := RLm_n hR
  refine ⟨rcW (m 11) n, _, by unfold rcW; split <;> omega, w_isFeasible hst hO hn, fun e => (c_X12_isFeasible hst hE hW hO hn).weak (fun w m' h => by unfold PT at h; rw [if_neg e] at h; exact h), fun ez m1 h1 => ?_⟩
  obtain ⟨m0, h0, h1⟩ := h1
  obtain ⟨ea, hs⟩ := fq57 h0 h1
  have hR1 := RLm_sf hR hs
  have hR1' := hR1
  obtain ⟨hO1, hE1, hW1, hT1, hH1⟩ := hR1'
  have hj : jm m1 = jm m := jm_c (fun a q => ea a (by omega))
  refine ⟨(if lateE (jm m1) n (kof 6 (m1 27 0) 0 (m1 27 4) (m1 27 2)) (m1 27 3) = 0 then 1 else 0), by split; exact Or.inr rfl; exact Or.inl rfl, (c_X12_isFeasible hst hE1 hW1 hO1 (by rw [ea 1 (by decide)]; exact hn)).weak (fun w m' h => ?_)⟩
  unfold PT at h
  rw [ea 11 (by decide), if_pos ez] at h
  refine ⟨h.1, h.2.2, ?_, RLm_sf hR1 (sf_fT h.2)⟩
  have e1 : m' 151 = m1 151 := by have := h.2.1.1 151 (by decide) (by decide); rw [← this]; funext b; exact (mup_nk (by decide)).symm
  rw [e1, hj, ea 27 (by decide), h1, mup_eq]
theorem gl_full (hst : l.stackTraces = false) (hR : RLm m) {x : Int} (hx : InR x) :
    LawOK l B D E yL_full (.codeWith yL_full cL_full 4 (some .int) [(0, 9, 12, 13)]) rm_L_full [.ref (pl B 0), iI x, .ref (pl B 151)] yX12_full (.code yX12_full cX12_full 2 (some .int)) rm_X12_full [.ref (pl B 123), iI x] m := by
  have hR0 := hR
  obtain ⟨hO, hE, hW, hT, hH⟩ := hR0
  obtain ⟨n, hn⟩ := RLm_n hR
  refine ⟨rcF x, _, by unfold rcF; split <;> omega, w_full hst hO hn hx, fun e => (c_X12_full hst hE hO hn hx).weak (fun w m' h => by rw [if_neg e] at h; exact h), fun ez m1 h1 => ?_⟩
  obtain ⟨hR1, ea, -, -, -⟩ := ask_M hR h1
  have hR1' := hR1
  obtain ⟨hO1, hE1, hW1, hT1, hH1⟩ := hR1'
  refine ⟨fullC (m 3) (m 5) (m 7) n x, (c_X12_full hst hE1 hO1 (by rw [ea 1 (by decide)]; exact hn) hx).weak (fun w m' h => ?_)⟩
  rw [if_pos ez, ea 3 (by decide), ea 5 (by decide), ea 7 (by decide)] at h
  refine ⟨h.1, h.2.2, ?_, RLm_sf hR1 (sf_fF h.2)⟩
  rw [h.2.1.1 151 (by decide), h1, mup_eq]
theorem gl_meanEnd (hst : l.stackTraces = false) (hR : RLm m) :
    LawD l B D E yL_meanEnd (.codeWith yL_meanEnd cL_meanEnd 3 (some .int) [(0, 7, 10, 15)]) rm_L_meanEnd [.ref (pl B 0), .ref (pl B 152)] yX12_meanEnd (.code yX12_meanEnd cX12_meanEnd 1 (some .double)) rm_X12_meanEnd [.ref (pl B 123)] m := by
  have hR0 := hR
  obtain ⟨hO, hE, hW, hT, hH⟩ := hR0
  obtain ⟨n, hn⟩ := RLm_n hR
  have hb := hO.J.1
  refine ⟨rcN (m 0 7), _, by unfold rcN; split <;> omega, w_meanEnd hst hO hn, fun e => (c_X12_meanEnd hst hE hH hO hn).weak (fun w m' h => ⟨⟨_, h.2⟩, h.1⟩), fun ez m1 h1 => ?_⟩
  have hR1 : RLm m1 := RLm_sf hR (by rw [h1]; exact sf_up (show 139 < 152 by decide))
  have ea : ∀ a, a ≠ 152 → m1 a = m a := fun a h => by rw [h1]; funext b; exact mup_nk h
  have hR1' := hR1
  obtain ⟨hO1, hE1, hW1, hT1, hH1⟩ := hR1'
  refine ⟨mnE (smF (m 44) n) (n : Int), mnE_dec (by omega), (c_X12_meanEnd hst hE1 hH1 hO1 (by rw [ea 1 (by decide)]; exact hn)).weak (fun w m' h => ?_)⟩
  rw [ea 0 (by decide), ea 44 (by decide), ez, if_pos rfl] at h
  obtain ⟨rfl, hw⟩ := h
  refine ⟨hw, mup_eq _ _ _ _, ?_, RLm_sf hR1 sf_14⟩
  rw [mup_nk (by decide), h1, mup_eq]
  exact dbl_rt _
theorem gl_workShare (hst : l.stackTraces = false) (hR : RLm m) :
    LawF l B D E yL_workShare (.codeWith yL_workShare cL_workShare 3 (some .int) [(0, 8, 11, 15)]) rm_L_workShare [.ref (pl B 0), .ref (pl B 152)] yX12_workShare (.code yX12_workShare cX12_workShare 3 (some .float)) rm_X12_workShare [.ref (pl B 123)] m := by
  have hR0 := hR
  obtain ⟨hO, hE, hW, hT, hH⟩ := hR0
  refine ⟨rcN (m 0 7), _, by unfold rcN; split <;> omega, w_workShare hst hO, fun e => (c_X12_workShare hst hH hO).weak (fun w m' h => ⟨⟨_, h.2⟩, h.1⟩), fun ez m1 h1 => ?_⟩
  have hR1 : RLm m1 := RLm_sf hR (by rw [h1]; exact sf_up (show 139 < 152 by decide))
  have ea : ∀ a, a ≠ 152 → m1 a = m a := fun a h => by rw [h1]; funext b; exact mup_nk h
  have hR1' := hR1
  obtain ⟨hO1, hE1, hW1, hT1, hH1⟩ := hR1'
  have h7 : m 0 7 = 1 := by by_cases z : m 0 7 = 1; exact z; (unfold rcN at ez; rw [if_pos z] at ez; exact absurd ez (by decide))
  have hC : 0 ≤ m 47 0 ∧ m 47 0 ≤ 2304 := (hO.R h7).1.1
  refine ⟨shW (cntW (m 49) (m 47 0).toNat) (m 47 0), shW_dec hC, (c_X12_workShare hst hH1 hO1).weak (fun w m' h => ?_)⟩
  rw [ea 0 (by decide), ea 49 (by decide), ea 47 (by decide), ez, if_pos rfl] at h
  obtain ⟨rfl, hw⟩ := h
  refine ⟨hw, mup_eq _ _ _ _, ?_, RLm_sf hR1 sf_14⟩
  rw [mup_nk (by decide), h1, mup_eq]
  exact dbl_rt _
theorem gl_best (hst : l.stackTraces = false) (hR : RLm m) :
    LawEq l B D E yX11_best (.code yX11_best cX11_best 5 (some .int)) rm_X11_best [.ref (pl B 0)] yX12_best (.code yX12_best cX12_best 5 (some .int)) rm_X12_best [.ref (pl B 123)] m (fun v => iI v) := by
  have hR0 := hR
  obtain ⟨hO, hE, hW, hT, hH⟩ := hR0
  obtain ⟨n, hn⟩ := RLm_n hR
  refine ⟨_, _, c_X11_best hst hO hn, fun m1 h1 => ?_⟩
  have hR1 := RLm_sf hR (sf_fq h1)
  have hR1' := hR1
  obtain ⟨hO1, hE1, hW1, hT1, hH1⟩ := hR1'
  refine (c_X12_best hst hE1 hW1 hO1 (by rw [h1 1 (by decide)]; exact hn)).weak (fun w m' h => ⟨?_, RLm_sf hR1 (sf_fT h.2)⟩)
  rw [bst_c (fun a q => h1 a (by omega))] at h
  exact h.1
theorem gl_two (hst : l.stackTraces = false) (hR : RLm m) {le la : Int} (hle : le = 0 ∨ le = 1) (hla : la = 0 ∨ la = 1) :
    LawEq l B D E yX11_two (.code yX11_two cX11_two 3 (some .int)) rm_X11_two [.ref (pl B 0), iI le, iI la] yX12_two (.code yX12_two cX12_two 8 (some .int)) rm_X12_two [.ref (pl B 123), iI le, iI la] m (fun v => iI v) := by
  have hR0 := hR
  obtain ⟨hO, hE, hW, hT, hH⟩ := hR0
  obtain ⟨n, hn⟩ := RLm_n hR
  refine ⟨_, _, c_X11_two hst hO hn hle hla, fun m1 h1 => ?_⟩
  have hR1 := RLm_sf hR (sf_fq h1)
  have hR1' := hR1
  obtain ⟨hO1, hE1, hW1, hT1, hH1⟩ := hR1'
  refine (c_X12_two hst hE1 hO1 (by rw [h1 1 (by decide)]; exact hn) hle hla).weak (fun w m' h => ⟨?_, RLm_sf hR1 (sf_fT h.2)⟩)
  have hj : jm m1 = jm m := jm_c (fun a q => h1 a (by omega))
  rw [hj] at h
  exact h.1
theorem gl_errors (hst : l.stackTraces = false) (hR : RLm m) :
    LawEq l B D E yX11_errors (.code yX11_errors cX11_errors 3 (some .int)) rm_X11_errors [.ref (pl B 0)] yX12_errors (.code yX12_errors cX12_errors 9 (some .int)) rm_X12_errors [.ref (pl B 123)] m (fun v => iI v) := by
  have hR0 := hR
  obtain ⟨hO, hE, hW, hT, hH⟩ := hR0
  obtain ⟨n, hn⟩ := RLm_n hR
  refine ⟨_, _, c_X11_errors hst hO hn, fun m1 h1 => ?_⟩
  have hR1 := RLm_sf hR (sf_fq h1)
  have hR1' := hR1
  obtain ⟨hO1, hE1, hW1, hT1, hH1⟩ := hR1'
  refine (c_X12_errors hst hE1 hW1 hO1 (by rw [h1 1 (by decide)]; exact hn)).weak (fun w m' h => ⟨?_, RLm_sf hR1 (sf_fE h.2)⟩)
  rw [erA_c (fun a q => h1 a (by omega))] at h
  exact h.1
theorem gl_load (hst : l.stackTraces = false) (hR : RLm m) {b : Int} (hb01 : b = 0 ∨ b = 1) :
    LawEq l B D E yX11_load (.code yX11_load cX11_load 8 (some .long)) rm_X11_load [.ref (pl B 0), iI b] yX12_load (.code yX12_load cX12_load 8 (some .long)) rm_X12_load [.ref (pl B 123), iI b] m (fun v => iL v) := by
  have hR0 := hR
  obtain ⟨hO, hE, hW, hT, hH⟩ := hR0
  obtain ⟨n, hn⟩ := RLm_k hR
  refine ⟨_, (fun m1 => m1 = m), c_X11_load hst hO hn hb01, fun m1 h1 => ?_⟩
  subst h1
  exact (c_X12_load hst hT hO hn hb01).weak (fun w m' h => ⟨h.1, by rw [h.2]; exact RLm_sf hR sf_14⟩)
end
