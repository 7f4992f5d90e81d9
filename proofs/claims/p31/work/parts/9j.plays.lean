/-! ===== the law: plays() answers true ===== -/
section
variable {a : Ax} {B : Nat} {D : va_G} {E : Nat → ClassId} {l : Launch} {g : Nat → Int}
theorem mu0_ok (g : Nat → Int) : hOK (mu0 g) := by
  refine hOK_no ⟨?_, fun j hj => ?_⟩ ?_ ?_ rfl
  · show 0 ≤ mu0 g 1 9 ∧ mu0 g 1 9 ≤ 12
    rw [show mu0 g 1 9 = 0 from rfl]; omega
  · rw [show mu0 g 1 9 = 0 from rfl] at hj; omega
  · unfold okTk
    rw [show mu0 g 20 3 = 0 from rfl]
    exact ⟨by omega, fun j hj => absurd hj (by omega)⟩
  · unfold okWy
    rw [show mu0 g 27 0 = 2 from rfl, show mu0 g 27 1 = 0 from rfl, show mu0 g 27 2 = 20 from rfl, show mu0 g 27 4 = 0 from rfl]
    omega
theorem c_L_plays (hst : l.stackTraces = false) :
    CtP l B D E yL_plays (.code yL_plays cL_plays 10 (some .boolean)) rm_plays [.ref (B + 0), .ref (B + 1), .ref (B + 2), .ref (B + 3), .ref (B + 4)] (aL E g) (fun v m => v = some (iI 1) ∧ hOK m) := by
  refine ctP_of (own := RL) (lv := [(0, _), (1, _), (2, _), (3, _), (4, _)]) hst (by decide) rfl rfl (Nat.le_of_ble_eq_true rfl) fun a h r hN => ?_
  have hL : (aL E g).length = 5 := rfl
  have hL2 : (aL E g).length = 5 := rfl
  refine g_new (pc := 0) h ci11 wL_L_15 wN_X11 wI_X11 zf11_ok ⟨Nat.le_of_ble_eq_true rfl, Nat.le_of_ble_eq_true rfl⟩ (dk dt_L_plays_0 0 rfl) hL ?_
  refine v_dup (pc := 3) h (dk dt_L_plays_0 1 rfl) rfl ?_
  refine g_call (pc := 4) h hN (cg_11 h.quiet hL2) ki_X11 wM_L_167 rfl rfl (Nat.le_of_ble_eq_true rfl) (RM.of rfl) (dk dt_L_plays_0 2 rfl) ?_
  refine v_astore (lv' := [(5, _), (0, _), (1, _), (2, _), (3, _), (4, _)]) (pc := 7) h (dk dt_L_plays_0 3 rfl) (Nat.le_of_ble_eq_true rfl) rfl ?_
  have hh := p_head (kc := 125) (ns := 7730) h (mu0_ok g) rfl rfl rfl ⟨by omega, by omega⟩ (fun m1 k1 n1 o1 b1 b2 =>
    p_round (w := 0) h o1 ⟨by omega, by omega⟩ (fun m2 k2 n2 o2 b3 b4 =>
      p_round (w := 1) h o2 ⟨by omega, by omega⟩ (fun m3 k3 n3 o3 b5 b6 =>
        p_tail h r o3 ⟨by omega, by omega⟩ (by omega)) (by omega)) (by omega))
  exact VV.of hh (fun H hH => GP_SP (g := g) hH) ⟨rfl, rfl, rfl, rfl, rfl, rfl, trivial⟩
end
