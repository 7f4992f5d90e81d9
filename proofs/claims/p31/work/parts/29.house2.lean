/-! ===== the house: runs, runs held against one another, tasks ===== -/
theorem okK_kof {r s c le ri : Int} (hr : 0 ≤ r ∧ r ≤ 8) (hs : 1 ≤ s ∧ s ≤ 20) (hc : 0 ≤ c ∧ c ≤ 5) (hl : le = 0 ∨ le = 1) (hi : 0 ≤ ri ∧ ri ≤ 99) : okK (kof r s c le ri) := ⟨hr, hs, hc, hl, hi⟩
section
variable {w n : Nat} {K : Nat → Int} {μ m J : Mm} {s : St} {z : Int}
theorem aW_m (hm : ∀ a, (w ≤ a ∧ a < w + 22) ∨ a = 27 → m a = μ a) (h : aW w n K μ s) : aW w n K m s := by
  refine ⟨aP_c (fun a h1 h2 => hm a (by omega)) h.P, fun j hj => ?_, ⟨?_, fun t ht => ?_⟩, ⟨qis_c (hm _ (by omega)) (hm _ (by omega)) h.q.1, qis_c (hm _ (by omega)) (hm _ (by omega)) h.q.2.1, qis_c (hm _ (by omega)) (hm _ (by omega)) h.q.2.2⟩, ?_, ?_, ?_, ?_⟩
  · rw [hm _ (by omega), hm _ (by omega)]; exact h.2.1 j hj
  · rw [hm _ (by omega)]; exact h.len
  · rw [hm _ (by omega)]; exact h.log ht
  · rw [hm _ (by omega)]; exact h.f
  · rw [hm _ (by omega)]; exact h.k
  · rw [hm _ (by omega)]; exact h.rise
  · rw [hm _ (by omega)]; exact h.lv
/-- what a run leaves -/
theorem aR_is (hD : okD J n) (hK : okK K) (h : aR w n K J z m) : okC m (w + 19) ∧ m (w + 19) 0 = (fnF J n K z).1 6 6 ∧ (∀ t : Nat, (t : Int) < (fnF J n K z).1 6 6 → m (w + 21) t = (fnF J n K z).1 7 t) ∧
    ∀ j, j < n → (m (w + 16) j = (fnF J n K z).1 1 j ∧ J 0 j < m (w + 16) j ∧ m (w + 16) j ≤ 2304) ∧ (m (w + 18) j = (fnF J n K z).1 2 j ∧ 0 ≤ m (w + 18) j ∧ m (w + 18) j ≤ 2304) ∧ (m (w + 2) j = (fnF J n K z).1 4 j ∧ 0 ≤ m (w + 2) j ∧ m (w + 2) j ≤ 2304) := by
  have hf := fn_is (K := K) hD hK (z := z)
  have ht := t_le hD hf.1
  have ht0 := hf.1.1.1
  have hL := hf.1.2.2.1
  have hn := hD.1
  unfold aR at h
  generalize fnF J n K z = s at *
  refine ⟨⟨by rw [h.len]; omega, fun t q => ?_⟩, h.len, fun t q => h.log q, fun j hj => ?_⟩
  · rw [h.len] at q
    rw [show w + 19 + 2 = w + 21 from rfl, h.log q]
    have := hL t q
    omega
  · have h1 := hf.1.1.2 j hj
    have h2 := hf.2 j hj
    have h3 := (h.P.1 j hj)
    rw [h.kept hj, show w + 16 = w + 12 + 4 from rfl, show w + 18 = w + 12 + 6 from rfl, h3.2.1, h3.2.2]
    have h4 := h1.2.2.2.2.1 h2
    have h5 := h1.2.2.2.2.2.1
    have h6 := h1.2.2.2.2.2.2.2
    exact ⟨⟨rfl, h4.1, by omega⟩, ⟨rfl, h5.1, by omega⟩, rfl, h6.1, by omega⟩
end
/-- the runs tried out touch nothing else -/
def fq (μ m : Mm) : Prop := ∀ a, a < 57 ∨ 123 ≤ a → m a = μ a
theorem fq_rf {μ : Mm} : fq μ μ := fun _ _ => rfl
theorem fq_tr {μ m m' : Mm} (h1 : fq μ m) (h2 : fq m m') : fq μ m' := fun a h => (h2 a h).trans (h1 a h)
theorem fq_57 {μ m : Mm} (h : fr 57 μ m) : fq μ m := fun a q => h a (by omega)
theorem fq_86 {μ m : Mm} (h : fr 86 μ m) : fq μ m := fun a q => h a (by omega)
theorem fq_P {μ m : Mm} (h : frP μ m) : fq μ m := fun a q => h a (by omega)
theorem hO_c {μ m : Mm} (h : ∀ a, a < 57 → m a = μ a) (hO : hOK μ) : hOK m := by
  obtain ⟨h1, h2, h3, h4, h5⟩ := hO
  refine ⟨okJ_c (fun a q => h a (by omega)) h1, ?_, ?_, ?_, fun q => ?_⟩
  · unfold okTk; rw [h 22 (by decide), h 24 (by decide), h 26 (by decide), h 20 (by decide)]; exact h2
  · unfold okWy; rw [h 27 (by decide)]; exact h3
  · rw [h 0 (by decide)]; exact h4
  · rw [h 0 (by decide)] at q
    have := h5 q
    unfold okRn okC
    rw [h 47 (by decide), h (47 + 2) (by decide), h 1 (by decide), h 3 (by decide), h 44 (by decide), h 46 (by decide), h 30 (by decide)]
    exact this
/-- whether the run by the rule r is the latest one -/
def sameR (J : Mm) (n : Nat) (K : Nat → Int) (z : Int) (lg : Nat → Int) (T : Int) : Bool := decide ((fnF J n K z).1 6 6 = T) && decide (∀ t : Nat, t < T.toNat → (fnF J n K z).1 7 t = lg t)
def whS (μ : Mm) (n : Nat) : Nat := bsN (fun r => sameR (jm μ) n (kM μ (r : Int)) (μ 27 3) (μ 49) (μ 47 0)) 9
/-- the sum of ends in a run -/
def sumE (J : Mm) (n : Nat) (K : Nat → Int) (z : Int) : Int := smF ((fnF J n K z).1 1) n
/-- the best slice of 1 to k, and its sum -/
def bstF (f : Nat → Int) : Nat → Int × Int
  | 0 => (1, 0)
  | k + 1 => if k = 0 ∨ f (k + 1) < (bstF f k).2 then (((k + 1 : Nat) : Int), f (k + 1)) else bstF f k
def lateE (J : Mm) (n : Nat) (K : Nat → Int) (z : Int) : Int := latN (J 2) ((fnF J n K z).1 1) n
theorem smF_e {J : Mm} {n : Nat} {K : Nat → Int} (hD : okD J n) (hK : okK K) {z : Int} : 0 ≤ sumE J n K z ∧ sumE J n K z ≤ 30000 := by
  have hf := fn_is (K := K) hD hK (z := z)
  have ht := t_le hD hf.1
  have h := smF_b (f := (fnF J n K z).1 1) (c := 2304) (n := n) (fun j hj => by
    have h1 := hf.1.1.2 j hj
    have h2 := h1.2.2.2.2.1 (hf.2 j hj)
    have h3 := okD_c hD hj
    omega)
  have hn := hD.1
  unfold sumE
  omega
section
variable {l : Launch} {B : Nat} {D : va_G} {E : Nat → ClassId} {μ m σ : Mm} {w n : Nat} {K : Nat → Int} {s : St} {J : Mm}
/-- follow, as the house calls it -/
theorem c_fol (hst : l.stackTraces = false) (hr : isW w) (hw : 28 ≤ w) (hO : hOK μ) (hn : μ 1 9 = (n : Int)) {r s c le : Int} (hr8 : 0 ≤ r ∧ r ≤ 8) (hs : 1 ≤ s ∧ s ≤ 20) (hc : 0 ≤ c ∧ c ≤ 5) (hl : le = 0 ∨ le = 1) :
    Ct l B D E yX10_follow (.code yX10_follow cX10_follow 6 none) rm_X10_follow [.ref (pl B w), iI r, iI s, iI c, iI le] μ (fun v m => v = none ∧ fr w μ m ∧ aR w n (kof r s c le (μ 27 2)) (jm μ) (μ 27 3) m) NX :=
  c_X10_follow (K := kof r s c le (μ 27 2)) hst hr hw hO.J hn (okK_kof hr8 hs hc hl hO.W.2.2.1) rfl rfl
theorem c_X11_run (hst : l.stackTraces = false) (hO : hOK μ) (hn : μ 1 9 = (n : Int)) {ru : Int} (hr : InR ru) :
    Ct l B D E yX11_run (.code yX11_run cX11_run 2 (some .int)) rm_X11_run [.ref (pl B 0), iI ru] μ (fun v m => rcR1 ru = 0 ∧ v = some (iI (m 47 0)) ∧ m 0 7 = 1 ∧ (∀ a, a ≠ 0 → a < 28 ∨ 57 ≤ a → m a = μ a) ∧ aR 28 n (kM μ ru) (jm μ) (μ 27 3) m) (XX (rcR1 ru) [eA] μ) := by
  have hW := hO.W
  refine ct_of (own := RX11) (lv := [(0, _), (1, _)]) hst (by decide) rfl rfl (Nat.le_of_ble_eq_true rfl) fun a h r t => ?_
  refine v_iload_n (pc := 0) h (dk dt_X11_run 0 rfl) rfl ?_
  refine v_iconst (pc := 1) h (dk dt_X11_run 1 rfl) ?_
  refine v_bipush (pc := 2) h (dk dt_X11_run 2 rfl) rfl ?_
  refine v_cSi (pc := 4) h (c_X11_isOutside h.quiet (by omega) (by omega)) kv_X11_isOutside wM_X11_58 rfl rfl (Nat.le_of_ble_eq_true rfl) (RM.of rfl) rfl rfl (dk dt_X11_run 3 rfl) ?_
  refine v_if_eq (pc := 7) h 18 (dk dt_X11_run 4 rfl) rfl (by split <;> omega) (fun c7 => ?_) (fun c7 => ?_)
  ·
    have d7 : 0 ≤ ru ∧ ru ≤ 8 := by by_cases q : ru < 0 ∨ 8 < ru; rw [if_pos q] at c7; omega; omega
    refine v_aload_n (pc := 18) h (dk dt_X11_run 9 rfl) rfl ?_
    refine v_getr (pc := 19) h ci11 sh0 (Nat.le_of_ble_eq_true rfl) (j := 3) wF_X11_35 rfl (dk dt_X11_run 10 rfl) ?_
    refine v_iload_n (pc := 22) h (dk dt_X11_run 11 rfl) rfl ?_
    refine v_aload_n (pc := 23) h (dk dt_X11_run 12 rfl) rfl ?_
    refine v_getr (pc := 24) h ci11 sh0 (Nat.le_of_ble_eq_true rfl) (j := 2) wF_X11_26 rfl (dk dt_X11_run 13 rfl) ?_
    refine v_geti (pc := 27) h ci9 sh27 (Nat.le_of_ble_eq_true rfl) (j := 0) wF_X11_106 rfl (dk dt_X11_run 14 rfl) ?_
    refine v_aload_n (pc := 30) h (dk dt_X11_run 15 rfl) rfl ?_
    refine v_getr (pc := 31) h ci11 sh0 (Nat.le_of_ble_eq_true rfl) (j := 2) wF_X11_26 rfl (dk dt_X11_run 16 rfl) ?_
    refine v_geti (pc := 34) h ci9 sh27 (Nat.le_of_ble_eq_true rfl) (j := 1) wF_X11_109 rfl (dk dt_X11_run 17 rfl) ?_
    refine v_aload_n (pc := 37) h (dk dt_X11_run 18 rfl) rfl ?_
    refine v_getr (pc := 38) h ci11 sh0 (Nat.le_of_ble_eq_true rfl) (j := 2) wF_X11_26 rfl (dk dt_X11_run 19 rfl) ?_
    refine v_geti (pc := 41) h ci9 sh27 (Nat.le_of_ble_eq_true rfl) (j := 4) wF_X11_118 rfl (dk dt_X11_run 20 rfl) ?_
    refine v_cV (pc := 44) h (c_fol (n := n) h.quiet W28 (by omega) hO hn d7 hW.1 hW.2.1 hW.2.2.2) kv_X10_follow hd28 wM_X11_121 rfl rfl (Nat.le_of_ble_eq_true rfl) (RM.of rfl) rfl rfl (dk dt_X11_run 21 rfl) (fun v44 μ44 p44 => ?_)
    obtain ⟨rfl, f44, a44⟩ := p44
    refine v_aload_n (pc := 47) h (dk dt_X11_run 22 rfl) rfl ?_
    refine v_iconst (pc := 48) h (dk dt_X11_run 23 rfl) ?_
    refine v_put (pc := 49) h ci11 sh0 (Nat.le_of_ble_eq_true rfl) (j := 7) wF_X11_54 rfl rfl (narZ (by omega)) (fitZ (by omega)) (dk dt_X11_run 24 rfl) ?_
    refine v_aload_n (pc := 52) h (dk dt_X11_run 25 rfl) rfl ?_
    refine v_getr (pc := 53) h ci11 sh0 (Nat.le_of_ble_eq_true rfl) (j := 3) wF_X11_35 rfl (dk dt_X11_run 26 rfl) ?_
    refine v_getr (pc := 56) h ci10 hd28 (Nat.le_of_ble_eq_true rfl) (j := 1) wF_X11_125 rfl (dk dt_X11_run 27 rfl) ?_
    refine v_geti (pc := 59) h ci0 hd47 (Nat.le_of_ble_eq_true rfl) (j := 0) wF_X11_129 rfl (dk dt_X11_run 28 rfl) ?_
    exact v_iret (pc := 62) h r (dk dt_X11_run 29 rfl) (Nat.le_of_ble_eq_true rfl) (Nat.le_of_ble_eq_true rfl) ⟨by unfold rcR1; rw [if_neg (by omega)], rfl, mup_eq _ _ _ _, fun a h1 h2 => by funext b; rw [mup_nk h1]; exact congrFun (f44 a (by omega)) b, aW_m (fun a h => by funext b; rw [mup_nk (by omega)]) a44⟩
  ·
    have d7 : ¬ (0 ≤ ru ∧ ru ≤ 8) := fun q => by rw [if_neg (by omega)] at c7; omega
    exact v_throw (pc := 10) h r t kt_X11_62 (dk dt_X11_run 5 rfl) (dk dt_X11_run 6 rfl) (dk dt_X11_run 7 rfl) (dk dt_X11_run 8 rfl) ⟨Nat.le_of_ble_eq_true rfl, Nat.le_of_ble_eq_true rfl, Nat.le_of_ble_eq_true rfl, Nat.le_of_ble_eq_true rfl⟩ (Nat.le_of_ble_eq_true rfl) (Nat.le_of_ble_eq_true rfl) (Nat.le_of_ble_eq_true rfl) ⟨⟨0, by unfold rcR1; rw [if_pos d7]; rfl, rfl⟩, rfl⟩
theorem c_X11_busy (hst : l.stackTraces = false) (hO : hOK μ) {x e : Int} (hx : InR x) (he : e = 0 ∨ e = 1) :
    Ct l B D E yX11_busy (.code yX11_busy cX11_busy 4 (some .int)) rm_X11_busy [.ref (pl B 0), iI x, iI e] μ (PX (rcB (μ 0 7) (μ 49) (μ 47 0) x) (some (iI (anB (μ 49) (μ 47 0) x e))) μ) (XX (rcB (μ 0 7) (μ 49) (μ 47 0) x) [eS, eN] μ) := by
  have hrn := hO.h
  have bb : ∀ (d t : Nat) (k : Int), bBeg (μ 49) x d t k = -1 ∨ ((t : Int) ≤ bBeg (μ 49) x d t k ∧ bBeg (μ 49) x d t k < (t : Int) + d) := by
    intro d
    induction d with
    | zero => intro t k; exact Or.inl rfl
    | succ d ih =>
      intro t k
      simp only [bBeg]
      split
      · exact Or.inl rfl
      · split
        · split
          · right; omega
          · rcases ih (t + 1) (k + 1) with q | q
            · exact Or.inl q
            · right; omega
        · rcases ih (t + 1) k with q | q
          · exact Or.inl q
          · right; omega
  refine ct_of (own := RX11) (lv := [(0, _), (1, _), (2, _)]) hst (by decide) rfl rfl (Nat.le_of_ble_eq_true rfl) fun a h r t => ?_
  have go4 : μ 0 7 = 1 → VV a B (SP B D E μ) 1 6 4 [(0, .ref (pl B 0)), (1, iI x), (2, iI e)] [] := by
    intro h1
    have hR := hO.R h1
    have hc := hR.1.1
    have hbz : bgZ (μ 49) (μ 47 0) x = bBeg (μ 49) x (μ 47 0).toNat 0 0 := rfl
    have hb2 := bb (μ 47 0).toNat 0 0
    have ec : ∀ y : Nat, bgZ (μ 49) (μ 47 0) x = (y : Int) → anB (μ 49) (μ 47 0) x e = if x = -1 then cntB (μ 49) (μ 47 0).toNat else if e = 0 then (y : Int) else (bEnd (μ 49) ((μ 47 0).toNat - y) y : Nat) := fun y hy => by unfold anB; rw [hy, Int.toNat_natCast]
    refine v_iload_n (pc := 4) h (dk dt_X11_busy 2 rfl) rfl ?_
    refine v_iconst (pc := 5) h (dk dt_X11_busy 3 rfl) ?_
    refine v_icmp_ne (pc := 6) h 20 (dk dt_X11_busy 4 rfl) rfl (by omega) (fun c6 => ?_) (fun c6 => ?_)
    ·
      refine v_aload_n (pc := 20) h (dk dt_X11_busy 10 rfl) rfl ?_
      refine v_getr (pc := 21) h ci11 sh0 (Nat.le_of_ble_eq_true rfl) (j := 3) wF_X11_35 rfl (dk dt_X11_busy 11 rfl) ?_
      refine v_getr (pc := 24) h ci10 hd28 (Nat.le_of_ble_eq_true rfl) (j := 1) wF_X11_125 rfl (dk dt_X11_busy 12 rfl) ?_
      refine v_iload_n (pc := 27) h (dk dt_X11_busy 13 rfl) rfl ?_
      refine v_cVi (pc := 28) h (c_X0_busyBegin h.quiet (W_course W28) hR.1 hx) kv_X0_busyBegin hd47 wM_X11_181 rfl rfl (Nat.le_of_ble_eq_true rfl) (RM.of rfl) rfl rfl (dk dt_X11_busy 14 rfl) ?_
      rw [← hbz]
      refine v_istore_n (lv' := [(3, _), (0, _), (1, _), (2, _)]) (pc := 31) h (dk dt_X11_busy 15 rfl) (Nat.le_of_ble_eq_true rfl) rfl ?_
      refine v_iload_n (pc := 32) h (dk dt_X11_busy 16 rfl) rfl ?_
      refine v_iconst (pc := 33) h (dk dt_X11_busy 17 rfl) ?_
      refine v_icmp_ne (pc := 34) h 45 (dk dt_X11_busy 18 rfl) rfl ⟨by omega, by omega⟩ (fun c34 => ?_) (fun c34 => ?_)
      ·
        obtain ⟨y, hy⟩ : ∃ y : Nat, bgZ (μ 49) (μ 47 0) x = (y : Int) := ⟨(bgZ (μ 49) (μ 47 0) x).toNat, by omega⟩
        have hec := ec y hy
        have hrc : rcB (μ 0 7) (μ 49) (μ 47 0) x = 0 := by unfold rcB; rw [if_neg (by omega), if_neg c6, if_neg c34]
        rw [hy]
        refine v_iload_n (pc := 45) h (dk dt_X11_busy 23 rfl) rfl ?_
        refine v_if_eq (pc := 46) h 63 (dk dt_X11_busy 24 rfl) rfl (by omega) (fun c46 => ?_) (fun c46 => ?_)
        ·
          refine v_iload_n (pc := 63) h (dk dt_X11_busy 31 rfl) rfl ?_
          exact v_iret (pc := 64) h r (dk dt_X11_busy 32 rfl) (Nat.le_of_ble_eq_true rfl) (Nat.le_of_ble_eq_true rfl) ⟨hrc, by rw [hec, if_neg c6]; first | rw [if_pos c46] | rw [if_neg c46], rfl⟩
        ·
          refine v_aload_n (pc := 49) h (dk dt_X11_busy 25 rfl) rfl ?_
          refine v_getr (pc := 50) h ci11 sh0 (Nat.le_of_ble_eq_true rfl) (j := 3) wF_X11_35 rfl (dk dt_X11_busy 26 rfl) ?_
          refine v_getr (pc := 53) h ci10 hd28 (Nat.le_of_ble_eq_true rfl) (j := 1) wF_X11_125 rfl (dk dt_X11_busy 27 rfl) ?_
          refine v_iload_n (pc := 56) h (dk dt_X11_busy 28 rfl) rfl ?_
          refine v_cVi (pc := 57) h (c_X0_busyEnd h.quiet (W_course W28) hR.1 (by show (y : Int) ≤ μ 47 0; omega)) kv_X0_busyEnd hd47 wM_X11_187 rfl rfl (Nat.le_of_ble_eq_true rfl) (RM.of rfl) rfl rfl (dk dt_X11_busy 29 rfl) ?_
          refine v_goto (pc := 60) h 64 (dk dt_X11_busy 30 rfl) rfl ?_
          exact v_iret (pc := 64) h r (dk dt_X11_busy 32 rfl) (Nat.le_of_ble_eq_true rfl) (Nat.le_of_ble_eq_true rfl) ⟨hrc, by rw [hec, if_neg c6]; first | rw [if_pos c46] | rw [if_neg c46], rfl⟩
      ·
        exact v_throw (pc := 37) h r t kt_X11_184 (dk dt_X11_busy 19 rfl) (dk dt_X11_busy 20 rfl) (dk dt_X11_busy 21 rfl) (dk dt_X11_busy 22 rfl) ⟨Nat.le_of_ble_eq_true rfl, Nat.le_of_ble_eq_true rfl, Nat.le_of_ble_eq_true rfl, Nat.le_of_ble_eq_true rfl⟩ (Nat.le_of_ble_eq_true rfl) (Nat.le_of_ble_eq_true rfl) (Nat.le_of_ble_eq_true rfl) ⟨⟨1, by unfold rcB; rw [if_neg (by omega), if_neg c6, if_pos c34]; rfl, rfl⟩, rfl⟩
    ·
      refine v_aload_n (pc := 9) h (dk dt_X11_busy 5 rfl) rfl ?_
      refine v_getr (pc := 10) h ci11 sh0 (Nat.le_of_ble_eq_true rfl) (j := 3) wF_X11_35 rfl (dk dt_X11_busy 6 rfl) ?_
      refine v_getr (pc := 13) h ci10 hd28 (Nat.le_of_ble_eq_true rfl) (j := 1) wF_X11_125 rfl (dk dt_X11_busy 7 rfl) ?_
      refine v_cVi (pc := 16) h (c_X0_countBusy h.quiet (W_course W28) hR.1) kv_X0_countBusy hd47 wM_X11_178 rfl rfl (Nat.le_of_ble_eq_true rfl) (RM.of rfl) rfl rfl (dk dt_X11_busy 8 rfl) ?_
      exact v_iret (pc := 19) h r (dk dt_X11_busy 9 rfl) (Nat.le_of_ble_eq_true rfl) (Nat.le_of_ble_eq_true rfl) ⟨by unfold rcB; rw [if_neg (by omega), if_pos c6], by unfold anB; rw [if_pos c6], rfl⟩
  refine v_aload_n (pc := 0) h (dk dt_X11_busy 0 rfl) rfl ?_
  refine v_callVX (pc := 1) h (c_X11_needRun h.quiet hrn) kv_X11_needRun sh0 wM_X11_137 rfl rfl (Nat.le_of_ble_eq_true rfl) (RM.of rfl) (dk dt_X11_busy 1 rfl) (fun e1 μ1 p1 => ?_) (fun v1 μ1 p1 => ?_)
  ·
    obtain ⟨rfl, rfl, q1⟩ := p1
    exact v_out h r t (Nat.le_of_ble_eq_true rfl) (Nat.le_of_ble_eq_true rfl) ⟨⟨0, by unfold rcB; rw [if_pos q1]; rfl, rfl⟩, rfl⟩
  ·
    obtain ⟨rfl, e1, q1⟩ := p1
    rw [e1]
    exact VV.loc (go4 q1) ⟨rfl, rfl, rfl, trivial⟩
theorem c_X11_full (hst : l.stackTraces = false) (hO : hOK μ) (hn : μ 1 9 = (n : Int)) {x : Int} (hx : InR x) :
    Ct l B D E yX11_full (.code yX11_full cX11_full 4 (some .int)) rm_X11_full [.ref (pl B 0), iI x] μ (PX (rcF x) (some (iI (fullC (μ 3) (μ 5) (μ 7) n x))) μ) (XX (rcF x) [eA] μ) := by
  have hb := hO.J.1
  have hd : ∀ j : Nat, j < n → 0 ≤ μ 7 j ∧ μ 7 j ≤ 400 := fun j hj => (hO.J.2 j (by omega)).2.2.1
  have enn : (μ 1 9).toNat = n := by omega
  refine ct_of (own := RX11) (lv := [(0, _), (1, _)]) hst (by decide) rfl rfl (Nat.le_of_ble_eq_true rfl) fun a h r t => ?_
  have loop : 0 ≤ x ∧ x ≤ 2 → ∀ (d i : Nat), i + d = 100 → fuB (μ 3) (μ 5) (μ 7) n 100 0 = fuB (μ 3) (μ 5) (μ 7) n d i → VV a B (SP B D E μ) 0 0 19 [(2, iI (i : Int)), (0, .ref (pl B 0)), (1, iI x)] [] := by
    intro hx2 d
    have hrc : rcF x = 0 := by unfold rcF; rw [if_neg (by omega)]
    induction d with
    | zero =>
      intro i hi e
      refine v_iload_n (pc := 19) h (dk dt_X11_full 11 rfl) rfl ?_
      refine v_bipush (pc := 20) h (dk dt_X11_full 12 rfl) rfl ?_
      refine v_icmp_gt (pc := 22) h 72 (dk dt_X11_full 13 rfl) rfl (by omega) (fun c22 => ?_) (fun c22 => ?_)
      ·
        refine v_iconst (pc := 72) h (dk dt_X11_full 39 rfl) ?_
        exact v_iret (pc := 73) h r (dk dt_X11_full 40 rfl) (Nat.le_of_ble_eq_true rfl) (Nat.le_of_ble_eq_true rfl) ⟨hrc, by unfold fullC; rw [e, fuB, if_pos rfl], rfl⟩
      ·
        exact absurd c22 (by omega)
    | succ d ih =>
      intro i hi e
      have hfb := fenF_b (c := μ 3) (l := μ 5) (d := μ 7) (n := n) (a := (i : Int)) (by omega) hd n (Nat.le_refl _)
      have eN : fenF (μ 3) (μ 5) (μ 7) n (i : Int) n = -1 → fuB (μ 3) (μ 5) (μ 7) n 100 0 = fuB (μ 3) (μ 5) (μ 7) n d (i + 1) := fun q => by rw [e, fuB, if_neg (fun z => z q)]
      have eY : fenF (μ 3) (μ 5) (μ 7) n (i : Int) n ≠ -1 → fuB (μ 3) (μ 5) (μ 7) n 100 0 = (i : Int) := fun q => by rw [e, fuB, if_pos q]
      have ef : fenF (μ 3) (μ 5) (μ 7) n (i : Int) n ≠ -1 → fullC (μ 3) (μ 5) (μ 7) n x = if x = 0 then (i : Int) else if x = 1 then fenF (μ 3) (μ 5) (μ 7) n (i : Int) n else wbtF (μ 3) (μ 5) (μ 7) (i : Int) (fenF (μ 3) (μ 5) (μ 7) n (i : Int) n) n := fun q => by unfold fullC; rw [eY q, if_neg (by omega)]
      refine v_iload_n (pc := 19) h (dk dt_X11_full 11 rfl) rfl ?_
      refine v_bipush (pc := 20) h (dk dt_X11_full 12 rfl) rfl ?_
      refine v_icmp_gt (pc := 22) h 72 (dk dt_X11_full 13 rfl) rfl (by omega) (fun c22 => ?_) (fun c22 => ?_)
      ·
        exact absurd c22 (by omega)
      ·
        refine v_aload_n (pc := 25) h (dk dt_X11_full 14 rfl) rfl ?_
        refine v_getr (pc := 26) h ci11 sh0 (Nat.le_of_ble_eq_true rfl) (j := 0) wF_X11_10 rfl (dk dt_X11_full 15 rfl) ?_
        refine v_iload_n (pc := 29) h (dk dt_X11_full 16 rfl) rfl ?_
        refine v_cVi (pc := 30) h (c_X1_fullEnd h.quiet hO.J (by omega)) kv_X1_fullEnd sh1 wM_X11_206 rfl rfl (Nat.le_of_ble_eq_true rfl) (RM.of rfl) rfl rfl (dk dt_X11_full 17 rfl) ?_
        rw [enn]
        refine v_istore_n (lv' := [(3, _), (2, _), (0, _), (1, _)]) (pc := 33) h (dk dt_X11_full 18 rfl) (Nat.le_of_ble_eq_true rfl) rfl ?_
        refine v_iload_n (pc := 34) h (dk dt_X11_full 19 rfl) rfl ?_
        refine v_iconst (pc := 35) h (dk dt_X11_full 20 rfl) ?_
        refine v_icmp_eq (pc := 36) h 66 (dk dt_X11_full 21 rfl) rfl ⟨by omega, by omega⟩ (fun c36 => ?_) (fun c36 => ?_)
        ·
          refine v_iinc (lv' := [(2, _), (3, _), (0, _), (1, _)]) (pc := 66) h (dk dt_X11_full 37 rfl) rfl (Nat.le_of_ble_eq_true rfl) rfl ?_
          refine v_goto (pc := 69) h 19 (dk dt_X11_full 38 rfl) rfl ?_
          exact VV.loc (ih (i + 1) (by omega) (eN c36)) ⟨rfl, rfl, rfl, trivial⟩
        ·
          refine v_iload_n (pc := 39) h (dk dt_X11_full 22 rfl) rfl ?_
          refine v_if_ne (pc := 40) h 47 (dk dt_X11_full 23 rfl) rfl (by omega) (fun c40 => ?_) (fun c40 => ?_)
          ·
            refine v_iload_n (pc := 47) h (dk dt_X11_full 26 rfl) rfl ?_
            refine v_iconst (pc := 48) h (dk dt_X11_full 27 rfl) ?_
            refine v_icmp_ne (pc := 49) h 56 (dk dt_X11_full 28 rfl) rfl (by omega) (fun c49 => ?_) (fun c49 => ?_)
            ·
              refine v_aload_n (pc := 56) h (dk dt_X11_full 31 rfl) rfl ?_
              refine v_getr (pc := 57) h ci11 sh0 (Nat.le_of_ble_eq_true rfl) (j := 0) wF_X11_10 rfl (dk dt_X11_full 32 rfl) ?_
              refine v_iload_n (pc := 60) h (dk dt_X11_full 33 rfl) rfl ?_
              refine v_iload_n (pc := 61) h (dk dt_X11_full 34 rfl) rfl ?_
              refine v_cVi (pc := 62) h (c_X1_workBetween h.quiet hO.J (by omega)) kv_X1_workBetween sh1 wM_X11_209 rfl rfl (Nat.le_of_ble_eq_true rfl) (RM.of rfl) rfl rfl (dk dt_X11_full 35 rfl) ?_
              rw [enn]
              exact v_iret (pc := 65) h r (dk dt_X11_full 36 rfl) (Nat.le_of_ble_eq_true rfl) (Nat.le_of_ble_eq_true rfl) ⟨hrc, by rw [ef c36]; first | rw [if_pos c40] | rw [if_neg c40, if_pos c49] | rw [if_neg c40, if_neg c49], rfl⟩
            ·
              refine v_iload_n (pc := 52) h (dk dt_X11_full 29 rfl) rfl ?_
              refine v_goto (pc := 53) h 65 (dk dt_X11_full 30 rfl) rfl ?_
              exact v_iret (pc := 65) h r (dk dt_X11_full 36 rfl) (Nat.le_of_ble_eq_true rfl) (Nat.le_of_ble_eq_true rfl) ⟨hrc, by rw [ef c36]; first | rw [if_pos c40] | rw [if_neg c40, if_pos c49] | rw [if_neg c40, if_neg c49], rfl⟩
          ·
            refine v_iload_n (pc := 43) h (dk dt_X11_full 24 rfl) rfl ?_
            refine v_goto (pc := 44) h 65 (dk dt_X11_full 25 rfl) rfl ?_
            exact v_iret (pc := 65) h r (dk dt_X11_full 36 rfl) (Nat.le_of_ble_eq_true rfl) (Nat.le_of_ble_eq_true rfl) ⟨hrc, by rw [ef c36]; first | rw [if_pos c40] | rw [if_neg c40, if_pos c49] | rw [if_neg c40, if_neg c49], rfl⟩
  refine v_iload_n (pc := 0) h (dk dt_X11_full 0 rfl) rfl ?_
  refine v_iconst (pc := 1) h (dk dt_X11_full 1 rfl) ?_
  refine v_iconst (pc := 2) h (dk dt_X11_full 2 rfl) ?_
  refine v_cSi (pc := 3) h (c_X11_isOutside h.quiet (by omega) (by omega)) kv_X11_isOutside wM_X11_58 rfl rfl (Nat.le_of_ble_eq_true rfl) (RM.of rfl) rfl rfl (dk dt_X11_full 3 rfl) ?_
  refine v_if_eq (pc := 6) h 17 (dk dt_X11_full 4 rfl) rfl (by split <;> omega) (fun c6 => ?_) (fun c6 => ?_)
  ·
    have d6 : 0 ≤ x ∧ x ≤ 2 := by by_cases q : x < 0 ∨ 2 < x; rw [if_pos q] at c6; omega; omega
    refine v_iconst (pc := 17) h (dk dt_X11_full 9 rfl) ?_
    refine v_istore_n (lv' := [(2, _), (0, _), (1, _)]) (pc := 18) h (dk dt_X11_full 10 rfl) (Nat.le_of_ble_eq_true rfl) rfl ?_
    exact VV.loc (loop d6 100 0 (by omega) rfl) ⟨rfl, rfl, rfl, trivial⟩
  ·
    have d6 : ¬ (0 ≤ x ∧ x ≤ 2) := fun q => by rw [if_neg (by omega)] at c6; omega
    exact v_throw (pc := 9) h r t kt_X11_62 (dk dt_X11_full 5 rfl) (dk dt_X11_full 6 rfl) (dk dt_X11_full 7 rfl) (dk dt_X11_full 8 rfl) ⟨Nat.le_of_ble_eq_true rfl, Nat.le_of_ble_eq_true rfl, Nat.le_of_ble_eq_true rfl, Nat.le_of_ble_eq_true rfl⟩ (Nat.le_of_ble_eq_true rfl) (Nat.le_of_ble_eq_true rfl) (Nat.le_of_ble_eq_true rfl) ⟨⟨0, by unfold rcF; rw [if_pos d6]; rfl, rfl⟩, rfl⟩
theorem c_X11_task (hst : l.stackTraces = false) (hO : hOK μ) {p le d : Int} (hp : InR p ∧ InR le) (hd : InR d) :
    Ct l B D E yX11_task (.code yX11_task cX11_task 4 (some .int)) rm_X11_task [.ref (pl B 0), iI p, iI le, iI d] μ (PX (rcTk (μ 20 3) p le d) (some (iI (μ 20 3))) (mtask μ p le d)) (XX (rcTk (μ 20 3) p le d) [eA, eS] μ) := by
  have hb := hO.T.1
  refine ct_of (own := RX11) (lv := [(0, _), (1, _), (2, _), (3, _)]) hst (by decide) rfl rfl (Nat.le_of_ble_eq_true rfl) fun a h r t => ?_
  refine v_iload_n (pc := 0) h (dk dt_X11_task 0 rfl) rfl ?_
  refine v_iconst (pc := 1) h (dk dt_X11_task 1 rfl) ?_
  refine v_bipush (pc := 2) h (dk dt_X11_task 2 rfl) rfl ?_
  refine v_cSi (pc := 4) h (c_X11_isOutside h.quiet (by omega) (by omega)) kv_X11_isOutside wM_X11_58 rfl rfl (Nat.le_of_ble_eq_true rfl) (RM.of rfl) rfl rfl (dk dt_X11_task 3 rfl) ?_
  refine v_if_ne (pc := 7) h 34 (dk dt_X11_task 4 rfl) rfl (by split <;> omega) (fun c7 => ?_) (fun c7 => ?_)
  ·
    have d7 : ¬ (1 ≤ p ∧ p ≤ 60) := fun q => by rw [if_neg (by omega)] at c7; omega
    exact v_throw (pc := 34) h r t kt_X11_62 (dk dt_X11_task 18 rfl) (dk dt_X11_task 19 rfl) (dk dt_X11_task 20 rfl) (dk dt_X11_task 21 rfl) ⟨Nat.le_of_ble_eq_true rfl, Nat.le_of_ble_eq_true rfl, Nat.le_of_ble_eq_true rfl, Nat.le_of_ble_eq_true rfl⟩ (Nat.le_of_ble_eq_true rfl) (Nat.le_of_ble_eq_true rfl) (Nat.le_of_ble_eq_true rfl) ⟨⟨0, by unfold rcTk; rw [if_pos (by omega)]; rfl, rfl⟩, rfl⟩
  ·
    have d7 : 1 ≤ p ∧ p ≤ 60 := by by_cases q : p < 1 ∨ 60 < p; rw [if_pos q] at c7; omega; omega
    refine v_iload_n (pc := 10) h (dk dt_X11_task 5 rfl) rfl ?_
    refine v_iconst (pc := 11) h (dk dt_X11_task 6 rfl) ?_
    refine v_bipush (pc := 12) h (dk dt_X11_task 7 rfl) rfl ?_
    refine v_cSi (pc := 14) h (c_X11_isOutside h.quiet (by omega) (by omega)) kv_X11_isOutside wM_X11_58 rfl rfl (Nat.le_of_ble_eq_true rfl) (RM.of rfl) rfl rfl (dk dt_X11_task 8 rfl) ?_
    refine v_if_ne (pc := 17) h 34 (dk dt_X11_task 9 rfl) rfl (by split <;> omega) (fun c17 => ?_) (fun c17 => ?_)
    ·
      have d17 : ¬ (1 ≤ le ∧ le ≤ 30) := fun q => by rw [if_neg (by omega)] at c17; omega
      exact v_throw (pc := 34) h r t kt_X11_62 (dk dt_X11_task 18 rfl) (dk dt_X11_task 19 rfl) (dk dt_X11_task 20 rfl) (dk dt_X11_task 21 rfl) ⟨Nat.le_of_ble_eq_true rfl, Nat.le_of_ble_eq_true rfl, Nat.le_of_ble_eq_true rfl, Nat.le_of_ble_eq_true rfl⟩ (Nat.le_of_ble_eq_true rfl) (Nat.le_of_ble_eq_true rfl) (Nat.le_of_ble_eq_true rfl) ⟨⟨0, by unfold rcTk; rw [if_pos (by omega)]; rfl, rfl⟩, rfl⟩
    ·
      have d17 : 1 ≤ le ∧ le ≤ 30 := by by_cases q : le < 1 ∨ 30 < le; rw [if_pos q] at c17; omega; omega
      refine v_iload_n (pc := 20) h (dk dt_X11_task 10 rfl) rfl ?_
      refine v_iload_n (pc := 21) h (dk dt_X11_task 11 rfl) rfl ?_
      refine v_icmp_gt (pc := 22) h 34 (dk dt_X11_task 12 rfl) rfl (by omega) (fun c22 => ?_) (fun c22 => ?_)
      ·
        exact v_throw (pc := 34) h r t kt_X11_62 (dk dt_X11_task 18 rfl) (dk dt_X11_task 19 rfl) (dk dt_X11_task 20 rfl) (dk dt_X11_task 21 rfl) ⟨Nat.le_of_ble_eq_true rfl, Nat.le_of_ble_eq_true rfl, Nat.le_of_ble_eq_true rfl, Nat.le_of_ble_eq_true rfl⟩ (Nat.le_of_ble_eq_true rfl) (Nat.le_of_ble_eq_true rfl) (Nat.le_of_ble_eq_true rfl) ⟨⟨0, by unfold rcTk; rw [if_pos (by omega)]; rfl, rfl⟩, rfl⟩
      ·
        refine v_iload_n (pc := 25) h (dk dt_X11_task 13 rfl) rfl ?_
        refine v_iload_n (pc := 26) h (dk dt_X11_task 14 rfl) rfl ?_
        refine v_iload_n (pc := 27) h (dk dt_X11_task 15 rfl) rfl ?_
        refine v_cSi (pc := 28) h (c_X11_isOutside h.quiet (by omega) (by omega)) kv_X11_isOutside wM_X11_58 rfl rfl (Nat.le_of_ble_eq_true rfl) (RM.of rfl) rfl rfl (dk dt_X11_task 16 rfl) ?_
        refine v_if_eq (pc := 31) h 42 (dk dt_X11_task 17 rfl) rfl (by split <;> omega) (fun c31 => ?_) (fun c31 => ?_)
        ·
          have d31 : le ≤ d ∧ d ≤ p := by by_cases q : d < le ∨ p < d; rw [if_pos q] at c31; omega; omega
          refine v_aload_n (pc := 42) h (dk dt_X11_task 22 rfl) rfl ?_
          refine v_getr (pc := 43) h ci11 sh0 (Nat.le_of_ble_eq_true rfl) (j := 1) wF_X11_19 rfl (dk dt_X11_task 23 rfl) ?_
          refine v_geti (pc := 46) h ci8 sh20 (Nat.le_of_ble_eq_true rfl) (j := 3) wF_X11_212 rfl (dk dt_X11_task 24 rfl) ?_
          refine v_iconst (pc := 49) h (dk dt_X11_task 25 rfl) ?_
          refine v_icmp_lt (pc := 50) h 61 (dk dt_X11_task 26 rfl) rfl (by omega) (fun c50 => ?_) (fun c50 => ?_)
          ·
            refine v_aload_n (pc := 61) h (dk dt_X11_task 31 rfl) rfl ?_
            refine v_getr (pc := 62) h ci11 sh0 (Nat.le_of_ble_eq_true rfl) (j := 1) wF_X11_19 rfl (dk dt_X11_task 32 rfl) ?_
            refine v_iload_n (pc := 65) h (dk dt_X11_task 33 rfl) rfl ?_
            refine v_iload_n (pc := 66) h (dk dt_X11_task 34 rfl) rfl ?_
            refine v_iload_n (pc := 67) h (dk dt_X11_task 35 rfl) rfl ?_
            refine v_cVi (pc := 68) h (c_X8_tell h.quiet (by omega)) kv_X8_tell sh20 wM_X11_213 rfl rfl (Nat.le_of_ble_eq_true rfl) (RM.of rfl) rfl rfl (dk dt_X11_task 36 rfl) ?_
            exact v_iret (pc := 71) h r (dk dt_X11_task 37 rfl) (Nat.le_of_ble_eq_true rfl) (Nat.le_of_ble_eq_true rfl) ⟨by unfold rcTk; rw [if_neg (by omega), if_neg (by omega)], rfl, rfl⟩
          ·
            exact v_throw (pc := 53) h r t kt_X11_69 (dk dt_X11_task 27 rfl) (dk dt_X11_task 28 rfl) (dk dt_X11_task 29 rfl) (dk dt_X11_task 30 rfl) ⟨Nat.le_of_ble_eq_true rfl, Nat.le_of_ble_eq_true rfl, Nat.le_of_ble_eq_true rfl, Nat.le_of_ble_eq_true rfl⟩ (Nat.le_of_ble_eq_true rfl) (Nat.le_of_ble_eq_true rfl) (Nat.le_of_ble_eq_true rfl) ⟨⟨1, by unfold rcTk; rw [if_neg (by omega), if_pos (by omega)]; rfl, rfl⟩, rfl⟩
        ·
          have d31 : ¬ (le ≤ d ∧ d ≤ p) := fun q => by rw [if_neg (by omega)] at c31; omega
          exact v_throw (pc := 34) h r t kt_X11_62 (dk dt_X11_task 18 rfl) (dk dt_X11_task 19 rfl) (dk dt_X11_task 20 rfl) (dk dt_X11_task 21 rfl) ⟨Nat.le_of_ble_eq_true rfl, Nat.le_of_ble_eq_true rfl, Nat.le_of_ble_eq_true rfl, Nat.le_of_ble_eq_true rfl⟩ (Nat.le_of_ble_eq_true rfl) (Nat.le_of_ble_eq_true rfl) (Nat.le_of_ble_eq_true rfl) ⟨⟨0, by unfold rcTk; rw [if_pos (by omega)]; rfl, rfl⟩, rfl⟩
theorem c_X11_response (hst : l.stackTraces = false) (hO : hOK μ) (hn : μ 20 3 = (n : Int)) {j : Int} (hj : InR j) :
    Ct l B D E yX11_response (.code yX11_response cX11_response 3 (some .int)) rm_X11_response [.ref (pl B 0), iI j] μ (PX (rcRs (μ 20 3) j) (some (iI (rsT (μ 22) (μ 24) (μ 26) n j.toNat (μ 26 j.toNat).toNat 1))) μ) (XX (rcRs (μ 20 3) j) [eB] μ) := by
  have hb := hO.T.1
  have enn : (μ 20 3).toNat = n := by omega
  refine ct_of (own := RX11) (lv := [(0, _), (1, _)]) hst (by decide) rfl rfl (Nat.le_of_ble_eq_true rfl) fun a h r t => ?_
  have go25 : 0 ≤ j ∧ j < μ 20 3 → VV a B (SP B D E μ) 0 0 25 [(0, .ref (pl B 0)), (1, iI j)] [] := by
    intro h1
    obtain ⟨k, rfl⟩ : ∃ k : Nat, j = (k : Int) := ⟨j.toNat, by omega⟩
    have hT := hO.T.2 k (by omega)
    have hrc : rcRs (μ 20 3) (k : Int) = 0 := by unfold rcRs; rw [if_neg (by omega)]
    have loop : ∀ (d i : Nat), i + d = (μ 26 k).toNat + 1 → 1 ≤ i → rsT (μ 22) (μ 24) (μ 26) n k (μ 26 k).toNat 1 = rsT (μ 22) (μ 24) (μ 26) n k d i → VV a B (SP B D E μ) 0 0 27 [(2, iI (i : Int)), (0, .ref (pl B 0)), (1, iI (k : Int))] [] := by
      intro d
      induction d with
      | zero =>
        intro i hi h1i e
        refine v_iload_n (pc := 27) h (dk dt_X11_response 15 rfl) rfl ?_
        refine v_aload_n (pc := 28) h (dk dt_X11_response 16 rfl) rfl ?_
        refine v_getr (pc := 29) h ci11 sh0 (Nat.le_of_ble_eq_true rfl) (j := 1) wF_X11_19 rfl (dk dt_X11_response 17 rfl) ?_
        refine v_getr (pc := 32) h ci8 sh20 (Nat.le_of_ble_eq_true rfl) (j := 2) wF_X11_220 rfl (dk dt_X11_response 18 rfl) ?_
        refine v_iload_n (pc := 35) h (dk dt_X11_response 19 rfl) rfl ?_
        refine v_cVi (pc := 36) h (c_X7_atn h.quiet tr2 (o1 := 26) rfl (Nat.le_of_ble_eq_true rfl) (by omega)) kv_X7_at tr2.1 wM_X11_91 rfl rfl (Nat.le_of_ble_eq_true rfl) (RM.of rfl) rfl rfl (dk dt_X11_response 20 rfl) ?_
        refine v_icmp_gt (pc := 39) h 63 (dk dt_X11_response 21 rfl) rfl (by omega) (fun c39 => ?_) (fun c39 => ?_)
        ·
          refine v_iconst (pc := 63) h (dk dt_X11_response 33 rfl) ?_
          exact v_iret (pc := 64) h r (dk dt_X11_response 34 rfl) (Nat.le_of_ble_eq_true rfl) (Nat.le_of_ble_eq_true rfl) ⟨hrc, by rw [Int.toNat_natCast, e, rsT], rfl⟩
        ·
          exact absurd c39 (by omega)
      | succ d ih =>
        intro i hi h1i e
        have hwb := wahF_b hO.T (k := k) (by omega) (r := (i : Int)) (by omega) n (by omega)
        refine v_iload_n (pc := 27) h (dk dt_X11_response 15 rfl) rfl ?_
        refine v_aload_n (pc := 28) h (dk dt_X11_response 16 rfl) rfl ?_
        refine v_getr (pc := 29) h ci11 sh0 (Nat.le_of_ble_eq_true rfl) (j := 1) wF_X11_19 rfl (dk dt_X11_response 17 rfl) ?_
        refine v_getr (pc := 32) h ci8 sh20 (Nat.le_of_ble_eq_true rfl) (j := 2) wF_X11_220 rfl (dk dt_X11_response 18 rfl) ?_
        refine v_iload_n (pc := 35) h (dk dt_X11_response 19 rfl) rfl ?_
        refine v_cVi (pc := 36) h (c_X7_atn h.quiet tr2 (o1 := 26) rfl (Nat.le_of_ble_eq_true rfl) (by omega)) kv_X7_at tr2.1 wM_X11_91 rfl rfl (Nat.le_of_ble_eq_true rfl) (RM.of rfl) rfl rfl (dk dt_X11_response 20 rfl) ?_
        refine v_icmp_gt (pc := 39) h 63 (dk dt_X11_response 21 rfl) rfl (by omega) (fun c39 => ?_) (fun c39 => ?_)
        ·
          exact absurd c39 (by omega)
        ·
          refine v_aload_n (pc := 42) h (dk dt_X11_response 22 rfl) rfl ?_
          refine v_getr (pc := 43) h ci11 sh0 (Nat.le_of_ble_eq_true rfl) (j := 1) wF_X11_19 rfl (dk dt_X11_response 23 rfl) ?_
          refine v_iload_n (pc := 46) h (dk dt_X11_response 24 rfl) rfl ?_
          refine v_iload_n (pc := 47) h (dk dt_X11_response 25 rfl) rfl ?_
          refine v_cVi (pc := 48) h (c_X8_workAhead h.quiet hO.T (by omega) (by omega)) kv_X8_workAhead sh20 wM_X11_223 rfl rfl (Nat.le_of_ble_eq_true rfl) (RM.of rfl) rfl rfl (dk dt_X11_response 26 rfl) ?_
          rw [enn]
          refine v_iload_n (pc := 51) h (dk dt_X11_response 27 rfl) rfl ?_
          refine v_icmp_ne (pc := 52) h 57 (dk dt_X11_response 28 rfl) rfl ⟨by omega, by omega⟩ (fun c52 => ?_) (fun c52 => ?_)
          ·
            refine v_iinc (lv' := [(2, _), (0, _), (1, _)]) (pc := 57) h (dk dt_X11_response 31 rfl) rfl (Nat.le_of_ble_eq_true rfl) rfl ?_
            refine v_goto (pc := 60) h 27 (dk dt_X11_response 32 rfl) rfl ?_
            exact VV.loc (ih (i + 1) (by omega) (by omega) (by rw [e, rsT, if_neg c52])) ⟨rfl, rfl, rfl, trivial⟩
          ·
            refine v_iload_n (pc := 55) h (dk dt_X11_response 29 rfl) rfl ?_
            exact v_iret (pc := 56) h r (dk dt_X11_response 30 rfl) (Nat.le_of_ble_eq_true rfl) (Nat.le_of_ble_eq_true rfl) ⟨hrc, by rw [Int.toNat_natCast, e, rsT, if_pos c52], rfl⟩
    refine v_iconst (pc := 25) h (dk dt_X11_response 13 rfl) ?_
    refine v_istore_n (lv' := [(2, _), (0, _), (1, _)]) (pc := 26) h (dk dt_X11_response 14 rfl) (Nat.le_of_ble_eq_true rfl) rfl ?_
    exact VV.loc (loop (μ 26 k).toNat 1 (by omega) (by omega) rfl) ⟨rfl, rfl, rfl, trivial⟩
  refine v_iload_n (pc := 0) h (dk dt_X11_response 0 rfl) rfl ?_
  refine v_iconst (pc := 1) h (dk dt_X11_response 1 rfl) ?_
  refine v_aload_n (pc := 2) h (dk dt_X11_response 2 rfl) rfl ?_
  refine v_getr (pc := 3) h ci11 sh0 (Nat.le_of_ble_eq_true rfl) (j := 1) wF_X11_19 rfl (dk dt_X11_response 3 rfl) ?_
  refine v_geti (pc := 6) h ci8 sh20 (Nat.le_of_ble_eq_true rfl) (j := 3) wF_X11_212 rfl (dk dt_X11_response 4 rfl) ?_
  refine v_iconst (pc := 9) h (dk dt_X11_response 5 rfl) ?_
  refine v_isub (pc := 10) h (dk dt_X11_response 6 rfl) ?_
  refine v_cSi (pc := 11) h (c_X11_isOutside h.quiet (by omega) (by omega)) kv_X11_isOutside wM_X11_58 rfl rfl (Nat.le_of_ble_eq_true rfl) (RM.of rfl) rfl rfl (dk dt_X11_response 7 rfl) ?_
  refine v_if_eq (pc := 14) h 25 (dk dt_X11_response 8 rfl) rfl (by split <;> omega) (fun c14 => ?_) (fun c14 => ?_)
  ·
    have d14 : 0 ≤ j ∧ j < μ 20 3 := by by_cases q : j < 0 ∨ μ 20 3 - 1 < j; rw [if_pos q] at c14; omega; omega
    exact VV.loc (go25 d14) ⟨rfl, rfl, trivial⟩
  ·
    have d14 : ¬ (0 ≤ j ∧ j < μ 20 3) := fun q => by rw [if_neg (by omega)] at c14; omega
    exact v_throw (pc := 17) h r t kt_X11_84 (dk dt_X11_response 9 rfl) (dk dt_X11_response 10 rfl) (dk dt_X11_response 11 rfl) (dk dt_X11_response 12 rfl) ⟨Nat.le_of_ble_eq_true rfl, Nat.le_of_ble_eq_true rfl, Nat.le_of_ble_eq_true rfl, Nat.le_of_ble_eq_true rfl⟩ (Nat.le_of_ble_eq_true rfl) (Nat.le_of_ble_eq_true rfl) (Nat.le_of_ble_eq_true rfl) ⟨⟨0, by unfold rcRs; rw [if_pos d14]; rfl, rfl⟩, rfl⟩
def anLd (p : Nat × Nat) (b : Int) : Int := if b = 0 then ((p.1 / Nat.gcd p.1 p.2 : Nat) : Int) else ((p.2 / Nat.gcd p.2 p.1 : Nat) : Int)
theorem c_X11_load (hst : l.stackTraces = false) (hO : hOK μ) (hn : μ 20 3 = (n : Int)) {b : Int} (hb01 : b = 0 ∨ b = 1) :
    Ct l B D E yX11_load (.code yX11_load cX11_load 8 (some .long)) rm_X11_load [.ref (pl B 0), iI b] μ (dr (some (iL (anLd (ldF (μ 22) (μ 24) n) b))) μ) NX := by
  have hb := hO.T.1
  refine ct_of (own := RX11) (lv := [(0, _), (1, _)]) hst (by decide) rfl rfl (Nat.le_of_ble_eq_true rfl) fun a h r t => ?_
  have loop : ∀ (d i : Nat), i + d = n → VV a B (SP B D E μ) 0 0 8 [(6, iI (i : Int)), (4, iL ((ldF (μ 22) (μ 24) i).2 : Int)), (2, iL ((ldF (μ 22) (μ 24) i).1 : Int)), (0, .ref (pl B 0)), (1, iI b)] [] := by
    intro d
    induction d with
    | zero =>
      intro i hi
      have e : n = i := by omega
      have hl := ldF_b hO.T i (by omega)
      have h5 : 60 ^ i ≤ 60 ^ 5 := Nat.pow_le_pow_right (by decide) (by omega)
      have h6 : i * 60 ^ i ≤ 5 * 60 ^ 5 := Nat.mul_le_mul (by omega) h5
      have h7 : 60 ^ 5 = 777600000 := by decide
      have hg2 := Nat.div_le_self (ldF (μ 22) (μ 24) i).1 (Nat.gcd (ldF (μ 22) (μ 24) i).1 (ldF (μ 22) (μ 24) i).2)
      have hg1 := Nat.div_le_self (ldF (μ 22) (μ 24) i).2 (Nat.gcd (ldF (μ 22) (μ 24) i).2 (ldF (μ 22) (μ 24) i).1)
      have ean : ∀ b, anLd (ldF (μ 22) (μ 24) n) b = if b = 0 then (((ldF (μ 22) (μ 24) i).1 / Nat.gcd (ldF (μ 22) (μ 24) i).1 (ldF (μ 22) (μ 24) i).2 : Nat) : Int) else (((ldF (μ 22) (μ 24) i).2 / Nat.gcd (ldF (μ 22) (μ 24) i).2 (ldF (μ 22) (μ 24) i).1 : Nat) : Int) := fun b => by rw [e]; rfl
      generalize ldF (μ 22) (μ 24) i = P at *
      obtain ⟨x, y⟩ := P
      simp only at *
      rcases hb01 with rfl | rfl
      ·
        refine v_iload (pc := 8) h (dk dt_X11_load 6 rfl) rfl ?_
        refine v_aload_n (pc := 10) h (dk dt_X11_load 7 rfl) rfl ?_
        refine v_getr (pc := 11) h ci11 sh0 (Nat.le_of_ble_eq_true rfl) (j := 1) wF_X11_19 rfl (dk dt_X11_load 8 rfl) ?_
        refine v_geti (pc := 14) h ci8 sh20 (Nat.le_of_ble_eq_true rfl) (j := 3) wF_X11_212 rfl (dk dt_X11_load 9 rfl) ?_
        refine v_icmp_ge (pc := 17) h 71 (dk dt_X11_load 10 rfl) rfl (by omega) (fun c17 => ?_) (fun c17 => ?_)
        ·
          refine v_iload_n (pc := 71) h (dk dt_X11_load 38 rfl) rfl ?_
          refine v_if_eq (pc := 72) h 80 (dk dt_X11_load 39 rfl) rfl (by omega) (fun c72 => ?_) (fun c72 => ?_)
          ·
            refine v_lload_n (pc := 80) h (dk dt_X11_load 42 rfl) rfl ?_
            refine v_iload_n (pc := 81) h (dk dt_X11_load 43 rfl) rfl ?_
            refine v_if_eq (pc := 82) h 89 (dk dt_X11_load 44 rfl) rfl (by omega) (fun c82 => ?_) (fun c82 => ?_)
            ·
              refine v_lload (pc := 89) h (dk dt_X11_load 47 rfl) rfl ?_
              refine v_cSi (pc := 91) h (c_X11_reduced h.quiet (by omega) (by omega)) kv_X11_reduced wM_X11_174 rfl rfl (Nat.le_of_ble_eq_true rfl) (RM.of rfl) rfl rfl (dk dt_X11_load 48 rfl) ?_
              exact v_lret (pc := 94) h r (dk dt_X11_load 49 rfl) (Nat.le_of_ble_eq_true rfl) (Nat.le_of_ble_eq_true rfl) ⟨by rw [ean, if_pos rfl], rfl⟩
            ·
              exact absurd rfl c82
          ·
            exact absurd rfl c72
        ·
          exact absurd c17 (by omega)
      ·
        refine v_iload (pc := 8) h (dk dt_X11_load 6 rfl) rfl ?_
        refine v_aload_n (pc := 10) h (dk dt_X11_load 7 rfl) rfl ?_
        refine v_getr (pc := 11) h ci11 sh0 (Nat.le_of_ble_eq_true rfl) (j := 1) wF_X11_19 rfl (dk dt_X11_load 8 rfl) ?_
        refine v_geti (pc := 14) h ci8 sh20 (Nat.le_of_ble_eq_true rfl) (j := 3) wF_X11_212 rfl (dk dt_X11_load 9 rfl) ?_
        refine v_icmp_ge (pc := 17) h 71 (dk dt_X11_load 10 rfl) rfl (by omega) (fun c17 => ?_) (fun c17 => ?_)
        ·
          refine v_iload_n (pc := 71) h (dk dt_X11_load 38 rfl) rfl ?_
          refine v_if_eq (pc := 72) h 80 (dk dt_X11_load 39 rfl) rfl (by omega) (fun c72 => ?_) (fun c72 => ?_)
          ·
            exact absurd c72 (by decide)
          ·
            refine v_lload (pc := 75) h (dk dt_X11_load 40 rfl) rfl ?_
            refine v_goto (pc := 77) h 81 (dk dt_X11_load 41 rfl) rfl ?_
            refine v_iload_n (pc := 81) h (dk dt_X11_load 43 rfl) rfl ?_
            refine v_if_eq (pc := 82) h 89 (dk dt_X11_load 44 rfl) rfl (by omega) (fun c82 => ?_) (fun c82 => ?_)
            ·
              exact absurd c82 (by decide)
            ·
              refine v_lload_n (pc := 85) h (dk dt_X11_load 45 rfl) rfl ?_
              refine v_goto (pc := 86) h 91 (dk dt_X11_load 46 rfl) rfl ?_
              refine v_cSi (pc := 91) h (c_X11_reduced h.quiet (by omega) (by omega)) kv_X11_reduced wM_X11_174 rfl rfl (Nat.le_of_ble_eq_true rfl) (RM.of rfl) rfl rfl (dk dt_X11_load 48 rfl) ?_
              exact v_lret (pc := 94) h r (dk dt_X11_load 49 rfl) (Nat.le_of_ble_eq_true rfl) (Nat.le_of_ble_eq_true rfl) ⟨by rw [ean, if_neg (by decide)], rfl⟩
        ·
          exact absurd c17 (by omega)
    | succ d ih =>
      intro i hi
      have hT := hO.T.2 i (by omega)
      have e1 : ((ldF (μ 22) (μ 24) (i + 1)).1 : Int) = (ldF (μ 22) (μ 24) i).1 * μ 22 i + (ldF (μ 22) (μ 24) i).2 * μ 24 i := by
        simp only [ldF]
        rw [Int.natCast_add, Int.natCast_mul, Int.natCast_mul, Int.toNat_of_nonneg (by omega), Int.toNat_of_nonneg (by omega)]
      have e2 : ((ldF (μ 22) (μ 24) (i + 1)).2 : Int) = (ldF (μ 22) (μ 24) i).2 * μ 22 i := by
        simp only [ldF]
        rw [Int.natCast_mul, Int.toNat_of_nonneg (by omega)]
      have hio := ih (i + 1) (by omega)
      rw [e1, e2] at hio
      refine v_iload (pc := 8) h (dk dt_X11_load 6 rfl) rfl ?_
      refine v_aload_n (pc := 10) h (dk dt_X11_load 7 rfl) rfl ?_
      refine v_getr (pc := 11) h ci11 sh0 (Nat.le_of_ble_eq_true rfl) (j := 1) wF_X11_19 rfl (dk dt_X11_load 8 rfl) ?_
      refine v_geti (pc := 14) h ci8 sh20 (Nat.le_of_ble_eq_true rfl) (j := 3) wF_X11_212 rfl (dk dt_X11_load 9 rfl) ?_
      refine v_icmp_ge (pc := 17) h 71 (dk dt_X11_load 10 rfl) rfl (by omega) (fun c17 => ?_) (fun c17 => ?_)
      ·
        exact absurd c17 (by omega)
      ·
        refine v_aload_n (pc := 20) h (dk dt_X11_load 11 rfl) rfl ?_
        refine v_getr (pc := 21) h ci11 sh0 (Nat.le_of_ble_eq_true rfl) (j := 1) wF_X11_19 rfl (dk dt_X11_load 12 rfl) ?_
        refine v_getr (pc := 24) h ci8 sh20 (Nat.le_of_ble_eq_true rfl) (j := 0) wF_X11_216 rfl (dk dt_X11_load 13 rfl) ?_
        refine v_iload (pc := 27) h (dk dt_X11_load 14 rfl) rfl ?_
        refine v_cVi (pc := 29) h (c_X7_atn h.quiet tr0 (o1 := 22) rfl (Nat.le_of_ble_eq_true rfl) (by omega)) kv_X7_at tr0.1 wM_X11_91 rfl rfl (Nat.le_of_ble_eq_true rfl) (RM.of rfl) rfl rfl (dk dt_X11_load 15 rfl) ?_
        refine v_istore (lv' := [(7, _), (6, _), (4, _), (2, _), (0, _), (1, _)]) (pc := 32) h (dk dt_X11_load 16 rfl) (Nat.le_of_ble_eq_true rfl) rfl ?_
        refine v_lload_n (pc := 34) h (dk dt_X11_load 17 rfl) rfl ?_
        refine v_iload (pc := 35) h (dk dt_X11_load 18 rfl) rfl ?_
        refine v_i2l (pc := 37) h (dk dt_X11_load 19 rfl) (by omega) ?_
        refine v_lmul (pc := 38) h (dk dt_X11_load 20 rfl) ?_
        refine v_lload (pc := 39) h (dk dt_X11_load 21 rfl) rfl ?_
        refine v_aload_n (pc := 41) h (dk dt_X11_load 22 rfl) rfl ?_
        refine v_getr (pc := 42) h ci11 sh0 (Nat.le_of_ble_eq_true rfl) (j := 1) wF_X11_19 rfl (dk dt_X11_load 23 rfl) ?_
        refine v_getr (pc := 45) h ci8 sh20 (Nat.le_of_ble_eq_true rfl) (j := 1) wF_X11_219 rfl (dk dt_X11_load 24 rfl) ?_
        refine v_iload (pc := 48) h (dk dt_X11_load 25 rfl) rfl ?_
        refine v_cVi (pc := 50) h (c_X7_atn h.quiet tr1 (o1 := 24) rfl (Nat.le_of_ble_eq_true rfl) (by omega)) kv_X7_at tr1.1 wM_X11_91 rfl rfl (Nat.le_of_ble_eq_true rfl) (RM.of rfl) rfl rfl (dk dt_X11_load 26 rfl) ?_
        refine v_i2l (pc := 53) h (dk dt_X11_load 27 rfl) (by omega) ?_
        refine v_lmul (pc := 54) h (dk dt_X11_load 28 rfl) ?_
        refine v_ladd (pc := 55) h (dk dt_X11_load 29 rfl) ?_
        refine v_lstore_n (lv' := [(2, _), (7, _), (6, _), (4, _), (0, _), (1, _)]) (pc := 56) h (dk dt_X11_load 30 rfl) (Nat.le_of_ble_eq_true rfl) rfl ?_
        refine v_lload (pc := 57) h (dk dt_X11_load 31 rfl) rfl ?_
        refine v_iload (pc := 59) h (dk dt_X11_load 32 rfl) rfl ?_
        refine v_i2l (pc := 61) h (dk dt_X11_load 33 rfl) (by omega) ?_
        refine v_lmul (pc := 62) h (dk dt_X11_load 34 rfl) ?_
        refine v_lstore (lv' := [(4, _), (2, _), (7, _), (6, _), (0, _), (1, _)]) (pc := 63) h (dk dt_X11_load 35 rfl) (Nat.le_of_ble_eq_true rfl) rfl ?_
        refine v_iinc (lv' := [(6, _), (4, _), (2, _), (7, _), (0, _), (1, _)]) (pc := 65) h (dk dt_X11_load 36 rfl) rfl (Nat.le_of_ble_eq_true rfl) rfl ?_
        refine v_goto (pc := 68) h 8 (dk dt_X11_load 37 rfl) rfl ?_
        exact VV.loc hio ⟨rfl, rfl, rfl, rfl, rfl, trivial⟩
  refine v_lconst (pc := 0) (y := 0) h (dk dt_X11_load 0 rfl) rfl ?_
  refine v_lstore_n (lv' := [(2, _), (0, _), (1, _)]) (pc := 1) h (dk dt_X11_load 1 rfl) (Nat.le_of_ble_eq_true rfl) rfl ?_
  refine v_lconst (pc := 2) (y := 1) h (dk dt_X11_load 2 rfl) rfl ?_
  refine v_lstore (lv' := [(4, _), (2, _), (0, _), (1, _)]) (pc := 3) h (dk dt_X11_load 3 rfl) (Nat.le_of_ble_eq_true rfl) rfl ?_
  refine v_iconst (pc := 5) h (dk dt_X11_load 4 rfl) ?_
  refine v_istore (lv' := [(6, _), (4, _), (2, _), (0, _), (1, _)]) (pc := 6) h (dk dt_X11_load 5 rfl) (Nat.le_of_ble_eq_true rfl) rfl ?_
  exact VV.loc (loop n 0 (by omega)) ⟨rfl, rfl, rfl, rfl, rfl, trivial⟩
end
