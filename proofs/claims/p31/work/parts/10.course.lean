/-! ===== Course ===== -/
def cntJ (g : Nat → Int) (j : Int) : Nat → Int
  | 0 => 0
  | n + 1 => cntJ g j n + if g n = j then 1 else 0
def cntW (g : Nat → Int) : Nat → Int
  | 0 => 0
  | n + 1 => cntW g n + if 0 ≤ g n then 1 else 0
abbrev bgn (g : Nat → Int) (t : Nat) : Prop := g t ≠ -1 ∧ (t = 0 ∨ g (t - 1) = -1)
def cntB (g : Nat → Int) : Nat → Int
  | 0 => 0
  | n + 1 => cntB g n + if bgn g n then 1 else 0
def fstW (g : Nat → Int) (j : Int) : Nat → Nat → Nat
  | 0, t => t
  | d + 1, t => if g t = j then t else fstW g j d (t + 1)
def gapJ (g : Nat → Int) (j : Int) : Nat → Nat → Int → Int → Int
  | 0, _, _, m => m
  | d + 1, t, s, m => if g t = j then gapJ g j d (t + 1) (t + 1) (if m < t - s then t - s else m) else gapJ g j d (t + 1) s m
def bBeg (g : Nat → Int) (x : Int) : Nat → Nat → Int → Int
  | 0, _, _ => -1
  | d + 1, t, e => if x < e then -1 else if bgn g t then (if e = x then (t : Int) else bBeg g x d (t + 1) (e + 1)) else bBeg g x d (t + 1) e
def bEnd (g : Nat → Int) : Nat → Nat → Nat
  | 0, t => t
  | d + 1, t => if g t = -1 then t else bEnd g d (t + 1)
def doF (g : Nat → Int) (T z : Int) : Int := if 0 ≤ z ∧ z < T then g z.toNat else -1
def asB (f f' : Nat → Int) : Nat → Nat → Int → Int
  | 0, _, m => if m = 0 then 1 else 0
  | d + 1, t, m => if m ≠ 0 ∨ ¬ (f t = -1 ↔ f' t = -1) then 0 else asB f f' d (t + 1) (m + ((if 0 ≤ f t then 1 else 0) - (if 0 ≤ f' t then 1 else 0)))
theorem cntJ_b (g : Nat → Int) (j : Int) (n : Nat) : 0 ≤ cntJ g j n ∧ cntJ g j n ≤ n := by
  induction n with
  | zero => simp [cntJ]
  | succ n ih => simp only [cntJ]; split <;> omega
theorem cntW_b (g : Nat → Int) (n : Nat) : 0 ≤ cntW g n ∧ cntW g n ≤ n := by
  induction n with
  | zero => simp [cntW]
  | succ n ih => simp only [cntW]; split <;> omega
theorem cntB_b (g : Nat → Int) (n : Nat) : 0 ≤ cntB g n ∧ cntB g n ≤ n := by
  induction n with
  | zero => simp [cntB]
  | succ n ih => simp only [cntB]; split <;> omega
theorem lvI {x y : Int} (h : x = y) : some (iI x) = some (iI y) := by rw [h]
/-- the course at o is in order -/
def okC (μ : Mm) (o : Nat) : Prop := (0 ≤ μ o 0 ∧ μ o 0 ≤ 2304) ∧ ∀ t : Nat, (t : Int) < μ o 0 → -2 ≤ μ (o + 2) t ∧ μ (o + 2) t < 12
section
variable {l : Launch} {B : Nat} {D : va_G} {E : Nat → ClassId} {μ : Mm}
theorem c_X7_ati (hst : l.stackTraces = false) {o c o1 n : Nat} (hr : isRw o c n) (e : c = o1) (hl : n ≤ 4000) {z : Int} (hz : 0 ≤ z ∧ z < (n : Int)) :
    Ct l B D E yX7_at (.code yX7_at cX7_at 2 (some .int)) rm_X7_at [.ref (pl B o), iI z] μ (ri (μ o1 z.toNat) μ) NX := e ▸ c_X7_at hst hr hl hz
theorem c_X7_atn (hst : l.stackTraces = false) {o c o1 n : Nat} (hr : isRw o c n) (e : c = o1) (hl : n ≤ 4000) {j : Nat} (hz : j < n) :
    Ct l B D E yX7_at (.code yX7_at cX7_at 2 (some .int)) rm_X7_at [.ref (pl B o), iI (j : Int)] μ (ri (μ o1 j) μ) NX := e ▸ c_X7_at hst hr hl (by omega)
theorem c_X7_putn (hst : l.stackTraces = false) {o c o1 n : Nat} (hr : isRw o c n) (e : c = o1) (hl : n ≤ 4000) {j : Nat} {y : Int} (hz : j < n) :
    Ct l B D E yX7_put (.code yX7_put cX7_put 3 none) rm_X7_put [.ref (pl B o), iI (j : Int), iI y] μ (rv (mup μ o1 j y)) NX := e ▸ c_X7_put hst hr hl (by omega)
theorem c_X7_puti (hst : l.stackTraces = false) {o c o1 n : Nat} (hr : isRw o c n) (e : c = o1) (hl : n ≤ 4000) {z y : Int} (hz : 0 ≤ z ∧ z < (n : Int)) :
    Ct l B D E yX7_put (.code yX7_put cX7_put 3 none) rm_X7_put [.ref (pl B o), iI z, iI y] μ (rv (mup μ o1 z.toNat y)) NX := e ▸ c_X7_put hst hr hl hz
theorem c_X7_addn (hst : l.stackTraces = false) {o c o1 n : Nat} (hr : isRw o c n) (e : c = o1) (hl : n ≤ 4000) {j : Nat} {y : Int} (hz : j < n) :
    Ct l B D E yX7_add (.code yX7_add cX7_add 3 none) rm_X7_add [.ref (pl B o), iI (j : Int), iI y] μ (rv (mup μ o1 j (μ o1 j + y))) NX := e ▸ c_X7_add hst hr hl (by omega)
theorem c_X7_addi (hst : l.stackTraces = false) {o c o1 n : Nat} (hr : isRw o c n) (e : c = o1) (hl : n ≤ 4000) {z y : Int} (hz : 0 ≤ z ∧ z < (n : Int)) :
    Ct l B D E yX7_add (.code yX7_add cX7_add 3 none) rm_X7_add [.ref (pl B o), iI z, iI y] μ (rv (mup μ o1 z.toNat (μ o1 z.toNat + y))) NX := e ▸ c_X7_add hst hr hl hz
theorem c_X7_filln (hst : l.stackTraces = false) {o c o1 n : Nat} (hr : isRw o c n) (e : c = o1) (hl : n ≤ 4000) {v : Int} :
    Ct l B D E yX7_fill (.code yX7_fill cX7_fill 3 none) rm_X7_fill [.ref (pl B o), iI v] μ (rv (mfill μ o1 n v)) NX := e ▸ c_X7_fill hst hr hl
theorem c_X0_note (hst : l.stackTraces = false) {o : Nat} (hr : isC o) (hs : 0 ≤ μ o 0 ∧ μ o 0 < 2304) {x : Int} :
    Ct l B D E yX0_note (.code yX0_note cX0_note 2 none) rm_X0_note [.ref (pl B o), iI x] μ (rv (mup (mup μ (o + 2) (μ o 0).toNat x) o 0 (μ o 0 + 1))) NX := by
  refine ct_of (own := RX0) (lv := [(0, _), (1, _)]) hst (by decide) rfl rfl (Nat.le_of_ble_eq_true rfl) fun a h r t => ?_
  refine v_aload_n (pc := 0) h (dk dt_X0_note 0 rfl) rfl ?_
  refine v_getr (pc := 1) h ci0 (C_hd hr) (Nat.le_of_ble_eq_true rfl) (j := 1) wF_X0_20 rfl (dk dt_X0_note 1 rfl) ?_
  refine v_aload_n (pc := 4) h (dk dt_X0_note 2 rfl) rfl ?_
  refine v_geti (pc := 5) h ci0 (C_hd hr) (Nat.le_of_ble_eq_true rfl) (j := 0) wF_X0_9 rfl (dk dt_X0_note 3 rfl) ?_
  refine v_iload_n (pc := 8) h (dk dt_X0_note 4 rfl) rfl ?_
  refine v_cVv (pc := 9) h (c_X7_puti h.quiet (C_row hr) (o1 := o + 2) rfl (Nat.le_of_ble_eq_true rfl) (by omega)) kv_X7_put (C_row hr).1 wM_X0_28 rfl rfl (Nat.le_of_ble_eq_true rfl) (RM.of rfl) rfl rfl (dk dt_X0_note 5 rfl) ?_
  refine v_aload_n (pc := 12) h (dk dt_X0_note 6 rfl) rfl ?_
  refine v_dup (pc := 13) h (dk dt_X0_note 7 rfl) rfl ?_
  refine v_geti (pc := 14) h ci0 (C_hd hr) (Nat.le_of_ble_eq_true rfl) (j := 0) wF_X0_9 rfl (dk dt_X0_note 8 rfl) ?_
  refine v_iconst (pc := 17) h (dk dt_X0_note 9 rfl) ?_
  refine v_iadd (pc := 18) h (dk dt_X0_note 10 rfl) ?_
  refine v_put (pc := 19) h ci0 (C_hd hr) (Nat.le_of_ble_eq_true rfl) (j := 0) wF_X0_9 rfl rfl rfl rfl (dk dt_X0_note 11 rfl) ?_
  exact v_vret (pc := 22) h r (dk dt_X0_note 12 rfl) (Nat.le_of_ble_eq_true rfl) (Nat.le_of_ble_eq_true rfl) ⟨rfl, by rw [mup_nk (a := o) (by omega)]⟩
theorem c_X0_doingAt (hst : l.stackTraces = false) {o : Nat} (hr : isC o) (hs : okC μ o) {x : Int} (hx : InR x) :
    Ct l B D E yX0_doingAt (.code yX0_doingAt cX0_doingAt 2 (some .int)) rm_X0_doingAt [.ref (pl B o), iI x] μ (ri (doF (μ (o + 2)) (μ o 0) x) μ) NX := by
  have hb := hs.1
  refine ct_of (own := RX0) (lv := [(0, _), (1, _)]) hst (by decide) rfl rfl (Nat.le_of_ble_eq_true rfl) fun a h r t => ?_
  refine v_iload_n (pc := 0) h (dk dt_X0_doingAt 0 rfl) rfl ?_
  refine v_if_lt (pc := 1) h 23 (dk dt_X0_doingAt 1 rfl) rfl (by omega) (fun c1 => ?_) (fun c1 => ?_)
  ·
    refine v_iconst (pc := 23) h (dk dt_X0_doingAt 11 rfl) ?_
    exact v_iret (pc := 24) h r (dk dt_X0_doingAt 12 rfl) (Nat.le_of_ble_eq_true rfl) (Nat.le_of_ble_eq_true rfl) (by first | exact ⟨by rw [doF, if_neg (by omega)], rfl⟩ | exact ⟨by rw [doF, if_pos (by omega)], rfl⟩)
  ·
    refine v_iload_n (pc := 4) h (dk dt_X0_doingAt 2 rfl) rfl ?_
    refine v_aload_n (pc := 5) h (dk dt_X0_doingAt 3 rfl) rfl ?_
    refine v_geti (pc := 6) h ci0 (C_hd hr) (Nat.le_of_ble_eq_true rfl) (j := 0) wF_X0_9 rfl (dk dt_X0_doingAt 4 rfl) ?_
    refine v_icmp_ge (pc := 9) h 23 (dk dt_X0_doingAt 5 rfl) rfl (by omega) (fun c9 => ?_) (fun c9 => ?_)
    ·
      refine v_iconst (pc := 23) h (dk dt_X0_doingAt 11 rfl) ?_
      exact v_iret (pc := 24) h r (dk dt_X0_doingAt 12 rfl) (Nat.le_of_ble_eq_true rfl) (Nat.le_of_ble_eq_true rfl) (by first | exact ⟨by rw [doF, if_neg (by omega)], rfl⟩ | exact ⟨by rw [doF, if_pos (by omega)], rfl⟩)
    ·
      refine v_aload_n (pc := 12) h (dk dt_X0_doingAt 6 rfl) rfl ?_
      refine v_getr (pc := 13) h ci0 (C_hd hr) (Nat.le_of_ble_eq_true rfl) (j := 1) wF_X0_20 rfl (dk dt_X0_doingAt 7 rfl) ?_
      refine v_iload_n (pc := 16) h (dk dt_X0_doingAt 8 rfl) rfl ?_
      refine v_cVi (pc := 17) h (c_X7_ati h.quiet (C_row hr) (o1 := o + 2) rfl (Nat.le_of_ble_eq_true rfl) (by omega)) kv_X7_at (C_row hr).1 wM_X0_32 rfl rfl (Nat.le_of_ble_eq_true rfl) (RM.of rfl) rfl rfl (dk dt_X0_doingAt 9 rfl) ?_
      refine v_goto (pc := 20) h 24 (dk dt_X0_doingAt 10 rfl) rfl ?_
      exact v_iret (pc := 24) h r (dk dt_X0_doingAt 12 rfl) (Nat.le_of_ble_eq_true rfl) (Nat.le_of_ble_eq_true rfl) (by first | exact ⟨by rw [doF, if_neg (by omega)], rfl⟩ | exact ⟨by rw [doF, if_pos (by omega)], rfl⟩)
theorem c_X0_leftOf (hst : l.stackTraces = false) {o : Nat} (hr : isC o) (hs : okC μ o) {j : Nat} (hj : j < 12) {m : Int} (hm : 0 ≤ m ∧ InR m) :
    Ct l B D E yX0_leftOf (.code yX0_leftOf cX0_leftOf 5 (some .int)) rm_X0_leftOf [.ref (pl B o), iI (j : Int), iI m] μ (ri (μ 5 j - cntJ (μ (o + 2)) j (if m < μ o 0 then m else μ o 0).toNat) μ) NX := by
  have hb := hs.1
  refine ct_of (own := RX0) (lv := [(0, _), (1, _), (2, _)]) hst (by decide) rfl rfl (Nat.le_of_ble_eq_true rfl) fun a h r t => ?_
  have loop : ∀ (d i : Nat), (i : Int) + d = (if m < μ o 0 then m else μ o 0) → VV a B (SP B D E μ) 0 0 15 [(4, iI (i : Int)), (3, iI (μ 5 j - cntJ (μ (o + 2)) j i)), (0, .ref (pl B o)), (1, iI (j : Int)), (2, iI m)] [] := by
    intro d
    induction d with
    | zero =>
      intro i hi
      have hi2 : (if m < μ o 0 then m else μ o 0).toNat = i := by omega
      refine v_iload (pc := 15) h (dk dt_X0_leftOf 8 rfl) rfl ?_
      refine v_aload_n (pc := 17) h (dk dt_X0_leftOf 9 rfl) rfl ?_
      refine v_geti (pc := 18) h ci0 (C_hd hr) (Nat.le_of_ble_eq_true rfl) (j := 0) wF_X0_9 rfl (dk dt_X0_leftOf 10 rfl) ?_
      refine v_icmp_ge (pc := 21) h 52 (dk dt_X0_leftOf 11 rfl) rfl (by omega) (fun c21 => ?_) (fun c21 => ?_)
      ·
        refine v_iload_n (pc := 52) h (dk dt_X0_leftOf 24 rfl) rfl ?_
        exact v_iret (pc := 53) h r (dk dt_X0_leftOf 25 rfl) (Nat.le_of_ble_eq_true rfl) (Nat.le_of_ble_eq_true rfl) ⟨by rw [hi2], rfl⟩
      ·
        refine v_iload (pc := 24) h (dk dt_X0_leftOf 12 rfl) rfl ?_
        refine v_iload_n (pc := 26) h (dk dt_X0_leftOf 13 rfl) rfl ?_
        refine v_icmp_ge (pc := 27) h 52 (dk dt_X0_leftOf 14 rfl) rfl (by omega) (fun c27 => ?_) (fun c27 => ?_)
        ·
          refine v_iload_n (pc := 52) h (dk dt_X0_leftOf 24 rfl) rfl ?_
          exact v_iret (pc := 53) h r (dk dt_X0_leftOf 25 rfl) (Nat.le_of_ble_eq_true rfl) (Nat.le_of_ble_eq_true rfl) ⟨by rw [hi2], rfl⟩
        ·
          exact absurd c27 (by split at hi <;> omega)
    | succ d ih =>
      intro i hi
      have hi3 : (i : Int) < m ∧ (i : Int) < μ o 0 := by split at hi <;> omega
      have hg := hs.2 i hi3.2
      refine v_iload (pc := 15) h (dk dt_X0_leftOf 8 rfl) rfl ?_
      refine v_aload_n (pc := 17) h (dk dt_X0_leftOf 9 rfl) rfl ?_
      refine v_geti (pc := 18) h ci0 (C_hd hr) (Nat.le_of_ble_eq_true rfl) (j := 0) wF_X0_9 rfl (dk dt_X0_leftOf 10 rfl) ?_
      refine v_icmp_ge (pc := 21) h 52 (dk dt_X0_leftOf 11 rfl) rfl (by omega) (fun c21 => ?_) (fun c21 => ?_)
      ·
        exact absurd c21 (by omega)
      ·
        refine v_iload (pc := 24) h (dk dt_X0_leftOf 12 rfl) rfl ?_
        refine v_iload_n (pc := 26) h (dk dt_X0_leftOf 13 rfl) rfl ?_
        refine v_icmp_ge (pc := 27) h 52 (dk dt_X0_leftOf 14 rfl) rfl (by omega) (fun c27 => ?_) (fun c27 => ?_)
        ·
          exact absurd c27 (by omega)
        ·
          refine v_aload_n (pc := 30) h (dk dt_X0_leftOf 15 rfl) rfl ?_
          refine v_getr (pc := 31) h ci0 (C_hd hr) (Nat.le_of_ble_eq_true rfl) (j := 1) wF_X0_20 rfl (dk dt_X0_leftOf 16 rfl) ?_
          refine v_iload (pc := 34) h (dk dt_X0_leftOf 17 rfl) rfl ?_
          refine v_cVi (pc := 36) h (c_X7_atn h.quiet (C_row hr) (o1 := o + 2) rfl (Nat.le_of_ble_eq_true rfl) (by omega)) kv_X7_at (C_row hr).1 wM_X0_32 rfl rfl (Nat.le_of_ble_eq_true rfl) (RM.of rfl) rfl rfl (dk dt_X0_leftOf 18 rfl) ?_
          refine v_iload_n (pc := 39) h (dk dt_X0_leftOf 19 rfl) rfl ?_
          refine v_icmp_ne (pc := 40) h 46 (dk dt_X0_leftOf 20 rfl) rfl (by omega) (fun c40 => ?_) (fun c40 => ?_)
          ·
            refine VV.loc (lv' := [(4, iI (i : Int)), (3, iI (μ 5 j - cntJ (μ (o + 2)) j (i + 1))), (0, .ref (pl B o)), (1, iI (j : Int)), (2, iI m)]) ?_ ⟨rfl, lvI (by rw [cntJ, if_neg c40]; omega), rfl, rfl, rfl, trivial⟩
            refine v_iinc (lv' := [(4, _), (3, _), (0, _), (1, _), (2, _)]) (pc := 46) h (dk dt_X0_leftOf 22 rfl) rfl (Nat.le_of_ble_eq_true rfl) rfl ?_
            refine v_goto (pc := 49) h 15 (dk dt_X0_leftOf 23 rfl) rfl ?_
            exact VV.loc (ih (i + 1) (by omega)) ⟨rfl, rfl, rfl, rfl, rfl, trivial⟩
          ·
            refine v_iinc (lv' := [(3, _), (4, _), (0, _), (1, _), (2, _)]) (pc := 43) h (dk dt_X0_leftOf 21 rfl) rfl (Nat.le_of_ble_eq_true rfl) rfl ?_
            refine VV.loc (lv' := [(4, iI (i : Int)), (3, iI (μ 5 j - cntJ (μ (o + 2)) j (i + 1))), (0, .ref (pl B o)), (1, iI (j : Int)), (2, iI m)]) ?_ ⟨rfl, lvI (by rw [cntJ, if_pos c40]; omega), rfl, rfl, rfl, trivial⟩
            refine v_iinc (lv' := [(4, _), (3, _), (0, _), (1, _), (2, _)]) (pc := 46) h (dk dt_X0_leftOf 22 rfl) rfl (Nat.le_of_ble_eq_true rfl) rfl ?_
            refine v_goto (pc := 49) h 15 (dk dt_X0_leftOf 23 rfl) rfl ?_
            exact VV.loc (ih (i + 1) (by omega)) ⟨rfl, rfl, rfl, rfl, rfl, trivial⟩
  refine v_aload_n (pc := 0) h (dk dt_X0_leftOf 0 rfl) rfl ?_
  refine v_getr (pc := 1) h ci0 (C_hd hr) (Nat.le_of_ble_eq_true rfl) (j := 2) wF_X0_24 rfl (dk dt_X0_leftOf 1 rfl) ?_
  refine v_getr (pc := 4) h ci1 sh1 (Nat.le_of_ble_eq_true rfl) (j := 1) wF_X0_36 rfl (dk dt_X0_leftOf 2 rfl) ?_
  refine v_iload_n (pc := 7) h (dk dt_X0_leftOf 3 rfl) rfl ?_
  refine v_cVi (pc := 8) h (c_X7_atn h.quiet jr1 (o1 := 5) rfl (Nat.le_of_ble_eq_true rfl) (by omega)) kv_X7_at jr1.1 wM_X0_32 rfl rfl (Nat.le_of_ble_eq_true rfl) (RM.of rfl) rfl rfl (dk dt_X0_leftOf 4 rfl) ?_
  refine v_istore_n (lv' := [(3, _), (0, _), (1, _), (2, _)]) (pc := 11) h (dk dt_X0_leftOf 5 rfl) (Nat.le_of_ble_eq_true rfl) rfl ?_
  refine v_iconst (pc := 12) h (dk dt_X0_leftOf 6 rfl) ?_
  refine v_istore (lv' := [(4, _), (3, _), (0, _), (1, _), (2, _)]) (pc := 13) h (dk dt_X0_leftOf 7 rfl) (Nat.le_of_ble_eq_true rfl) rfl ?_
  refine VV.loc (loop (if m < μ o 0 then m else μ o 0).toNat 0 (by split <;> omega)) ⟨rfl, ?_, rfl, rfl, rfl, trivial⟩
  rw [show cntJ (μ (o + 2)) j 0 = 0 from rfl, Int.sub_zero]; rfl
theorem c_X0_firstWork (hst : l.stackTraces = false) {o : Nat} (hr : isC o) (hs : okC μ o) {j : Nat} (hj : j < 12) :
    Ct l B D E yX0_firstWork (.code yX0_firstWork cX0_firstWork 3 (some .int)) rm_X0_firstWork [.ref (pl B o), iI (j : Int)] μ (ri (fstW (μ (o + 2)) j (μ o 0).toNat 0 : Nat) μ) NX := by
  have hb := hs.1
  refine ct_of (own := RX0) (lv := [(0, _), (1, _)]) hst (by decide) rfl rfl (Nat.le_of_ble_eq_true rfl) fun a h r t => ?_
  have loop : ∀ (d i : Nat), (i : Int) + d = μ o 0 → fstW (μ (o + 2)) j (μ o 0).toNat 0 = fstW (μ (o + 2)) j d i → VV a B (SP B D E μ) 0 0 2 [(2, iI (i : Int)), (0, .ref (pl B o)), (1, iI (j : Int))] [] := by
    intro d
    induction d with
    | zero =>
      intro i hi e
      refine v_iload_n (pc := 2) h (dk dt_X0_firstWork 2 rfl) rfl ?_
      refine v_aload_n (pc := 3) h (dk dt_X0_firstWork 3 rfl) rfl ?_
      refine v_geti (pc := 4) h ci0 (C_hd hr) (Nat.le_of_ble_eq_true rfl) (j := 0) wF_X0_9 rfl (dk dt_X0_firstWork 4 rfl) ?_
      refine v_icmp_ge (pc := 7) h 30 (dk dt_X0_firstWork 5 rfl) rfl (by omega) (fun c7 => ?_) (fun c7 => ?_)
      ·
        refine v_aload_n (pc := 30) h (dk dt_X0_firstWork 16 rfl) rfl ?_
        refine v_geti (pc := 31) h ci0 (C_hd hr) (Nat.le_of_ble_eq_true rfl) (j := 0) wF_X0_9 rfl (dk dt_X0_firstWork 17 rfl) ?_
        exact v_iret (pc := 34) h r (dk dt_X0_firstWork 18 rfl) (Nat.le_of_ble_eq_true rfl) (Nat.le_of_ble_eq_true rfl) ⟨by rw [e, fstW, show μ o 0 = (i : Int) by omega], rfl⟩
      ·
        exact absurd c7 (by omega)
    | succ d ih =>
      intro i hi e
      have hg := hs.2 i (by omega)
      refine v_iload_n (pc := 2) h (dk dt_X0_firstWork 2 rfl) rfl ?_
      refine v_aload_n (pc := 3) h (dk dt_X0_firstWork 3 rfl) rfl ?_
      refine v_geti (pc := 4) h ci0 (C_hd hr) (Nat.le_of_ble_eq_true rfl) (j := 0) wF_X0_9 rfl (dk dt_X0_firstWork 4 rfl) ?_
      refine v_icmp_ge (pc := 7) h 30 (dk dt_X0_firstWork 5 rfl) rfl (by omega) (fun c7 => ?_) (fun c7 => ?_)
      ·
        exact absurd c7 (by omega)
      ·
        refine v_aload_n (pc := 10) h (dk dt_X0_firstWork 6 rfl) rfl ?_
        refine v_getr (pc := 11) h ci0 (C_hd hr) (Nat.le_of_ble_eq_true rfl) (j := 1) wF_X0_20 rfl (dk dt_X0_firstWork 7 rfl) ?_
        refine v_iload_n (pc := 14) h (dk dt_X0_firstWork 8 rfl) rfl ?_
        refine v_cVi (pc := 15) h (c_X7_atn h.quiet (C_row hr) (o1 := o + 2) rfl (Nat.le_of_ble_eq_true rfl) (by omega)) kv_X7_at (C_row hr).1 wM_X0_32 rfl rfl (Nat.le_of_ble_eq_true rfl) (RM.of rfl) rfl rfl (dk dt_X0_firstWork 9 rfl) ?_
        refine v_iload_n (pc := 18) h (dk dt_X0_firstWork 10 rfl) rfl ?_
        refine v_icmp_ne (pc := 19) h 24 (dk dt_X0_firstWork 11 rfl) rfl (by omega) (fun c19 => ?_) (fun c19 => ?_)
        ·
          refine v_iinc (lv' := [(2, _), (0, _), (1, _)]) (pc := 24) h (dk dt_X0_firstWork 14 rfl) rfl (Nat.le_of_ble_eq_true rfl) rfl ?_
          refine v_goto (pc := 27) h 2 (dk dt_X0_firstWork 15 rfl) rfl ?_
          exact VV.loc (ih (i + 1) (by omega) (by rw [e, fstW, if_neg c19])) ⟨rfl, rfl, rfl, trivial⟩
        ·
          refine v_iload_n (pc := 22) h (dk dt_X0_firstWork 12 rfl) rfl ?_
          exact v_iret (pc := 23) h r (dk dt_X0_firstWork 13 rfl) (Nat.le_of_ble_eq_true rfl) (Nat.le_of_ble_eq_true rfl) ⟨by rw [e, fstW, if_pos c19], rfl⟩
  refine v_iconst (pc := 0) h (dk dt_X0_firstWork 0 rfl) ?_
  refine v_istore_n (lv' := [(2, _), (0, _), (1, _)]) (pc := 1) h (dk dt_X0_firstWork 1 rfl) (Nat.le_of_ble_eq_true rfl) rfl ?_
  exact VV.loc (loop (μ o 0).toNat 0 (by omega) rfl) ⟨rfl, rfl, rfl, trivial⟩
theorem c_X0_longestGap (hst : l.stackTraces = false) {o : Nat} (hr : isC o) (hs : okC μ o) {j : Nat} (hj : j < 12) {f : Nat} (hf : f ≤ 4000) :
    Ct l B D E yX0_longestGap (.code yX0_longestGap cX0_longestGap 6 (some .int)) rm_X0_longestGap [.ref (pl B o), iI (j : Int), iI (f : Int)] μ (ri (gapJ (μ (o + 2)) j ((μ o 0).toNat - f) f f 0) μ) NX := by
  have hb := hs.1
  refine ct_of (own := RX0) (lv := [(0, _), (1, _), (2, _)]) hst (by decide) rfl rfl (Nat.le_of_ble_eq_true rfl) fun a h r t => ?_
  have loop : ∀ (d i : Nat) (s m : Int), (i + d = (μ o 0).toNat ∨ (d = 0 ∧ μ o 0 ≤ i)) → i ≤ 4000 → (0 ≤ s ∧ s ≤ 5000 ∧ 0 ≤ m ∧ m ≤ 5000) → gapJ (μ (o + 2)) j ((μ o 0).toNat - f) f f 0 = gapJ (μ (o + 2)) j d i s m → VV a B (SP B D E μ) 0 0 8 [(5, iI (i : Int)), (4, iI s), (3, iI m), (0, .ref (pl B o)), (1, iI (j : Int)), (2, iI (f : Int))] [] := by
    intro d
    induction d with
    | zero =>
      intro i s m hi h4 hsm e
      refine v_iload (pc := 8) h (dk dt_X0_longestGap 6 rfl) rfl ?_
      refine v_aload_n (pc := 10) h (dk dt_X0_longestGap 7 rfl) rfl ?_
      refine v_geti (pc := 11) h ci0 (C_hd hr) (Nat.le_of_ble_eq_true rfl) (j := 0) wF_X0_9 rfl (dk dt_X0_longestGap 8 rfl) ?_
      refine v_icmp_ge (pc := 14) h 52 (dk dt_X0_longestGap 9 rfl) rfl (by omega) (fun c14 => ?_) (fun c14 => ?_)
      ·
        refine v_iload_n (pc := 52) h (dk dt_X0_longestGap 28 rfl) rfl ?_
        exact v_iret (pc := 53) h r (dk dt_X0_longestGap 29 rfl) (Nat.le_of_ble_eq_true rfl) (Nat.le_of_ble_eq_true rfl) ⟨by rw [e, gapJ], rfl⟩
      ·
        exact absurd c14 (by omega)
    | succ d ih =>
      intro i s m hi h4 hsm e
      have hg := hs.2 i (by omega)
      refine v_iload (pc := 8) h (dk dt_X0_longestGap 6 rfl) rfl ?_
      refine v_aload_n (pc := 10) h (dk dt_X0_longestGap 7 rfl) rfl ?_
      refine v_geti (pc := 11) h ci0 (C_hd hr) (Nat.le_of_ble_eq_true rfl) (j := 0) wF_X0_9 rfl (dk dt_X0_longestGap 8 rfl) ?_
      refine v_icmp_ge (pc := 14) h 52 (dk dt_X0_longestGap 9 rfl) rfl (by omega) (fun c14 => ?_) (fun c14 => ?_)
      ·
        exact absurd c14 (by omega)
      ·
        refine v_aload_n (pc := 17) h (dk dt_X0_longestGap 10 rfl) rfl ?_
        refine v_getr (pc := 18) h ci0 (C_hd hr) (Nat.le_of_ble_eq_true rfl) (j := 1) wF_X0_20 rfl (dk dt_X0_longestGap 11 rfl) ?_
        refine v_iload (pc := 21) h (dk dt_X0_longestGap 12 rfl) rfl ?_
        refine v_cVi (pc := 23) h (c_X7_atn h.quiet (C_row hr) (o1 := o + 2) rfl (Nat.le_of_ble_eq_true rfl) (by omega)) kv_X7_at (C_row hr).1 wM_X0_32 rfl rfl (Nat.le_of_ble_eq_true rfl) (RM.of rfl) rfl rfl (dk dt_X0_longestGap 13 rfl) ?_
        refine v_iload_n (pc := 26) h (dk dt_X0_longestGap 14 rfl) rfl ?_
        refine v_icmp_ne (pc := 27) h 46 (dk dt_X0_longestGap 15 rfl) rfl (by omega) (fun c27 => ?_) (fun c27 => ?_)
        ·
          refine v_iinc (lv' := [(5, _), (4, _), (3, _), (0, _), (1, _), (2, _)]) (pc := 46) h (dk dt_X0_longestGap 26 rfl) rfl (Nat.le_of_ble_eq_true rfl) rfl ?_
          refine v_goto (pc := 49) h 8 (dk dt_X0_longestGap 27 rfl) rfl ?_
          first
            | exact VV.loc (ih (i + 1) s m (by omega) (by omega) hsm (by have e2 := e; rw [gapJ, if_neg c27] at e2; exact e2)) ⟨rfl, rfl, rfl, rfl, rfl, rfl, trivial⟩
            | exact VV.loc (ih (i + 1) _ _ (by omega) (by omega) (by split <;> omega) (by have e2 := e; rw [gapJ, if_pos c27] at e2; exact e2)) ⟨rfl, rfl, rfl, rfl, rfl, rfl, trivial⟩
        ·
          refine v_iload_n (pc := 30) h (dk dt_X0_longestGap 16 rfl) rfl ?_
          refine v_iload (pc := 31) h (dk dt_X0_longestGap 17 rfl) rfl ?_
          refine v_iload (pc := 33) h (dk dt_X0_longestGap 18 rfl) rfl ?_
          refine v_isub (pc := 35) h (dk dt_X0_longestGap 19 rfl) ?_
          refine v_max (pc := 36) h km_max wM_X0_41 (by omega) (Nat.le_of_ble_eq_true rfl) ⟨Nat.le_of_ble_eq_true rfl, Nat.le_of_ble_eq_true rfl, Nat.le_of_ble_eq_true rfl, Nat.le_of_ble_eq_true rfl⟩ (dk dt_X0_longestGap 20 rfl) ?_
          refine v_istore_n (lv' := [(3, _), (5, _), (4, _), (0, _), (1, _), (2, _)]) (pc := 39) h (dk dt_X0_longestGap 21 rfl) (Nat.le_of_ble_eq_true rfl) rfl ?_
          refine v_iload (pc := 40) h (dk dt_X0_longestGap 22 rfl) rfl ?_
          refine v_iconst (pc := 42) h (dk dt_X0_longestGap 23 rfl) ?_
          refine v_iadd (pc := 43) h (dk dt_X0_longestGap 24 rfl) ?_
          refine v_istore (lv' := [(4, _), (3, _), (5, _), (0, _), (1, _), (2, _)]) (pc := 44) h (dk dt_X0_longestGap 25 rfl) (Nat.le_of_ble_eq_true rfl) rfl ?_
          refine v_iinc (lv' := [(5, _), (4, _), (3, _), (0, _), (1, _), (2, _)]) (pc := 46) h (dk dt_X0_longestGap 26 rfl) rfl (Nat.le_of_ble_eq_true rfl) rfl ?_
          refine v_goto (pc := 49) h 8 (dk dt_X0_longestGap 27 rfl) rfl ?_
          first
            | exact VV.loc (ih (i + 1) s m (by omega) (by omega) hsm (by have e2 := e; rw [gapJ, if_neg c27] at e2; exact e2)) ⟨rfl, rfl, rfl, rfl, rfl, rfl, trivial⟩
            | exact VV.loc (ih (i + 1) _ _ (by omega) (by omega) (by split <;> omega) (by have e2 := e; rw [gapJ, if_pos c27] at e2; exact e2)) ⟨rfl, rfl, rfl, rfl, rfl, rfl, trivial⟩
  refine v_iconst (pc := 0) h (dk dt_X0_longestGap 0 rfl) ?_
  refine v_istore_n (lv' := [(3, _), (0, _), (1, _), (2, _)]) (pc := 1) h (dk dt_X0_longestGap 1 rfl) (Nat.le_of_ble_eq_true rfl) rfl ?_
  refine v_iload_n (pc := 2) h (dk dt_X0_longestGap 2 rfl) rfl ?_
  refine v_istore (lv' := [(4, _), (3, _), (0, _), (1, _), (2, _)]) (pc := 3) h (dk dt_X0_longestGap 3 rfl) (Nat.le_of_ble_eq_true rfl) rfl ?_
  refine v_iload_n (pc := 5) h (dk dt_X0_longestGap 4 rfl) rfl ?_
  refine v_istore (lv' := [(5, _), (4, _), (3, _), (0, _), (1, _), (2, _)]) (pc := 6) h (dk dt_X0_longestGap 5 rfl) (Nat.le_of_ble_eq_true rfl) rfl ?_
  exact VV.loc (loop ((μ o 0).toNat - f) f f 0 (by omega) (by omega) (by omega) rfl) ⟨rfl, rfl, rfl, rfl, rfl, rfl, trivial⟩
theorem c_X0_countWork (hst : l.stackTraces = false) {o : Nat} (hr : isC o) (hs : okC μ o) :
    Ct l B D E yX0_countWork (.code yX0_countWork cX0_countWork 3 (some .int)) rm_X0_countWork [.ref (pl B o)] μ (ri (cntW (μ (o + 2)) (μ o 0).toNat) μ) NX := by
  have hb := hs.1
  refine ct_of (own := RX0) (lv := [(0, _)]) hst (by decide) rfl rfl (Nat.le_of_ble_eq_true rfl) fun a h r t => ?_
  have loop : ∀ (d i : Nat), i + d = (μ o 0).toNat → VV a B (SP B D E μ) 0 0 4 [(2, iI (i : Int)), (1, iI (cntW (μ (o + 2)) i)), (0, .ref (pl B o))] [] := by
    intro d
    induction d with
    | zero =>
      intro i hi
      refine v_iload_n (pc := 4) h (dk dt_X0_countWork 4 rfl) rfl ?_
      refine v_aload_n (pc := 5) h (dk dt_X0_countWork 5 rfl) rfl ?_
      refine v_geti (pc := 6) h ci0 (C_hd hr) (Nat.le_of_ble_eq_true rfl) (j := 0) wF_X0_9 rfl (dk dt_X0_countWork 6 rfl) ?_
      refine v_icmp_ge (pc := 9) h 32 (dk dt_X0_countWork 7 rfl) rfl (by omega) (fun c9 => ?_) (fun c9 => ?_)
      ·
        refine v_iload_n (pc := 32) h (dk dt_X0_countWork 16 rfl) rfl ?_
        exact v_iret (pc := 33) h r (dk dt_X0_countWork 17 rfl) (Nat.le_of_ble_eq_true rfl) (Nat.le_of_ble_eq_true rfl) ⟨by rw [show (μ o 0).toNat = i by omega], rfl⟩
      ·
        exact absurd c9 (by omega)
    | succ d ih =>
      intro i hi
      have hg := hs.2 i (by omega)
      refine v_iload_n (pc := 4) h (dk dt_X0_countWork 4 rfl) rfl ?_
      refine v_aload_n (pc := 5) h (dk dt_X0_countWork 5 rfl) rfl ?_
      refine v_geti (pc := 6) h ci0 (C_hd hr) (Nat.le_of_ble_eq_true rfl) (j := 0) wF_X0_9 rfl (dk dt_X0_countWork 6 rfl) ?_
      refine v_icmp_ge (pc := 9) h 32 (dk dt_X0_countWork 7 rfl) rfl (by omega) (fun c9 => ?_) (fun c9 => ?_)
      ·
        exact absurd c9 (by omega)
      ·
        refine v_aload_n (pc := 12) h (dk dt_X0_countWork 8 rfl) rfl ?_
        refine v_getr (pc := 13) h ci0 (C_hd hr) (Nat.le_of_ble_eq_true rfl) (j := 1) wF_X0_20 rfl (dk dt_X0_countWork 9 rfl) ?_
        refine v_iload_n (pc := 16) h (dk dt_X0_countWork 10 rfl) rfl ?_
        refine v_cVi (pc := 17) h (c_X7_atn h.quiet (C_row hr) (o1 := o + 2) rfl (Nat.le_of_ble_eq_true rfl) (by omega)) kv_X7_at (C_row hr).1 wM_X0_32 rfl rfl (Nat.le_of_ble_eq_true rfl) (RM.of rfl) rfl rfl (dk dt_X0_countWork 11 rfl) ?_
        refine v_if_lt (pc := 20) h 26 (dk dt_X0_countWork 12 rfl) rfl (by omega) (fun c20 => ?_) (fun c20 => ?_)
        ·
          refine v_iinc (lv' := [(2, _), (1, _), (0, _)]) (pc := 26) h (dk dt_X0_countWork 14 rfl) rfl (Nat.le_of_ble_eq_true rfl) rfl ?_
          refine v_goto (pc := 29) h 4 (dk dt_X0_countWork 15 rfl) rfl ?_
          refine VV.loc (ih (i + 1) (by omega)) ⟨rfl, ?_, rfl, trivial⟩
          simp only [cntW]
          first | rw [if_pos (by omega)]; rfl | rw [if_neg (by omega), Int.add_zero]; rfl
        ·
          refine v_iinc (lv' := [(1, _), (2, _), (0, _)]) (pc := 23) h (dk dt_X0_countWork 13 rfl) rfl (Nat.le_of_ble_eq_true rfl) rfl ?_
          refine v_iinc (lv' := [(2, _), (1, _), (0, _)]) (pc := 26) h (dk dt_X0_countWork 14 rfl) rfl (Nat.le_of_ble_eq_true rfl) rfl ?_
          refine v_goto (pc := 29) h 4 (dk dt_X0_countWork 15 rfl) rfl ?_
          refine VV.loc (ih (i + 1) (by omega)) ⟨rfl, ?_, rfl, trivial⟩
          simp only [cntW]
          first | rw [if_pos (by omega)]; rfl | rw [if_neg (by omega), Int.add_zero]; rfl
  refine v_iconst (pc := 0) h (dk dt_X0_countWork 0 rfl) ?_
  refine v_istore_n (lv' := [(1, _), (0, _)]) (pc := 1) h (dk dt_X0_countWork 1 rfl) (Nat.le_of_ble_eq_true rfl) rfl ?_
  refine v_iconst (pc := 2) h (dk dt_X0_countWork 2 rfl) ?_
  refine v_istore_n (lv' := [(2, _), (1, _), (0, _)]) (pc := 3) h (dk dt_X0_countWork 3 rfl) (Nat.le_of_ble_eq_true rfl) rfl ?_
  exact VV.loc (loop (μ o 0).toNat 0 (by omega)) ⟨rfl, rfl, rfl, trivial⟩
theorem c_X0_beginsBusy (hst : l.stackTraces = false) {o : Nat} (hr : isC o) (hs : okC μ o) {i : Nat} (hi : (i : Int) < μ o 0) :
    Ct l B D E yX0_beginsBusy (.code yX0_beginsBusy cX0_beginsBusy 2 (some .boolean)) rm_X0_beginsBusy [.ref (pl B o), iI (i : Int)] μ (ri (if bgn (μ (o + 2)) i then 1 else 0) μ) NX := by
  have hb := hs.1
  have hg := hs.2 i hi
  refine ct_of (own := RX0) (lv := [(0, _), (1, _)]) hst (by decide) rfl rfl (Nat.le_of_ble_eq_true rfl) fun a h r t => ?_
  refine v_aload_n (pc := 0) h (dk dt_X0_beginsBusy 0 rfl) rfl ?_
  refine v_getr (pc := 1) h ci0 (C_hd hr) (Nat.le_of_ble_eq_true rfl) (j := 1) wF_X0_20 rfl (dk dt_X0_beginsBusy 1 rfl) ?_
  refine v_iload_n (pc := 4) h (dk dt_X0_beginsBusy 2 rfl) rfl ?_
  refine v_cVi (pc := 5) h (c_X7_atn h.quiet (C_row hr) (o1 := o + 2) rfl (Nat.le_of_ble_eq_true rfl) (by omega)) kv_X7_at (C_row hr).1 wM_X0_32 rfl rfl (Nat.le_of_ble_eq_true rfl) (RM.of rfl) rfl rfl (dk dt_X0_beginsBusy 3 rfl) ?_
  refine v_iconst (pc := 8) h (dk dt_X0_beginsBusy 4 rfl) ?_
  refine v_icmp_eq (pc := 9) h 34 (dk dt_X0_beginsBusy 5 rfl) rfl (by omega) (fun c9 => ?_) (fun c9 => ?_)
  ·
    have dB : ¬ bgn (μ (o + 2)) i := fun z => z.1 c9
    refine v_iconst (pc := 34) h (dk dt_X0_beginsBusy 18 rfl) ?_
    exact v_zret (pc := 35) h r (dk dt_X0_beginsBusy 19 rfl) (Nat.le_of_ble_eq_true rfl) (Nat.le_of_ble_eq_true rfl) (by omega) ⟨by first | rw [if_pos dB] | rw [if_neg dB], rfl⟩
  ·
    refine v_iload_n (pc := 12) h (dk dt_X0_beginsBusy 6 rfl) rfl ?_
    refine v_if_eq (pc := 13) h 30 (dk dt_X0_beginsBusy 7 rfl) rfl (by omega) (fun c13 => ?_) (fun c13 => ?_)
    ·
      have dB : bgn (μ (o + 2)) i := ⟨c9, Or.inl (by omega)⟩
      refine v_iconst (pc := 30) h (dk dt_X0_beginsBusy 16 rfl) ?_
      refine v_goto (pc := 31) h 35 (dk dt_X0_beginsBusy 17 rfl) rfl ?_
      exact v_zret (pc := 35) h r (dk dt_X0_beginsBusy 19 rfl) (Nat.le_of_ble_eq_true rfl) (Nat.le_of_ble_eq_true rfl) (by omega) ⟨by first | rw [if_pos dB] | rw [if_neg dB], rfl⟩
    ·
      have hg1 := hs.2 (i - 1) (by omega)
      refine v_aload_n (pc := 16) h (dk dt_X0_beginsBusy 8 rfl) rfl ?_
      refine v_getr (pc := 17) h ci0 (C_hd hr) (Nat.le_of_ble_eq_true rfl) (j := 1) wF_X0_20 rfl (dk dt_X0_beginsBusy 9 rfl) ?_
      refine v_iload_n (pc := 20) h (dk dt_X0_beginsBusy 10 rfl) rfl ?_
      refine v_iconst (pc := 21) h (dk dt_X0_beginsBusy 11 rfl) ?_
      refine v_isub (pc := 22) h (dk dt_X0_beginsBusy 12 rfl) ?_
      refine v_cVi (pc := 23) h (c_X7_ati h.quiet (C_row hr) (o1 := o + 2) rfl (Nat.le_of_ble_eq_true rfl) (by omega)) kv_X7_at (C_row hr).1 wM_X0_32 rfl rfl (Nat.le_of_ble_eq_true rfl) (RM.of rfl) rfl rfl (dk dt_X0_beginsBusy 13 rfl) ?_
      rw [show ((i : Int) - 1).toNat = i - 1 by omega]
      refine v_iconst (pc := 26) h (dk dt_X0_beginsBusy 14 rfl) ?_
      refine v_icmp_ne (pc := 27) h 34 (dk dt_X0_beginsBusy 15 rfl) rfl (by omega) (fun c27 => ?_) (fun c27 => ?_)
      ·
        have dB : ¬ bgn (μ (o + 2)) i := fun z => by rcases z.2 with q | q; omega; exact c27 q
        refine v_iconst (pc := 34) h (dk dt_X0_beginsBusy 18 rfl) ?_
        exact v_zret (pc := 35) h r (dk dt_X0_beginsBusy 19 rfl) (Nat.le_of_ble_eq_true rfl) (Nat.le_of_ble_eq_true rfl) (by omega) ⟨by first | rw [if_pos dB] | rw [if_neg dB], rfl⟩
      ·
        have dB : bgn (μ (o + 2)) i := ⟨c9, Or.inr c27⟩
        refine v_iconst (pc := 30) h (dk dt_X0_beginsBusy 16 rfl) ?_
        refine v_goto (pc := 31) h 35 (dk dt_X0_beginsBusy 17 rfl) rfl ?_
        exact v_zret (pc := 35) h r (dk dt_X0_beginsBusy 19 rfl) (Nat.le_of_ble_eq_true rfl) (Nat.le_of_ble_eq_true rfl) (by omega) ⟨by first | rw [if_pos dB] | rw [if_neg dB], rfl⟩
theorem c_X0_countBusy (hst : l.stackTraces = false) {o : Nat} (hr : isC o) (hs : okC μ o) :
    Ct l B D E yX0_countBusy (.code yX0_countBusy cX0_countBusy 3 (some .int)) rm_X0_countBusy [.ref (pl B o)] μ (ri (cntB (μ (o + 2)) (μ o 0).toNat) μ) NX := by
  have hb := hs.1
  refine ct_of (own := RX0) (lv := [(0, _)]) hst (by decide) rfl rfl (Nat.le_of_ble_eq_true rfl) fun a h r t => ?_
  have loop : ∀ (d i : Nat), i + d = (μ o 0).toNat → VV a B (SP B D E μ) 0 0 4 [(2, iI (i : Int)), (1, iI (cntB (μ (o + 2)) i)), (0, .ref (pl B o))] [] := by
    intro d
    induction d with
    | zero =>
      intro i hi
      refine v_iload_n (pc := 4) h (dk dt_X0_countBusy 4 rfl) rfl ?_
      refine v_aload_n (pc := 5) h (dk dt_X0_countBusy 5 rfl) rfl ?_
      refine v_geti (pc := 6) h ci0 (C_hd hr) (Nat.le_of_ble_eq_true rfl) (j := 0) wF_X0_9 rfl (dk dt_X0_countBusy 6 rfl) ?_
      refine v_icmp_ge (pc := 9) h 29 (dk dt_X0_countBusy 7 rfl) rfl (by omega) (fun c9 => ?_) (fun c9 => ?_)
      ·
        refine v_iload_n (pc := 29) h (dk dt_X0_countBusy 15 rfl) rfl ?_
        exact v_iret (pc := 30) h r (dk dt_X0_countBusy 16 rfl) (Nat.le_of_ble_eq_true rfl) (Nat.le_of_ble_eq_true rfl) ⟨by rw [show (μ o 0).toNat = i by omega], rfl⟩
      ·
        exact absurd c9 (by omega)
    | succ d ih =>
      intro i hi
      refine v_iload_n (pc := 4) h (dk dt_X0_countBusy 4 rfl) rfl ?_
      refine v_aload_n (pc := 5) h (dk dt_X0_countBusy 5 rfl) rfl ?_
      refine v_geti (pc := 6) h ci0 (C_hd hr) (Nat.le_of_ble_eq_true rfl) (j := 0) wF_X0_9 rfl (dk dt_X0_countBusy 6 rfl) ?_
      refine v_icmp_ge (pc := 9) h 29 (dk dt_X0_countBusy 7 rfl) rfl (by omega) (fun c9 => ?_) (fun c9 => ?_)
      ·
        exact absurd c9 (by omega)
      ·
        refine v_aload_n (pc := 12) h (dk dt_X0_countBusy 8 rfl) rfl ?_
        refine v_iload_n (pc := 13) h (dk dt_X0_countBusy 9 rfl) rfl ?_
        refine v_cVi (pc := 14) h (c_X0_beginsBusy h.quiet hr (by assumption) (by omega)) kv_X0_beginsBusy (C_hd hr) wM_X0_47 rfl rfl (Nat.le_of_ble_eq_true rfl) (RM.of rfl) rfl rfl (dk dt_X0_countBusy 10 rfl) ?_
        refine v_if_eq (pc := 17) h 23 (dk dt_X0_countBusy 11 rfl) rfl (by split <;> omega) (fun c17 => ?_) (fun c17 => ?_)
        ·
          have d17 : ¬ bgn (μ (o + 2)) i := by intro q; rw [if_pos q] at c17; omega
          refine v_iinc (lv' := [(2, _), (1, _), (0, _)]) (pc := 23) h (dk dt_X0_countBusy 13 rfl) rfl (Nat.le_of_ble_eq_true rfl) rfl ?_
          refine v_goto (pc := 26) h 4 (dk dt_X0_countBusy 14 rfl) rfl ?_
          refine VV.loc (ih (i + 1) (by omega)) ⟨rfl, ?_, rfl, trivial⟩
          simp only [cntB]
          first | rw [if_pos d17]; rfl | rw [if_neg d17, Int.add_zero]; rfl
        ·
          have d17 : bgn (μ (o + 2)) i := by by_cases q : bgn (μ (o + 2)) i; exact q; rw [if_neg q] at c17; omega
          refine v_iinc (lv' := [(1, _), (2, _), (0, _)]) (pc := 20) h (dk dt_X0_countBusy 12 rfl) rfl (Nat.le_of_ble_eq_true rfl) rfl ?_
          refine v_iinc (lv' := [(2, _), (1, _), (0, _)]) (pc := 23) h (dk dt_X0_countBusy 13 rfl) rfl (Nat.le_of_ble_eq_true rfl) rfl ?_
          refine v_goto (pc := 26) h 4 (dk dt_X0_countBusy 14 rfl) rfl ?_
          refine VV.loc (ih (i + 1) (by omega)) ⟨rfl, ?_, rfl, trivial⟩
          simp only [cntB]
          first | rw [if_pos d17]; rfl | rw [if_neg d17, Int.add_zero]; rfl
  refine v_iconst (pc := 0) h (dk dt_X0_countBusy 0 rfl) ?_
  refine v_istore_n (lv' := [(1, _), (0, _)]) (pc := 1) h (dk dt_X0_countBusy 1 rfl) (Nat.le_of_ble_eq_true rfl) rfl ?_
  refine v_iconst (pc := 2) h (dk dt_X0_countBusy 2 rfl) ?_
  refine v_istore_n (lv' := [(2, _), (1, _), (0, _)]) (pc := 3) h (dk dt_X0_countBusy 3 rfl) (Nat.le_of_ble_eq_true rfl) rfl ?_
  exact VV.loc (loop (μ o 0).toNat 0 (by omega)) ⟨rfl, rfl, rfl, trivial⟩
theorem c_X0_busyBegin (hst : l.stackTraces = false) {o : Nat} (hr : isC o) (hs : okC μ o) {x : Int} (hx : InR x) :
    Ct l B D E yX0_busyBegin (.code yX0_busyBegin cX0_busyBegin 4 (some .int)) rm_X0_busyBegin [.ref (pl B o), iI x] μ (ri (bBeg (μ (o + 2)) x (μ o 0).toNat 0 0) μ) NX := by
  have hb := hs.1
  refine ct_of (own := RX0) (lv := [(0, _), (1, _)]) hst (by decide) rfl rfl (Nat.le_of_ble_eq_true rfl) fun a h r t => ?_
  have loop : ∀ (d i : Nat) (e : Int), i + d = (μ o 0).toNat → (0 ≤ e ∧ e ≤ i) → bBeg (μ (o + 2)) x (μ o 0).toNat 0 0 = bBeg (μ (o + 2)) x d i e → VV a B (SP B D E μ) 0 0 4 [(3, iI (i : Int)), (2, iI e), (0, .ref (pl B o)), (1, iI x)] [] := by
    intro d
    induction d with
    | zero =>
      intro i e hi he q
      refine v_iload_n (pc := 4) h (dk dt_X0_busyBegin 4 rfl) rfl ?_
      refine v_aload_n (pc := 5) h (dk dt_X0_busyBegin 5 rfl) rfl ?_
      refine v_geti (pc := 6) h ci0 (C_hd hr) (Nat.le_of_ble_eq_true rfl) (j := 0) wF_X0_9 rfl (dk dt_X0_busyBegin 6 rfl) ?_
      refine v_icmp_ge (pc := 9) h 41 (dk dt_X0_busyBegin 7 rfl) rfl (by omega) (fun c9 => ?_) (fun c9 => ?_)
      ·
        refine v_iconst (pc := 41) h (dk dt_X0_busyBegin 23 rfl) ?_
        exact v_iret (pc := 42) h r (dk dt_X0_busyBegin 24 rfl) (Nat.le_of_ble_eq_true rfl) (Nat.le_of_ble_eq_true rfl) ⟨by rw [q, bBeg], rfl⟩
      ·
        exact absurd c9 (by omega)
    | succ d ih =>
      intro i e hi he q
      refine v_iload_n (pc := 4) h (dk dt_X0_busyBegin 4 rfl) rfl ?_
      refine v_aload_n (pc := 5) h (dk dt_X0_busyBegin 5 rfl) rfl ?_
      refine v_geti (pc := 6) h ci0 (C_hd hr) (Nat.le_of_ble_eq_true rfl) (j := 0) wF_X0_9 rfl (dk dt_X0_busyBegin 6 rfl) ?_
      refine v_icmp_ge (pc := 9) h 41 (dk dt_X0_busyBegin 7 rfl) rfl (by omega) (fun c9 => ?_) (fun c9 => ?_)
      ·
        exact absurd c9 (by omega)
      ·
        refine v_iload_n (pc := 12) h (dk dt_X0_busyBegin 8 rfl) rfl ?_
        refine v_iload_n (pc := 13) h (dk dt_X0_busyBegin 9 rfl) rfl ?_
        refine v_icmp_gt (pc := 14) h 41 (dk dt_X0_busyBegin 10 rfl) rfl (by omega) (fun c14 => ?_) (fun c14 => ?_)
        ·
          refine v_iconst (pc := 41) h (dk dt_X0_busyBegin 23 rfl) ?_
          exact v_iret (pc := 42) h r (dk dt_X0_busyBegin 24 rfl) (Nat.le_of_ble_eq_true rfl) (Nat.le_of_ble_eq_true rfl) ⟨by rw [q, bBeg, if_pos c14], rfl⟩
        ·
          refine v_aload_n (pc := 17) h (dk dt_X0_busyBegin 11 rfl) rfl ?_
          refine v_iload_n (pc := 18) h (dk dt_X0_busyBegin 12 rfl) rfl ?_
          refine v_cVi (pc := 19) h (c_X0_beginsBusy h.quiet hr (by assumption) (by omega)) kv_X0_beginsBusy (C_hd hr) wM_X0_47 rfl rfl (Nat.le_of_ble_eq_true rfl) (RM.of rfl) rfl rfl (dk dt_X0_busyBegin 13 rfl) ?_
          refine v_if_eq (pc := 22) h 35 (dk dt_X0_busyBegin 14 rfl) rfl (by split <;> omega) (fun c22 => ?_) (fun c22 => ?_)
          ·
            have d22 : ¬ bgn (μ (o + 2)) i := by intro q; rw [if_pos q] at c22; omega
            rw [bBeg, if_neg (by omega), if_neg d22] at q
            refine v_iinc (lv' := [(3, _), (2, _), (0, _), (1, _)]) (pc := 35) h (dk dt_X0_busyBegin 21 rfl) rfl (Nat.le_of_ble_eq_true rfl) rfl ?_
            refine v_goto (pc := 38) h 4 (dk dt_X0_busyBegin 22 rfl) rfl ?_
            exact VV.loc (ih (i + 1) _ (by omega) (by omega) q) ⟨rfl, rfl, rfl, rfl, trivial⟩
          ·
            have d22 : bgn (μ (o + 2)) i := by by_cases q : bgn (μ (o + 2)) i; exact q; rw [if_neg q] at c22; omega
            rw [bBeg, if_neg (by omega), if_pos d22] at q
            refine v_iload_n (pc := 25) h (dk dt_X0_busyBegin 15 rfl) rfl ?_
            refine v_iload_n (pc := 26) h (dk dt_X0_busyBegin 16 rfl) rfl ?_
            refine v_icmp_ne (pc := 27) h 32 (dk dt_X0_busyBegin 17 rfl) rfl (by omega) (fun c27 => ?_) (fun c27 => ?_)
            ·
              rw [if_neg c27] at q
              refine v_iinc (lv' := [(2, _), (3, _), (0, _), (1, _)]) (pc := 32) h (dk dt_X0_busyBegin 20 rfl) rfl (Nat.le_of_ble_eq_true rfl) rfl ?_
              refine v_iinc (lv' := [(3, _), (2, _), (0, _), (1, _)]) (pc := 35) h (dk dt_X0_busyBegin 21 rfl) rfl (Nat.le_of_ble_eq_true rfl) rfl ?_
              refine v_goto (pc := 38) h 4 (dk dt_X0_busyBegin 22 rfl) rfl ?_
              exact VV.loc (ih (i + 1) _ (by omega) (by omega) q) ⟨rfl, rfl, rfl, rfl, trivial⟩
            ·
              refine v_iload_n (pc := 30) h (dk dt_X0_busyBegin 18 rfl) rfl ?_
              exact v_iret (pc := 31) h r (dk dt_X0_busyBegin 19 rfl) (Nat.le_of_ble_eq_true rfl) (Nat.le_of_ble_eq_true rfl) ⟨by rw [q, if_pos c27], rfl⟩
  refine v_iconst (pc := 0) h (dk dt_X0_busyBegin 0 rfl) ?_
  refine v_istore_n (lv' := [(2, _), (0, _), (1, _)]) (pc := 1) h (dk dt_X0_busyBegin 1 rfl) (Nat.le_of_ble_eq_true rfl) rfl ?_
  refine v_iconst (pc := 2) h (dk dt_X0_busyBegin 2 rfl) ?_
  refine v_istore_n (lv' := [(3, _), (2, _), (0, _), (1, _)]) (pc := 3) h (dk dt_X0_busyBegin 3 rfl) (Nat.le_of_ble_eq_true rfl) rfl ?_
  exact VV.loc (loop (μ o 0).toNat 0 0 (by omega) (by omega) rfl) ⟨rfl, rfl, rfl, rfl, trivial⟩
theorem c_X0_busyEnd (hst : l.stackTraces = false) {o : Nat} (hr : isC o) (hs : okC μ o) {f : Nat} (hf : (f : Int) ≤ μ o 0) :
    Ct l B D E yX0_busyEnd (.code yX0_busyEnd cX0_busyEnd 3 (some .int)) rm_X0_busyEnd [.ref (pl B o), iI (f : Int)] μ (ri (bEnd (μ (o + 2)) ((μ o 0).toNat - f) f : Nat) μ) NX := by
  have hb := hs.1
  refine ct_of (own := RX0) (lv := [(0, _), (1, _)]) hst (by decide) rfl rfl (Nat.le_of_ble_eq_true rfl) fun a h r t => ?_
  have loop : ∀ (d i : Nat), i + d = (μ o 0).toNat → bEnd (μ (o + 2)) ((μ o 0).toNat - f) f = bEnd (μ (o + 2)) d i → VV a B (SP B D E μ) 0 0 2 [(2, iI (i : Int)), (0, .ref (pl B o)), (1, iI (f : Int))] [] := by
    intro d
    induction d with
    | zero =>
      intro i hi e
      refine v_iload_n (pc := 2) h (dk dt_X0_busyEnd 2 rfl) rfl ?_
      refine v_aload_n (pc := 3) h (dk dt_X0_busyEnd 3 rfl) rfl ?_
      refine v_geti (pc := 4) h ci0 (C_hd hr) (Nat.le_of_ble_eq_true rfl) (j := 0) wF_X0_9 rfl (dk dt_X0_busyEnd 4 rfl) ?_
      refine v_icmp_ge (pc := 7) h 28 (dk dt_X0_busyEnd 5 rfl) rfl (by omega) (fun c7 => ?_) (fun c7 => ?_)
      ·
        refine v_iload_n (pc := 28) h (dk dt_X0_busyEnd 14 rfl) rfl ?_
        exact v_iret (pc := 29) h r (dk dt_X0_busyEnd 15 rfl) (Nat.le_of_ble_eq_true rfl) (Nat.le_of_ble_eq_true rfl) ⟨by rw [e, bEnd], rfl⟩
      ·
        exact absurd c7 (by omega)
    | succ d ih =>
      intro i hi e
      have hg := hs.2 i (by omega)
      refine v_iload_n (pc := 2) h (dk dt_X0_busyEnd 2 rfl) rfl ?_
      refine v_aload_n (pc := 3) h (dk dt_X0_busyEnd 3 rfl) rfl ?_
      refine v_geti (pc := 4) h ci0 (C_hd hr) (Nat.le_of_ble_eq_true rfl) (j := 0) wF_X0_9 rfl (dk dt_X0_busyEnd 4 rfl) ?_
      refine v_icmp_ge (pc := 7) h 28 (dk dt_X0_busyEnd 5 rfl) rfl (by omega) (fun c7 => ?_) (fun c7 => ?_)
      ·
        exact absurd c7 (by omega)
      ·
        refine v_aload_n (pc := 10) h (dk dt_X0_busyEnd 6 rfl) rfl ?_
        refine v_getr (pc := 11) h ci0 (C_hd hr) (Nat.le_of_ble_eq_true rfl) (j := 1) wF_X0_20 rfl (dk dt_X0_busyEnd 7 rfl) ?_
        refine v_iload_n (pc := 14) h (dk dt_X0_busyEnd 8 rfl) rfl ?_
        refine v_cVi (pc := 15) h (c_X7_atn h.quiet (C_row hr) (o1 := o + 2) rfl (Nat.le_of_ble_eq_true rfl) (by omega)) kv_X7_at (C_row hr).1 wM_X0_32 rfl rfl (Nat.le_of_ble_eq_true rfl) (RM.of rfl) rfl rfl (dk dt_X0_busyEnd 9 rfl) ?_
        refine v_iconst (pc := 18) h (dk dt_X0_busyEnd 10 rfl) ?_
        refine v_icmp_eq (pc := 19) h 28 (dk dt_X0_busyEnd 11 rfl) rfl (by omega) (fun c19 => ?_) (fun c19 => ?_)
        ·
          refine v_iload_n (pc := 28) h (dk dt_X0_busyEnd 14 rfl) rfl ?_
          exact v_iret (pc := 29) h r (dk dt_X0_busyEnd 15 rfl) (Nat.le_of_ble_eq_true rfl) (Nat.le_of_ble_eq_true rfl) ⟨by rw [e, bEnd, if_pos c19], rfl⟩
        ·
          refine v_iinc (lv' := [(2, _), (0, _), (1, _)]) (pc := 22) h (dk dt_X0_busyEnd 12 rfl) rfl (Nat.le_of_ble_eq_true rfl) rfl ?_
          refine v_goto (pc := 25) h 2 (dk dt_X0_busyEnd 13 rfl) rfl ?_
          exact VV.loc (ih (i + 1) (by omega) (by rw [e, bEnd, if_neg c19])) ⟨rfl, rfl, rfl, trivial⟩
  refine v_iload_n (pc := 0) h (dk dt_X0_busyEnd 0 rfl) rfl ?_
  refine v_istore_n (lv' := [(2, _), (0, _), (1, _)]) (pc := 1) h (dk dt_X0_busyEnd 1 rfl) (Nat.le_of_ble_eq_true rfl) rfl ?_
  exact VV.loc (loop ((μ o 0).toNat - f) f (by omega) rfl) ⟨rfl, rfl, rfl, trivial⟩
theorem c_X0_isSameAs (hst : l.stackTraces = false) {o o' : Nat} (hr : isC o) (hr' : isC o') (hs : okC μ o) (hs' : okC μ o') :
    Ct l B D E yX0_isSameAs (.code yX0_isSameAs cX0_isSameAs 3 (some .boolean)) rm_X0_isSameAs [.ref (pl B o), .ref (pl B o')] μ (ri (if μ o 0 = μ o' 0 ∧ ∀ t : Nat, t < (μ o 0).toNat → μ (o + 2) t = μ (o' + 2) t then 1 else 0) μ) NX := by
  have hb := hs.1
  have hb' := hs'.1
  refine ct_of (own := RX0) (lv := [(0, _), (1, _)]) hst (by decide) rfl rfl (Nat.le_of_ble_eq_true rfl) fun a h r t => ?_
  have loop : ∀ (d i : Nat), i + d = (μ o 0).toNat → μ o 0 = μ o' 0 → (∀ t : Nat, t < i → μ (o + 2) t = μ (o' + 2) t) → VV a B (SP B D E μ) 0 0 15 [(2, iI (i : Int)), (0, .ref (pl B o)), (1, .ref (pl B o'))] [] := by
    intro d
    induction d with
    | zero =>
      intro i hi e q
      refine v_iload_n (pc := 15) h (dk dt_X0_isSameAs 9 rfl) rfl ?_
      refine v_aload_n (pc := 16) h (dk dt_X0_isSameAs 10 rfl) rfl ?_
      refine v_geti (pc := 17) h ci0 (C_hd hr) (Nat.le_of_ble_eq_true rfl) (j := 0) wF_X0_9 rfl (dk dt_X0_isSameAs 11 rfl) ?_
      refine v_icmp_ge (pc := 20) h 50 (dk dt_X0_isSameAs 12 rfl) rfl (by omega) (fun c20 => ?_) (fun c20 => ?_)
      ·
        refine v_iconst (pc := 50) h (dk dt_X0_isSameAs 26 rfl) ?_
        exact v_zret (pc := 51) h r (dk dt_X0_isSameAs 27 rfl) (Nat.le_of_ble_eq_true rfl) (Nat.le_of_ble_eq_true rfl) (by omega) ⟨by rw [if_pos ⟨e, fun t ht => q t (by omega)⟩], rfl⟩
      ·
        exact absurd c20 (by omega)
    | succ d ih =>
      intro i hi e q
      have hg := hs.2 i (by omega)
      have hg' := hs'.2 i (by omega)
      refine v_iload_n (pc := 15) h (dk dt_X0_isSameAs 9 rfl) rfl ?_
      refine v_aload_n (pc := 16) h (dk dt_X0_isSameAs 10 rfl) rfl ?_
      refine v_geti (pc := 17) h ci0 (C_hd hr) (Nat.le_of_ble_eq_true rfl) (j := 0) wF_X0_9 rfl (dk dt_X0_isSameAs 11 rfl) ?_
      refine v_icmp_ge (pc := 20) h 50 (dk dt_X0_isSameAs 12 rfl) rfl (by omega) (fun c20 => ?_) (fun c20 => ?_)
      ·
        exact absurd c20 (by omega)
      ·
        refine v_aload_n (pc := 23) h (dk dt_X0_isSameAs 13 rfl) rfl ?_
        refine v_getr (pc := 24) h ci0 (C_hd hr) (Nat.le_of_ble_eq_true rfl) (j := 1) wF_X0_20 rfl (dk dt_X0_isSameAs 14 rfl) ?_
        refine v_iload_n (pc := 27) h (dk dt_X0_isSameAs 15 rfl) rfl ?_
        refine v_cVi (pc := 28) h (c_X7_atn h.quiet (C_row hr) (o1 := o + 2) rfl (Nat.le_of_ble_eq_true rfl) (by omega)) kv_X7_at (C_row hr).1 wM_X0_32 rfl rfl (Nat.le_of_ble_eq_true rfl) (RM.of rfl) rfl rfl (dk dt_X0_isSameAs 16 rfl) ?_
        refine v_aload_n (pc := 31) h (dk dt_X0_isSameAs 17 rfl) rfl ?_
        refine v_getr (pc := 32) h ci0 (C_hd hr') (Nat.le_of_ble_eq_true rfl) (j := 1) wF_X0_20 rfl (dk dt_X0_isSameAs 18 rfl) ?_
        refine v_iload_n (pc := 35) h (dk dt_X0_isSameAs 19 rfl) rfl ?_
        refine v_cVi (pc := 36) h (c_X7_atn h.quiet (C_row hr') (o1 := o' + 2) rfl (Nat.le_of_ble_eq_true rfl) (by omega)) kv_X7_at (C_row hr').1 wM_X0_32 rfl rfl (Nat.le_of_ble_eq_true rfl) (RM.of rfl) rfl rfl (dk dt_X0_isSameAs 20 rfl) ?_
        refine v_icmp_eq (pc := 39) h 44 (dk dt_X0_isSameAs 21 rfl) rfl (by omega) (fun c39 => ?_) (fun c39 => ?_)
        ·
          refine v_iinc (lv' := [(2, _), (0, _), (1, _)]) (pc := 44) h (dk dt_X0_isSameAs 24 rfl) rfl (Nat.le_of_ble_eq_true rfl) rfl ?_
          refine v_goto (pc := 47) h 15 (dk dt_X0_isSameAs 25 rfl) rfl ?_
          exact VV.loc (ih (i + 1) (by omega) e (fun t ht => by rcases Nat.lt_succ_iff_lt_or_eq.mp ht with z | z; exact q t z; rw [z]; exact c39)) ⟨rfl, rfl, rfl, trivial⟩
        ·
          refine v_iconst (pc := 42) h (dk dt_X0_isSameAs 22 rfl) ?_
          exact v_zret (pc := 43) h r (dk dt_X0_isSameAs 23 rfl) (Nat.le_of_ble_eq_true rfl) (Nat.le_of_ble_eq_true rfl) (by omega) ⟨by rw [if_neg (fun z => c39 (z.2 i (by omega)))], rfl⟩
  refine v_aload_n (pc := 0) h (dk dt_X0_isSameAs 0 rfl) rfl ?_
  refine v_geti (pc := 1) h ci0 (C_hd hr) (Nat.le_of_ble_eq_true rfl) (j := 0) wF_X0_9 rfl (dk dt_X0_isSameAs 1 rfl) ?_
  refine v_aload_n (pc := 4) h (dk dt_X0_isSameAs 2 rfl) rfl ?_
  refine v_geti (pc := 5) h ci0 (C_hd hr') (Nat.le_of_ble_eq_true rfl) (j := 0) wF_X0_9 rfl (dk dt_X0_isSameAs 3 rfl) ?_
  refine v_icmp_eq (pc := 8) h 13 (dk dt_X0_isSameAs 4 rfl) rfl (by omega) (fun c8 => ?_) (fun c8 => ?_)
  ·
    refine v_iconst (pc := 13) h (dk dt_X0_isSameAs 7 rfl) ?_
    refine v_istore_n (lv' := [(2, _), (0, _), (1, _)]) (pc := 14) h (dk dt_X0_isSameAs 8 rfl) (Nat.le_of_ble_eq_true rfl) rfl ?_
    exact VV.loc (loop (μ o 0).toNat 0 (by omega) c8 (fun t ht => absurd ht (by omega))) ⟨rfl, rfl, rfl, trivial⟩
  ·
    refine v_iconst (pc := 11) h (dk dt_X0_isSameAs 5 rfl) ?_
    exact v_zret (pc := 12) h r (dk dt_X0_isSameAs 6 rfl) (Nat.le_of_ble_eq_true rfl) (Nat.le_of_ble_eq_true rfl) (by omega) ⟨by rw [if_neg (fun z => c8 z.1)], rfl⟩
end
