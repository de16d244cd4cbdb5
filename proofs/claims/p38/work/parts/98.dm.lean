/-! meanHealth -/
def PairF (i : Nat) (C : Rs Int32) (R : VS → Rs UInt32) : Prop := ∃ c T r U, C = rt c T ∧ R T = rt r U ∧ Inv (i + 1) U ∧ vI U 207 0 = c ∧ (c = 0 → vD U 223 0 = FP.f2d r ∧ gvf_n64 (FP.f2d r) = true ∧ (Op.cmpValue (FP.dcmp (FP.f2d r) (FP.f2d r)) CmpOp.l) = 0)
def mS (w : RW) (x : Int32) : Nat → Nat → Nat → Nat
  | 0, _, s => s
  | d + 1, u, s => if w (67 + 11 * u) = x then mS w x d (u + 1) (s + (w (67 + 11 * u + 3)).toNatClampNeg) else mS w x d (u + 1) s
def mC (w : RW) (x : Int32) : Nat → Nat → Nat → Nat
  | 0, _, c => c
  | d + 1, u, c => if w (67 + 11 * u) = x then mC w x d (u + 1) (c + 1) else mC w x d (u + 1) c
theorem mC_le {w : RW} {x : Int32} : ∀ d u c, mC w x d u c ≤ c + d
  | 0, _, _ => Nat.le_refl _
  | d + 1, u, c => by
    unfold mC
    by_cases g : w (67 + 11 * u) = x
    · rw [if_pos g]; have := mC_le (w := w) (x := x) d (u + 1) (c + 1); omega
    · rw [if_neg g]; have := mC_le (w := w) (x := x) d (u + 1) c; omega
theorem mS_le {w : RW} {x : Int32} (hW : WF w) : ∀ d u s, u + d = nU w → mS w x d u s ≤ s + 18 * d
  | 0, _, _, _ => Nat.le_refl _
  | d + 1, u, s, e => by
    unfold mS
    have := (hW.f (u := u) (by omega) (j := 3) (by omega)).le
    have e3 : ub 3 = 18 := rfl
    by_cases g : w (67 + 11 * u) = x
    · rw [if_pos g]; have := mS_le (x := x) hW d (u + 1) (s + (w (67 + 11 * u + 3)).toNatClampNeg) (by omega); omega
    · rw [if_neg g]; have := mS_le (x := x) hW d (u + 1) s (by omega); omega
theorem mh_ok : ∀ c, c < 8 → ∀ s, s < 145 → gvf_n32 (FP.fdiv (FP.i2f (Int32.ofNat s)) (FP.i2f (Int32.ofNat (c + 1)))) = true ∧ gvf_n64 (FP.f2d (FP.fdiv (FP.i2f (Int32.ofNat s)) (FP.i2f (Int32.ofNat (c + 1))))) = true ∧ (Op.cmpValue (FP.dcmp (FP.f2d (FP.fdiv (FP.i2f (Int32.ofNat s)) (FP.i2f (Int32.ofNat (c + 1))))) (FP.f2d (FP.fdiv (FP.i2f (Int32.ofNat s)) (FP.i2f (Int32.ofNat (c + 1)))))) CmpOp.l) = 0 := by decide +kernel
section
variable {i n : Nat} {V T : VS} {w : RW} {x : Int32}
theorem c_mhL (hL : zLay V) (hW : WF w) (h : Rp 2 V w) : ∀ (d m u s c : Nat), u + d = nU w → d < m → elX8_meanHealth_11 n m V 0 x (Int32.ofNat s) (Int32.ofNat c) (Int32.ofNat u) = if Int32.ofNat (mC w x d u c) = 0 then th "java/lang/ArithmeticException" V else if gvf_n32 (FP.fdiv (FP.i2f (Int32.ofNat (mS w x d u s))) (FP.i2f (Int32.ofNat (mC w x d u c)))) = true then rt (FP.fdiv (FP.i2f (Int32.ofNat (mS w x d u s))) (FP.i2f (Int32.ofNat (mC w x d u c)))) V else none
  | 0, m + 1, u, s, c, e, _ => by
    have u8 := hW.u8
    show eX8_meanHealth_11 n (elX8_meanHealth_11 n m) V 0 x (Int32.ofNat s) (Int32.ofNat c) (Int32.ofNat u) = _
    unfold eX8_meanHealth_11 mS mC
    rw [r03 hL, ob_1, h.count, if_pos (by rw [hW.ue, show u = nU w by omega]; exact Int32.le_refl _)]
  | d + 1, m + 1, u, s, c, e, hd => by
    have u8 := hW.u8
    have hu : u < nU w := by omega
    have nh := hW.f hu (j := 3) (by omega)
    have e1 : vI V (2 + 9 + u) 1 = w (67 + 11 * u) := h.u hu (by omega) (j := 0) (by omega)
    have e5 : vI V (2 + 9 + u) 5 = Int32.ofNat (w (67 + 11 * u + 3)).toNatClampNeg := (h.u hu (by omega) (j := 3) (by omega)).trans nh.eq
    show eX8_meanHealth_11 n (elX8_meanHealth_11 n m) V 0 x (Int32.ofNat s) (Int32.ofNat c) (Int32.ofNat u) = _
    unfold eX8_meanHealth_11 mS mC
    rw [r03 hL, ob_1, h.count, if_neg (fun e => by rw [hW.ue] at e; have := (of_le (by omega) (by omega)).mp e; omega), ob_1, zr1 hL b2, ob_1, znu hL b2, if_pos (in_of (by omega) (by omega)), tn_of (by omega), zru hL b2 (by omega), ob_1, e1]
    by_cases g : w (67 + 11 * u) = x
    · rw [if_pos g, if_pos g, if_pos g, e5, of_add, p1_of, p1_of]
      exact c_mhL hL hW h d m (u + 1) _ (c + 1) (by omega) (by omega)
    · rw [if_neg g, if_neg g, if_neg g, p1_of]
      exact c_mhL hL hW h d m (u + 1) _ c (by omega) (by omega)
theorem r_mhL (hL : zLay V) (hW : WF w) (hQ : Qr V w) : ∀ (d m u s c : Nat), u + d = nU w → d < m → elX9_meanHealth_25 n m V 207 x (Int32.ofNat s) (Int32.ofNat c) (Int32.ofNat u) = if (vI V 207 0) = 0 then (if Int32.ofNat (mC w x d u c) = 0 then sq (wI V 207 0 2) (fun V2 => eX9_meanHealth_86 n V2 207 (Int32.ofNat (mS w x d u s)) (Int32.ofNat (mC w x d u c))) else eX9_meanHealth_86 n V 207 (Int32.ofNat (mS w x d u s)) (Int32.ofNat (mC w x d u c))) else eX9_meanHealth_86 n V 207 (Int32.ofNat (mS w x d u s)) (Int32.ofNat (mC w x d u c))
  | 0, m + 1, u, s, c, e, _ => by
    have u8 := hW.u8
    obtain ⟨g6, e6⟩ := r_v hL hQ (k := 66) (x := 66) (by decide) rfl
    show eX9_meanHealth_25 n (elX9_meanHealth_25 n m) V 207 x (Int32.ofNat s) (Int32.ofNat c) (Int32.ofNat u) = _
    unfold eX9_meanHealth_25 mS mC
    rw [r71 hL, ob_1, if_pos g6, e6, if_pos (by rw [hW.ue, show u = nU w by omega]; exact Int32.le_refl _)]
  | d + 1, m + 1, u, s, c, e, hd => by
    have u8 := hW.u8
    have hu : u < nU w := by omega
    have nh := hW.f hu (j := 3) (by omega)
    obtain ⟨g6, e6⟩ := r_v hL hQ (k := 66) (x := 66) (by decide) rfl
    show eX9_meanHealth_25 n (elX9_meanHealth_25 n m) V 207 x (Int32.ofNat s) (Int32.ofNat c) (Int32.ofNat u) = _
    unfold eX9_meanHealth_25 mS mC
    rw [r71 hL, ob_1, if_pos g6, e6, if_neg (fun e => by rw [hW.ue] at e; have := (of_le (by omega) (by omega)).mp e; omega), r_of0 hL hQ (by omega), bd_rt]
    by_cases g : w (67 + 11 * u) = x
    · rw [if_pos g, if_pos g, if_pos g, r_of3 hL hQ (by omega), bd_rt, show w (67 + 11 * u + 3) = Int32.ofNat (w (67 + 11 * u + 3)).toNatClampNeg from nh.eq, of_add, p1_of, p1_of, tn_of (by have := nh.le; have : ub 3 = 18 := rfl; omega)]
      exact r_mhL hL hW hQ d m (u + 1) _ (c + 1) (by omega) (by omega)
    · rw [if_neg g, if_neg g, if_neg g, p1_of]
      exact r_mhL hL hW hQ d m (u + 1) _ c (by omega) (by omega)
theorem p_meanHealth (hn : 2100 < n) (hI : Inv i V) (hi : i < 512) : PairF i (ev_L_meanHealth n V 0 x 223) (fun T => ev_X9_meanHealth n T 207 x) := by
  obtain ⟨N, hc, q, w, w0, kd, ar, hF, hW, hC, hQ, hN, hP⟩ := hI.get
  have hL := hI.L
  have u8 := hW.u8
  unfold ev_L_meanHealth eL_meanHealth_0
  have lc := mC_le (w := w) (x := x) (nU w) 0 0
  have ls := mS_le (x := x) hW (nU w) 0 0 (by omega)
  have ec := c_mhL (n := n) (x := x) hL hW hC (nU w) n 0 0 0 (by omega) (by omega)
  have er : ∀ T, zLay T → Qr T w → _ := fun T hT qT => r_mhL (n := n) (V := T) (x := x) hT hW qT (nU w) n 0 0 0 (by omega) (by omega)
  generalize mC w x (nU w) 0 0 = c at lc ec er
  generalize mS w x (nU w) 0 0 = s at ls ec er
  rcases out_k (k := 2) (by omega) x with g | ⟨r, hr, rfl⟩
  · refine ⟨1, V, FP.fconst0, wI V 207 0 1, ?_, ?_, ((FrX.rf hL).t.q hI.M).inv hI (by omega) (by omega), tz hL, fun e => absurd e (by decide)⟩
    · unfold ev_X8_meanHealth eX8_meanHealth_0 ev_X8_requireTeam eX8_requireTeam_0
      rw [if_neg (x01 g).1, if_neg (x01 g).2, bd_th, bd_th, if_pos rfl]
    · show ev_X9_meanHealth n V 207 x = _
      have e1 := er (wI V 207 0 1) (zLay_wI hL) (tq hQ)
      rw [tz hL, if_neg (by decide)] at e1
      unfold ev_X9_meanHealth eX9_meanHealth_0 eX9_meanHealth_15
      rw [r_in0 g, bd_rt, if_pos rfl, sq_eq]
      refine e1.trans ?_
      unfold eX9_meanHealth_86
      rw [tz hL, if_neg (by decide)]
  have cR : ev_X8_meanHealth n V 0 (Int32.ofNat r) = elX8_meanHealth_11 n n V 0 (Int32.ofNat r) 0 0 0 := by
    unfold ev_X8_meanHealth eX8_meanHealth_0 ev_X8_requireTeam eX8_requireTeam_0
    have : r = 0 ∨ r = 1 := by omega
    rcases this with rfl | rfl
    · rw [if_pos (by decide), bd_rt]
    · rw [if_neg (by decide), if_pos (by decide), bd_rt]
  by_cases c0 : c = 0
  · rw [c0, if_pos (by decide)] at ec
    refine ⟨2, V, FP.fconst0, wI (wI V 207 0 0) 207 0 2, ?_, ?_, ((FrX.rf hL).t.t.q hI.M).inv hI (by omega) (by omega), tz (zLay_wI hL), fun e => absurd e (by decide)⟩
    · rw [cR]
      refine (congrArg (fun X => bd X _ _) ec).trans ?_
      rw [bd_th, if_neg (by decide), if_pos rfl]
    · show ev_X9_meanHealth n V 207 (Int32.ofNat r) = _
      have e1 := er (wI V 207 0 0) (zLay_wI hL) (tq hQ)
      rw [tz hL, if_pos rfl, c0, if_pos (by decide), sq_eq] at e1
      unfold ev_X9_meanHealth eX9_meanHealth_0 eX9_meanHealth_15
      rw [r_in1 hr, bd_rt, if_neg (by decide), sq_eq]
      refine e1.trans ?_
      unfold eX9_meanHealth_86
      rw [tz (zLay_wI hL), if_neg (by decide)]
  have cz : ¬ Int32.ofNat c = 0 := fun e => by exact c0 ((of_inj (b := 0) (by omega) (by omega)).mp e)
  obtain ⟨k1, k2, k3⟩ := mh_ok (c - 1) (by omega) s (by omega)
  rw [show c - 1 + 1 = c by omega] at k1 k2 k3
  rw [if_neg cz, if_pos k1] at ec
  generalize ef : FP.fdiv (FP.i2f (Int32.ofNat s)) (FP.i2f (Int32.ofNat c)) = f at k1 k2 k3 ec
  have lD : zLay (wD V 223 0 (FP.f2d f)) := zLay_wD hL
  have fD : FrQ V (wD V 223 0 (FP.f2d f)) := (FrQ.rf hL hI.M).d
  have e1 := er (wI (wD V 223 0 (FP.f2d f)) 207 0 0) (zLay_wI lD) (tq (fD.Q hF))
  refine ⟨0, wD V 223 0 (FP.f2d f), f, wI (wD V 223 0 (FP.f2d f)) 207 0 0, ?_, ?_, (fD.t).inv hI (by omega) (by omega), tz lD, fun _ => ⟨?_, k2, k3⟩⟩
  · rw [cR]
    refine (congrArg (fun X => bd X _ _) ec).trans ?_
    rw [bd_rt, if_pos k2, wd hL]
  · show ev_X9_meanHealth n (wD V 223 0 (FP.f2d f)) 207 (Int32.ofNat r) = _
    rw [tz lD, if_pos rfl, if_neg cz] at e1
    unfold ev_X9_meanHealth eX9_meanHealth_0 eX9_meanHealth_15
    rw [r_in1 hr, bd_rt, if_neg (by decide), sq_eq]
    refine e1.trans ?_
    unfold eX9_meanHealth_86
    rw [tz lD, if_pos (by decide), ef, if_pos k1]
  · rw [vD_C (vC_wI (by omega)), vD_wD (zLen hL (by omega))]
end
