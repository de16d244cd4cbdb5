/-! questions about cells -/
section
variable {i n : Nat} {V T : VS} {w : RW}
theorem p_pair0 {x y : Int32} (hL : zLay T) (hQ : Qr T w) (hW : WF w) (g : (x < 0 ∨ Int32.ofNat (nR w * nC w) ≤ x) ∨ (y < 0 ∨ Int32.ofNat (nR w * nC w) ≤ y)) : ev_X9_isPair n T 207 x y = rt 0 (wI T 207 0 1) := by
  have rc := hW.rc
  unfold ev_X9_isPair eX9_isPair_0 eX9_isPair_21 eX9_isPair_22
  rcases out_k (k := nR w * nC w) (by omega) x with g1 | ⟨c, hc, ec⟩
  · rw [r_isC0 hL hQ hW g1, bd_rt, if_pos rfl, sq_eq, tz hL, if_neg (by decide)]
  · have g2 : y < 0 ∨ Int32.ofNat (nR w * nC w) ≤ y := g.resolve_left (fun q => by rw [ec] at q; exact in_out hc (by omega) q)
    rw [ec, r_isC1 hL hQ hW hc, bd_rt, if_neg (by decide), r_isC0 hL hQ hW g2, bd_rt, if_pos rfl, sq_eq, tz hL, if_neg (by decide)]
theorem p_pair1 {a b : Nat} (hL : zLay T) (hQ : Qr T w) (hW : WF w) (ha : a < nR w * nC w) (hb : b < nR w * nC w) : ev_X9_isPair n T 207 (Int32.ofNat a) (Int32.ofNat b) = rt 1 (wI T 207 0 0) := by
  unfold ev_X9_isPair eX9_isPair_0 eX9_isPair_22
  rw [r_isC1 hL hQ hW ha, bd_rt, if_neg (by decide), r_isC1 hL hQ hW hb, bd_rt, if_neg (by decide), sq_eq, tz hL, if_pos rfl]
theorem gz_bi (b : Bool) : gisZ (bi b) = true := by cases b <;> decide +kernel
theorem p_isSeen {x y : Int32} (hn : 64 < n) (hI : Inv i V) (hi : i < 512) : PairI i (ev_L_isSeen n V 0 x y 222) (fun T => ev_X9_isSeen n T 207 x y) gB := by
  obtain ⟨N, hc, q, w, w0, kd, ar, hF, hW, hC, hQ, hN, hP⟩ := hI.get
  have rc := hW.rc
  unfold ev_L_isSeen eL_isSeen_0
  have bad : ((x < 0 ∨ Int32.ofNat (nR w * nC w) ≤ x) ∨ (y < 0 ∨ Int32.ofNat (nR w * nC w) ≤ y)) → PairI i (bd (ev_X8_isSeen n V 0 x y) (fun r2 V1 => if r2 = 0 then (if gvp_in 0 (vN V1 222) = true then sq (wJ V1 222 ((0 : Int32).toNatClampNeg) 0) (fun V3 => rt 0 V3) else none) else (if gvp_in 0 (vN V1 222) = true then sq (wJ V1 222 ((0 : Int32).toNatClampNeg) 1) (fun V4 => rt 0 V4) else none)) (fun E V9 => if E = "java/lang/IndexOutOfBoundsException" then rt 1 V9 else none)) (fun T => ev_X9_isSeen n T 207 x y) gB := by
    intro g
    refine q_th hI hi (c := 1) (T := V) (E := "java/lang/IndexOutOfBoundsException") ?_ (FrQ.rf hI.L hI.M) (if_pos rfl) (by decide) (fun T fT => ?_)
    · unfold ev_X8_isSeen eX8_isSeen_0
      rcases out_k (k := nR w * nC w) (by omega) x with g1 | ⟨c, hc, ec⟩
      · rw [c_reqC0 hI.L hW hC g1, bd_th]
      · have g2 : y < 0 ∨ Int32.ofNat (nR w * nC w) ≤ y := g.resolve_left (fun q => by rw [ec] at q; exact in_out hc (by omega) q)
        rw [ec, c_reqC1 hI.L hW hC hc, bd_rt, c_reqC0 hI.L hW hC g2, bd_th]
    · refine ⟨wI T 207 0 1, 0, ?_, (FrX.rf fT.1).t, tz fT.1⟩
      unfold ev_X9_isSeen eX9_isSeen_0
      rw [p_pair0 fT.1 (fT.Q hF) hW g, bd_rt, if_pos rfl]
  rcases out_k (k := nR w * nC w) (by omega) x with g | ⟨a, ha, rfl⟩
  · exact bad (.inl g)
  rcases out_k (k := nR w * nC w) (by omega) y with g | ⟨b, hb, rfl⟩
  · exact bad (.inr g)
  refine q_okB hI hi (r := bi (see w a b)) (T := V) ?_ (FrQ.rf hI.L hI.M) (fun T fT => ?_)
  · unfold ev_X8_isSeen eX8_isSeen_0
    rw [c_reqC1 hI.L hW hC ha, bd_rt, c_reqC1 hI.L hW hC hb, bd_rt, r03 hI.L, ob_1, zr0 hI.L b2, ob_1, c_isClear hn hI.L b2 hW hC ha hb, bd_rt, if_pos (gz_bi _)]
  · have l1 : zLay (wI T 207 0 0) := zLay_wI fT.1
    refine ⟨wI T 207 0 0, ?_, (FrX.rf fT.1).t, tz fT.1⟩
    unfold ev_X9_isSeen eX9_isSeen_0
    rw [p_pair1 fT.1 (fT.Q hF) hW ha hb, bd_rt, if_neg (by decide), r_sees hn l1 (tq (fT.Q hF)) hW ha hb, bd_rt]
    cases see w a b <;> rfl
theorem p_cover {x y : Int32} (hI : Inv i V) (hi : i < 512) : PairI i (ev_L_cover n V 0 x y 222) (fun T => ev_X9_cover n T 207 x y) gI := by
  obtain ⟨N, hc, q, w, w0, kd, ar, hF, hW, hC, hQ, hN, hP⟩ := hI.get
  have rc := hW.rc
  unfold ev_L_cover eL_cover_0
  have bad : ((x < 0 ∨ Int32.ofNat (nR w * nC w) ≤ x) ∨ (y < 0 ∨ Int32.ofNat (nR w * nC w) ≤ y)) → PairI i (bd (ev_X8_cover n V 0 x y) (fun r2 V1 => if gvp_in 0 (vN V1 222) = true then sq (wJ V1 222 ((0 : Int32).toNatClampNeg) ((r2 : Int32).toInt64)) (fun V3 => rt 0 V3) else none) (fun E V9 => if E = "java/lang/IndexOutOfBoundsException" then rt 1 V9 else none)) (fun T => ev_X9_cover n T 207 x y) gI := by
    intro g
    refine q_th hI hi (c := 1) (T := V) (E := "java/lang/IndexOutOfBoundsException") ?_ (FrQ.rf hI.L hI.M) (if_pos rfl) (by decide) (fun T fT => ?_)
    · unfold ev_X8_cover eX8_cover_0
      rcases out_k (k := nR w * nC w) (by omega) x with g1 | ⟨c, hc, ec⟩
      · rw [c_reqC0 hI.L hW hC g1, bd_th]
      · have g2 : y < 0 ∨ Int32.ofNat (nR w * nC w) ≤ y := g.resolve_left (fun q => by rw [ec] at q; exact in_out hc (by omega) q)
        rw [ec, c_reqC1 hI.L hW hC hc, bd_rt, c_reqC0 hI.L hW hC g2, bd_th]
    · refine ⟨wI T 207 0 1, 0, ?_, (FrX.rf fT.1).t, tz fT.1⟩
      unfold ev_X9_cover eX9_cover_0
      rw [p_pair0 fT.1 (fT.Q hF) hW g, bd_rt, if_pos rfl]
  rcases out_k (k := nR w * nC w) (by omega) x with g | ⟨a, ha, rfl⟩
  · exact bad (.inl g)
  rcases out_k (k := nR w * nC w) (by omega) y with g | ⟨b, hb, rfl⟩
  · exact bad (.inr g)
  refine q_ok hI hi (r := Int32.ofNat (cov w a b)) (T := V) ?_ (FrQ.rf hI.L hI.M) (fun T fT => ?_)
  · unfold ev_X8_cover eX8_cover_0
    rw [c_reqC1 hI.L hW hC ha, bd_rt, c_reqC1 hI.L hW hC hb, bd_rt, r03 hI.L, ob_1, zr0 hI.L b2, ob_1, c_coverOf hI.L b2 hW hC ha hb, bd_rt]
  · have l1 : zLay (wI T 207 0 0) := zLay_wI fT.1
    refine ⟨wI T 207 0 0, ?_, (FrX.rf fT.1).t, tz fT.1⟩
    unfold ev_X9_cover eX9_cover_0
    rw [p_pair1 fT.1 (fT.Q hF) hW ha hb, bd_rt, if_neg (by decide), r_covers l1 (tq (fT.Q hF)) hW ha hb, bd_rt]
/-! the signs of the ground -/
def sgn (k : Nat) : Int32 := if k = 0 then 46 else if k = 1 then 35 else if k = 2 then 111 else if k = 3 then 126 else 94
theorem c_charAt : ∀ k, k < 5 → gvp_in (Int32.ofNat k) 5 = true ∧ gisC (((((sgI (Int32.ofNat k)) &&& 255) : Int32).toUInt32 % 65536).toInt32) = true ∧ (((((sgI (Int32.ofNat k)) &&& 255) : Int32).toUInt32 % 65536).toInt32) = sgn k ∧ ¬ Int32.ofNat k < 0 ∧ Int32.ofNat k < 5 ∧ gisC (sgn k) = true := by decide +kernel
theorem c_sign {k : Nat} (hk : k < 5) : ev_J0_charAt_5068e n V (Int32.ofNat k) = rt (sgn k) V := by
  obtain ⟨a, b, c, d, e, f⟩ := c_charAt k hk
  unfold ev_J0_charAt_5068e eJ0_charAt_5068e_0 ev_J0_isLatin1_aae02 eJ0_isLatin1_aae02_0 ev_J1_charAt_3b067 eJ1_charAt_3b067_0 ev_J0_checkIndex_df160 eJ0_checkIndex_df160_0 ev_J3_checkIndex_8e157 eJ3_checkIndex_8e157_0
  rw [bd_rt, if_neg (by decide), if_neg d, if_pos e, bd_rt, bd_rt, if_pos a, if_pos b, c, bd_rt, if_pos f]
theorem p_terrain {x y : Int32} (hI : Inv i V) (hi : i < 512) : PairI i (ev_L_terrain n V 0 x y 222) (fun T => ev_X9_terrain n T 207 x y) gI := by
  obtain ⟨N, hc, q, w, w0, kd, ar, hF, hW, hC, hQ, hN, hP⟩ := hI.get
  have r8 := hW.r8; have c8 := hW.c8; have r9 := hW.rc9
  unfold ev_L_terrain eL_terrain_0
  have bad : ((x < 0 ∨ Int32.ofNat (nR w) ≤ x) ∨ (y < 0 ∨ Int32.ofNat (nC w) ≤ y)) → PairI i (bd (ev_X8_terrain n V 0 x y) (fun r2 V1 => if gvp_in 0 (vN V1 222) = true then sq (wJ V1 222 ((0 : Int32).toNatClampNeg) ((r2 : Int32).toInt64)) (fun V3 => rt 0 V3) else none) (fun E V9 => if E = "java/lang/IndexOutOfBoundsException" then rt 1 V9 else none)) (fun T => ev_X9_terrain n T 207 x y) gI := by
    intro g
    refine q_th hI hi (c := 1) (T := V) (E := "java/lang/IndexOutOfBoundsException") ?_ (FrQ.rf hI.L hI.M) (if_pos rfl) (by decide) (fun T fT => ?_)
    · unfold ev_X8_terrain eX8_terrain_0 eX8_terrain_32
      rw [r03 hI.L, ob_1, zr0 hI.L b2, ob_1, hC.rows, hC.cols (by omega), hW.re, hW.ce]
      by_cases g1 : x < 0
      · rw [if_pos g1]
      rw [if_neg g1]
      by_cases g2 : Int32.ofNat (nR w) ≤ x
      · rw [if_pos g2]
      rw [if_neg g2]
      by_cases g3 : y < 0
      · rw [if_pos g3]
      rw [if_neg g3, if_neg (Int32.not_lt.mpr ((g.resolve_left (fun q => q.elim g1 g2)).resolve_left g3))]
    · obtain ⟨k0, e0⟩ := r_v fT.1 (fT.Q hF) (k := 0) (x := 0) (by decide) rfl
      obtain ⟨k1, e1⟩ := r_v fT.1 (fT.Q hF) (k := 1) (x := 1) (by decide) rfl
      refine ⟨wI T 207 0 1, 0, ?_, (FrX.rf fT.1).t, tz fT.1⟩
      unfold ev_X9_terrain eX9_terrain_0 eX9_terrain_37 eX9_terrain_38
      rw [r71 fT.1, ob_1, if_pos k0, e0, hW.re]
      rcases out_k (k := nR w) (by omega) x with g1 | ⟨j, hj, ej⟩
      · rw [in_no (by omega) g1, bd_rt, if_pos rfl, sq_eq, tz fT.1, if_pos rfl]
      · have g2 : y < 0 ∨ Int32.ofNat (nC w) ≤ y := g.resolve_left (fun q => by rw [ej] at q; exact in_out hj (by omega) q)
        rw [ej, in_yes hj (by omega), bd_rt, if_neg (by decide), r71 fT.1, ob_1, if_pos k1, e1, hW.ce, in_no (by omega) g2, bd_rt, if_pos rfl, sq_eq, tz fT.1, if_pos rfl]
  rcases out_k (k := nR w) (by omega) x with g | ⟨a, ha, rfl⟩
  · exact bad (.inl g)
  rcases out_k (k := nC w) (by omega) y with g | ⟨b, hb, rfl⟩
  · exact bad (.inr g)
  have hc : a * nC w + b < nR w * nC w := by
    have : (a + 1) * nC w ≤ nR w * nC w := Nat.mul_le_mul_right _ ha
    rw [Nat.succ_mul] at this; omega
  have rc := hW.rc
  have hg := hW.g hc
  have gl : (w (2 + (a * nC w + b))).toNatClampNeg ≤ 4 := hg.le
  have ge := hg.eq
  generalize (w (2 + (a * nC w + b))).toNatClampNeg = k at gl ge
  refine q_ok hI hi (r := sgn k) (T := V) ?_ (FrQ.rf hI.L hI.M) (fun T fT => ?_)
  · unfold ev_X8_terrain eX8_terrain_0
    rw [r03 hI.L, ob_1, zr0 hI.L b2, ob_1, hC.rows, hC.cols (by omega), hW.re, hW.ce, if_neg (ofn_nn (by omega)), if_neg (fun e => by have := (of_le (by omega) (by omega)).mp e; omega), if_neg (ofn_nn (by omega)), if_pos ((of_lt (by omega) (by omega)).mpr hb), of_mul, of_add, c_ground hI.L b2 hW hC hc, bd_rt, ge, if_neg (ofn_nn (by omega))]
    unfold ev_J0_length_8abf5 eJ0_length_8abf5_0 ev_J0_coder_7d493 eJ0_coder_7d493_0
    rw [bd_rt, bd_rt, if_neg (fun e => by
      rw [show (5 : Int32) >>> (0 &&& 31) = Int32.ofNat 5 from by decide] at e
      have := (of_le (by omega) (by omega)).mp e; omega), c_sign (by omega), bd_rt, if_pos (c_charAt k (by omega)).2.2.2.2.2]
  · obtain ⟨k0, e0⟩ := r_v fT.1 (fT.Q hF) (k := 0) (x := 0) (by decide) rfl
    obtain ⟨k1, e1⟩ := r_v fT.1 (fT.Q hF) (k := 1) (x := 1) (by decide) rfl
    have l1 : zLay (wI T 207 0 0) := zLay_wI fT.1
    obtain ⟨k2, e2⟩ := r_v l1 (tq (fT.Q hF)) (k := 1) (x := 1) (by decide) rfl
    have ix : (2 + (Int32.ofNat a * Int32.ofNat (nC w))) + Int32.ofNat b = Int32.ofNat (2 + (a * nC w + b)) := by
      rw [of_mul, show (2 : Int32) + Int32.ofNat (a * nC w) = Int32.ofNat (2 + a * nC w) from of_add (a := 2), of_add, Nat.add_assoc]
    obtain ⟨k3, e3⟩ := r_v l1 (tq (fT.Q hF)) (k := 2 + (a * nC w + b)) (x := (2 + (Int32.ofNat a * Int32.ofNat (nC w))) + Int32.ofNat b) (by omega) ix
    refine ⟨wI T 207 0 0, ?_, (FrX.rf fT.1).t, tz fT.1⟩
    unfold ev_X9_terrain eX9_terrain_0 eX9_terrain_38
    rw [r71 fT.1, ob_1, if_pos k0, e0, hW.re, in_yes ha (by omega), bd_rt, if_neg (by decide), r71 fT.1, ob_1, if_pos k1, e1, hW.ce, in_yes hb (by omega), bd_rt, if_neg (by decide), sq_eq, tz fT.1, if_neg (by decide), r71 l1, ob_1, ob_1, if_pos k2, e2, hW.ce, if_pos k3, e3, ge]
    have : k = 0 ∨ k = 1 ∨ k = 2 ∨ k = 3 ∨ k = 4 := by omega
    rcases this with rfl | rfl | rfl | rfl | rfl <;> rfl
end
