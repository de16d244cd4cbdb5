/-! moves, attacks, grenades -/
section
variable {i n : Nat} {V T : VS} {w : RW}
theorem tb4_le : ∀ k, k < 4 → tbN 4 k ≤ 6 := by decide +kernel
/-- attack -/
theorem p_attack {x : Int32} (hn : 2100 < n) (hI : Inv i V) (hi : i < 512) : PairI i (ev_L_attack n V 0 x 222) (fun T => ev_X9_attack n T 207 x) gI := by
  obtain ⟨N, hc, q, w, w0, kd, ar, hF, hW, hC, hQ, hN, hP⟩ := hI.get
  have u8 := hW.u8
  unfold ev_L_attack eL_attack_0
  rcases out_k (k := nU w) (by omega) x with g1 | ⟨v, hv, rfl⟩
  · refine q_th hI hi (c := 1) (T := V) (E := "java/lang/IndexOutOfBoundsException") ?_ (FrQ.rf hI.L hI.M) (if_pos rfl) (by decide) (fun T fT => ?_)
    · unfold ev_X8_attack eX8_attack_0
      rw [c_reqU0 hI.L hW hC g1, bd_th]
    · refine ⟨wI T 207 0 1, 0, ?_, (FrX.rf fT.1).t, tz fT.1⟩
      unfold ev_X9_attack eX9_attack_0
      rw [r_isU0 fT.1 (fT.Q hF) hW g1, bd_rt, r_ask0 fT.1, bd_rt, if_pos rfl]
  rcases onT (n := n) hI.L hW hC hP hN with ⟨a, b, t, f, e6, e⟩ | ⟨a, b, c, e⟩
  rotate_left
  · refine q_th hI hi (c := 2) (T := V) (E := "java/lang/UnsupportedOperationException") ?_ (FrQ.rf hI.L hI.M) (by rw [if_neg (by decide), if_pos rfl]) (by decide) (fun T fT => ?_)
    · unfold ev_X8_attack eX8_attack_0
      rw [c_reqU1 hI.L hW hC hv, bd_rt, ob_1, c_reqT0 hI.L e, bd_th]
    · refine ⟨wI T 207 0 2, 0, ?_, (FrX.rf fT.1).t, tz fT.1⟩
      unfold ev_X9_attack eX9_attack_0
      rw [r_isU1 fT.1 (fT.Q hF) hW hv, bd_rt, r_ask2 (by omega) fT.1 (fT.Q hF) hW a, bd_rt, if_pos rfl]
  have hu := f.1.u
  have o8 : ord w t < 8 := by omega
  -- no actions, or no ammunition
  have bad : (¬ 1 ≤ w 167 ∧ w 167 = 0) ∨ (1 ≤ w 167 ∧ w 167 ≠ 0 ∧ ¬ 1 ≤ w (67 + 11 * ord w t + 4) ∧ w (67 + 11 * ord w t + 4) = 0) → PairI i (bd (ev_X8_attack n V 0 (Int32.ofNat v)) (fun r2 V1 => if gvp_in 0 (vN V1 222) = true then sq (wJ V1 222 ((0 : Int32).toNatClampNeg) ((r2 : Int32).toInt64)) (fun V3 => rt 0 V3) else none) (fun E V9 => if E = "java/lang/IndexOutOfBoundsException" then rt 1 V9 else (if E = "java/lang/UnsupportedOperationException" then rt 2 V9 else (if E = "java/lang/IllegalStateException" then rt 3 V9 else (if E = "java/lang/IllegalArgumentException" then rt 4 V9 else none))))) (fun T => ev_X9_attack n T 207 (Int32.ofNat v)) gI := by
    intro z
    refine q_th hI hi (c := 3) (T := V) (E := "java/lang/IllegalStateException") ?_ (FrQ.rf hI.L hI.M) (by rw [if_neg (by decide), if_neg (by decide), if_pos rfl]) (by decide) (fun T fT => ?_)
    · unfold ev_X8_attack eX8_attack_0
      rw [c_reqU1 hI.L hW hC hv, bd_rt, ob_1, c_reqT1 hI.L e, bd_rt, ob_1, c_reqA hI.L hC]
      rcases z with ⟨z1, _⟩ | ⟨z1, _, z3, _⟩
      · rw [if_neg z1, bd_th]
      · rw [if_pos z1, bd_rt, c_reqM hC hu o8, if_neg z3, bd_th]
    · have l1 : zLay (wI T 207 0 0) := zLay_wI fT.1
      have q1 : Qr (wI T 207 0 0) w := tq (fT.Q hF)
      obtain ⟨g7, e7⟩ := r_v l1 q1 (k := 167) (x := 167) (by decide) rfl
      obtain ⟨g6, e8⟩ := r_v l1 q1 (k := 166) (x := 166) (by decide) rfl
      refine ⟨wI (wI T 207 0 0) 207 0 3, 0, ?_, ((FrX.rf fT.1).t (x := 0)).t, tz l1⟩
      unfold ev_X9_attack eX9_attack_0 eX9_attack_41
      rw [r_isU1 fT.1 (fT.Q hF) hW hv, bd_rt, r_ask1 (by omega) fT.1 (fT.Q hF) hW a, bd_rt, if_neg (by decide), r71 l1, ob_1, if_pos g7, e7]
      rcases z with ⟨_, z2⟩ | ⟨_, z2, _, z4⟩
      · rw [if_pos z2, r_no l1, bd_rt]
      · rw [if_neg z2, ob_1, if_pos g6, e8, e6, r_of4 l1 q1 o8, bd_rt, if_pos z4, r_no l1, bd_rt]
  rcases nbz hW.a (by omega) with ⟨z0, z1, z2⟩ | ⟨z0, z1, z2⟩
  · exact bad (.inl ⟨z1, z0⟩)
  rcases nbz (hW.f hu (j := 4) (by omega)) (by decide) with ⟨y0, y1, y2⟩ | ⟨y0, y1, y2⟩
  · exact bad (.inr ⟨z1, z0, y1, y0⟩)
  have cF : ev_X8_attack n V 0 (Int32.ofNat v) = bd (ev_X8_requireTarget n V 0 (2 + 9 + ord w t) (2 + 9 + v)) (fun _ V9 => bd (ev_X8_remember n V9 0 1 (Int32.ofNat v)) (fun _ V10 => (vR V10 0 3).bind (fun a11v => bd (ev_X2_shoot n V10 a11v (Int32.ofNat v)) (fun r13 V12 => rt r13 V12) th)) th) th := by
    unfold ev_X8_attack eX8_attack_0
    rw [c_reqU1 hI.L hW hC hv, bd_rt, ob_1, c_reqT1 hI.L e, bd_rt, ob_1, c_reqA hI.L hC, if_pos z1, bd_rt, c_reqM hC hu o8, if_pos y1, bd_rt]
  have rF : ∀ T, zLay T → Qr T w → ev_X9_attack n T 207 (Int32.ofNat v) = if canA w (ord w t) v = true then bd (ev_X9_carries n (wI T 207 0 0) 207 1 (Int32.ofNat v)) (fun r15 V14 => rt r15 V14) th else rt 0 (wI (wI T 207 0 0) 207 0 4) := fun T lT qT => by
    have l1 : zLay (wI T 207 0 0) := zLay_wI lT
    have q1 : Qr (wI T 207 0 0) w := tq qT
    obtain ⟨g7, e7⟩ := r_v l1 q1 (k := 167) (x := 167) (by decide) rfl
    obtain ⟨g6, e8⟩ := r_v l1 q1 (k := 166) (x := 166) (by decide) rfl
    unfold ev_X9_attack eX9_attack_0
    rw [r_isU1 lT qT hW hv, bd_rt, r_ask1 (by omega) lT qT hW a, bd_rt, if_neg (by decide), r71 l1, ob_1, if_pos g7, e7, if_neg z0, ob_1, if_pos g6, e8, e6, r_of4 l1 q1 o8, bd_rt, if_neg y0, r71 l1, ob_1, if_pos g6, e8, e6, r_canAttack (by omega) l1 q1 hW hu hv, bd_rt]
    cases canA w (ord w t) v
    · rw [if_pos (show bi false = 0 from rfl), if_neg (by decide), r_no l1, bd_rt]
    · rw [if_neg (show ¬ bi true = 0 by decide), if_pos rfl]
  cases hA : canA w (ord w t) v
  · refine q_th hI hi (c := 4) (T := V) (E := "java/lang/IllegalArgumentException") ?_ (FrQ.rf hI.L hI.M) (by rw [if_neg (by decide), if_neg (by decide), if_neg (by decide), if_pos rfl]) (by decide) (fun T fT => ?_)
    · rw [cF, c_target (by omega) hI.L hW hC hu hv, if_neg (by rw [hA]; decide), bd_th]
    · have l1 : zLay (wI T 207 0 0) := zLay_wI fT.1
      exact ⟨wI (wI T 207 0 0) 207 0 4, 0, by rw [rF T fT.1 (fT.Q hF), if_neg (by rw [hA]; decide)], ((FrX.rf fT.1).t (x := 0)).t, tz l1⟩
  · have hl : LG w (ord w t) 1 v := .inr (.inl ⟨rfl, hv, y2, z2⟩)
    refine p_cmd hn hI hi hF f hl b (FrQ.rf hI.L hI.M) (A := fun V10 => (vR V10 0 3).bind (fun a11v => bd (ev_X2_shoot n V10 a11v (Int32.ofNat v)) (fun r13 V12 => rt r13 V12) th)) ?_ (fun T lT rT => ?_) (fun T lT qT => ?_)
    · rw [cF, c_target (by omega) hI.L hW hC hu hv, if_pos hA, bd_rt]; rfl
    · obtain ⟨U, eU, rU, fU⟩ := c_shoot (n := n) (by omega) lT b2 rT f hl
      exact ⟨U, by rw [r03 lT, ob_1, eU, bd_rt], rU, fU⟩
    · exact ⟨wI T 207 0 0, by rw [rF T lT qT, if_pos hA]; rfl, (FrX.rf lT).t, tz lT⟩
/-- throwAt -/
theorem c_canHurl {u g : Nat} (hn : 64 < n) (hL : zLay V) (hW : WF w) (hC : Rp 2 V w) (hu : u < nU w) (hg : g < nR w * nC w) : ev_X2_canHurl n V 2 (2 + 9 + u) (Int32.ofNat g) = rt (bi (!decide (w (2 + g) = 1) && (!decide (4 < dst w (cellN w u) g) && see w (cellN w u) g))) V := by
  have u8 := hW.u8; have cl := cell_lt hW hu
  have dl := dst_le hW cl hg
  have v4 : vI V (2 + 9 + u) 4 = Int32.ofNat (cellN w u) := by rw [← cell_e hW hu]; exact hC.u hu (by omega) (j := 2) (by decide)
  unfold ev_X2_canHurl eX2_canHurl_0
  rw [zr0 hL b2, ob_1, c_ground hL b2 hW hC hg, bd_rt]
  by_cases g1 : w (2 + g) = 1
  · rw [if_pos g1, decide_eq_true g1]; rfl
  rw [if_neg g1, decide_eq_false g1, zr0 hL b2, ob_1, v4, c_distance hW hC cl hg, bd_rt]
  by_cases g2 : 4 < dst w (cellN w u) g
  · rw [if_pos (by exact (of_lt (a := 4) (by omega) (by omega)).mpr g2), decide_eq_true g2]; rfl
  rw [if_neg (fun e => by exact g2 ((of_lt (a := 4) (by omega) (by omega)).mp e)), decide_eq_false g2, zr0 hL b2, ob_1, v4, c_isClear hn hL b2 hW hC cl hg, bd_rt]
  cases see w (cellN w u) g <;> rfl
theorem p_throwAt {x : Int32} (hn : 2100 < n) (hI : Inv i V) (hi : i < 512) : PairI i (ev_L_throwAt n V 0 x 222) (fun T => ev_X9_throwAt n T 207 x) gI := by
  obtain ⟨N, hc, q, w, w0, kd, ar, hF, hW, hC, hQ, hN, hP⟩ := hI.get
  have u8 := hW.u8; have rc := hW.rc
  unfold ev_L_throwAt eL_throwAt_0
  rcases out_k (k := nR w * nC w) (by omega) x with g1 | ⟨g, hg, rfl⟩
  · refine q_th hI hi (c := 1) (T := V) (E := "java/lang/IndexOutOfBoundsException") ?_ (FrQ.rf hI.L hI.M) (if_pos rfl) (by decide) (fun T fT => ?_)
    · unfold ev_X8_throwAt eX8_throwAt_0
      rw [c_reqC0 hI.L hW hC g1, bd_th]
    · refine ⟨wI T 207 0 1, 0, ?_, (FrX.rf fT.1).t, tz fT.1⟩
      unfold ev_X9_throwAt eX9_throwAt_0
      rw [r_isC0 fT.1 (fT.Q hF) hW g1, bd_rt, r_ask0 fT.1, bd_rt, if_pos rfl]
  rcases onT (n := n) hI.L hW hC hP hN with ⟨a, b, t, f, e6, e⟩ | ⟨a, b, c, e⟩
  rotate_left
  · refine q_th hI hi (c := 2) (T := V) (E := "java/lang/UnsupportedOperationException") ?_ (FrQ.rf hI.L hI.M) (by rw [if_neg (by decide), if_pos rfl]) (by decide) (fun T fT => ?_)
    · unfold ev_X8_throwAt eX8_throwAt_0
      rw [c_reqC1 hI.L hW hC hg, bd_rt, c_reqT0 hI.L e, bd_th]
    · refine ⟨wI T 207 0 2, 0, ?_, (FrX.rf fT.1).t, tz fT.1⟩
      unfold ev_X9_throwAt eX9_throwAt_0
      rw [r_isC1 fT.1 (fT.Q hF) hW hg, bd_rt, r_ask2 (by omega) fT.1 (fT.Q hF) hW a, bd_rt, if_pos rfl]
  have hu := f.1.u
  have o8 : ord w t < 8 := by omega
  have cl := cell_lt hW hu
  have dl := dst_le hW cl hg
  have v7 : vI V (2 + 9 + ord w t) 7 = w (67 + 11 * ord w t + 5) := hC.u hu o8 (j := 5) (by decide)
  have bad : (¬ 1 ≤ w 167 ∧ w 167 = 0) ∨ (1 ≤ w 167 ∧ w 167 ≠ 0 ∧ ¬ 1 ≤ w (67 + 11 * ord w t + 5) ∧ w (67 + 11 * ord w t + 5) = 0) → PairI i (bd (ev_X8_throwAt n V 0 (Int32.ofNat g)) (fun r2 V1 => if gvp_in 0 (vN V1 222) = true then sq (wJ V1 222 ((0 : Int32).toNatClampNeg) ((r2 : Int32).toInt64)) (fun V3 => rt 0 V3) else none) (fun E V9 => if E = "java/lang/IndexOutOfBoundsException" then rt 1 V9 else (if E = "java/lang/UnsupportedOperationException" then rt 2 V9 else (if E = "java/lang/IllegalStateException" then rt 3 V9 else (if E = "java/lang/IllegalArgumentException" then rt 4 V9 else none))))) (fun T => ev_X9_throwAt n T 207 (Int32.ofNat g)) gI := by
    intro z
    refine q_th hI hi (c := 3) (T := V) (E := "java/lang/IllegalStateException") ?_ (FrQ.rf hI.L hI.M) (by rw [if_neg (by decide), if_neg (by decide), if_pos rfl]) (by decide) (fun T fT => ?_)
    · unfold ev_X8_throwAt eX8_throwAt_0
      rw [c_reqC1 hI.L hW hC hg, bd_rt, c_reqT1 hI.L e, bd_rt, ob_1, c_reqA hI.L hC]
      rcases z with ⟨z1, _⟩ | ⟨z1, _, z3, _⟩
      · rw [if_neg z1, bd_th]
      · rw [if_pos z1, bd_rt, v7, if_neg z3]
    · have l1 : zLay (wI T 207 0 0) := zLay_wI fT.1
      have q1 : Qr (wI T 207 0 0) w := tq (fT.Q hF)
      obtain ⟨g7, e7⟩ := r_v l1 q1 (k := 167) (x := 167) (by decide) rfl
      obtain ⟨g6, e8⟩ := r_v l1 q1 (k := 166) (x := 166) (by decide) rfl
      refine ⟨wI (wI T 207 0 0) 207 0 3, 0, ?_, ((FrX.rf fT.1).t (x := 0)).t, tz l1⟩
      unfold ev_X9_throwAt eX9_throwAt_0 eX9_throwAt_41
      rw [r_isC1 fT.1 (fT.Q hF) hW hg, bd_rt, r_ask1 (by omega) fT.1 (fT.Q hF) hW a, bd_rt, if_neg (by decide), r71 l1, ob_1, if_pos g7, e7]
      rcases z with ⟨_, z2⟩ | ⟨_, z2, _, z4⟩
      · rw [if_pos z2, r_no l1, bd_rt]
      · rw [if_neg z2, ob_1, if_pos g6, e8, e6, r_of5 l1 q1 o8, bd_rt, if_pos z4, r_no l1, bd_rt]
  rcases nbz hW.a (by omega) with ⟨z0, z1, z2⟩ | ⟨z0, z1, z2⟩
  · exact bad (.inl ⟨z1, z0⟩)
  rcases nbz (hW.f hu (j := 5) (by omega)) (by decide) with ⟨y0, y1, y2⟩ | ⟨y0, y1, y2⟩
  · exact bad (.inr ⟨z1, z0, y1, y0⟩)
  generalize hB : (!decide (w (2 + g) = 1) && (!decide (4 < dst w (cellN w (ord w t)) g) && see w (cellN w (ord w t)) g)) = B
  have cF : ev_X8_throwAt n V 0 (Int32.ofNat g) = if B = true then bd (ev_X8_remember n V 0 2 (Int32.ofNat g)) (fun _ V9 => (vR V9 0 3).bind (fun a10v => bd (ev_X2_hurl n V9 a10v (Int32.ofNat g)) (fun r12 V11 => rt r12 V11) th)) th else th "java/lang/IllegalArgumentException" V := by
    unfold ev_X8_throwAt eX8_throwAt_0
    rw [c_reqC1 hI.L hW hC hg, bd_rt, c_reqT1 hI.L e, bd_rt, ob_1, c_reqA hI.L hC, if_pos z1, bd_rt, v7, if_pos y1, r03 hI.L, ob_1, c_canHurl (by omega) hI.L hW hC hu hg, bd_rt, hB]
    cases B
    · rw [if_pos (show bi false = 0 from rfl), if_neg (by decide)]
    · rw [if_neg (show ¬ bi true = 0 by decide), if_pos rfl]
  have rF : ∀ T, zLay T → Qr T w → ev_X9_throwAt n T 207 (Int32.ofNat g) = if B = true then bd (ev_X9_carries n (wI T 207 0 0) 207 2 (Int32.ofNat g)) (fun r18 V17 => rt r18 V17) th else rt 0 (wI (wI T 207 0 0) 207 0 4) := fun T lT qT => by
    have l1 : zLay (wI T 207 0 0) := zLay_wI lT
    have q1 : Qr (wI T 207 0 0) w := tq qT
    obtain ⟨g7, e7⟩ := r_v l1 q1 (k := 167) (x := 167) (by decide) rfl
    obtain ⟨g6, e8⟩ := r_v l1 q1 (k := 166) (x := 166) (by decide) rfl
    obtain ⟨g9, e9⟩ := r_gc l1 q1 (c := g) (by omega)
    unfold ev_X9_throwAt eX9_throwAt_0 eX9_throwAt_101
    rw [r_isC1 lT qT hW hg, bd_rt, r_ask1 (by omega) lT qT hW a, bd_rt, if_neg (by decide), r71 l1, ob_1, if_pos g7, e7, if_neg z0, ob_1, if_pos g6, e8, e6, r_of5 l1 q1 o8, bd_rt, if_neg y0, r71 l1, ob_1, if_pos g6, e8, e6, r_of2 l1 q1 o8, bd_rt, cell_e hW hu, r71 l1, ob_1, if_pos g9, e9]
    by_cases x1 : w (2 + g) = 1
    · rw [if_pos x1, r_no l1, bd_rt, ← hB, decide_eq_true x1]; rfl
    rw [if_neg x1, r_apart l1 q1 hW cl hg, bd_rt]
    by_cases x2 : 4 < dst w (cellN w (ord w t)) g
    · rw [if_pos (by exact (of_lt (a := 4) (by omega) (by omega)).mpr x2), r_no l1, bd_rt, ← hB, decide_eq_false x1, decide_eq_true x2]; rfl
    rw [if_neg (fun e => by exact x2 ((of_lt (a := 4) (by omega) (by omega)).mp e)), r_sees (by omega) l1 q1 hW cl hg, bd_rt, ← hB, decide_eq_false x1, decide_eq_false x2]
    cases see w (cellN w (ord w t)) g
    · rw [if_pos (show bi false = 0 from rfl), r_no l1, bd_rt]; rfl
    · rw [if_neg (show ¬ bi true = 0 by decide)]; rfl
  cases hA : B
  · refine q_th hI hi (c := 4) (T := V) (E := "java/lang/IllegalArgumentException") ?_ (FrQ.rf hI.L hI.M) (by rw [if_neg (by decide), if_neg (by decide), if_neg (by decide), if_pos rfl]) (by decide) (fun T fT => ?_)
    · rw [cF, hA, if_neg (by decide)]
    · have l1 : zLay (wI T 207 0 0) := zLay_wI fT.1
      exact ⟨wI (wI T 207 0 0) 207 0 4, 0, by rw [rF T fT.1 (fT.Q hF), hA, if_neg (by decide)], ((FrX.rf fT.1).t (x := 0)).t, tz l1⟩
  · have hl : LG w (ord w t) 2 g := .inr (.inr (.inl ⟨rfl, hg, y2, z2⟩))
    refine p_cmd hn hI hi hF f hl b (FrQ.rf hI.L hI.M) (A := fun V9 => (vR V9 0 3).bind (fun a10v => bd (ev_X2_hurl n V9 a10v (Int32.ofNat g)) (fun r12 V11 => rt r12 V11) th)) ?_ (fun T lT rT => ?_) (fun T lT qT => ?_)
    · rw [cF, hA, if_pos rfl]; rfl
    · obtain ⟨U, eU, rU, fU⟩ := c_hurl (n := n) (by omega) lT b2 rT f hl
      exact ⟨U, by rw [r03 lT, ob_1, eU, bd_rt], rU, fU⟩
    · exact ⟨wI T 207 0 0, by rw [rF T lT qT, hA, if_pos rfl]; rfl, (FrX.rf lT).t, tz lT⟩
/-- move -/
theorem p_move {x : Int32} (hn : 2100 < n) (hI : Inv i V) (hi : i < 512) : PairI i (ev_L_move n V 0 x 222) (fun T => ev_X9_move n T 207 x) gI := by
  obtain ⟨N, hc, q, w, w0, kd, ar, hF, hW, hC, hQ, hN, hP⟩ := hI.get
  have u8 := hW.u8; have rc := hW.rc
  unfold ev_L_move eL_move_0
  rcases out_k (k := nR w * nC w) (by omega) x with g1 | ⟨g, hg, rfl⟩
  · refine q_th hI hi (c := 1) (T := V) (E := "java/lang/IndexOutOfBoundsException") ?_ (FrQ.rf hI.L hI.M) (if_pos rfl) (by decide) (fun T fT => ?_)
    · unfold ev_X8_move eX8_move_0
      rw [c_reqC0 hI.L hW hC g1, bd_th]
    · refine ⟨wI T 207 0 1, 0, ?_, (FrX.rf fT.1).t, tz fT.1⟩
      unfold ev_X9_move eX9_move_0
      rw [r_isC0 fT.1 (fT.Q hF) hW g1, bd_rt, r_ask0 fT.1, bd_rt, if_pos rfl]
  rcases onT (n := n) hI.L hW hC hP hN with ⟨a, b, t, f, e6, e⟩ | ⟨a, b, c, e⟩
  rotate_left
  · refine q_th hI hi (c := 2) (T := V) (E := "java/lang/UnsupportedOperationException") ?_ (FrQ.rf hI.L hI.M) (by rw [if_neg (by decide), if_pos rfl]) (by decide) (fun T fT => ?_)
    · unfold ev_X8_move eX8_move_0
      rw [c_reqC1 hI.L hW hC hg, bd_rt, c_reqT0 hI.L e, bd_th]
    · refine ⟨wI T 207 0 2, 0, ?_, (FrX.rf fT.1).t, tz fT.1⟩
      unfold ev_X9_move eX9_move_0
      rw [r_isC1 fT.1 (fT.Q hF) hW hg, bd_rt, r_ask2 (by omega) fT.1 (fT.Q hF) hW a, bd_rt, if_pos rfl]
  have hu := f.1.u
  have o8 : ord w t < 8 := by omega
  have cl := cell_lt hW hu
  have t6 := tb4_le _ (kindN_lt hW hu)
  have tbe := (tb_u hW hu (q := 4) (by decide)).1
  rcases nbz hW.a (by omega) with ⟨z0, z1, z2⟩ | ⟨z0, z1, z2⟩
  · refine q_th hI hi (c := 3) (T := V) (E := "java/lang/IllegalStateException") ?_ (FrQ.rf hI.L hI.M) (by rw [if_neg (by decide), if_neg (by decide), if_pos rfl]) (by decide) (fun T fT => ?_)
    · unfold ev_X8_move eX8_move_0
      rw [c_reqC1 hI.L hW hC hg, bd_rt, c_reqT1 hI.L e, bd_rt, ob_1, c_reqA hI.L hC, if_neg z1, bd_th]
    · have l1 : zLay (wI T 207 0 0) := zLay_wI fT.1
      obtain ⟨g7, e7⟩ := r_v l1 (tq (fT.Q hF)) (k := 167) (x := 167) (by decide) rfl
      refine ⟨wI (wI T 207 0 0) 207 0 3, 0, ?_, ((FrX.rf fT.1).t (x := 0)).t, tz l1⟩
      unfold ev_X9_move eX9_move_0
      rw [r_isC1 fT.1 (fT.Q hF) hW hg, bd_rt, r_ask1 (by omega) fT.1 (fT.Q hF) hW a, bd_rt, if_neg (by decide), r71 l1, ob_1, if_pos g7, e7, if_pos z0, r_no l1, bd_rt]
  obtain ⟨U, fd, dn, eU, pU, fU, qU⟩ := c_measure (n := n) (by omega) hI.L b2 hW hC hu e6 hg
  have rU := hC.fA b2 fU
  have v4 : vI U (2 + 9 + ord w t) 4 = Int32.ofNat (cellN w (ord w t)) := by rw [← cell_e hW hu]; exact rU.u hu o8 (j := 2) (by decide)
  have v2 : vI U (2 + 9 + ord w t) 2 = w (67 + 11 * ord w t + 1) := rU.u hu o8 (j := 1) (by decide)
  have hf : ∀ c, c < nR w * nC w → fd c ≤ 1000000 := fun c hc => by
    by_cases y : ent w g = 0 ∧ cellN w (ord w t) ≠ g
    · rw [if_pos y] at qU; rw [qU c]; omega
    · rw [if_neg y] at qU; exact (qU.2.1 c hc).1
  have fl := hf _ cl
  have cF : ev_X8_move n V 0 (Int32.ofNat g) = if g = cellN w (ord w t) then th "java/lang/IllegalArgumentException" U else if fd (cellN w (ord w t)) ≤ tbN 4 (kindN w (ord w t)) then bd (ev_X8_remember n U 0 0 (Int32.ofNat g)) (fun _ V13 => (vR V13 0 3).bind (fun a14v => (vR V13 0 10).bind (fun a15v => bd (ev_X2_walk n V13 a14v (Int32.ofNat g) a15v) (fun r17 V16 => rt r17 V16) th))) th else th "java/lang/IllegalArgumentException" U := by
    unfold ev_X8_move eX8_move_0 eX8_move_56
    rw [c_reqC1 hI.L hW hC hg, bd_rt, c_reqT1 hI.L e, bd_rt, ob_1, c_reqA hI.L hC, if_pos z1, bd_rt, r71x hI.L, ob_1, r03 hI.L, ob_1, eU, bd_rt, v4]
    by_cases y : g = cellN w (ord w t)
    · rw [if_pos (by rw [← y]), if_pos y]
    rw [if_neg (fun e => y ((of_inj (by omega) (by omega)).mp e)), if_neg y, r71x fU.1, ob_1, c_costsFrom fU.1 pU rc cl, bd_rt, v2, if_pos (kd_in hW hu), tbe]
    by_cases y2 : fd (cellN w (ord w t)) ≤ tbN 4 (kindN w (ord w t))
    · rw [if_pos ((of_le (by omega) (by omega)).mpr y2), if_pos y2]
    · rw [if_neg (fun e => y2 ((of_le (by omega) (by omega)).mp e)), if_neg y2]
  have bad : (g = cellN w (ord w t) ∨ ¬ fd (cellN w (ord w t)) ≤ tbN 4 (kindN w (ord w t))) → (∀ T, zLay T → Qr T w → ∃ S r, ev_X9_costsTo n T 207 (Int32.ofNat g) = rt r S ∧ FrX T S ∧ Qr S w ∧ (r < 1 ∨ (¬ r < 1 ∧ ¬ r ≤ Int32.ofNat (tbN 4 (kindN w (ord w t)))))) → PairI i (bd (ev_X8_move n V 0 (Int32.ofNat g)) (fun r2 V1 => if gvp_in 0 (vN V1 222) = true then sq (wJ V1 222 ((0 : Int32).toNatClampNeg) ((r2 : Int32).toInt64)) (fun V3 => rt 0 V3) else none) (fun E V9 => if E = "java/lang/IndexOutOfBoundsException" then rt 1 V9 else (if E = "java/lang/UnsupportedOperationException" then rt 2 V9 else (if E = "java/lang/IllegalStateException" then rt 3 V9 else (if E = "java/lang/IllegalArgumentException" then rt 4 V9 else none))))) (fun T => ev_X9_move n T 207 (Int32.ofNat g)) gI := by
    intro y h
    refine q_th hI hi (c := 4) (T := U) (E := "java/lang/IllegalArgumentException") ?_ (fU.q hI.M) (by rw [if_neg (by decide), if_neg (by decide), if_neg (by decide), if_pos rfl]) (by decide) (fun T fT => ?_)
    · rw [cF]
      by_cases y1 : g = cellN w (ord w t)
      · rw [if_pos y1]
      · rw [if_neg y1, if_neg (y.resolve_left y1)]
    · have l1 : zLay (wI T 207 0 0) := zLay_wI fT.1
      have q1 : Qr (wI T 207 0 0) w := tq (fT.Q hF)
      obtain ⟨g7, e7⟩ := r_v l1 q1 (k := 167) (x := 167) (by decide) rfl
      obtain ⟨S, r, eS, fS, qS, hS⟩ := h _ l1 q1
      obtain ⟨g6, e8⟩ := r_v fS.1 qS (k := 166) (x := 166) (by decide) rfl
      refine ⟨wI S 207 0 4, 0, ?_, ((FrX.rf fT.1).t.tr fS).t, tz fS.1⟩
      unfold ev_X9_move eX9_move_0 eX9_move_59
      rw [r_isC1 fT.1 (fT.Q hF) hW hg, bd_rt, r_ask1 (by omega) fT.1 (fT.Q hF) hW a, bd_rt, if_neg (by decide), r71 l1, ob_1, if_pos g7, e7, if_neg z0, eS, bd_rt]
      rcases hS with h1 | ⟨h1, h2⟩
      · rw [if_pos h1, r_no fS.1, bd_rt]
      · rw [if_neg h1, r71 fS.1, ob_1, if_pos g6, e8, e6, r_kindly (y := 4) (q := 4) fS.1 qS hW hu (by decide) rfl, bd_rt, tbe, if_neg h2, r_no fS.1, bd_rt]
  by_cases c0 : cellN w (ord w t) = g
  · exact bad (.inl c0.symm) (fun T lT qT => ⟨T, 0, r_costsTo0 lT qT o8 e6 (by rw [cell_e hW hu, c0]), FrX.rf lT, qT, .inl (by decide)⟩)
  by_cases c1 : ent w g = 0
  · rw [if_pos ⟨c1, c0⟩] at qU
    exact bad (.inr (by rw [qU]; omega)) (fun T lT qT => ⟨T, -1, r_costsTo1 (by omega) lT qT hW hu e6 hg c0 c1, FrX.rf lT, qT, .inl (by decide)⟩)
  rw [if_neg (fun y => c1 y.1)] at qU
  have f1 : 0 < fd (cellN w (ord w t)) := by
    by_cases y : fd (cellN w (ord w t)) < 1000000
    · obtain ⟨s, _, _, b, d⟩ := qU.2.2.1 _ cl c0 y
      omega
    · omega
  by_cases y : fd (cellN w (ord w t)) ≤ tbN 4 (kindN w (ord w t))
  rotate_left
  · refine bad (.inr y) (fun T lT qT => ?_)
    obtain ⟨S, eS, aS, fS, qS⟩ := r_costsTo2 (n := n) (by omega) lT qT hW hu e6 hg c0 (by omega) qU
    refine ⟨S, _, eS, fS.x, qS, ?_⟩
    by_cases y3 : fd (cellN w (ord w t)) < 1000000
    · rw [if_pos y3]
      exact .inr ⟨fun e => by have := (of_lt (b := 1) (by omega) (by omega)).mp e; omega, fun e => y ((of_le (by omega) (by omega)).mp e)⟩
    · rw [if_neg y3]; exact .inl (by decide)
  have hl : LG w (ord w t) 0 g := .inl ⟨rfl, hg, c0, by omega, ⟨fd, qU, by omega⟩, z2⟩
  refine p_cmd hn hI hi hF f hl b (fU.q hI.M) (A := fun V13 => (vR V13 0 3).bind (fun a14v => (vR V13 0 10).bind (fun a15v => bd (ev_X2_walk n V13 a14v (Int32.ofNat g) a15v) (fun r17 V16 => rt r17 V16) th))) ?_ (fun T lT rT => ?_) (fun T lT qT => ?_)
  · rw [cF, if_neg (fun e => c0 e.symm), if_pos y]; rfl
  · obtain ⟨S, eS, rS, fS⟩ := c_walk (n := n) (by omega) lT b2 rT f hl
    exact ⟨S, by rw [r03 lT, ob_1, r71x lT, ob_1, eS, bd_rt], rS, fS⟩
  · have l1 : zLay (wI T 207 0 0) := zLay_wI lT
    have q1 : Qr (wI T 207 0 0) w := tq qT
    obtain ⟨g7, e7⟩ := r_v l1 q1 (k := 167) (x := 167) (by decide) rfl
    obtain ⟨S, eS, aS, fS, qS⟩ := r_costsTo2 (n := n) (by omega) l1 q1 hW hu e6 hg c0 (by omega) qU
    obtain ⟨g6, e8⟩ := r_v fS.1 qS (k := 166) (x := 166) (by decide) rfl
    refine ⟨S, ?_, (FrX.rf lT).t.tr fS.x, by rw [vI_C (fS.2 207 (by omega))]; exact tz lT⟩
    unfold ev_X9_move eX9_move_0
    rw [r_isC1 lT qT hW hg, bd_rt, r_ask1 (by omega) lT qT hW a, bd_rt, if_neg (by decide), r71 l1, ob_1, if_pos g7, e7, if_neg z0, eS, if_pos (by omega), bd_rt, if_neg (fun e => by have := (of_lt (b := 1) (by omega) (by omega)).mp e; omega), r71 fS.1, ob_1, if_pos g6, e8, e6, r_kindly (y := 4) (q := 4) fS.1 qS hW hu (by decide) rfl, bd_rt, tbe, if_pos ((of_le (by omega) (by omega)).mpr y)]; rfl
end
