/-! the commands' fronts -/
section
variable {i n : Nat} {V T : VS} {w : RW}
theorem r_may0 {z : Int32} (hn : 8 < n) (hL : zLay T) (hQ : Qr T w) (hW : WF w) (a : cnd w = false) : ev_X9_may n T 207 z = rt 0 (wI T 207 0 1) := by
  obtain ⟨r, er, r1, _⟩ := r_conditions (n := n) hn hL hQ hW
  unfold ev_X9_may eX9_may_0 eX9_may_22
  rw [er, bd_rt, if_neg (fun x => by rw [r1.mp x] at a; cases a), sq_eq, tz hL, if_neg (by decide)]
theorem r_may2 (hn : 8 < n) (hL : zLay T) (hQ : Qr T w) (hW : WF w) (a : cnd w = true) : ev_X9_may n T 207 0 = rt 0 (wI T 207 0 2) := by
  obtain ⟨r, er, r1, _⟩ := r_conditions (n := n) hn hL hQ hW
  unfold ev_X9_may eX9_may_0 eX9_may_22
  rw [er, bd_rt, if_pos (r1.mpr a), if_pos rfl, sq_eq, tz hL, if_neg (by decide)]
theorem r_may1 (hn : 8 < n) (hL : zLay T) (hQ : Qr T w) (hW : WF w) (a : cnd w = true) : ev_X9_may n T 207 1 = rt 1 (wI T 207 0 0) := by
  obtain ⟨r, er, r1, _⟩ := r_conditions (n := n) hn hL hQ hW
  unfold ev_X9_may eX9_may_0 eX9_may_22
  rw [er, bd_rt, if_pos (r1.mpr a), if_neg (by decide), sq_eq, tz hL, if_pos rfl]
theorem c_reqA (hL : zLay V) (hC : Rp 2 V w) : ev_X8_requireActions n V 0 = if 1 ≤ w 167 then rt () V else th "java/lang/IllegalStateException" V := by
  unfold ev_X8_requireActions eX8_requireActions_0
  rw [r03 hL, ob_1, hC.acts]
theorem c_reqM {u : Nat} (hC : Rp 2 V w) (hu : u < nU w) (h8 : u < 8) : ev_X8_requireAmmunition n V (2 + 9 + u) = if 1 ≤ w (67 + 11 * u + 4) then rt () V else th "java/lang/IllegalStateException" V := by
  unfold ev_X8_requireAmmunition eX8_requireAmmunition_0
  rw [show vI V (2 + 9 + u) 6 = w (67 + 11 * u + 4) from hC.u hu h8 (j := 4) (by decide)]
/-- endTurn -/
theorem p_endTurn (hn : 2100 < n) (hI : Inv i V) (hi : i < 512) : PairI i (ev_L_endTurn n V 0 222) (fun T => ev_X9_endTurn n T 207) gI := by
  obtain ⟨N, hc, q, w, w0, kd, ar, hF, hW, hC, hQ, hN, hP⟩ := hI.get
  unfold ev_L_endTurn eL_endTurn_0
  rcases onT (n := n) hI.L hW hC hP hN with ⟨a, b, t, f, e6, e⟩ | ⟨a, b, c, e⟩
  · have hl : LG w (ord w t) 6 0 := .inr (.inr (.inr (.inr (.inr (.inr rfl)))))
    refine p_cmd hn hI hi hF f hl b (FrQ.rf hI.L hI.M) (A := fun V4 => (vR V4 0 3).bind (fun a5v => bd (ev_X2_finishTurn n V4 a5v) (fun r7 V6 => rt r7 V6) th)) ?_ (fun T lT rT => ?_) (fun T lT qT => ?_)
    · unfold ev_X8_endTurn eX8_endTurn_0
      rw [c_reqT1 hI.L e, bd_rt, ob_1]; rfl
    · obtain ⟨U, eU, rU, fU⟩ := c_finish (n := n) (by omega) lT b2 rT f hl
      exact ⟨U, by rw [r03 lT, ob_1, eU, bd_rt], rU, fU⟩
    · refine ⟨wI T 207 0 0, ?_, (FrX.rf lT).t, tz lT⟩
      unfold ev_X9_endTurn eX9_endTurn_0
      rw [r_may1 (by omega) lT qT hW a, bd_rt, if_neg (by decide)]; rfl
  · refine q_th hI hi (c := 1) (T := V) (E := "java/lang/UnsupportedOperationException") ?_ (FrQ.rf hI.L hI.M) (if_pos rfl) (by decide) (fun T fT => ?_)
    · unfold ev_X8_endTurn eX8_endTurn_0
      rw [c_reqT0 hI.L e, bd_th]
    · refine ⟨wI T 207 0 1, 0, ?_, (FrX.rf fT.1).t, tz fT.1⟩
      unfold ev_X9_endTurn eX9_endTurn_0
      rw [r_may0 (by omega) fT.1 (fT.Q hF) hW a, bd_rt, if_pos rfl]
theorem p_reload (hn : 2100 < n) (hI : Inv i V) (hi : i < 512) : PairI i (ev_L_reload n V 0 222) (fun T => ev_X9_reload n T 207) gI := by
  obtain ⟨N, hc, q, w, w0, kd, ar, hF, hW, hC, hQ, hN, hP⟩ := hI.get
  unfold ev_L_reload eL_reload_0
  rcases onT (n := n) hI.L hW hC hP hN with ⟨a, b, t, f, e6, e⟩ | ⟨a, b, c, e⟩
  · rcases nbz hW.a (by omega) with ⟨z0, z1, z2⟩ | ⟨z0, z1, z2⟩
    · refine q_th hI hi (c := 2) (T := V) (E := "java/lang/IllegalStateException") ?_ (FrQ.rf hI.L hI.M) (by rw [if_neg (by decide), if_pos rfl]) (by decide) (fun T fT => ?_)
      · unfold ev_X8_reload eX8_reload_0
        rw [c_reqT1 hI.L e, bd_rt, ob_1, c_reqA hI.L hC, if_neg z1, bd_th]
      · obtain ⟨g7, e7⟩ := r_v fT.1 (fT.Q hF) (k := 167) (x := 167) (by decide) rfl
        refine ⟨wI T 207 0 2, 0, ?_, (FrX.rf fT.1).t, tz fT.1⟩
        unfold ev_X9_reload eX9_reload_0 eX9_reload_17
        rw [r71 fT.1, ob_1, if_pos g7, e7, if_pos z2, r_may2 (by omega) fT.1 (fT.Q hF) hW a, bd_rt, if_pos rfl]
    · have hl : LG w (ord w t) 5 0 := .inr (.inr (.inr (.inr (.inr (.inl ⟨rfl, z2⟩)))))
      refine p_cmd hn hI hi hF f hl b (FrQ.rf hI.L hI.M) (A := fun V5 => (vR V5 0 3).bind (fun a6v => bd (ev_X2_refill n V5 a6v) (fun r8 V7 => rt r8 V7) th)) ?_ (fun T lT rT => ?_) (fun T lT qT => ?_)
      · unfold ev_X8_reload eX8_reload_0
        rw [c_reqT1 hI.L e, bd_rt, ob_1, c_reqA hI.L hC, if_pos z1, bd_rt]; rfl
      · obtain ⟨U, eU, rU, fU⟩ := c_refill (n := n) (x := 0) lT b2 rT f
        exact ⟨U, by rw [r03 lT, ob_1, eU, bd_rt], rU, fU⟩
      · obtain ⟨g7, e7⟩ := r_v lT qT (k := 167) (x := 167) (by decide) rfl
        refine ⟨wI T 207 0 0, ?_, (FrX.rf lT).t, tz lT⟩
        unfold ev_X9_reload eX9_reload_0 eX9_reload_17
        rw [r71 lT, ob_1, if_pos g7, e7, if_neg z2, r_may1 (by omega) lT qT hW a, bd_rt, if_neg (by decide)]; rfl
  · refine q_th hI hi (c := 1) (T := V) (E := "java/lang/UnsupportedOperationException") ?_ (FrQ.rf hI.L hI.M) (if_pos rfl) (by decide) (fun T fT => ?_)
    · unfold ev_X8_reload eX8_reload_0
      rw [c_reqT0 hI.L e, bd_th]
    · obtain ⟨g7, e7⟩ := r_v fT.1 (fT.Q hF) (k := 167) (x := 167) (by decide) rfl
      refine ⟨wI T 207 0 1, 0, ?_, (FrX.rf fT.1).t, tz fT.1⟩
      unfold ev_X9_reload eX9_reload_0 eX9_reload_17
      rw [r71 fT.1, ob_1, if_pos g7, e7, c, if_pos (by decide), r_may0 (by omega) fT.1 (fT.Q hF) hW a, bd_rt, if_pos rfl]
theorem p_watch (hn : 2100 < n) (hI : Inv i V) (hi : i < 512) : PairI i (ev_L_watch n V 0 222) (fun T => ev_X9_watch n T 207) gI := by
  obtain ⟨N, hc, q, w, w0, kd, ar, hF, hW, hC, hQ, hN, hP⟩ := hI.get
  have u8 := hW.u8
  unfold ev_L_watch eL_watch_0
  rcases onT (n := n) hI.L hW hC hP hN with ⟨a, b, t, f, e6, e⟩ | ⟨a, b, c, e⟩
  · have hu := f.1.u
    have o8 : ord w t < 8 := by omega
    have t0 : (0 : Int32) ≤ Int32.ofNat (ord w t) := Int32.not_lt.mp (ofn_nn (by omega))
    have t1 : w (67 + 11 * (w 166).toNatClampNeg + 4) = w (67 + 11 * ord w t + 4) := by rw [e6, tn_of (by omega)]
    have bad : (¬ 1 ≤ w 167 ∧ w 167 ≤ 0) ∨ (1 ≤ w 167 ∧ ¬ w 167 ≤ 0 ∧ ¬ 1 ≤ w (67 + 11 * ord w t + 4) ∧ w (67 + 11 * ord w t + 4) ≤ 0) → PairI i (bd (ev_X8_watch n V 0) (fun r2 V1 => if gvp_in 0 (vN V1 222) = true then sq (wJ V1 222 ((0 : Int32).toNatClampNeg) ((r2 : Int32).toInt64)) (fun V3 => rt 0 V3) else none) (fun E V9 => if E = "java/lang/UnsupportedOperationException" then rt 1 V9 else (if E = "java/lang/IllegalStateException" then rt 2 V9 else none))) (fun T => ev_X9_watch n T 207) gI := by
      intro z
      refine q_th hI hi (c := 2) (T := V) (E := "java/lang/IllegalStateException") ?_ (FrQ.rf hI.L hI.M) (by rw [if_neg (by decide), if_pos rfl]) (by decide) (fun T fT => ?_)
      · unfold ev_X8_watch eX8_watch_0
        rw [c_reqT1 hI.L e, bd_rt, ob_1, c_reqA hI.L hC]
        rcases z with ⟨z1, _⟩ | ⟨z1, _, z3, _⟩
        · rw [if_neg z1, bd_th]
        · rw [if_pos z1, bd_rt, c_reqM hC hu o8, if_neg z3, bd_th]
      · obtain ⟨g7, e7⟩ := r_v fT.1 (fT.Q hF) (k := 167) (x := 167) (by decide) rfl
        obtain ⟨g6, e8⟩ := r_v fT.1 (fT.Q hF) (k := 166) (x := 166) (by decide) rfl
        refine ⟨wI T 207 0 2, 0, ?_, (FrX.rf fT.1).t, tz fT.1⟩
        unfold ev_X9_watch eX9_watch_0 eX9_watch_47 eX9_watch_36 eX9_watch_47 eX9_watch_48
        rw [r71 fT.1, ob_1, if_pos g7, e7]
        rcases z with ⟨_, z2⟩ | ⟨_, z2, _, z4⟩
        · rw [if_pos z2, r_may2 (by omega) fT.1 (fT.Q hF) hW a, bd_rt, if_pos rfl]
        · rw [if_neg z2, ob_1, if_pos g6, e8, e6, if_pos t0, ob_1, if_pos g6, e8, e6, r_of4 fT.1 (fT.Q hF) o8, bd_rt, if_pos z4, r_may2 (by omega) fT.1 (fT.Q hF) hW a, bd_rt, if_pos rfl]
    rcases nbz hW.a (by omega) with ⟨z0, z1, z2⟩ | ⟨z0, z1, z2⟩
    · exact bad (.inl ⟨z1, z2⟩)
    rcases nbz (hW.f hu (j := 4) (by omega)) (by decide) with ⟨y0, y1, y2⟩ | ⟨y0, y1, y2⟩
    · exact bad (.inr ⟨z1, z2, y1, y2⟩)
    have hl : LG w (ord w t) 4 0 := .inr (.inr (.inr (.inr (.inl rfl))))
    refine p_cmd hn hI hi hF f hl b (FrQ.rf hI.L hI.M) (A := fun V6 => (vR V6 0 3).bind (fun a7v => bd (ev_X2_startWatching n V6 a7v) (fun r9 V8 => rt r9 V8) th)) ?_ (fun T lT rT => ?_) (fun T lT qT => ?_)
    · unfold ev_X8_watch eX8_watch_0
      rw [c_reqT1 hI.L e, bd_rt, ob_1, c_reqA hI.L hC, if_pos z1, bd_rt, c_reqM hC hu o8, if_pos y1, bd_rt]; rfl
    · obtain ⟨U, eU, rU, fU⟩ := c_watch (n := n) (x := 0) lT b2 rT f
      exact ⟨U, by rw [r03 lT, ob_1, eU, bd_rt], rU, fU⟩
    · obtain ⟨g7, e7⟩ := r_v lT qT (k := 167) (x := 167) (by decide) rfl
      obtain ⟨g6, e8⟩ := r_v lT qT (k := 166) (x := 166) (by decide) rfl
      refine ⟨wI T 207 0 0, ?_, (FrX.rf lT).t, tz lT⟩
      unfold ev_X9_watch eX9_watch_0 eX9_watch_36 eX9_watch_48
      rw [r71 lT, ob_1, if_pos g7, e7, if_neg z2, ob_1, if_pos g6, e8, e6, if_pos t0, ob_1, if_pos g6, e8, e6, r_of4 lT qT o8, bd_rt, if_neg y2, r_may1 (by omega) lT qT hW a, bd_rt, if_neg (by decide)]; rfl
  · refine q_th hI hi (c := 1) (T := V) (E := "java/lang/UnsupportedOperationException") ?_ (FrQ.rf hI.L hI.M) (if_pos rfl) (by decide) (fun T fT => ?_)
    · unfold ev_X8_watch eX8_watch_0
      rw [c_reqT0 hI.L e, bd_th]
    · obtain ⟨g7, e7⟩ := r_v fT.1 (fT.Q hF) (k := 167) (x := 167) (by decide) rfl
      refine ⟨wI T 207 0 1, 0, ?_, (FrX.rf fT.1).t, tz fT.1⟩
      unfold ev_X9_watch eX9_watch_0 eX9_watch_47 eX9_watch_48
      rw [r71 fT.1, ob_1, if_pos g7, e7, c, if_pos (by decide), r_may0 (by omega) fT.1 (fT.Q hF) hW a, bd_rt, if_pos rfl]
theorem p_guard (hn : 2100 < n) (hI : Inv i V) (hi : i < 512) : PairI i (ev_L_guard n V 0 222) (fun T => ev_X9_guard n T 207) gI := by
  obtain ⟨N, hc, q, w, w0, kd, ar, hF, hW, hC, hQ, hN, hP⟩ := hI.get
  have u8 := hW.u8
  unfold ev_L_guard eL_guard_0
  rcases onT (n := n) hI.L hW hC hP hN with ⟨a, b, t, f, e6, e⟩ | ⟨a, b, c, e⟩
  · have hu := f.1.u
    have o8 : ord w t < 8 := by omega
    have t0 : (0 : Int32) ≤ Int32.ofNat (ord w t) := Int32.not_lt.mp (ofn_nn (by omega))
    have v9 : vI V (2 + 9 + ord w t) 11 = w (67 + 11 * ord w t + 9) := hC.u hu o8 (j := 9) (by decide)
    have bad : (¬ 1 ≤ w 167 ∧ w 167 ≤ 0) ∨ (1 ≤ w 167 ∧ ¬ w 167 ≤ 0 ∧ w (67 + 11 * ord w t + 9) ≠ 0) → PairI i (bd (ev_X8_guard n V 0) (fun r2 V1 => if gvp_in 0 (vN V1 222) = true then sq (wJ V1 222 ((0 : Int32).toNatClampNeg) ((r2 : Int32).toInt64)) (fun V3 => rt 0 V3) else none) (fun E V9 => if E = "java/lang/UnsupportedOperationException" then rt 1 V9 else (if E = "java/lang/IllegalStateException" then rt 2 V9 else none))) (fun T => ev_X9_guard n T 207) gI := by
      intro z
      refine q_th hI hi (c := 2) (T := V) (E := "java/lang/IllegalStateException") ?_ (FrQ.rf hI.L hI.M) (by rw [if_neg (by decide), if_pos rfl]) (by decide) (fun T fT => ?_)
      · unfold ev_X8_guard eX8_guard_0
        rw [c_reqT1 hI.L e, bd_rt, ob_1, c_reqA hI.L hC]
        rcases z with ⟨z1, _⟩ | ⟨z1, _, z3⟩
        · rw [if_neg z1, bd_th]
        · rw [if_pos z1, bd_rt, v9, if_neg z3]
      · obtain ⟨g7, e7⟩ := r_v fT.1 (fT.Q hF) (k := 167) (x := 167) (by decide) rfl
        obtain ⟨g6, e8⟩ := r_v fT.1 (fT.Q hF) (k := 166) (x := 166) (by decide) rfl
        refine ⟨wI T 207 0 2, 0, ?_, (FrX.rf fT.1).t, tz fT.1⟩
        unfold ev_X9_guard eX9_guard_0 eX9_guard_48 eX9_guard_36 eX9_guard_48 eX9_guard_49
        rw [r71 fT.1, ob_1, if_pos g7, e7]
        rcases z with ⟨_, z2⟩ | ⟨_, z2, z4⟩
        · rw [if_pos z2, r_may2 (by omega) fT.1 (fT.Q hF) hW a, bd_rt, if_pos rfl]
        · rw [if_neg z2, ob_1, if_pos g6, e8, e6, if_pos t0, ob_1, if_pos g6, e8, e6, r_of9 fT.1 (fT.Q hF) o8, bd_rt, if_neg z4, r_may2 (by omega) fT.1 (fT.Q hF) hW a, bd_rt, if_pos rfl]
    rcases nbz hW.a (by omega) with ⟨z0, z1, z2⟩ | ⟨z0, z1, z2⟩
    · exact bad (.inl ⟨z1, z2⟩)
    by_cases y : w (67 + 11 * ord w t + 9) = 0
    rotate_left
    · exact bad (.inr ⟨z1, z2, y⟩)
    have hl : LG w (ord w t) 3 0 := .inr (.inr (.inr (.inl ⟨rfl, z2⟩)))
    refine p_cmd hn hI hi hF f hl b (FrQ.rf hI.L hI.M) (A := fun V5 => (vR V5 0 3).bind (fun a6v => bd (ev_X2_startGuarding n V5 a6v) (fun r8 V7 => rt r8 V7) th)) ?_ (fun T lT rT => ?_) (fun T lT qT => ?_)
    · unfold ev_X8_guard eX8_guard_0
      rw [c_reqT1 hI.L e, bd_rt, ob_1, c_reqA hI.L hC, if_pos z1, bd_rt, v9, if_pos y]; rfl
    · obtain ⟨U, eU, rU, fU⟩ := c_guard (n := n) (x := 0) lT b2 rT f
      exact ⟨U, by rw [r03 lT, ob_1, eU, bd_rt], rU, fU⟩
    · obtain ⟨g7, e7⟩ := r_v lT qT (k := 167) (x := 167) (by decide) rfl
      obtain ⟨g6, e8⟩ := r_v lT qT (k := 166) (x := 166) (by decide) rfl
      refine ⟨wI T 207 0 0, ?_, (FrX.rf lT).t, tz lT⟩
      unfold ev_X9_guard eX9_guard_0 eX9_guard_36 eX9_guard_49
      rw [r71 lT, ob_1, if_pos g7, e7, if_neg z2, ob_1, if_pos g6, e8, e6, if_pos t0, ob_1, if_pos g6, e8, e6, r_of9 lT qT o8, bd_rt, if_pos y, r_may1 (by omega) lT qT hW a, bd_rt, if_neg (by decide)]; rfl
  · refine q_th hI hi (c := 1) (T := V) (E := "java/lang/UnsupportedOperationException") ?_ (FrQ.rf hI.L hI.M) (if_pos rfl) (by decide) (fun T fT => ?_)
    · unfold ev_X8_guard eX8_guard_0
      rw [c_reqT0 hI.L e, bd_th]
    · obtain ⟨g7, e7⟩ := r_v fT.1 (fT.Q hF) (k := 167) (x := 167) (by decide) rfl
      refine ⟨wI T 207 0 1, 0, ?_, (FrX.rf fT.1).t, tz fT.1⟩
      unfold ev_X9_guard eX9_guard_0 eX9_guard_48 eX9_guard_49
      rw [r71 fT.1, ob_1, if_pos g7, e7, c, if_pos (by decide), r_may0 (by omega) fT.1 (fT.Q hF) hW a, bd_rt, if_pos rfl]
end
