/-! questions about units and the round -/
section
variable {i n : Nat} {V T : VS} {w : RW}
theorem Inv.get (hI : Inv i V) : ∃ N hc q w w0 kd ar, FtV i V N hc q w w0 kd ar ∧ WF w ∧ Rp 2 V w ∧ Qr V w ∧ N ≤ 512 ∧ Ph N w w0 kd ar := by
  obtain ⟨i5, _, _, _, _, _, N, hc, q, w, w0, kd, ar, hF⟩ := hI
  exact ⟨N, hc, q, w, w0, kd, ar, hF, hF.W i5, hF.C, hF.Q, by have := hF.1; omega, hF.P⟩
theorem FrQ.Q {w0 : RW} {N hc q : Nat} {kd ar : Nat → Nat} (f : FrQ V T) (h : FtV i V N hc q w w0 kd ar) : Qr T w := (f.ft h).Q
theorem FrQ.C {w0 : RW} {N hc q : Nat} {kd ar : Nat → Nat} (f : FrQ V T) (h : FtV i V N hc q w w0 kd ar) : Rp 2 T w := (f.ft h).C
theorem p_unitCount (hI : Inv i V) (hi : i < 512) : PairV i (ev_X8_unitCount n V 0) (fun T => ev_X9_unitCount n T 207) := by
  obtain ⟨N, hc, q, w, w0, kd, ar, hF, hW, hC, hQ, hN, hP⟩ := hI.get
  have l1 : zLay (wI V 207 0 0) := zLay_wI hI.L
  obtain ⟨g6, e6⟩ := r_v l1 (tq hQ) (k := 66) (x := 66) (by decide) rfl
  refine q_v hI hi (r := w 66) ?_ ⟨wI V 207 0 0, ?_, (FrX.rf hI.L).t⟩
  · unfold ev_X8_unitCount eX8_unitCount_0
    rw [r03 hI.L, ob_1, hC.count]
  · unfold ev_X9_unitCount eX9_unitCount_0
    rw [sq_eq, r71 l1, ob_1, if_pos g6, e6]
theorem p_round (hI : Inv i V) (hi : i < 512) : PairV i (ev_X8_round n V 0) (fun T => ev_X9_round n T 207) := by
  obtain ⟨N, hc, q, w, w0, kd, ar, hF, hW, hC, hQ, hN, hP⟩ := hI.get
  have l1 : zLay (wI V 207 0 0) := zLay_wI hI.L
  obtain ⟨g6, e6⟩ := r_v l1 (tq hQ) (k := 156) (x := 156) (by decide) rfl
  refine q_v hI hi (r := w 156) ?_ ⟨wI V 207 0 0, ?_, (FrX.rf hI.L).t⟩
  · unfold ev_X8_round eX8_round_0
    rw [r03 hI.L, ob_1, hC.round]
  · unfold ev_X9_round eX9_round_0
    rw [sq_eq, r71 l1, ob_1, if_pos g6, e6]
theorem p_eventCount (hI : Inv i V) (hi : i < 512) : PairV i (ev_X8_eventCount n V 0) (fun T => ev_X9_eventCount n T 207) := by
  obtain ⟨N, hc, q, w, w0, kd, ar, hF, hW, hC, hQ, hN, hP⟩ := hI.get
  have l1 : zLay (wI V 207 0 0) := zLay_wI hI.L
  obtain ⟨g6, e6⟩ := r_v l1 (tq hQ) (k := 168) (x := 168) (by decide) rfl
  refine q_v hI hi (r := w 168) ?_ ⟨wI V 207 0 0, ?_, (FrX.rf hI.L).t⟩
  · unfold ev_X8_eventCount eX8_eventCount_0
    rw [r03 hI.L, ob_1, zr11 hI.L b2, ob_1, hC.ecount]
  · unfold ev_X9_eventCount eX9_eventCount_0
    rw [sq_eq, r71 l1, ob_1, if_pos g6, e6]
theorem p_commandCount (hI : Inv i V) (hi : i < 512) : PairV i (ev_X8_commandCount n V 0) (fun T => ev_X9_commandCount n T 207) := by
  obtain ⟨N, hc, q, w, w0, kd, ar, hF, hW, hC, hQ, hN, hP⟩ := hI.get
  have l1 : zLay (wI V 207 0 0) := zLay_wI hI.L
  obtain ⟨g6, e6⟩ := r_v l1 (tq hQ) (k := 289) (x := 289) (by decide) rfl
  refine q_v hI hi (r := w 289) ?_ ⟨wI V 207 0 0, ?_, (FrX.rf hI.L).t⟩
  · unfold ev_X8_commandCount eX8_commandCount_0
    rw [r04 hI.L, ob_1, hF.2.2.2.2.2.1.2.1, hP.n9 (by omega)]
  · unfold ev_X9_commandCount eX9_commandCount_0
    rw [sq_eq, r71 l1, ob_1, if_pos g6, e6]
theorem p_condition (hn : 8 < n) (hI : Inv i V) (hi : i < 512) : PairV i (ev_X8_condition n V 0) (fun T => ev_X9_condition n T 207) := by
  obtain ⟨N, hc, q, w, w0, kd, ar, hF, hW, hC, hQ, hN, hP⟩ := hI.get
  have l1 : zLay (wI V 207 0 0) := zLay_wI hI.L
  obtain ⟨r, er, _, e⟩ := r_conditions (n := n) hn l1 (tq hQ) hW
  refine q_v hI hi (r := r) ?_ ⟨wI V 207 0 0, ?_, (FrX.rf hI.L).t⟩
  · unfold ev_X8_condition eX8_condition_0
    rw [r03 hI.L, ob_1, c_hasBegun hC, bd_rt, e]
    by_cases g : w 156 ≤ 0
    · rw [if_pos g, if_pos rfl, if_pos g]
    rw [if_neg g, if_neg (by decide), if_neg g, r03 hI.L, ob_1, c_hasLiving hn hI.L b2 hW hC, bd_rt, r03 hI.L, ob_1, c_hasLiving hn hI.L b2 hW hC, bd_rt]
    unfold goB eX8_condition_40
    cases hl w 0 <;> cases hl w 1 <;> rfl
  · unfold ev_X9_condition eX9_condition_0
    rw [sq_eq, er, bd_rt]
/-- whose turn it is -/
theorem onT {N : Nat} {w0 : RW} {kd ar : Nat → Nat} (hL : zLay V) (hW : WF w) (hC : Rp 2 V w) (hP : Ph N w w0 kd ar) (hN : N ≤ 512) : (cnd w = true ∧ ¬ w 156 ≤ 0 ∧ ∃ t, Fgt w t ∧ w 166 = Int32.ofNat (ord w t) ∧ ev_X2_onTurn n V 2 = rt (some (2 + 9 + ord w t)) V) ∨ (cnd w = false ∧ w 166 = -1 ∧ w 167 = 0 ∧ ev_X2_onTurn n V 2 = rt none V) := by
  rcases hP.turn (by omega) with ⟨a, b, t, f⟩ | ⟨a, b, c⟩
  · exact .inl ⟨a, b, t, f, f.1.2.2.2, c_onU hL b2 hW hC f.1.u f.1.2.2.2⟩
  · refine .inr ⟨a, b, c, ?_⟩
    unfold ev_X2_onTurn eX2_onTurn_0
    rw [hC.cur, b, if_pos (by decide)]
theorem p_current (hn : 8 < n) (hI : Inv i V) (hi : i < 512) : PairI i (ev_L_current n V 0 222) (fun T => ev_X9_current n T 207) gI := by
  obtain ⟨N, hc, q, w, w0, kd, ar, hF, hW, hC, hQ, hN, hP⟩ := hI.get
  unfold ev_L_current eL_current_0
  rcases onT (n := n) hI.L hW hC hP hN with ⟨a, b, t, f, e6, e⟩ | ⟨a, b, c, e⟩
  · refine q_ok hI hi (r := w 166) (T := V) ?_ (FrQ.rf hI.L hI.M) (fun T fT => ?_)
    · unfold ev_X8_current eX8_current_0
      rw [r03 hI.L, ob_1, e, bd_rt, om_1, r03 hI.L, ob_1, hC.cur]
    · obtain ⟨r, er, r1, _⟩ := r_conditions (n := n) hn fT.1 (fT.Q hF) hW
      have l1 : zLay (wI T 207 0 0) := zLay_wI fT.1
      obtain ⟨g6, e6⟩ := r_v l1 (tq (fT.Q hF)) (k := 166) (x := 166) (by decide) rfl
      refine ⟨wI T 207 0 0, ?_, (FrX.rf fT.1).t, tz fT.1⟩
      unfold ev_X9_current eX9_current_0 eX9_current_14
      rw [er, bd_rt, if_pos (r1.mpr a), sq_eq, tz fT.1, if_pos rfl, r71 l1, ob_1, if_pos g6, e6]
  · refine q_th hI hi (c := 1) (T := V) (E := "java/util/NoSuchElementException") ?_ (FrQ.rf hI.L hI.M) (if_pos rfl) (by decide) (fun T fT => ?_)
    · unfold ev_X8_current eX8_current_0
      rw [r03 hI.L, ob_1, e, bd_rt, om_0]
    · obtain ⟨r, er, r1, _⟩ := r_conditions (n := n) hn fT.1 (fT.Q hF) hW
      refine ⟨wI T 207 0 1, 0, ?_, (FrX.rf fT.1).t, tz fT.1⟩
      unfold ev_X9_current eX9_current_0 eX9_current_14
      rw [er, bd_rt, if_neg (fun x => by rw [r1.mp x] at a; cases a), sq_eq, tz fT.1, if_neg (by decide)]
theorem p_order {x : Int32} (hI : Inv i V) (hi : i < 512) : PairI i (ev_L_order n V 0 x 222) (fun T => ev_X9_order n T 207 x) gI := by
  obtain ⟨N, hc, q, w, w0, kd, ar, hF, hW, hC, hQ, hN, hP⟩ := hI.get
  have o8 := hW.o8; have u8 := hW.u8
  unfold ev_L_order eL_order_0
  rcases out_k (k := nO w) (by omega) x with g | ⟨j, hj, rfl⟩
  · refine q_th hI hi (c := 1) (T := V) (E := "java/util/NoSuchElementException") ?_ (FrQ.rf hI.L hI.M) (if_pos rfl) (by decide) (fun T fT => ?_)
    · unfold ev_X8_order eX8_order_0 eX8_order_25
      rw [r03 hI.L, ob_1, c_hasBegun hC, bd_rt]
      by_cases g0 : w 156 ≤ 0
      · rw [if_pos g0, if_pos rfl]
      rw [if_neg g0, if_neg (by decide)]
      by_cases g1 : x < 0
      · rw [if_pos g1]
      · rw [if_neg g1, r03 hI.L, ob_1, hC.ocount, hW.oe, if_neg (Int32.not_lt.mpr (g.resolve_left g1))]
    · obtain ⟨g6, e6⟩ := r_v fT.1 (fT.Q hF) (k := 157) (x := 157) (by decide) rfl
      refine ⟨wI T 207 0 1, 0, ?_, (FrX.rf fT.1).t, tz fT.1⟩
      unfold ev_X9_order eX9_order_0 eX9_order_24
      rw [r71 fT.1, ob_1, if_pos g6, e6, hW.oe, in_no (by omega) g, bd_rt, if_pos rfl, sq_eq, tz fT.1, if_neg (by decide)]
  · have b0 : ¬ w 156 ≤ 0 := fun g0 => by
      have := (hP.no (by omega) g0).2.1.2.1
      have : nO w = 0 := by unfold nO; rw [this]; decide
      omega
    refine q_ok hI hi (r := w (158 + j)) (T := V) ?_ (FrQ.rf hI.L hI.M) (fun T fT => ?_)
    · unfold ev_X8_order eX8_order_0
      rw [r03 hI.L, ob_1, c_hasBegun hC, bd_rt, if_neg b0, if_neg (by decide), if_neg (ofn_nn (by omega)), r03 hI.L, ob_1, hC.ocount, hW.oe, if_pos ((of_lt (by omega) (by omega)).mpr hj), ob_1, zr3 hI.L b2, ob_1, zno hI.L b2, if_pos (in_of (by omega) (by decide)), tn_of (by omega), hC.order hj (by omega)]
    · obtain ⟨g6, e6⟩ := r_v fT.1 (fT.Q hF) (k := 157) (x := 157) (by decide) rfl
      have l1 : zLay (wI T 207 0 0) := zLay_wI fT.1
      obtain ⟨g7, e7⟩ := r_v l1 (tq (fT.Q hF)) (k := 158 + j) (x := 158 + Int32.ofNat j) (by omega) (of_add (a := 158))
      refine ⟨wI T 207 0 0, ?_, (FrX.rf fT.1).t, tz fT.1⟩
      unfold ev_X9_order eX9_order_0 eX9_order_24
      rw [r71 fT.1, ob_1, if_pos g6, e6, hW.oe, in_yes hj (by omega), bd_rt, if_neg (by decide), sq_eq, tz fT.1, if_pos rfl, r71 l1, ob_1, if_pos g7, e7]
theorem ix_e {j k : Nat} : (169 + 3 * Int32.ofNat j) + Int32.ofNat k = Int32.ofNat (169 + 3 * j + k) := by
  rw [show (3 : Int32) * Int32.ofNat j = Int32.ofNat (3 * j) from of_mul (a := 3), show (169 : Int32) + Int32.ofNat (3 * j) = Int32.ofNat (169 + 3 * j) from of_add (a := 169), of_add]
theorem p_event {x y : Int32} (hI : Inv i V) (hi : i < 512) : PairI i (ev_L_event n V 0 x y 222) (fun T => ev_X9_event n T 207 x y) gI := by
  obtain ⟨N, hc, q, w, w0, kd, ar, hF, hW, hC, hQ, hN, hP⟩ := hI.get
  have e40 := hW.e40
  unfold ev_L_event eL_event_0
  have bad : ((x < 0 ∨ Int32.ofNat (nE w) ≤ x) ∨ (y < 0 ∨ Int32.ofNat 3 ≤ y)) → PairI i (bd (ev_X8_event n V 0 x y) (fun r2 V1 => if gvp_in 0 (vN V1 222) = true then sq (wJ V1 222 ((0 : Int32).toNatClampNeg) ((r2 : Int32).toInt64)) (fun V3 => rt 0 V3) else none) (fun E V9 => if E = "java/lang/IndexOutOfBoundsException" then rt 1 V9 else none)) (fun T => ev_X9_event n T 207 x y) gI := by
    intro g
    refine q_th hI hi (c := 1) (T := V) (E := "java/lang/IndexOutOfBoundsException") ?_ (FrQ.rf hI.L hI.M) (if_pos rfl) (by decide) (fun T fT => ?_)
    · unfold ev_X8_event eX8_event_0 eX8_event_27
      by_cases g1 : x < 0
      · rw [if_pos g1]
      rw [if_neg g1, r03 hI.L, ob_1, zr11 hI.L b2, ob_1, hC.ecount, hW.ee]
      by_cases g2 : Int32.ofNat (nE w) ≤ x
      · rw [if_pos g2]
      rw [if_neg g2]
      by_cases g3 : y < 0
      · rw [if_pos g3]
      rw [if_neg g3, if_neg]
      intro g4
      have g5 : Int32.ofNat 3 ≤ y := (g.resolve_left (fun q => q.elim g1 g2)).resolve_left g3
      rw [Int32.le_iff_toInt_le] at g4 g5
      have z2 : (2 : Int32).toInt = 2 := by decide
      have z3 : (Int32.ofNat 3).toInt = 3 := by decide
      omega
    · obtain ⟨g6, e6⟩ := r_v fT.1 (fT.Q hF) (k := 168) (x := 168) (by decide) rfl
      refine ⟨wI T 207 0 1, 0, ?_, (FrX.rf fT.1).t, tz fT.1⟩
      unfold ev_X9_event eX9_event_0 eX9_event_32 eX9_event_33
      rw [r71 fT.1, ob_1, if_pos g6, e6, hW.ee]
      rcases out_k (k := nE w) (by omega) x with g1 | ⟨j, hj, ej⟩
      · rw [in_no (by omega) g1, bd_rt, if_pos rfl, sq_eq, tz fT.1, if_neg (by decide)]
      · have g2 : y < 0 ∨ Int32.ofNat 3 ≤ y := g.resolve_left (fun q => by rw [ej] at q; exact in_out hj (by omega) q)
        have := in_no (n := n) (V := T) (k := 3) (by omega) g2
        rw [ej, in_yes hj (by omega), bd_rt, if_neg (by decide), show (2 : Int32) = Int32.ofNat 3 - 1 from by decide, this, bd_rt, if_pos rfl, sq_eq, tz fT.1, if_neg (by decide)]
  rcases out_k (k := nE w) (by omega) x with g | ⟨j, hj, rfl⟩
  · exact bad (.inl g)
  rcases out_k (k := 3) (by omega) y with g | ⟨k, hk, rfl⟩
  · exact bad (.inr g)
  refine q_ok hI hi (r := w (169 + 3 * j + k)) (T := V) ?_ (FrQ.rf hI.L hI.M) (fun T fT => ?_)
  · unfold ev_X8_event eX8_event_0
    rw [if_neg (ofn_nn (by omega)), r03 hI.L, ob_1, zr11 hI.L b2, ob_1, hC.ecount, hW.ee, if_neg (fun e => by have := (of_le (by omega) (by omega)).mp e; omega), if_neg (ofn_nn (by omega)), if_pos (by exact (of_le (b := 2) (by omega) (by omega)).mpr (by omega)), ob_1, zr11 hI.L b2, ob_1]
    have ev := hC.ev hj (by omega) hk
    unfold ev_X1_valueAt eX1_valueAt_0
    have hk' : k = 0 ∨ k = 1 ∨ k = 2 := by omega
    rcases hk' with rfl | rfl | rfl
    · rw [if_pos (by decide), zre0 hI.L b2, ob_1, zne0 hI.L b2, if_pos (in_of (by omega) (by decide)), tn_of (by omega), bd_rt]
      rw [show vI V (2 + 6) j = w (169 + 3 * j + 0) from ev]
    · rw [if_neg (by decide), if_pos (by decide), zre1 hI.L b2, ob_1, zne1 hI.L b2, if_pos (in_of (by omega) (by decide)), tn_of (by omega), bd_rt]
      rw [show vI V (2 + 7) j = w (169 + 3 * j + 1) from ev]
    · rw [if_neg (by decide), if_neg (by decide), zre2 hI.L b2, ob_1, zne2 hI.L b2, if_pos (in_of (by omega) (by decide)), tn_of (by omega), bd_rt]
      rw [show vI V (2 + 8) j = w (169 + 3 * j + 2) from ev]
  · obtain ⟨g6, e6⟩ := r_v fT.1 (fT.Q hF) (k := 168) (x := 168) (by decide) rfl
    have l1 : zLay (wI T 207 0 0) := zLay_wI fT.1
    obtain ⟨g7, e7⟩ := r_v l1 (tq (fT.Q hF)) (k := 169 + 3 * j + k) (x := (169 + 3 * Int32.ofNat j) + Int32.ofNat k) (by omega) ix_e
    refine ⟨wI T 207 0 0, ?_, (FrX.rf fT.1).t, tz fT.1⟩
    unfold ev_X9_event eX9_event_0 eX9_event_33
    have := in_yes (n := n) (V := T) (k := 3) hk (by omega)
    rw [r71 fT.1, ob_1, if_pos g6, e6, hW.ee, in_yes hj (by omega), bd_rt, if_neg (by decide), show (2 : Int32) = Int32.ofNat 3 - 1 from by decide, this, bd_rt, if_neg (by decide), sq_eq, tz fT.1, if_pos rfl, r71 l1, ob_1, if_pos g7, e7]
theorem p_unit {x y : Int32} (hI : Inv i V) (hi : i < 512) : PairI i (ev_L_unit n V 0 x y 222) (fun T => ev_X9_unit n T 207 x y) gI := by
  obtain ⟨N, hc, q, w, w0, kd, ar, hF, hW, hC, hQ, hN, hP⟩ := hI.get
  have u8 := hW.u8
  unfold ev_L_unit eL_unit_0
  rcases out_k (k := nU w) (by omega) x with g | ⟨u, hu, rfl⟩
  · refine q_th hI hi (c := 1) (T := V) (E := "java/lang/IndexOutOfBoundsException") ?_ (FrQ.rf hI.L hI.M) (if_pos rfl) (by decide) (fun T fT => ?_)
    · unfold ev_X8_unit eX8_unit_0
      rw [c_reqU0 hI.L hW hC g, bd_th]
    · have l1 : zLay (wI T 207 0 0) := zLay_wI fT.1
      refine ⟨_, 0, ?_, ((FrX.rf fT.1).t (x := 0)).t (x := 1), tz l1⟩
      unfold ev_X9_unit eX9_unit_0
      rw [sq_eq, r_isU0 l1 (tq (fT.Q hF)) hW g, bd_rt, if_pos rfl, r_no l1, bd_rt]
  rcases out_k (k := 12) (by omega) y with g | ⟨k, hk, rfl⟩
  · refine q_th hI hi (c := 2) (T := V) (E := "java/lang/IllegalArgumentException") ?_ (FrQ.rf hI.L hI.M) (by rw [if_neg (by decide), if_pos rfl]) (by decide) (fun T fT => ?_)
    · unfold ev_X8_unit eX8_unit_0
      have z : y.toInt < 0 ∨ 11 < y.toInt := by
        rcases g with g | g
        · rw [Int32.lt_iff_toInt_lt, show (0 : Int32).toInt = 0 from by decide] at g; exact .inl g
        · rw [Int32.le_iff_toInt_le, show (Int32.ofNat 12).toInt = 12 from by decide] at g; exact .inr (by omega)
      rw [c_reqU1 hI.L hW hC hu, bd_rt, ob_1, if_pos z]
    · have l1 : zLay (wI T 207 0 0) := zLay_wI fT.1
      refine ⟨_, 0, ?_, ((FrX.rf fT.1).t (x := 0)).t (x := 2), tz l1⟩
      unfold ev_X9_unit eX9_unit_0
      have := in_no (n := n) (V := wI T 207 0 0) (k := 12) (by omega) g
      rw [sq_eq, r_isU1 l1 (tq (fT.Q hF)) hW hu, bd_rt, if_neg (by decide), show (11 : Int32) = Int32.ofNat 12 - 1 from by decide, this, bd_rt, if_pos rfl, r_no l1, bd_rt]
  have fld : ∀ j, j < 11 → vI V (2 + 9 + u) (zfm j) = w (67 + 11 * u + j) := fun j hj => hC.u hu (by omega) hj
  have go : ∀ r, ev_X8_unit n V 0 (Int32.ofNat u) (Int32.ofNat k) = rt r V → (∀ T', zLay T' → Qr T' w → (if (6 : Int32) ≤ Int32.ofNat k then (if Int32.ofNat k = 6 then (vR T' 207 1).bind (fun a8v => (if gvp_in 166 (vN T' a8v) = true then (if (vI T' a8v (166 : Int32).toNatClampNeg) = Int32.ofNat u then (vR T' 207 1).bind (fun a9v => (if gvp_in 167 (vN T' a9v) = true then rt (vI T' a9v (167 : Int32).toNatClampNeg) T' else none)) else rt 0 T') else none)) else bd (ev_X9_of n T' 207 (Int32.ofNat u) (Int32.ofNat k - 1)) (fun r7 V6 => rt r7 V6) th) else bd (ev_X9_of n T' 207 (Int32.ofNat u) (Int32.ofNat k)) (fun r11 V10 => rt r11 V10) th) = rt r T') → PairI i (bd (ev_X8_unit n V 0 (Int32.ofNat u) (Int32.ofNat k)) (fun r2 V1 => if gvp_in 0 (vN V1 222) = true then sq (wJ V1 222 ((0 : Int32).toNatClampNeg) ((r2 : Int32).toInt64)) (fun V3 => rt 0 V3) else none) (fun E V9 => if E = "java/lang/IndexOutOfBoundsException" then rt 1 V9 else (if E = "java/lang/IllegalArgumentException" then rt 2 V9 else none))) (fun T => ev_X9_unit n T 207 (Int32.ofNat u) (Int32.ofNat k)) gI := by
    intro r e1 e2
    refine q_ok hI hi (r := r) (T := V) e1 (FrQ.rf hI.L hI.M) (fun T fT => ?_)
    have l1 : zLay (wI T 207 0 0) := zLay_wI fT.1
    refine ⟨wI T 207 0 0, ?_, (FrX.rf fT.1).t, tz fT.1⟩
    unfold ev_X9_unit eX9_unit_0
    have := in_yes (n := n) (V := wI T 207 0 0) (k := 12) hk (by omega)
    rw [sq_eq, r_isU1 l1 (tq (fT.Q hF)) hW hu, bd_rt, if_neg (by decide), show (11 : Int32) = Int32.ofNat 12 - 1 from by decide, this, bd_rt, if_neg (by decide)]
    exact e2 _ l1 (tq (fT.Q hF))
  have hd : ¬ ((Int32.ofNat k).toInt < 0 ∨ 11 < (Int32.ofNat k).toInt) := by rw [ti_of (by omega)]; omega
  have hk' : k = 0 ∨ k = 1 ∨ k = 2 ∨ k = 3 ∨ k = 4 ∨ k = 5 ∨ k = 6 ∨ k = 7 ∨ k = 8 ∨ k = 9 ∨ k = 10 ∨ k = 11 := by omega
  rcases hk' with rfl | rfl | rfl | rfl | rfl | rfl | rfl | rfl | rfl | rfl | rfl | rfl
  · refine go (w (67 + 11 * u + 0)) ?_ (fun T' l1 q1 => ?_)
    · unfold ev_X8_unit eX8_unit_0
      rw [c_reqU1 hI.L hW hC hu, bd_rt, ob_1, if_neg hd, if_pos (by decide)]
      exact congrArg (fun z => rt z V) (fld 0 (by decide))
    · rw [if_neg (by decide), r_ofj (j := 0) l1 q1 (by omega) (by decide) rfl, bd_rt]
  · refine go (w (67 + 11 * u + 1)) ?_ (fun T' l1 q1 => ?_)
    · unfold ev_X8_unit eX8_unit_0
      rw [c_reqU1 hI.L hW hC hu, bd_rt, ob_1, if_neg hd, if_neg (by decide), if_pos (by decide)]
      exact congrArg (fun z => rt z V) (fld 1 (by decide))
    · rw [if_neg (by decide), r_ofj (j := 1) l1 q1 (by omega) (by decide) rfl, bd_rt]
  · refine go (w (67 + 11 * u + 2)) ?_ (fun T' l1 q1 => ?_)
    · unfold ev_X8_unit eX8_unit_0
      rw [c_reqU1 hI.L hW hC hu, bd_rt, ob_1, if_neg hd, if_neg (by decide), if_neg (by decide), if_pos (by decide)]
      exact congrArg (fun z => rt z V) (fld 2 (by decide))
    · rw [if_neg (by decide), r_ofj (j := 2) l1 q1 (by omega) (by decide) rfl, bd_rt]
  · refine go (w (67 + 11 * u + 3)) ?_ (fun T' l1 q1 => ?_)
    · unfold ev_X8_unit eX8_unit_0
      rw [c_reqU1 hI.L hW hC hu, bd_rt, ob_1, if_neg hd, if_neg (by decide), if_neg (by decide), if_neg (by decide), if_pos (by decide)]
      exact congrArg (fun z => rt z V) (fld 3 (by decide))
    · rw [if_neg (by decide), r_ofj (j := 3) l1 q1 (by omega) (by decide) rfl, bd_rt]
  · refine go (w (67 + 11 * u + 4)) ?_ (fun T' l1 q1 => ?_)
    · unfold ev_X8_unit eX8_unit_0
      rw [c_reqU1 hI.L hW hC hu, bd_rt, ob_1, if_neg hd, if_neg (by decide), if_neg (by decide), if_neg (by decide), if_neg (by decide), if_pos (by decide)]
      exact congrArg (fun z => rt z V) (fld 4 (by decide))
    · rw [if_neg (by decide), r_ofj (j := 4) l1 q1 (by omega) (by decide) rfl, bd_rt]
  · refine go (w (67 + 11 * u + 5)) ?_ (fun T' l1 q1 => ?_)
    · unfold ev_X8_unit eX8_unit_0
      rw [c_reqU1 hI.L hW hC hu, bd_rt, ob_1, if_neg hd, if_neg (by decide), if_neg (by decide), if_neg (by decide), if_neg (by decide), if_neg (by decide), if_pos (by decide)]
      exact congrArg (fun z => rt z V) (fld 5 (by decide))
    · rw [if_neg (by decide), r_ofj (j := 5) l1 q1 (by omega) (by decide) rfl, bd_rt]
  · refine go (if Int32.ofNat u = w 166 then w 167 else 0) ?_ (fun T' l1 q1 => ?_)
    · unfold ev_X8_unit eX8_unit_0
      rw [c_reqU1 hI.L hW hC hu, bd_rt, ob_1, if_neg hd, if_neg (by decide), if_neg (by decide), if_neg (by decide), if_neg (by decide), if_neg (by decide), if_neg (by decide), if_pos (by decide), r03 hI.L, ob_1, hC.cur]
      by_cases g : Int32.ofNat u = w 166
      · rw [if_pos g, if_pos g, ob_1, hC.acts]
      · rw [if_neg g, if_neg g]
    · obtain ⟨g6, e6⟩ := r_v l1 q1 (k := 166) (x := 166) (by decide) rfl
      obtain ⟨g7, e7⟩ := r_v l1 q1 (k := 167) (x := 167) (by decide) rfl
      rw [if_pos (by decide), if_pos (by decide), r71 l1, ob_1, if_pos g6, e6]
      by_cases g : Int32.ofNat u = w 166
      · rw [if_pos g.symm, if_pos g, ob_1, if_pos g7, e7]
      · rw [if_neg (fun e => g e.symm), if_neg g]
  · refine go (w (67 + 11 * u + 6)) ?_ (fun T' l1 q1 => ?_)
    · unfold ev_X8_unit eX8_unit_0
      rw [c_reqU1 hI.L hW hC hu, bd_rt, ob_1, if_neg hd, if_neg (by decide), if_neg (by decide), if_neg (by decide), if_neg (by decide), if_neg (by decide), if_neg (by decide), if_neg (by decide), if_pos (by decide)]
      exact congrArg (fun z => rt z V) (fld 6 (by decide))
    · rw [if_pos (by decide), if_neg (by decide), r_ofj (j := 6) l1 q1 (by omega) (by decide) (by decide), bd_rt]
  · refine go (w (67 + 11 * u + 7)) ?_ (fun T' l1 q1 => ?_)
    · unfold ev_X8_unit eX8_unit_0
      rw [c_reqU1 hI.L hW hC hu, bd_rt, ob_1, if_neg hd, if_neg (by decide), if_neg (by decide), if_neg (by decide), if_neg (by decide), if_neg (by decide), if_neg (by decide), if_neg (by decide), if_neg (by decide), if_pos (by decide)]
      exact congrArg (fun z => rt z V) (fld 7 (by decide))
    · rw [if_pos (by decide), if_neg (by decide), r_ofj (j := 7) l1 q1 (by omega) (by decide) (by decide), bd_rt]
  · refine go (w (67 + 11 * u + 8)) ?_ (fun T' l1 q1 => ?_)
    · unfold ev_X8_unit eX8_unit_0
      rw [c_reqU1 hI.L hW hC hu, bd_rt, ob_1, if_neg hd, if_neg (by decide), if_neg (by decide), if_neg (by decide), if_neg (by decide), if_neg (by decide), if_neg (by decide), if_neg (by decide), if_neg (by decide), if_neg (by decide), if_pos (by decide)]
      exact congrArg (fun z => rt z V) (fld 8 (by decide))
    · rw [if_pos (by decide), if_neg (by decide), r_ofj (j := 8) l1 q1 (by omega) (by decide) (by decide), bd_rt]
  · refine go (w (67 + 11 * u + 9)) ?_ (fun T' l1 q1 => ?_)
    · unfold ev_X8_unit eX8_unit_0
      rw [c_reqU1 hI.L hW hC hu, bd_rt, ob_1, if_neg hd, if_neg (by decide), if_neg (by decide), if_neg (by decide), if_neg (by decide), if_neg (by decide), if_neg (by decide), if_neg (by decide), if_neg (by decide), if_neg (by decide), if_neg (by decide), if_pos (by decide)]
      have b := hW.f hu (j := 9) (by omega)
      have e : vI V (2 + 9 + u) 11 = w (67 + 11 * u + 9) := fld 9 (by decide)
      rw [e]
      have l : (w (67 + 11 * u + 9)).toNatClampNeg ≤ 1 := b.le
      rw [b.eq]
      have : (w (67 + 11 * u + 9)).toNatClampNeg = 0 ∨ (w (67 + 11 * u + 9)).toNatClampNeg = 1 := by omega
      rcases this with z | z
      · rw [z, if_pos (by decide)]; rfl
      · rw [z, if_neg (by decide)]; rfl
    · rw [if_pos (by decide), if_neg (by decide), r_ofj (j := 9) l1 q1 (by omega) (by decide) (by decide), bd_rt]
  · refine go (w (67 + 11 * u + 10)) ?_ (fun T' l1 q1 => ?_)
    · unfold ev_X8_unit eX8_unit_0
      rw [c_reqU1 hI.L hW hC hu, bd_rt, ob_1, if_neg hd, if_neg (by decide), if_neg (by decide), if_neg (by decide), if_neg (by decide), if_neg (by decide), if_neg (by decide), if_neg (by decide), if_neg (by decide), if_neg (by decide), if_neg (by decide), if_neg (by decide), if_pos (by decide)]
      have b := hW.f hu (j := 10) (by omega)
      have e : vI V (2 + 9 + u) 12 = w (67 + 11 * u + 10) := fld 10 (by decide)
      rw [e]
      have l : (w (67 + 11 * u + 10)).toNatClampNeg ≤ 1 := b.le
      rw [b.eq]
      have : (w (67 + 11 * u + 10)).toNatClampNeg = 0 ∨ (w (67 + 11 * u + 10)).toNatClampNeg = 1 := by omega
      rcases this with z | z
      · rw [z, if_pos (by decide)]; rfl
      · rw [z, if_neg (by decide)]; rfl
    · rw [if_pos (by decide), if_neg (by decide), r_ofj (j := 10) l1 q1 (by omega) (by decide) (by decide), bd_rt]
end
