/-! begin, undo, snapshot, restore -/
section
variable {i n : Nat} {V T : VS} {w : RW}
theorem q_gen {X : Rs Int32} {R : VS → Rs Int32} {r : Int32} {f : String → VS → Rs Int32} (eC : X = rt r T) (lT : zLay T) (eR : ∃ U, R (wJ T 222 0 r.toInt64) = rt r U ∧ Inv (i + 1) U ∧ vI U 207 0 = 0 ∧ vC U 222 = vC (wJ T 222 0 r.toInt64) 222) : PairI i (bd X (fun r2 V1 => if gvp_in 0 (vN V1 222) = true then sq (wJ V1 222 ((0 : Int32).toNatClampNeg) ((r2 : Int32).toInt64)) (fun V3 => rt 0 V3) else none) f) R gI := by
  obtain ⟨U, eU, iU, tU, jU⟩ := eR
  exact ⟨0, _, r, U, by rw [eC, bd_rt, wj lT], eU, iU, tU, fun _ => by rw [vJ_C jU, vJ_wJ (zLen lT (by omega))]; rfl⟩
theorem r_fights (hn : 120 < n) (hL : zLay V) (hQ : Qr V w) (hW : WF w) (hF : Fre w) : ∃ U, ev_X9_fights n V 207 = rt () U ∧ Qr U (gStart w) ∧ FrP V U := by
  obtain ⟨T, eT, qT, fT⟩ := r_begins (n := n) hn hL hQ hW
  have e1 : gBeg w 156 = Int32.ofNat 1 := by rw [gBeg_r hW, hF.1]; rfl
  have l1 : zLay (wI T 207 16 (-1)) := zLay_wI fT.1
  have q1 : Qr (wI T 207 16 (-1)) (gBeg w) := qT.wo (by omega)
  obtain ⟨U, eU, qU, fU⟩ := r_goesOn (n := n) (x := -1) (b := 1) hn l1 q1 (beg_PI hW) (gBeg_t hW).symm (by rw [e1]; decide) (by rw [e1]; exact Nb.of (by omega) (by omega)) (by omega) (gStart_Fin hW)
  unfold ev_X9_fights eX9_fights_0
  rw [eT, bd_rt, eU, bd_rt]
  exact ⟨U, rfl, qU, (fT.p.wp).tr fU⟩
theorem p_begin (hn : 2100 < n) (hI : Inv i V) (hi : i < 512) : PairI i (ev_L_begin n V 0 222) (fun T => ev_X9_begin n T 207) gI := by
  obtain ⟨N, hc, q, w, w0, kd, ar, hF, hW, hC, hQ, hN, hP⟩ := hI.get
  have u8 := hW.u8
  unfold ev_L_begin eL_begin_0
  have bad : (¬ w 156 ≤ 0) ∨ (w 156 ≤ 0 ∧ goB w = false) → PairI i (bd (ev_X8_begin n V 0) (fun r2 V1 => if gvp_in 0 (vN V1 222) = true then sq (wJ V1 222 ((0 : Int32).toNatClampNeg) ((r2 : Int32).toInt64)) (fun V3 => rt 0 V3) else none) (fun E V9 => if E = "java/lang/IllegalStateException" then rt 1 V9 else none)) (fun T => ev_X9_begin n T 207) gI := by
    intro z
    refine q_th hI hi (c := 1) (T := V) (E := "java/lang/IllegalStateException") ?_ (FrQ.rf hI.L hI.M) (if_pos rfl) (by decide) (fun T fT => ?_)
    · unfold ev_X8_begin eX8_begin_0 eX8_begin_20
      rw [r03 hI.L, ob_1, c_hasBegun hC, bd_rt]
      rcases z with z | ⟨z, g⟩
      · rw [if_neg z, if_neg (by decide)]
      · rw [if_pos z, if_pos rfl, r03 hI.L, ob_1, c_goesOn (by omega) hI.L b2 hW hC, bd_rt, g, if_neg (show ¬ (false = true) by decide), if_pos rfl]
    · have l1 : zLay (wI T 207 0 1) := zLay_wI fT.1
      refine ⟨wI T 207 0 1, 0, ?_, (FrX.rf fT.1).t, tz fT.1⟩
      unfold ev_X9_begin eX9_begin_0 eX9_begin_24 eX9_begin_29
      rw [r_hasBegun fT.1 (fT.Q hF), bd_rt]
      rcases z with z | ⟨z, g⟩
      · rw [if_neg z, if_neg (by decide), sq_eq, tz fT.1, if_pos rfl]
      · rw [if_pos z, if_pos rfl, r_living (by omega) fT.1 (fT.Q hF) hW, bd_rt]
        have l0 := lvn_le (w := w) (t := 0)
        have l1 := lvn_le (w := w) (t := 1)
        by_cases h0 : lvn w 0 = 0
        · rw [h0, if_pos (by decide), sq_eq, tz fT.1, if_pos rfl]
        · rw [if_neg (fun e => by exact h0 ((of_inj (b := 0) (by omega) (by omega)).mp e)), r_living (by omega) fT.1 (fT.Q hF) hW, bd_rt]
          have g0 : hl w 0 = true := lvn_hl.mp (by omega)
          have h1 : lvn w 1 = 0 := by
            refine Nat.eq_zero_of_not_pos (fun e => ?_)
            have g1 := lvn_hl.mp e
            unfold goB at g
            rw [g0, g1] at g; cases g
          rw [h1, if_pos (by decide), sq_eq, tz fT.1, if_pos rfl]
  by_cases z : w 156 ≤ 0
  rotate_left
  · exact bad (.inl z)
  cases g : goB w
  · exact bad (.inr ⟨z, g⟩)
  obtain ⟨n0, fr, _⟩ := hP.no (by omega) z
  obtain ⟨T, eT, rT, fT⟩ := c_startRounds (n := n) (by omega) hI.L b2 hW hC
  refine q_gen (T := T) (r := gStart w 166) ?_ fT.1 ?_
  · unfold ev_X8_begin eX8_begin_0
    rw [r03 hI.L, ob_1, c_hasBegun hC, bd_rt, if_pos z, if_pos rfl, r03 hI.L, ob_1, c_goesOn (by omega) hI.L b2 hW hC, bd_rt, if_pos g, if_neg (by decide), r03 hI.L, ob_1, eT, bd_rt, r03 fT.1, ob_1, rT.cur]; rfl
  have lW : zLay (wJ T 222 0 (gStart w 166).toInt64) := zLay_wJ fT.1
  have fW : ∀ k, k ≠ 222 → vC (wJ T 222 0 (gStart w 166).toInt64) k = vC T k := fun k hk => vC_wJ hk
  generalize wJ T 222 0 (gStart w 166).toInt64 = W at lW fW
  have f1 : ∀ k, ¬ (2 ≤ k ∧ k < 19) → k ≠ 222 → vC W k = vC V k := fun k h1 h2 => by rw [fW k h2, fT.2 k (by omega)]
  have qW : Qr W w := fun k hk => by rw [vI_C (f1 208 (by omega) (by omega))]; exact hQ k hk
  -- the reference
  have l1 : zLay (wI W 207 0 0) := zLay_wI lW
  have q1 : Qr (wI W 207 0 0) w := tq qW
  obtain ⟨S, eS, lS, fS, kS⟩ := r_copies (n := n) (x := 208) (y := 209) (N := 290) (by omega) l1 (by omega) (by omega) (by decide +kernel) (by decide +kernel) (by decide +kernel) (by decide +kernel)
  have qS : Qr S w := fun k hk => by rw [vI_C (fS 208 (by omega))]; exact q1 k hk
  obtain ⟨U, eU, qU, fU⟩ := r_fights (n := n) (by omega) lS qS hW fr
  obtain ⟨g6, e6⟩ := r_v fU.1 qU (k := 166) (x := 166) (by decide) rfl
  have x0 : vI U 207 0 = 0 := by rw [fU.2.2 0 (by omega), vI_C (fS 207 (by omega))]; exact tz lW
  have f2 : ∀ k, k ≠ 207 → k ≠ 208 → k ≠ 209 → k ≠ 217 → vC U k = vC W k := fun k h1 h2 h3 h4 => by
    rw [fU.2.1 k h1 h2 h4, fS k h3, vC_wI h1]
  have f3 : ∀ k, ¬ (2 ≤ k ∧ k < 19) → k ≠ 207 → k ≠ 208 → k ≠ 209 → k ≠ 217 → k ≠ 222 → vC U k = vC V k := fun k h0 h1 h2 h3 h4 h5 => by rw [f2 k h1 h2 h3 h4, f1 k h0 h5]
  have f7 : ∀ k, k = 9 ∨ k = 10 ∨ k = 12 ∨ k = 13 → vI U 207 k = vI V 207 k := fun k hk => by
    rw [fU.2.2 k (by omega), vI_C (fS 207 (by omega)), vI_wI (zLen lW (by omega)), zup_ne (by omega), vI_C (f1 207 (by omega) (by omega))]
  refine ⟨U, ?_, ?_, x0, f2 222 (by omega) (by omega) (by omega) (by omega)⟩
  · unfold ev_X9_begin eX9_begin_0 eX9_begin_29
    have g01 : hl w 0 = true ∧ hl w 1 = true := by unfold goB at g; simpa using g
    have p0 := lvn_hl.mpr g01.1
    have p1 := lvn_hl.mpr g01.2
    have l0 := lvn_le (w := w) (t := 0)
    have l2 := lvn_le (w := w) (t := 1)
    rw [r_hasBegun lW qW, bd_rt, if_pos z, if_pos rfl, r_living (by omega) lW qW hW, bd_rt, if_neg (fun e => by have := (of_inj (b := 0) (by omega) (by omega)).mp e; omega), r_living (by omega) lW qW hW, bd_rt, if_neg (fun e => by have := (of_inj (b := 0) (by omega) (by omega)).mp e; omega), sq_eq, tz lW, if_neg (by decide), r71 l1, ob_1, show vR (wI W 207 0 0) 207 2 = some 209 from zR l1 (by decide +kernel), ob_1, show (290 : Int32) = Int32.ofNat 290 from rfl, eS, bd_rt, eU, bd_rt, r71 fU.1, ob_1, if_pos g6, e6]
  · obtain ⟨i5, hL, hM, hT, hR, hK, _⟩ := hI
    obtain ⟨a1, a2, a3, a4, _, sc, sr, hh, hr⟩ := hF
    have rU : Rp 2 U (gStart w) := rT.fr (fun k hk => by rw [f2 _ (by omega) (by omega) (by omega) (by omega), fW _ (by omega)])
    refine ⟨by omega, fU.1, ?_, ?_, ?_, ?_, 0, 0, q, gStart w, w, kd, ar, by omega, by omega, by omega, a4, .inr ⟨fr, hW, g, fun j hj => by omega, rfl⟩, ⟨rU, ?_, fun j hj => by omega⟩, ⟨qU, fun _ j hj => ?_, fun j hj => by omega⟩, ⟨?_, ?_, fun j hj => by omega⟩, ?_, fun j hj => by omega⟩
    · exact hM.fr2 b2 rU (fun b hb e u hu => by
        have z1 := zB_22 b hb u hu; have z2 := zB_hi b hb u hu; have z3 := zB_le b hb
        rcases z1.2 with y | y
        · exact absurd y.symm e
        · exact f3 _ (by omega) (by omega) (by omega) (by omega) (by omega) (by omega))
    · exact hT.fr (fun k _ => by rw [vI_C (f3 0 (by omega) (by omega) (by omega) (by omega) (by omega) (by omega))]) (fun k hk => f7 k (by omega)) (f3 1 (by omega) (by omega) (by omega) (by omega) (by omega) (by omega)) (f3 216 (by omega) (by omega) (by omega) (by omega) (by omega) (by omega))
    · exact hR.fr (fun k hk => f3 k (by omega) (by omega) (by omega) (by omega) (by omega) (by omega))
    · exact hK.fr (by omega) (by rw [vI_C (f3 0 (by omega) (by omega) (by omega) (by omega) (by omega) (by omega))]) (f7 10 (by omega)) (fun k hk => f3 k (by omega) (by omega) (by omega) (by omega) (by omega) (by omega))
    · rw [vI_C (f3 19 (by omega) (by omega) (by omega) (by omega) (by omega) (by omega)), sc.2.1, n0]
    · rw [vI_C (fU.2.1 209 (by omega) (by omega) (by omega)), kS j, if_pos hj]; exact q1 j hj
    · rw [vI_C (f3 22 (by omega) (by omega) (by omega) (by omega) (by omega) (by omega))]; exact hh.1
    · rw [vI_C (f3 22 (by omega) (by omega) (by omega) (by omega) (by omega) (by omega)), hh.2.1, show hc = 0 by omega]
    · rw [f7 9 (by omega), hr.1, show hc = 0 by omega]
/-- undo -/
theorem p_undo (hn : 2100 < n) (hI : Inv i V) (hi : i < 512) : PairI i (ev_L_undo n V 0 222) (fun T => ev_X9_undo n T 207) gI := by
  obtain ⟨N, hc, q, w, w0, kd, ar, hF, hW, hC, hQ, hN, hP⟩ := hI.get
  obtain ⟨i5, hL, hM, hT, hR, hK, _⟩ := hI
  have hI : Inv i V := ⟨i5, hL, hM, hT, hR, hK, N, hc, q, w, w0, kd, ar, hF⟩
  have hF' := hF
  obtain ⟨a1, a2, a3, a4, _, sc, sr, hh, hr⟩ := hF'
  unfold ev_L_undo eL_undo_0
  by_cases h0 : hc = 0
  · refine q_th hI hi (c := 1) (T := V) (E := "java/lang/IllegalStateException") ?_ (FrQ.rf hL hM) (if_pos rfl) (by decide) (fun T fT => ?_)
    · unfold ev_X8_undo eX8_undo_0
      rw [r05 hL, ob_1, hh.2.1, h0, if_neg (by decide)]
    · refine ⟨wI T 207 0 1, 0, ?_, (FrX.rf fT.1).t, tz fT.1⟩
      unfold ev_X9_undo eX9_undo_0 eX9_undo_13
      rw [fT.2.2.2 9 (by omega), hr.1, h0, if_pos (by decide), sq_eq, tz fT.1, if_pos rfl]
  have nb : ¬ w 156 ≤ 0 := fun z => by have := (hP.no (by omega) z).1; omega
  obtain ⟨p1, p2, p3, p4, p5⟩ := hP.yes nb
  have rp := Run_p p1 p2 (N - 1) (by omega) (p4.le (by omega))
  obtain ⟨T, eT, rT, hhT, lT, mT, fT⟩ := c_takeBack (n := n) (by omega) hL hM hh a4 a2 (by omega) rp.1
  have d1 : vI T 19 2 = Int32.ofNat N := by rw [vI_C (fT 19 (by omega) (by omega))]; exact sc.2.1
  have cd := c_dropLast (n := n) lT d1 hN (by omega)
  have l2 : zLay (wI T 19 2 (Int32.ofNat (N - 1))) := zLay_wI lT
  have x2 : vI (wI T 19 2 (Int32.ofNat (N - 1))) 19 2 = Int32.ofNat (N - 1) := by rw [vI_wI (zLen lT (by omega)), zup_eq]
  have f2 : ∀ k, k ≠ 19 → vC (wI T 19 2 (Int32.ofNat (N - 1))) k = vC T k := fun k hk => vC_wI hk
  generalize wI T 19 2 (Int32.ofNat (N - 1)) = T2 at cd l2 x2 f2
  refine q_gen (T := T2) (r := Int32.ofNat (hc - 1)) ?_ l2 ?_
  · unfold ev_X8_undo eX8_undo_0
    rw [r05 hL, ob_1, hh.2.1, if_pos (by exact (of_le (a := 1) (by omega) (by omega)).mpr (by omega)), ob_1, r03 hL, ob_1, eT, bd_rt, r04 lT, ob_1, cd, bd_rt, r05 l2, ob_1, vI_C (f2 22 (by omega)), hhT.2.1]
  have lW : zLay (wJ T2 222 0 (Int32.ofNat (hc - 1)).toInt64) := zLay_wJ l2
  have fW : ∀ k, k ≠ 222 → vC (wJ T2 222 0 (Int32.ofNat (hc - 1)).toInt64) k = vC T2 k := fun k hk => vC_wJ hk
  generalize wJ T2 222 0 (Int32.ofNat (hc - 1)).toInt64 = W at lW fW
  have f1 : ∀ k, ¬ (2 ≤ k ∧ k < 20) → k ≠ 22 → k ≠ 222 → vC W k = vC V k := fun k h1 h2 h3 => by rw [fW k h3, f2 k (by omega), fT k (by omega) h2]
  have l1 : zLay (wI W 207 0 0) := zLay_wI lW
  have x9 : vI (wI W 207 0 0) 207 9 = Int32.ofNat hc := by rw [vI_wI (zLen lW (by omega)), zup_ne (by omega), vI_C (f1 207 (by omega) (by omega) (by omega))]; exact hr.1
  have e9 : vI (wI W 207 0 0) 207 9 - 1 = Int32.ofNat (hc - 1) := by rw [x9, show Int32.ofNat hc - 1 = Int32.ofNat (hc - 1) from of_sub (b := 1) (by omega)]
  have l3 : zLay (wI (wI W 207 0 0) 207 9 (Int32.ofNat (hc - 1))) := zLay_wI l1
  have y9 : vI (wI (wI W 207 0 0) 207 9 (Int32.ofNat (hc - 1))) 207 9 = Int32.ofNat (hc - 1) := by rw [vI_wI (zLen l1 (by omega)), zup_eq]
  have yk : ∀ k, k ≠ 0 → k ≠ 9 → vI (wI (wI W 207 0 0) 207 9 (Int32.ofNat (hc - 1))) 207 k = vI V 207 k := fun k h1 h2 => by rw [vI_wI (zLen l1 (by omega)), zup_ne h2, vI_wI (zLen lW (by omega)), zup_ne h1, vI_C (f1 207 (by omega) (by omega) (by omega))]
  have y0 : vI (wI (wI W 207 0 0) 207 9 (Int32.ofNat (hc - 1))) 207 0 = 0 := by rw [vI_wI (zLen l1 (by omega)), zup_ne (by omega)]; exact tz lW
  have yC : ∀ k, k ≠ 207 → vC (wI (wI W 207 0 0) 207 9 (Int32.ofNat (hc - 1))) k = vC W k := fun k hk => by rw [vC_wI hk, vC_wI hk]
  obtain ⟨U, eU, lU, fU, kU⟩ := r_un (n := n) (h := hc - 1) (by omega) 290 n 0 _ (by omega) (by omega) l3 y9
  have f4 : ∀ k, k ≠ 207 → k ≠ 208 → vC U k = vC W k := fun k h1 h2 => by rw [fU k h2, yC k h1]
  have f3 : ∀ k, ¬ (2 ≤ k ∧ k < 20) → k ≠ 22 → k ≠ 207 → k ≠ 208 → k ≠ 222 → vC U k = vC V k := fun k h0 h1 h2 h3 h4 => by rw [f4 k h2 h3, f1 k h0 h1 h4]
  have f7 : ∀ k, k = 10 ∨ k = 12 ∨ k = 13 → vI U 207 k = vI V 207 k := fun k hk => by rw [vI_C (fU 207 (by omega)), yk k (by omega) (by omega)]
  refine ⟨U, ?_, ?_, by rw [vI_C (fU 207 (by omega))]; exact y0, f4 222 (by omega) (by omega)⟩
  · unfold ev_X9_undo eX9_undo_0 eX9_undo_13
    rw [show vI W 207 9 = Int32.ofNat hc from by rw [vI_C (f1 207 (by omega) (by omega) (by omega))]; exact hr.1, if_neg (fun e => by have := (of_inj (b := 0) (by omega) (by omega)).mp e; omega), sq_eq, tz lW, if_neg (by decide), e9, sq_eq]
    exact eU
  · have rU : Rp 2 U (Run w0 kd ar (N - 1)) := rT.fr (fun k hk => by rw [f4 _ (by omega) (by omega), fW _ (by omega), f2 _ (by omega)])
    have q9 : (q + 7) % 8 < 8 := Nat.mod_lt _ (by omega)
    refine ⟨by omega, lU, ?_, ?_, ?_, ?_, N - 1, hc - 1, (q + 7) % 8, Run w0 kd ar (N - 1), w0, kd, ar, by omega, by omega, by omega, q9, .inr ⟨p1, p2, p3, p4.le (by omega), rfl⟩, ⟨rU, ?_, fun j hj => ?_⟩, ⟨fun j hj => ?_, fun _ j hj => ?_, fun j hj => ?_⟩, ?_, ?_, fun j hj k hk => ?_⟩
    · exact mT.fr (fun a ha u hu => by
        have z1 := zB_22 a ha u hu; have z2 := zB_hi a ha u hu
        rw [vI_C (f4 _ (by omega) (by omega)), vI_C (fW _ (by omega))]
        by_cases e : a + 9 + u = 19
        · exfalso; omega
        · rw [vI_C (f2 _ e)])
    · exact hT.fr (fun k _ => by rw [vI_C (f3 0 (by omega) (by omega) (by omega) (by omega) (by omega))]) (fun k hk => f7 k (by omega)) (f3 1 (by omega) (by omega) (by omega) (by omega) (by omega)) (f3 216 (by omega) (by omega) (by omega) (by omega) (by omega))
    · exact hR.fr (fun k hk => f3 k (by omega) (by omega) (by omega) (by omega) (by omega))
    · exact hK.fr (by omega) (by rw [vI_C (f3 0 (by omega) (by omega) (by omega) (by omega) (by omega))]) (f7 10 (by omega)) (fun k hk => f3 k (by omega) (by omega) (by omega) (by omega) (by omega))
    · rw [vI_C (f4 19 (by omega) (by omega)), vI_C (fW 19 (by omega))]; exact x2
    · rw [vI_C (f3 (19 + 1) (by omega) (by omega) (by omega) (by omega) (by omega)), vI_C (f3 (19 + 2) (by omega) (by omega) (by omega) (by omega) (by omega))]
      exact sc.2.2 j (by omega)
    · rw [kU j, if_pos (by omega), vI_C (yC 213 (by omega)), vI_C (f1 213 (by omega) (by omega) (by omega))]
      have := hr.2 0 (by omega) j hj
      rw [← show 290 * (hc - 1 - 0) + j = (hc - 1) * 290 + j from by omega]
      exact this
    · rw [vI_C (f3 209 (by omega) (by omega) (by omega) (by omega) (by omega))]; exact sr.2.1 nb j hj
    · rw [vI_C (f3 214 (by omega) (by omega) (by omega) (by omega) (by omega))]; exact sr.2.2 j (by omega)
    · exact hhT.fr q9 (by omega) (fun k h1 h2 => by rw [f4 _ (by omega) (by omega), fW _ (by omega), f2 _ (by omega)])
    · rw [vI_C (fU 207 (by omega))]; exact y9
    · rw [vI_C (f3 213 (by omega) (by omega) (by omega) (by omega) (by omega)), show N - 1 - 1 - j = N - 1 - (j + 1) from by omega, ← hr.2 (j + 1) (by omega) k hk]
      congr 1; omega
end
