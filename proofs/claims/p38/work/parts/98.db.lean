/-! snapshot and restore -/
section
variable {i n : Nat} {V T : VS} {w : RW}
theorem b160 : 160 ∈ zB := by decide
theorem p_snapshot (hn : 2100 < n) (hI : Inv i V) (hi : i < 512) : PairV i (ev_X8_snapshot n V 0) (fun T => ev_X9_snapshot n T 207) := by
  obtain ⟨N, hc, q, w, w0, kd, ar, hF, hW, hC, hQ, hN, hP⟩ := hI.get
  obtain ⟨i5, hL, hM, hT, hR, hK, _⟩ := hI
  have hF' := hF
  obtain ⟨a1, a2, a3, a4, _, sc, sr, hh, hr⟩ := hF'
  have n9 := hP.n9 (by omega)
  obtain ⟨A, eA, rA, fA⟩ := c_copyFrom (n := n) (by omega) hL b160 b2 (by omega) hW hC (fun u hu => hM _ b160 u hu)
  obtain ⟨B, eB, cB, kB, lB, fB⟩ := c_cmdcopy (n := n) (a := 177) (b := 19) (N := N) fA.1 (by decide) (by decide) (by omega) (by rw [vI_C (fA.2 19 (by omega))]; exact sc.2.1) (by omega)
  have lT : zLay (wI B 0 8 1) := zLay_wI lB
  have fT : ∀ k, k ≠ 0 → vC (wI B 0 8 1) k = vC B k := fun k hk => vC_wI hk
  have t0 : vI (wI B 0 8 1) 0 = zup (vI B 0) 8 1 := vI_wI (zLen lB (by omega))
  have eT : ev_X8_snapshot n V 0 = rt (w 66) (wI B 0 8 1) := by
    unfold ev_X8_snapshot eX8_snapshot_0
    rw [show vR V 0 6 = some 160 from zR hL (by decide +kernel), ob_1, r03 hL, ob_1, eA, bd_rt, show vR A 0 7 = some 177 from zR fA.1 (by decide +kernel), ob_1, r04 fA.1, ob_1, eB, bd_rt, sq_eq, r03 lT, ob_1, vI_C (fT 2 (by omega)), vI_C (fB 2 (by omega)), vI_C (fA.2 2 (by omega)), hC.count]
  generalize wI B 0 8 1 = T at lT fT t0 eT
  have fV : ∀ k, ¬ (160 ≤ k ∧ k < 180) → k ≠ 0 → vC T k = vC V k := fun k h1 h2 => by rw [fT k h2, fB k (by omega), fA.2 k (by omega)]
  have f0 : ∀ k, k ≠ 8 → vI T 0 k = vI V 0 k := fun k hk => by rw [t0, zup_ne hk, vI_C (fB 0 (by omega)), vI_C (fA.2 0 (by omega))]
  -- the reference
  have l1 : zLay (wI T 207 0 0) := zLay_wI lT
  have qT : Qr T w := fun k hk => by rw [vI_C (fV 208 (by omega) (by omega))]; exact hQ k hk
  have q1 : Qr (wI T 207 0 0) w := tq qT
  obtain ⟨S1, e1, m1, g1, k1⟩ := r_copies (n := n) (x := 208) (y := 210) (N := 290) (by omega) l1 (by omega) (by omega) (by decide +kernel) (by decide +kernel) (by decide +kernel) (by decide +kernel)
  obtain ⟨S2, e2, m2, g2, k2⟩ := r_copies (n := n) (x := 209) (y := 211) (N := 290) (by omega) m1 (by omega) (by omega) (by decide +kernel) (by decide +kernel) (by decide +kernel) (by decide +kernel)
  have big : 2 * N ≤ 6000 := by omega
  have v214 : vN W0 214 = 6000 := by decide +kernel
  have v215 : vN W0 215 = 6000 := by decide +kernel
  obtain ⟨S3, e3, m3, g3, k3⟩ := r_copies (n := n) (x := 214) (y := 215) (N := 2 * N) (by omega) m2 (by omega) (by omega) (by rw [v214]; omega) (by rw [v215]; omega) (by rw [v214]; omega) (by rw [v215]; omega)
  have q2 : Qr S2 w := fun k hk => by rw [vI_C (g2 208 (by omega)), vI_C (g1 208 (by omega))]; exact q1 k hk
  obtain ⟨g9, e9⟩ := r_v m2 q2 (k := 289) (x := 289) (by decide) rfl
  have l4 : zLay (wI S3 207 10 1) := zLay_wI m3
  have x4 : vI (wI S3 207 10 1) 207 = zup (vI S3 207) 10 1 := vI_wI (zLen m3 (by omega))
  have y4 : ∀ k, k ≠ 207 → vC (wI S3 207 10 1) k = vC S3 k := fun k hk => vC_wI hk
  have q4 : Qr (wI S3 207 10 1) w := fun k hk => by rw [vI_C (y4 208 (by omega)), vI_C (g3 208 (by omega))]; exact q2 k hk
  obtain ⟨g6, e6⟩ := r_v l4 q4 (k := 66) (x := 66) (by decide) rfl
  have eR : ev_X9_snapshot n T 207 = rt (w 66) (wI S3 207 10 1) := by
    unfold ev_X9_snapshot eX9_snapshot_0
    rw [sq_eq, r71 l1, ob_1, show vR (wI T 207 0 0) 207 3 = some 210 from zR l1 (by decide +kernel), ob_1, show (290 : Int32) = Int32.ofNat 290 from rfl, e1, bd_rt, show vR S1 207 2 = some 209 from zR m1 (by decide +kernel), ob_1, show vR S1 207 4 = some 211 from zR m1 (by decide +kernel), ob_1, e2, bd_rt, r77 m2, ob_1, show vR S2 207 8 = some 215 from zR m2 (by decide +kernel), ob_1, r71 m2, ob_1, if_pos g9, e9, n9, show (2 : Int32) * Int32.ofNat N = Int32.ofNat (2 * N) from of_mul (a := 2), e3, bd_rt, sq_eq, r71 l4, ob_1, if_pos g6, e6]
  generalize wI S3 207 10 1 = U at l4 x4 y4 q4 eR
  have f3 : ∀ k, k ≠ 207 → k ≠ 210 → k ≠ 211 → k ≠ 215 → vC U k = vC T k := fun k h1 h2 h3 h4 => by rw [y4 k h1, g3 k h4, g2 k h3, g1 k h2, vC_wI h1]
  have f7 : ∀ k, k ≠ 0 → k ≠ 10 → vI U 207 k = vI V 207 k := fun k h1 h2 => by
    rw [x4, zup_ne h2, vI_C (g3 207 (by omega)), vI_C (g2 207 (by omega)), vI_C (g1 207 (by omega)), vI_wI (zLen lT (by omega)), zup_ne h1, vI_C (fV 207 (by omega) (by omega))]
  have f4 : ∀ k, ¬ (160 ≤ k ∧ k < 180) → k ≠ 0 → k ≠ 207 → k ≠ 210 → k ≠ 211 → k ≠ 215 → vC U k = vC V k := fun k h0 h1 h2 h3 h4 h5 => by rw [f3 k h2 h3 h4 h5, fV k h0 h1]
  have rU : Rp 160 U w := rA.fr (fun k hk => by rw [f3 _ (by omega) (by omega) (by omega) (by omega), fT _ (by omega), fB _ (by omega)])
  refine ⟨w 66, T, U, eT, eR, by omega, l4, ?_, ?_, ?_, .inr ⟨?_, ?_, N, w, w0, kd, ar, by omega, hP, ⟨rU, ?_, fun j hj => ?_⟩, ⟨fun j hj => ?_, fun nb j hj => ?_, fun j hj => ?_⟩⟩, N, hc, q, w, w0, kd, ar, hF.fr (by omega) (fun k hk => f4 k (by omega) (by omega) (by omega) (by omega) (by omega) (by omega)) (f7 9 (by omega) (by omega))⟩
  · exact hM.fr2 b160 rU (fun b hb e u hu => by
      have z1 := zB_22 b hb u hu; have z2 := zB_hi b hb u hu; have z3 := zB_le b hb
      have z4 := zB_dj b hb 160 b160 (fun y => e y.symm)
      by_cases z5 : 160 + 17 ≤ b
      · have z6 : b = 180 := by revert hb z5; unfold zB; simp; omega
        exact f4 _ (by omega) (by omega) (by omega) (by omega) (by omega) (by omega)
      · exact f4 _ (by omega) (by omega) (by omega) (by omega) (by omega) (by omega))
  · exact hT.fr (fun k hk => by rw [vI_C (f3 0 (by omega) (by omega) (by omega) (by omega))]; exact f0 k (by omega)) (fun k hk => f7 k (by omega) (by omega)) (f4 1 (by omega) (by omega) (by omega) (by omega) (by omega) (by omega)) (f4 216 (by omega) (by omega) (by omega) (by omega) (by omega) (by omega))
  · exact hR.fr (fun k hk => f4 k (by omega) (by omega) (by omega) (by omega) (by omega) (by omega))
  · rw [vI_C (f3 0 (by omega) (by omega) (by omega) (by omega)), t0, zup_eq]
  · rw [x4, zup_eq]
  · rw [vI_C (f3 177 (by omega) (by omega) (by omega) (by omega)), vI_C (fT 177 (by omega))]; exact cB
  · rw [vI_C (f3 (177 + 1) (by omega) (by omega) (by omega) (by omega)), vI_C (f3 (177 + 2) (by omega) (by omega) (by omega) (by omega)), vI_C (fT (177 + 1) (by omega)), vI_C (fT (177 + 2) (by omega)), (kB j hj).1, (kB j hj).2, vI_C (fA.2 (19 + 1) (by omega)), vI_C (fA.2 (19 + 2) (by omega))]
    exact sc.2.2 j hj
  · rw [vI_C (y4 210 (by omega)), vI_C (g3 210 (by omega)), vI_C (g2 210 (by omega)), k1 j, if_pos hj]; exact q1 j hj
  · rw [vI_C (y4 211 (by omega)), vI_C (g3 211 (by omega)), k2 j, if_pos hj, vI_C (g1 209 (by omega)), vI_wI_ne (by omega), vI_C (fV 209 (by omega) (by omega))]
    exact sr.2.1 nb j hj
  · have e : ∀ p, p < 2 * N → vI U 215 p = vI V 214 p := fun p hp => by
      rw [vI_C (y4 215 (by omega)), k3 p, if_pos hp, vI_C (g2 214 (by omega)), vI_C (g1 214 (by omega)), vI_wI_ne (by omega), vI_C (fV 214 (by omega) (by omega))]
    rw [e _ (by omega), e _ (by omega)]
    exact sr.2.2 j hj
theorem p_restore (hn : 2100 < n) (hI : Inv i V) (hi : i < 512) : PairI i (ev_L_restore n V 0 222) (fun T => ev_X9_restore n T 207) gI := by
  have hI0 := hI
  obtain ⟨i5, hL, hM, hT, hR, hK, N0, hc, q, ww, w00, kd0, ar0, hF⟩ := hI
  unfold ev_L_restore eL_restore_0
  rcases hK with ⟨b0, b1⟩ | ⟨b0, b1, N, w, w0, kd, ar, hN, hP, sc, sr⟩
  · refine q_th hI0 hi (c := 1) (T := V) (E := "java/lang/IllegalStateException") ?_ (FrQ.rf hL hM) (if_pos rfl) (by decide) (fun T fT => ?_)
    · unfold ev_X8_restore eX8_restore_0
      rw [b0, if_pos rfl]
    · have l1 : zLay (wI T 207 0 1) := zLay_wI fT.1
      refine ⟨wI T 207 0 1, 0, ?_, (FrX.rf fT.1).t, tz fT.1⟩
      unfold ev_X9_restore eX9_restore_0 eX9_restore_13
      rw [fT.2.2.2 10 (by omega), b1, if_pos rfl, sq_eq, vI_wI (zLen fT.1 (by omega)), zup_ne (by omega), fT.2.2.2 10 (by omega), b1, if_pos rfl]
  have hW := hP.W (by omega)
  have n9 := hP.n9 (by omega)
  have hd : q < 8 ∧ hc ≤ 8 := ⟨hF.2.2.2.1, hF.2.1⟩
  have hh := hF.2.2.2.2.2.2.2.1
  obtain ⟨A, eA, rA, fA⟩ := c_copyFrom (n := n) (by omega) hL b2 b160 (by omega) hW sc.1 (fun u hu => hM _ b2 u hu)
  obtain ⟨B, eB, cB, kB, lB, fB⟩ := c_cmdcopy (n := n) (a := 19) (b := 177) (N := N) fA.1 (by decide) (by decide) (by omega) (by rw [vI_C (fA.2 177 (by omega))]; exact sc.2.1) (by omega)
  have lT : zLay (wI B 22 2 0) := zLay_wI lB
  have fT : ∀ k, k ≠ 22 → vC (wI B 22 2 0) k = vC B k := fun k hk => vC_wI hk
  have t0 : vI (wI B 22 2 0) 22 = zup (vI B 22) 2 0 := vI_wI (zLen lB (by omega))
  have eT : ev_X8_restore n V 0 = rt (w 66) (wI B 22 2 0) := by
    unfold ev_X8_restore eX8_restore_0 ev_X4_clear eX4_clear_0
    rw [b0, if_neg (by decide), r03 hL, ob_1, show vR V 0 6 = some 160 from zR hL (by decide +kernel), ob_1, eA, bd_rt, r04 fA.1, ob_1, show vR A 0 7 = some 177 from zR fA.1 (by decide +kernel), ob_1, eB, bd_rt, r05 lB, ob_1, sq_eq, bd_rt, r03 lT, ob_1, vI_C (fT 2 (by omega)), vI_C (fB 2 (by omega)), rA.count]
  refine q_gen (T := wI B 22 2 0) (r := w 66) eT lT ?_
  generalize wI B 22 2 0 = T at lT fT t0 eT
  have fV : ∀ k, ¬ (2 ≤ k ∧ k < 23) → vC T k = vC V k := fun k h1 => by rw [fT k (by omega), fB k (by omega), fA.2 k (by omega)]
  have lW : zLay (wJ T 222 0 (w 66).toInt64) := zLay_wJ lT
  have fW : ∀ k, k ≠ 222 → vC (wJ T 222 0 (w 66).toInt64) k = vC T k := fun k hk => vC_wJ hk
  generalize wJ T 222 0 (w 66).toInt64 = W at lW fW
  have f1 : ∀ k, ¬ (2 ≤ k ∧ k < 23) → k ≠ 222 → vC W k = vC V k := fun k h1 h2 => by rw [fW k h2, fV k h1]
  have l1 : zLay (wI W 207 0 0) := zLay_wI lW
  obtain ⟨S1, e1, m1, g1, k1⟩ := r_copies (n := n) (x := 210) (y := 208) (N := 290) (by omega) l1 (by omega) (by omega) (by decide +kernel) (by decide +kernel) (by decide +kernel) (by decide +kernel)
  obtain ⟨S2, e2, m2, g2, k2⟩ := r_copies (n := n) (x := 211) (y := 209) (N := 290) (by omega) m1 (by omega) (by omega) (by decide +kernel) (by decide +kernel) (by decide +kernel) (by decide +kernel)
  have v214 : vN W0 214 = 6000 := by decide +kernel
  have v215 : vN W0 215 = 6000 := by decide +kernel
  obtain ⟨S3, e3, m3, g3, k3⟩ := r_copies (n := n) (x := 215) (y := 214) (N := 2 * N) (by omega) m2 (by omega) (by omega) (by rw [v215]; omega) (by rw [v214]; omega) (by rw [v215]; omega) (by rw [v214]; omega)
  have q2 : Qr S2 w := fun k hk => by
    rw [vI_C (g2 208 (by omega)), k1 k, if_pos hk, vI_wI_ne (by omega), vI_C (f1 210 (by omega) (by omega))]; exact sr.1 k hk
  obtain ⟨g9, e9⟩ := r_v m2 q2 (k := 289) (x := 289) (by decide) rfl
  have l4 : zLay (wI S3 207 9 0) := zLay_wI m3
  have x4 : vI (wI S3 207 9 0) 207 = zup (vI S3 207) 9 0 := vI_wI (zLen m3 (by omega))
  have y4 : ∀ k, k ≠ 207 → vC (wI S3 207 9 0) k = vC S3 k := fun k hk => vC_wI hk
  have q4 : Qr (wI S3 207 9 0) w := fun k hk => by rw [vI_C (y4 208 (by omega)), vI_C (g3 208 (by omega))]; exact q2 k hk
  obtain ⟨g6, e6⟩ := r_v l4 q4 (k := 66) (x := 66) (by decide) rfl
  have w10 : vI W 207 10 = 1 := by rw [vI_C (f1 207 (by omega) (by omega))]; exact b1
  have eR : ev_X9_restore n W 207 = rt (w 66) (wI S3 207 9 0) := by
    unfold ev_X9_restore eX9_restore_0 eX9_restore_13
    rw [w10, if_neg (by decide), sq_eq, show vI (wI W 207 0 0) 207 10 = 1 from by rw [vI_wI (zLen lW (by omega)), zup_ne (by omega)]; exact w10, if_neg (by decide), show vR (wI W 207 0 0) 207 3 = some 210 from zR l1 (by decide +kernel), ob_1, r71 l1, ob_1, show (290 : Int32) = Int32.ofNat 290 from rfl, e1, bd_rt, show vR S1 207 4 = some 211 from zR m1 (by decide +kernel), ob_1, show vR S1 207 2 = some 209 from zR m1 (by decide +kernel), ob_1, e2, bd_rt, show vR S2 207 8 = some 215 from zR m2 (by decide +kernel), ob_1, r77 m2, ob_1, r71 m2, ob_1, if_pos g9, e9, n9, show (2 : Int32) * Int32.ofNat N = Int32.ofNat (2 * N) from of_mul (a := 2), e3, bd_rt, sq_eq, r71 l4, ob_1, if_pos g6, e6]
  generalize wI S3 207 9 0 = U at l4 x4 y4 q4 eR
  have f3 : ∀ k, k ≠ 207 → k ≠ 208 → k ≠ 209 → k ≠ 214 → vC U k = vC W k := fun k h1 h2 h3 h4 => by rw [y4 k h1, g3 k h4, g2 k h3, g1 k h2, vC_wI h1]
  have f7 : ∀ k, k ≠ 0 → k ≠ 9 → vI U 207 k = vI V 207 k := fun k h1 h2 => by
    rw [x4, zup_ne h2, vI_C (g3 207 (by omega)), vI_C (g2 207 (by omega)), vI_C (g1 207 (by omega)), vI_wI (zLen lW (by omega)), zup_ne h1, vI_C (f1 207 (by omega) (by omega))]
  have f4 : ∀ k, ¬ (2 ≤ k ∧ k < 23) → k ≠ 207 → k ≠ 208 → k ≠ 209 → k ≠ 214 → k ≠ 222 → vC U k = vC V k := fun k h0 h1 h2 h3 h4 h5 => by rw [f3 k h1 h2 h3 h4, f1 k h0 h5]
  have rU : Rp 2 U w := rA.fr (fun k hk => by rw [f3 _ (by omega) (by omega) (by omega) (by omega), fW _ (by omega), fT _ (by omega), fB _ (by omega)])
  refine ⟨U, eR, ⟨by omega, l4, ?_, ?_, ?_, .inr ⟨?_, ?_, N, w, w0, kd, ar, by omega, hP, sc.fr (fun k hk => f4 _ (by omega) (by omega) (by omega) (by omega) (by omega) (by omega)) (fun k hk => f4 _ (by omega) (by omega) (by omega) (by omega) (by omega) (by omega)), sr.fr (f4 210 (by omega) (by omega) (by omega) (by omega) (by omega) (by omega)) (f4 211 (by omega) (by omega) (by omega) (by omega) (by omega) (by omega)) (f4 215 (by omega) (by omega) (by omega) (by omega) (by omega) (by omega))⟩, N, 0, q, w, w0, kd, ar, by omega, by omega, by omega, hd.1, hP, ⟨rU, ?_, fun j hj => ?_⟩, ⟨q4, fun nb j hj => ?_, fun j hj => ?_⟩, ⟨?_, ?_, fun j hj => by omega⟩, ?_, fun j hj => by omega⟩, ?_, f3 222 (by omega) (by omega) (by omega) (by omega)⟩
  · exact hM.fr2 b2 rU (fun b hb e u hu => by
      have z1 := zB_22 b hb u hu; have z2 := zB_hi b hb u hu; have z3 := zB_le b hb
      rcases z1.2 with y | y
      · exact absurd y.symm e
      · exact f4 _ (by omega) (by omega) (by omega) (by omega) (by omega) (by omega))
  · exact hT.fr (fun k hk => by rw [vI_C (f4 0 (by omega) (by omega) (by omega) (by omega) (by omega) (by omega))]) (fun k hk => f7 k (by omega) (by omega)) (f4 1 (by omega) (by omega) (by omega) (by omega) (by omega) (by omega)) (f4 216 (by omega) (by omega) (by omega) (by omega) (by omega) (by omega))
  · exact hR.fr (fun k hk => f4 k (by omega) (by omega) (by omega) (by omega) (by omega) (by omega))
  · rw [vI_C (f4 0 (by omega) (by omega) (by omega) (by omega) (by omega) (by omega))]; exact b0
  · rw [f7 10 (by omega) (by omega)]; exact b1
  · rw [vI_C (f3 19 (by omega) (by omega) (by omega) (by omega)), vI_C (fW 19 (by omega)), vI_C (fT 19 (by omega))]; exact cB
  · rw [vI_C (f3 (19 + 1) (by omega) (by omega) (by omega) (by omega)), vI_C (f3 (19 + 2) (by omega) (by omega) (by omega) (by omega)), vI_C (fW (19 + 1) (by omega)), vI_C (fW (19 + 2) (by omega)), vI_C (fT (19 + 1) (by omega)), vI_C (fT (19 + 2) (by omega)), (kB j hj).1, (kB j hj).2, vI_C (fA.2 (177 + 1) (by omega)), vI_C (fA.2 (177 + 2) (by omega))]
    exact sc.2.2 j hj
  · rw [vI_C (y4 209 (by omega)), vI_C (g3 209 (by omega)), k2 j, if_pos hj, vI_C (g1 211 (by omega)), vI_wI_ne (by omega), vI_C (f1 211 (by omega) (by omega))]
    exact sr.2.1 nb j hj
  · have e : ∀ p, p < 2 * N → vI U 214 p = vI V 215 p := fun p hp => by
      rw [vI_C (y4 214 (by omega)), k3 p, if_pos hp, vI_C (g2 215 (by omega)), vI_C (g1 215 (by omega)), vI_wI_ne (by omega), vI_C (f1 215 (by omega) (by omega))]
    rw [e _ (by omega), e _ (by omega)]
    exact sr.2.2 j hj
  · rw [vI_C (f3 22 (by omega) (by omega) (by omega) (by omega)), vI_C (fW 22 (by omega)), t0, zup_ne (by omega), vI_C (fB 22 (by omega)), vI_C (fA.2 22 (by omega))]; exact hh.1
  · rw [vI_C (f3 22 (by omega) (by omega) (by omega) (by omega)), vI_C (fW 22 (by omega)), t0, zup_eq]; rfl
  · rw [x4, zup_eq]; rfl
  · rw [x4, zup_ne (by omega), vI_C (g3 207 (by omega)), vI_C (g2 207 (by omega)), vI_C (g1 207 (by omega)), tz lW]
end
