/-! isReplayed -/
theorem b180 : 180 ∈ zB := by decide
theorem v212 {V : VS} (h : zLay V) : vR V 207 5 = some 212 := zR h (by decide +kernel)
theorem n212 {V : VS} (h : zLay V) : vN V 212 = 290 := zN h (by decide +kernel)
theorem r09 {V : VS} (h : zLay V) : vR V 0 9 = some 180 := zR h (by decide +kernel)
section
variable {i n N : Nat} {V : VS} {w w0 : RW} {kd ar : Nat → Nat}
theorem c_rpL (hn : 100 < n) (hN : N ≤ 512) (hF : Fre w0) (hW0 : WF w0) (hl : Leg w0 kd ar N) : ∀ (d m j : Nat) (V : VS), j + d = N → d < m → zLay V → Rp 180 V (Run w0 kd ar j) → Rp 2 V (Run w0 kd ar N) → vI V 19 2 = Int32.ofNat N → (∀ j, j < N → vI V 20 j = Int32.ofNat (kd j) ∧ vI V 21 j = Int32.ofNat (ar j)) → ∃ U, elX8_isReplayed_41 n m V 0 (Int32.ofNat j) = rt 1 U ∧ Rp 180 U (Run w0 kd ar N) ∧ FrW 180 V U
  | 0, m + 1, j, V, e, _, hL, hA, hB, hc, hk => by
    have ej : j = N := by omega
    subst ej
    refine ⟨V, ?_, hA, hL, fun _ _ _ => rfl⟩
    show eX8_isReplayed_41 n (elX8_isReplayed_41 n m) V 0 (Int32.ofNat j) = _
    unfold eX8_isReplayed_41 eX8_isReplayed_95
    rw [r04 hL, ob_1, hc, if_pos (Int32.le_refl _), r09 hL, ob_1, r03 hL, ob_1, c_same (by omega) hL b180 b2 (Run_p hF hW0 j (by omega) hl).1 hA hB, bd_rt, if_pos (by decide)]
  | d + 1, m + 1, j, V, e, hd, hL, hA, hB, hc, hk => by
    obtain ⟨t, h1, h2⟩ := hl j (by omega)
    obtain ⟨T, eT, rT, fT⟩ := c_carry (n := n) (by omega) hL b180 hA h1 h2
    obtain ⟨U, eU, rU, fU⟩ := c_rpL hn hN hF hW0 hl d m (j + 1) T (by omega) (by omega) fT.1 rT (hB.fr (fun i hi => fT.2 _ (by omega) (by omega))) (by rw [vI_C (fT.2 19 (by omega) (by omega))]; exact hc) (fun j hj => by rw [vI_C (fT.2 20 (by omega) (by omega)), vI_C (fT.2 21 (by omega) (by omega))]; exact hk j hj)
    refine ⟨U, ?_, rU, fT.tr fU⟩
    show eX8_isReplayed_41 n (elX8_isReplayed_41 n m) V 0 (Int32.ofNat j) = _
    unfold eX8_isReplayed_41
    rw [r04 hL, ob_1, hc, if_neg (fun e => by have := (of_le (by omega) (by omega)).mp e; omega), if_neg (fun e => by have := (of_le (a := 512) (by omega) (by omega)).mp e; omega), r09 hL, ob_1, ob_1, show vR V 19 0 = some 20 from zR hL (by decide +kernel), ob_1, show vN V 20 = 512 from zN hL (by decide +kernel), if_pos (in_of (by omega) (by decide)), ob_1, show vR V 19 1 = some 21 from zR hL (by decide +kernel), ob_1, show vN V 21 = 512 from zN hL (by decide +kernel), if_pos (in_of (by omega) (by decide)), r71x hL, ob_1, tn_of (by omega), (hk j (by omega)).1, (hk j (by omega)).2, eT, bd_rt, p1_of]
    exact eU
theorem r_rpL (hn : 300 < n) (hN : N ≤ 512) (hF : Fre w0) (hW0 : WF w0) (hl : Leg w0 kd ar N) : ∀ (d m j : Nat) (V : VS), j + d = N → d < m → zLay V → Qr V (Run w0 kd ar j) → vI V 212 289 = Int32.ofNat N → (∀ j, j < N → vI V 214 (2 * j) = Int32.ofNat (kd j) ∧ vI V 214 (2 * j + 1) = Int32.ofNat (ar j)) → ∃ U, elX9_isReplayed_60 n m V 207 (Int32.ofNat j) = elX9_isReplayed_108 n n U 207 1 0 ∧ Qr U (Run w0 kd ar N) ∧ zLay U ∧ (∀ i, i ≠ 207 → i ≠ 208 → i ≠ 217 → vC U i = vC V i) ∧ ∀ k, k ≠ 16 → k ≠ 18 → vI U 207 k = vI V 207 k
  | 0, m + 1, j, V, e, _, hL, hQ, hc, hk => by
    have ej : j = N := by omega
    subst ej
    refine ⟨V, ?_, hQ, hL, fun _ _ _ _ => rfl, fun _ _ _ => rfl⟩
    show eX9_isReplayed_60 n (elX9_isReplayed_60 n m) V 207 (Int32.ofNat j) = _
    unfold eX9_isReplayed_60
    rw [v212 hL, ob_1, n212 hL, if_pos (by decide), show (289 : Int32).toNatClampNeg = 289 from by decide +kernel, hc, if_pos (Int32.le_refl _)]
  | d + 1, m + 1, j, V, e, hd, hL, hQ, hc, hk => by
    obtain ⟨t, h1, h2⟩ := hl j (by omega)
    have rp := Run_p hF hW0 j (by omega) (hl.le (by omega))
    obtain ⟨T, eT, qT, fT⟩ := r_does (n := n) (by omega) hL hQ h1 h2 rp.2.2.1 rp.2.2.2.1 (by omega)
    have lT : zLay (wI T 207 18 (gDo (Run w0 kd ar j) (kd j) (ar j)).2) := zLay_wI fT.1
    obtain ⟨U, eU, qU, lU, fU, kU⟩ := r_rpL hn hN hF hW0 hl d m (j + 1) (wI T 207 18 (gDo (Run w0 kd ar j) (kd j) (ar j)).2) (by omega) (by omega) lT (qT.wo (by omega)) (by rw [vI_wI_ne (by omega), vI_C (fT.2.1 212 (by omega) (by omega) (by omega))]; exact hc) (fun j hj => by rw [vI_wI_ne (by omega), vI_C (fT.2.1 214 (by omega) (by omega) (by omega))]; exact hk j hj)
    refine ⟨U, ?_, qU, lU, fun i h1 h2 h3 => by rw [fU i h1 h2 h3, vC_wI h1, fT.2.1 i h1 h2 h3], fun k h1 h2 => by rw [kU k h1 h2, vI_wI (zLen fT.1 (by omega)), zup_ne h2, fT.2.2 k h1]⟩
    show eX9_isReplayed_60 n (elX9_isReplayed_60 n m) V 207 (Int32.ofNat j) = _
    unfold eX9_isReplayed_60
    rw [v212 hL, ob_1, n212 hL, if_pos (by decide), show (289 : Int32).toNatClampNeg = 289 from by decide +kernel, hc, if_neg (fun e => by have := (of_le (by omega) (by omega)).mp e; omega), r77 hL, ob_1, show (2 : Int32) * Int32.ofNat j = Int32.ofNat (2 * j) from of_mul (a := 2), m214 hL, if_pos (in_of (by omega) (by decide)), ob_1, p1_of, m214 hL, if_pos (in_of (by omega) (by decide)), tn_of (by omega), tn_of (by omega), (hk j (by omega)).1, (hk j (by omega)).2, eT, bd_rt, sq_eq, p1_of]
    exact eU
theorem r_cmp (hn : 300 < n) : ∀ (d m k : Nat) (V : VS), k + d = 290 → d < m → zLay V → (∀ j, j < 290 → vI V 208 j = vI V 212 j) → ∃ U, elX9_isReplayed_108 n m V 207 1 (Int32.ofNat k) = rt 1 U ∧ zLay U ∧ (∀ i, i ≠ 208 → vC U i = vC V i) ∧ ∀ j, j < 290 → vI U 208 j = vI V 212 j
  | 0, m + 1, k, V, e, _, hL, hq => by
    have ek : k = 290 := by omega
    subst ek
    obtain ⟨U, eU, lU, fU, kU⟩ := r_copies (n := n) (x := 212) (y := 208) (N := 290) (by omega) hL (by omega) (by omega) (by decide +kernel) (by decide +kernel) (by decide +kernel) (by decide +kernel)
    refine ⟨U, ?_, lU, fU, fun j hj => by rw [kU j, if_pos hj]⟩
    show eX9_isReplayed_108 n (elX9_isReplayed_108 n m) V 207 1 (Int32.ofNat 290) = _
    unfold eX9_isReplayed_108
    rw [if_pos (by decide), v212 hL, ob_1, r71 hL, ob_1, show (290 : Int32) = Int32.ofNat 290 from rfl, eU, bd_rt, if_pos (by decide)]
  | d + 1, m + 1, k, V, e, hd, hL, hq => by
    obtain ⟨U, eU, lU, fU, kU⟩ := r_cmp hn d m (k + 1) V (by omega) (by omega) hL hq
    refine ⟨U, ?_, lU, fU, kU⟩
    show eX9_isReplayed_108 n (elX9_isReplayed_108 n m) V 207 1 (Int32.ofNat k) = _
    unfold eX9_isReplayed_108 eX9_isReplayed_156 eX9_isReplayed_161
    rw [if_neg (fun e => by have := (of_le (a := 290) (by omega) (by omega)).mp e; omega), r71 hL, ob_1, n208 hL, if_pos (in_of (by omega) (by decide)), v212 hL, ob_1, n212 hL, if_pos (in_of (by omega) (by decide)), tn_of (by omega), if_pos (hq k (by omega)), show (1 : Int32) &&& 1 = 1 from by decide, p1_of]
    exact eU
theorem p_isReplayed (hn : 2100 < n) (hI : Inv i V) (hi : i < 512) : PairI i (ev_L_isReplayed n V 0 222) (fun T => ev_X9_isReplayed n T 207) gB := by
  obtain ⟨N, hc, q, w, w0, kd, ar, hF, hW, hC, hQ, hN, hP⟩ := hI.get
  have hL := hI.L
  unfold ev_L_isReplayed eL_isReplayed_0
  by_cases z : w 156 ≤ 0
  · refine q_th hI hi (c := 1) (T := V) (E := "java/lang/IllegalStateException") ?_ (FrQ.rf hI.L hI.M) (if_pos rfl) (by decide) (fun T fT => ?_)
    · unfold ev_X8_isReplayed eX8_isReplayed_0
      rw [r03 hL, ob_1, c_hasBegun hC, bd_rt, if_pos z, if_pos rfl]
    · refine ⟨wI T 207 0 1, 0, ?_, (FrX.rf fT.1).t, tz fT.1⟩
      unfold ev_X9_isReplayed eX9_isReplayed_0 eX9_isReplayed_13
      rw [r_hasBegun fT.1 (fT.Q hF), bd_rt, if_pos z, if_pos rfl, sq_eq, tz fT.1, if_pos rfl]
  obtain ⟨p1, p2, p3, p4, p5⟩ := hP.yes z
  obtain ⟨i5, _, hM, hT, hR, hK, _⟩ := hI
  obtain ⟨a1, a2, a3, a4, _, sc, sr, hh, hr⟩ := hF
  have rp := Run_p p1 p2 N (by omega) p4
  -- the class
  obtain ⟨A, eA, rA, fA⟩ := c_prep (n := n) (by omega) hL b180 b2 (by omega) hW p2 p1 (fun k hk => by rw [p5]; exact rp.2.2.2.2.2 k hk) hC (fun u hu => hM 180 b180 u hu)
  obtain ⟨B, eB, rB, fB⟩ := c_startRounds (n := n) (by omega) fA.1 b180 p2 rA
  have fAB := fA.tr fB
  obtain ⟨C, eC, rC, fC⟩ := c_rpL (n := n) (by omega) hN p1 p2 p4 N n 0 B (by omega) (by omega) fB.1 rB (by rw [← p5]; exact hC.fr (fun k hk => fAB.2 _ (by omega))) (by rw [vI_C (fAB.2 19 (by omega))]; exact sc.2.1) (fun j hj => by rw [vI_C (fAB.2 20 (by omega)), vI_C (fAB.2 21 (by omega))]; exact sc.2.2 j hj)
  have lC := fC.1
  have fVC : ∀ k, ¬ (180 ≤ k ∧ k < 201) → vC C k = vC V k := fun k hk => by rw [fC.2 k (by omega) (by omega), fAB.2 k (by omega)]
  have eX : ev_X8_isReplayed n V 0 = rt 1 C := by
    unfold ev_X8_isReplayed eX8_isReplayed_0
    rw [r03 hL, ob_1, c_hasBegun hC, bd_rt, if_neg z, if_neg (by decide), r09 hL, ob_1, r03 hL, ob_1, eA, bd_rt, r09 fA.1, ob_1, eB, bd_rt]
    exact eC
  have lW : zLay (wJ C 222 0 1) := zLay_wJ lC
  have fW : ∀ k, k ≠ 222 → vC (wJ C 222 0 1) k = vC C k := fun k hk => vC_wJ hk
  have jW : vJ (wJ C 222 0 1) 222 0 = 1 := vJ_wJ (zLen lC (by omega))
  have eW : (bd (ev_X8_isReplayed n V 0) (fun r2 V1 => if r2 = 0 then (if gvp_in 0 (vN V1 222) = true then sq (wJ V1 222 ((0 : Int32).toNatClampNeg) 0) (fun V3 => rt 0 V3) else none) else (if gvp_in 0 (vN V1 222) = true then sq (wJ V1 222 ((0 : Int32).toNatClampNeg) 1) (fun V4 => rt 0 V4) else none)) (fun E V9 => if E = "java/lang/IllegalStateException" then rt 1 V9 else none)) = rt (0 : Int32) (wJ C 222 0 1) := by
    rw [eX, bd_rt, if_neg (by decide), wj lC]
  generalize wJ C 222 0 1 = W at lW fW jW eW
  have f1 : ∀ k, ¬ (180 ≤ k ∧ k < 201) → k ≠ 222 → vC W k = vC V k := fun k h1 h2 => by rw [fW k h2, fVC k h1]
  have qW : Qr W w := fun k hk => by rw [vI_C (f1 208 (by omega) (by omega))]; exact hQ k hk
  -- the reference
  have l1 : zLay (wI W 207 0 0) := zLay_wI lW
  have q1 : Qr (wI W 207 0 0) w := tq qW
  obtain ⟨S1, e1, m1, g1, k1⟩ := r_copies (n := n) (x := 208) (y := 212) (N := 290) (by omega) l1 (by omega) (by omega) (by decide +kernel) (by decide +kernel) (by decide +kernel) (by decide +kernel)
  obtain ⟨S2, e2, m2, g2, k2⟩ := r_copies (n := n) (x := 209) (y := 208) (N := 290) (by omega) m1 (by omega) (by omega) (by decide +kernel) (by decide +kernel) (by decide +kernel) (by decide +kernel)
  have q2 : Qr S2 w0 := fun k hk => by
    rw [k2 k, if_pos hk, vI_C (g1 209 (by omega)), vI_wI_ne (by omega), vI_C (f1 209 (by omega) (by omega))]; exact sr.2.1 z k hk
  obtain ⟨S3, e3, q3, f3⟩ := r_fights (n := n) (by omega) m2 q2 p2 p1
  have r212 : ∀ k, k < 290 → vI S3 212 k = w k := fun k hk => by
    rw [vI_C (f3.2.1 212 (by omega) (by omega) (by omega)), vI_C (g2 212 (by omega)), k1 k, if_pos hk]; exact q1 k hk
  obtain ⟨S4, e4, q4, m4, g4, k4⟩ := r_rpL (n := n) (by omega) hN p1 p2 p4 N n 0 S3 (by omega) (by omega) f3.1 q3 (by rw [r212 289 (by omega)]; exact hP.n9 (by omega)) (fun j hj => by
    rw [vI_C (f3.2.1 214 (by omega) (by omega) (by omega)), vI_C (g2 214 (by omega)), vI_C (g1 214 (by omega)), vI_wI_ne (by omega), vI_C (f1 214 (by omega) (by omega))]
    exact sr.2.2 j hj)
  obtain ⟨U, e5, lU, g5, k5⟩ := r_cmp (n := n) (by omega) 290 n 0 S4 (by omega) (by omega) m4 (fun j hj => by
    rw [vI_C (g4 212 (by omega) (by omega) (by omega)), r212 j hj, p5]; exact q4 j hj)
  have qU : Qr U w := fun k hk => by
    rw [k5 k hk, vI_C (g4 212 (by omega) (by omega) (by omega))]; exact r212 k hk
  have f2 : ∀ k, k ≠ 207 → k ≠ 208 → k ≠ 212 → k ≠ 217 → vC U k = vC W k := fun k h1 h2 h3 h4 => by
    rw [g5 k h2, g4 k h1 h2 h4, f3.2.1 k h1 h2 h4, g2 k h2, g1 k h3, vC_wI h1]
  have f7 : ∀ k, k ≠ 16 → k ≠ 18 → vI U 207 k = zup (vI W 207) 0 0 k := fun k h1 h2 => by
    rw [vI_C (g5 207 (by omega)), k4 k h1 h2, f3.2.2 k h1, vI_C (g2 207 (by omega)), vI_C (g1 207 (by omega)), vI_wI (zLen lW (by omega))]
  have f8 : ∀ k, k ≠ 0 → k ≠ 16 → k ≠ 18 → vI U 207 k = vI V 207 k := fun k h0 h1 h2 => by
    rw [f7 k h1 h2, zup_ne h0, vI_C (f1 207 (by omega) (by omega))]
  have f9 : ∀ k, ¬ (180 ≤ k ∧ k < 201) → k ≠ 207 → k ≠ 208 → k ≠ 212 → k ≠ 217 → k ≠ 222 → vC U k = vC V k := fun k h0 h1 h2 h3 h4 h5 => by rw [f2 k h1 h2 h3 h4, f1 k h0 h5]
  have rU : Rp 180 U (Run w0 kd ar N) := rC.fr (fun k hk => by rw [f2 _ (by omega) (by omega) (by omega) (by omega), fW _ (by omega)])
  refine ⟨0, W, 1, U, eW, ?_, ?_, by rw [f7 0 (by omega) (by omega), zup_eq], fun _ => by rw [vJ_C (f2 222 (by omega) (by omega) (by omega) (by omega)), jW]; rfl⟩
  · show ev_X9_isReplayed n W 207 = _
    unfold ev_X9_isReplayed eX9_isReplayed_0 eX9_isReplayed_13
    rw [r_hasBegun lW qW, bd_rt, if_neg z, if_neg (by decide), sq_eq, tz lW, if_neg (by decide), r71 l1, ob_1, v212 l1, ob_1, show (290 : Int32) = Int32.ofNat 290 from rfl, e1, bd_rt, show vR S1 207 2 = some 209 from zR m1 (by decide +kernel), ob_1, r71 m1, ob_1, e2, bd_rt, e3, bd_rt]
    exact e4.trans e5
  · refine ⟨by omega, lU, ?_, ?_, ?_, ?_, N, hc, q, w, w0, kd, ar, by omega, a2, a3, a4, hP, ?_, ⟨qU, fun _ j hj => ?_, fun j hj => ?_⟩, ?_, ?_⟩
    · exact hM.fr2 b180 rU (fun b hb e u hu => by
        have z1 := zB_dj b hb 180 b180 (Ne.symm e); have z2 := zB_hi b hb u hu; have z3 := zB_le b hb
        exact f9 _ (by omega) (by omega) (by omega) (by omega) (by omega) (by omega))
    · exact hT.fr (fun k hk => by rw [vI_C (f9 0 (by omega) (by omega) (by omega) (by omega) (by omega) (by omega))]) (fun k hk => f8 k (by omega) (by omega) (by omega)) (f9 1 (by omega) (by omega) (by omega) (by omega) (by omega) (by omega)) (f9 216 (by omega) (by omega) (by omega) (by omega) (by omega) (by omega))
    · exact hR.fr (fun k hk => f9 k (by omega) (by omega) (by omega) (by omega) (by omega) (by omega))
    · exact hK.fr (by omega) (by rw [vI_C (f9 0 (by omega) (by omega) (by omega) (by omega) (by omega) (by omega))]) (f8 10 (by omega) (by omega) (by omega)) (fun k hk => f9 k (by omega) (by omega) (by omega) (by omega) (by omega) (by omega))
    · exact sc.fr (fun k hk => f9 _ (by omega) (by omega) (by omega) (by omega) (by omega) (by omega)) (fun k hk => f9 _ (by omega) (by omega) (by omega) (by omega) (by omega) (by omega))
    · rw [vI_C (f9 209 (by omega) (by omega) (by omega) (by omega) (by omega) (by omega))]; exact sr.2.1 z j hj
    · rw [vI_C (f9 214 (by omega) (by omega) (by omega) (by omega) (by omega) (by omega))]; exact sr.2.2 j hj
    · exact hh.fr a4 a2 (fun k h1 h2 => f9 k (by omega) (by omega) (by omega) (by omega) (by omega) (by omega))
    · exact hr.fr (f8 9 (by omega) (by omega) (by omega)) (f9 213 (by omega) (by omega) (by omega) (by omega) (by omega) (by omega))
end
