theorem rt_val {α : Type} {a b : α} {V U : VS} (h : rt a V = rt b U) : a = b := (Prod.mk.inj (Sum.inl.inj (Option.some.inj h))).1
theorem TX.u {t : Nat → Int32} {l R C R' C' : Nat} (h : TX t l R C) (g : TX t l R' C') : R = R' ∧ C = C' := by
  obtain ⟨a1, a2, _, _, a5, a6, a7⟩ := h
  obtain ⟨b1, b2, _, _, b5, b6, b7⟩ := g
  have e : C = C' := by
    by_cases z : C < C'
    · have := b6 C z
      rcases a7 with a7 | a7
      · omega
      · exact absurd a7 this
    by_cases y : C' < C
    · have := a6 C' y
      rcases b7 with b7 | b7
      · omega
      · exact absurd b7 this
    omega
  refine ⟨?_, e⟩
  rw [e] at a5
  exact Nat.eq_of_mul_eq_mul_right (Nat.succ_pos C') (a5.symm.trans b5)
section
variable {i n : Nat} {V T : VS} {x : Int32}
theorem c_side {k : Nat} (hk : k < 1000) : ev_X8_isSide n V (Int32.ofNat k) = rt (if 3 ≤ k ∧ k ≤ 8 then 1 else 0) V := by
  unfold ev_X8_isSide eX8_isSide_0
  by_cases h : k < 3
  · rw [if_pos (by exact (of_lt (b := 3) (by omega) (by omega)).mpr h), if_neg (by omega)]
  rw [if_neg (fun e => by exact h ((of_lt (b := 3) (by omega) (by omega)).mp e))]
  by_cases g : 8 < k
  · rw [if_pos (by exact (of_lt (a := 8) (by omega) (by omega)).mpr g), if_neg (by omega)]
  · rw [if_neg (fun e => by exact g ((of_lt (a := 8) (by omega) (by omega)).mp e)), if_pos (by omega)]
theorem r_side {k : Nat} (hk : k < 1000) : ev_X9_isIn n V (Int32.ofNat k) 3 8 = rt (if 3 ≤ k ∧ k ≤ 8 then 1 else 0) V := by
  by_cases h : k < 3
  · rw [isIn_no (.inl (by exact (of_lt (b := 3) (by omega) (by omega)).mpr h)), if_neg (by omega)]
  by_cases g : 8 < k
  · rw [isIn_no (.inr (by exact (of_lt (a := 8) (by omega) (by omega)).mpr g)), if_neg (by omega)]
  · rw [isIn_yes (fun e => by exact h ((of_lt (b := 3) (by omega) (by omega)).mp e)) (fun e => by exact g ((of_lt (a := 8) (by omega) (by omega)).mp e)), if_pos (by omega)]
theorem r00 (h : zLay V) : vR V 0 0 = some 1 := zR h (by decide +kernel)
theorem p_load (hn : 2100 < n) (hI : Inv i V) (hi : i < 512) : PairI i (ev_L_load n V 0 x 222) (fun T => ev_X9_load n T 207 x) gI := by
  obtain ⟨⟨l, hl, l1, l2, lt⟩, te⟩ := hI.2.2.2.1
  have hL := hI.L
  have hI' := hI
  obtain ⟨i5, _, hM, hT, hR, hK, N, hc, q, w, w0, kd, ar, hF⟩ := hI'
  have a4 : q < 8 := hF.2.2.2.1
  have hh := hF.2.2.2.2.2.2.2.1
  have hr := hF.2.2.2.2.2.2.2.2
  have L1 : zLay (wI V 0 1 0) := zLay_wI hL
  have run : ∀ T, zLay T → (∀ k, k < l → vI T 216 k = vI V 216 k) → vI T 207 12 = Int32.ofNat l → WrE n n (wI V 0 1 0) T (vI V 1) l 0 (-1) 0 0 := fun T hT tr t12 => wr_run (by omega) hl L1 hT (fun k _ => by rw [vI_wI_ne (by omega)]) (fun k hk => by rw [tr k hk, lt k hk]) t12 l n 0 (-1) 0 0 (by omega) (by omega) ⟨fun j hj => by omega, .inl ⟨rfl, rfl, rfl, rfl, fun j hj => by omega⟩⟩
  unfold ev_L_load eL_load_0
  rcases run V hL (fun _ _ => rfl) l2 with ⟨e, U0, el, ec, _, _⟩ | ⟨C, R, ec, _, tx⟩
  · -- malformed
    have ec2 : ev_X8_findError n (wI V 0 1 0) 1 (Int32.ofNat l) = rt (Int32.ofNat e) (wI V 0 1 0) := ec
    have lW : zLay (wI (wI V 0 1 0) 0 2 (Int32.ofNat e)) := zLay_wI L1
    have c8 : ev_X8_load n V 0 x = th "java/lang/IllegalArgumentException" (wI (wI V 0 1 0) 0 2 (Int32.ofNat e)) := by
      unfold ev_X8_load eX8_load_0
      rw [sq_eq, r00 L1, ob_1, l1, ec2, bd_rt, if_neg (ofn_nn (by omega)), sq_eq]
    have v0 : vI (wI (wI V 0 1 0) 0 2 (Int32.ofNat e)) 0 = zup (zup (vI V 0) 1 0) 2 (Int32.ofNat e) := by rw [vI_wI (zLen L1 (by omega)), vI_wI (zLen hL (by omega))]
    have fW : ∀ k, k ≠ 0 → vC (wI (wI V 0 1 0) 0 2 (Int32.ofNat e)) k = vC V k := fun k hk => by rw [vC_wI hk, vC_wI hk]
    generalize wI (wI V 0 1 0) 0 2 (Int32.ofNat e) = W at lW c8 v0 fW
    have m1 : zLay (wI W 207 0 0) := zLay_wI lW
    have y7 : ∀ k, k ≠ 0 → vI (wI W 207 0 0) 207 k = vI V 207 k := fun k hk => by rw [vI_wI (zLen lW (by omega)), zup_ne hk, vI_C (fW 207 (by omega))]
    rcases run (wI W 207 0 0) m1 (fun k _ => by rw [vI_wI_ne (by omega), vI_C (fW 216 (by omega))]) (by rw [y7 12 (by omega)]; exact l2) with ⟨e', U1, el', ec', er', fU⟩ | ⟨C, R, ec', _⟩
    rotate_left
    · exfalso
      have := rt_val (ec.symm.trans ec')
      exact ofn_nn (p := e) (by omega) (by rw [this]; decide)
    have ee : Int32.ofNat e = Int32.ofNat e' := rt_val (ec.symm.trans ec')
    rw [← ee] at er'
    have er2 : ev_X9_wrong n (wI W 207 0 0) 207 = rt (Int32.ofNat e) U1 := er'
    have m2 : zLay (wI U1 207 12 0) := zLay_wI fU.1
    have m3 : zLay (wI (wI U1 207 12 0) 207 13 (Int32.ofNat e)) := zLay_wI m2
    have m4 : zLay (wI (wI (wI U1 207 12 0) 207 13 (Int32.ofNat e)) 207 0 1) := zLay_wI m3
    have u7 : vI (wI (wI (wI U1 207 12 0) 207 13 (Int32.ofNat e)) 207 0 1) 207 = zup (zup (zup (vI U1 207) 12 0) 13 (Int32.ofNat e)) 0 1 := by rw [vI_wI (zLen m3 (by omega)), vI_wI (zLen m2 (by omega)), vI_wI (zLen fU.1 (by omega))]
    have f4 : ∀ k, k ≠ 0 → k ≠ 207 → vC (wI (wI (wI U1 207 12 0) 207 13 (Int32.ofNat e)) 207 0 1) k = vC V k := fun k h0 h1 => by rw [vC_wI h1, vC_wI h1, vC_wI h1, fU.2.1 k h1, vC_wI h1, fW k h0]
    have f0 : vI (wI (wI (wI U1 207 12 0) 207 13 (Int32.ofNat e)) 207 0 1) 0 = zup (zup (vI V 0) 1 0) 2 (Int32.ofNat e) := by
      rw [vI_wI_ne (by omega), vI_wI_ne (by omega), vI_wI_ne (by omega), vI_C (fU.2.1 0 (by omega)), vI_wI_ne (by omega), v0]
    refine ⟨1, W, 0, wI (wI (wI U1 207 12 0) 207 13 (Int32.ofNat e)) 207 0 1, by rw [c8, bd_th, if_pos rfl], ?_, ?_, tz m3, fun e => absurd e (by decide)⟩
    · show ev_X9_load n W 207 x = _
      unfold ev_X9_load eX9_load_0
      rw [sq_eq, er2, bd_rt, sq_eq, if_neg (ofn_nn (by omega)), sq_eq, r_no m3, bd_rt]
    · refine tx_inv hI hi m4 (fun k h0 h1 h2 h3 h4 => f4 k h0 h2) (by rw [f0, zup_ne (by omega), zup_ne (by omega)]) (fun k hk => ?_) ⟨⟨0, by omega, ?_, ?_, fun k hk => by omega⟩, ?_⟩
      · rw [u7, zup_ne (by omega), zup_ne (by omega), zup_ne (by omega), fU.2.2 k (by omega) (by omega), y7 k (by omega)]
      · rw [f0, zup_ne (by omega), zup_eq]; rfl
      · rw [u7, zup_ne (by omega), zup_ne (by omega), zup_eq]; rfl
      · rw [f0, u7, zup_eq, zup_ne (by omega), zup_eq]
  have ec2 : ev_X8_findError n (wI V 0 1 0) 1 (Int32.ofNat l) = rt (-1) (wI V 0 1 0) := ec
  have tx' := tx
  obtain ⟨c0, cl, ht, cn, lR, tC, tD⟩ := tx'
  have Rl : R ≤ 72 := by
    have : R * 1 ≤ R * (C + 1) := Nat.mul_le_mul_left R (by omega)
    omega
  have dv : Int32.ofNat (l + 1) / Int32.ofNat (C + 1) = Int32.ofNat R := by
    rw [of_div (by omega) (by omega), lR, Nat.mul_div_cancel R (by omega)]
  have cc2 : ev_X8_countColumns n (wI V 0 1 0) 1 (Int32.ofNat l) = rt (Int32.ofNat C) (wI V 0 1 0) := c_cc hl L1 (fun k _ => by rw [vI_wI_ne (by omega)]) cl tC tD C n 0 (by omega) (by omega)
  have nz : ¬ Int32.ofNat (C + 1) = 0 := fun e => by have := (of_inj (b := 0) (by omega) (by omega)).mp e; omega
  have bad : ¬ ((3 ≤ R ∧ R ≤ 8) ∧ (3 ≤ C ∧ C ≤ 8)) → PairI i (bd (ev_X8_load n V 0 x) (fun r2 V1 => if gvp_in 0 (vN V1 222) = true then sq (wJ V1 222 ((0 : Int32).toNatClampNeg) ((r2 : Int32).toInt64)) (fun V3 => rt 0 V3) else none) (fun E V9 => if E = "java/lang/IllegalArgumentException" then rt 1 V9 else if E = "java/lang/UnsupportedOperationException" then rt 2 V9 else none)) (fun T => ev_X9_load n T 207 x) gI := by
    intro bd5
    have c8 : ev_X8_load n V 0 x = th "java/lang/UnsupportedOperationException" (wI V 0 1 0) := by
      unfold ev_X8_load eX8_load_0 eX8_load_74
      rw [sq_eq, r00 L1, ob_1, l1, ec2, bd_rt, if_pos (by decide), r00 L1, ob_1, cc2, bd_rt, p1_of (p := C), if_pos nz, p1_of (p := l), dv, c_side (by omega), bd_rt]
      by_cases z : 3 ≤ R ∧ R ≤ 8
      · rw [if_pos z, if_neg (by decide), c_side (by omega), bd_rt, if_neg (fun y => bd5 ⟨z, y⟩), if_pos rfl]
      · rw [if_neg z, if_pos rfl]
    have v0 : vI (wI V 0 1 0) 0 = zup (vI V 0) 1 0 := by rw [vI_wI (zLen hL (by omega))]
    have fW : ∀ k, k ≠ 0 → vC (wI V 0 1 0) k = vC V k := fun k hk => vC_wI hk
    have m1 : zLay (wI (wI V 0 1 0) 207 0 0) := zLay_wI L1
    have y7 : ∀ k, k ≠ 0 → vI (wI (wI V 0 1 0) 207 0 0) 207 k = vI V 207 k := fun k hk => by rw [vI_wI (zLen L1 (by omega)), zup_ne hk, vI_C (fW 207 (by omega))]
    rcases run (wI (wI V 0 1 0) 207 0 0) m1 (fun k _ => by rw [vI_wI_ne (by omega), vI_C (fW 216 (by omega))]) (by rw [y7 12 (by omega)]; exact l2) with ⟨e', U1, el', ec', er', fU⟩ | ⟨C', R', ec', er', tx'⟩
    · exfalso
      have := rt_val (ec'.symm.trans ec)
      exact ofn_nn (p := e') (by omega) (by rw [this]; decide)
    obtain ⟨e1, e2⟩ := tx.u tx'
    subst e1 e2
    have fU : FrT (wI (wI V 0 1 0) 207 0 0) (wI (wI (wI (wI V 0 1 0) 207 0 0) 207 14 (Int32.ofNat R)) 207 15 (Int32.ofNat C)) := FrT.w m1
    have k4 : vI (wI (wI (wI (wI V 0 1 0) 207 0 0) 207 14 (Int32.ofNat R)) 207 15 (Int32.ofNat C)) 207 14 = Int32.ofNat R := by
      rw [vI_wI (zLen (zLay_wI m1) (by omega)), zup_ne (by omega), vI_wI (zLen m1 (by omega)), zup_eq]
    have k5 : vI (wI (wI (wI (wI V 0 1 0) 207 0 0) 207 14 (Int32.ofNat R)) 207 15 (Int32.ofNat C)) 207 15 = Int32.ofNat C := by
      rw [vI_wI (zLen (zLay_wI m1) (by omega)), zup_eq]
    have er2 : ev_X9_wrong n (wI (wI V 0 1 0) 207 0 0) 207 = rt (-1) (wI (wI (wI (wI V 0 1 0) 207 0 0) 207 14 (Int32.ofNat R)) 207 15 (Int32.ofNat C)) := er'
    generalize wI (wI (wI (wI V 0 1 0) 207 0 0) 207 14 (Int32.ofNat R)) 207 15 (Int32.ofNat C) = U1 at fU k4 k5 er2
    have m2 : zLay (wI U1 207 12 0) := zLay_wI fU.1
    have m4 : zLay (wI (wI U1 207 12 0) 207 0 2) := zLay_wI m2
    have u2 : vI (wI U1 207 12 0) 207 = zup (vI U1 207) 12 0 := by rw [vI_wI (zLen fU.1 (by omega))]
    have u7 : vI (wI (wI U1 207 12 0) 207 0 2) 207 = zup (zup (vI U1 207) 12 0) 0 2 := by rw [vI_wI (zLen m2 (by omega)), vI_wI (zLen fU.1 (by omega))]
    have f4 : ∀ k, k ≠ 0 → k ≠ 207 → vC (wI (wI U1 207 12 0) 207 0 2) k = vC V k := fun k h0 h1 => by rw [vC_wI h1, vC_wI h1, fU.2.1 k h1, vC_wI h1, fW k h0]
    have f0 : vI (wI (wI U1 207 12 0) 207 0 2) 0 = zup (vI V 0) 1 0 := by
      rw [vI_wI_ne (by omega), vI_wI_ne (by omega), vI_C (fU.2.1 0 (by omega)), vI_wI_ne (by omega), v0]
    refine ⟨2, wI V 0 1 0, 0, wI (wI U1 207 12 0) 207 0 2, by rw [c8, bd_th, if_neg (by decide), if_pos rfl], ?_, ?_, tz m2, fun e => absurd e (by decide)⟩
    · show ev_X9_load n (wI V 0 1 0) 207 x = _
      unfold ev_X9_load eX9_load_0 eX9_load_61
      rw [sq_eq, er2, bd_rt, sq_eq, if_pos (by decide), u2, zup_ne (by omega), k4, r_side (by omega), bd_rt]
      by_cases z : 3 ≤ R ∧ R ≤ 8
      · rw [if_pos z, if_neg (by decide), u2, zup_ne (by omega), k5, r_side (by omega), bd_rt, if_neg (fun y => bd5 ⟨z, y⟩), if_pos rfl, r_no m2, bd_rt]
      · rw [if_neg z, if_pos rfl, r_no m2, bd_rt]
    · refine tx_inv hI hi m4 (fun k h0 h1 h2 h3 h4 => f4 k h0 h2) (by rw [f0, zup_ne (by omega)]) (fun k hk => ?_) ⟨⟨0, by omega, ?_, ?_, fun k hk => by omega⟩, ?_⟩
      · rw [u7, zup_ne (by omega), zup_ne (by omega), fU.2.2 k (by omega) (by omega), y7 k (by omega)]
      · rw [f0, zup_eq]; rfl
      · rw [u7, zup_ne (by omega), zup_eq]; rfl
      · rw [f0, u7, zup_ne (by omega), zup_ne (by omega), zup_ne (by omega), fU.2.2 13 (by omega) (by omega), y7 13 (by omega)]; exact te
  by_cases g5 : (3 ≤ R ∧ R ≤ 8) ∧ (3 ≤ C ∧ C ≤ 8)
  rotate_left
  · exact bad g5
  obtain ⟨⟨r3, r8⟩, c3, c8⟩ := g5
  have rc : R * C ≤ 64 := Nat.mul_le_mul r8 c8
  have n64 : cN (vI V 1) l ≤ 64 := by omega
  -- the class
  obtain ⟨V1, e1, lV1, kV1, fV1⟩ := c_reset (n := n) (x := x) L1 b2
  have s1 : zLay (wI V1 3 1 (Int32.ofNat R)) := zLay_wI lV1
  have s2 : zLay (wI (wI V1 3 1 (Int32.ofNat R)) 3 2 (Int32.ofNat C)) := zLay_wI s1
  have s3 : vI (wI (wI V1 3 1 (Int32.ofNat R)) 3 2 (Int32.ofNat C)) 3 = zup (zup (vI V1 3) 1 (Int32.ofNat R)) 2 (Int32.ofNat C) := by rw [vI_wI (zLen s1 (by omega)), vI_wI (zLen lV1 (by omega))]
  obtain ⟨V2, e2, lV2, fV2, kV2⟩ := c_rd (n := n) (t := vI V 1) (by omega) hl ht n64 l n 0 _ (by omega) (by omega) s2 (fun k _ => by rw [vI_wI_ne (by omega), vI_wI_ne (by omega), vI_C (fV1 1 (by omega) (by omega)), vI_wI_ne (by omega)]) (fun c hc => absurd hc (Nat.not_lt_zero c))
  have e3 : ev_X3_read n V1 3 1 (Int32.ofNat l) (Int32.ofNat R) (Int32.ofNat C) = rt () V2 := e2
  have s4 : zLay (wI V2 19 2 0) := zLay_wI lV2
  have s5 : zLay (wI (wI V2 19 2 0) 22 2 0) := zLay_wI s4
  refine q_gen (T := wI (wI V2 19 2 0) 22 2 0) (r := 10 * Int32.ofNat R + Int32.ofNat C) ?_ s5 ?_
  · unfold ev_X8_load eX8_load_0
    rw [sq_eq, r00 L1, ob_1, l1, ec2, bd_rt, if_pos (by decide), r00 L1, ob_1, cc2, bd_rt, p1_of (p := C), if_pos nz, p1_of (p := l), dv, c_side (by omega), bd_rt, if_pos (show 3 ≤ R ∧ R ≤ 8 from ⟨r3, r8⟩), if_neg (by decide), c_side (by omega), bd_rt, if_pos (show 3 ≤ C ∧ C ≤ 8 from ⟨c3, c8⟩), if_neg (by decide), r03 L1, ob_1, e1, bd_rt, r03 lV1, ob_1, show vR V1 2 0 = some 3 from zR lV1 (by decide +kernel), ob_1, r00 lV1, ob_1, e3, bd_rt, r04 lV2, ob_1, sq_eq, r05 s4, ob_1]
    rfl
  have q2 : vI (wI (wI V2 19 2 0) 22 2 0) 22 = zup (vI V2 22) 2 0 := by rw [vI_wI (zLen s4 (by omega)), vI_wI_ne (by omega)]
  have q1 : vI (wI (wI V2 19 2 0) 22 2 0) 19 = zup (vI V2 19) 2 0 := by rw [vI_wI_ne (by omega), vI_wI (zLen lV2 (by omega))]
  have fq : ∀ k, k ≠ 19 → k ≠ 22 → vC (wI (wI V2 19 2 0) 22 2 0) k = vC V2 k := fun k h1 h2 => by rw [vC_wI h2, vC_wI h1]
  generalize wI (wI V2 19 2 0) 22 2 0 = V3 at s5 q1 q2 fq
  have lW : zLay (wJ V3 222 0 (10 * Int32.ofNat R + Int32.ofNat C).toInt64) := zLay_wJ s5
  have fW : ∀ k, k ≠ 222 → vC (wJ V3 222 0 (10 * Int32.ofNat R + Int32.ofNat C).toInt64) k = vC V3 k := fun k hk => vC_wJ hk
  generalize wJ V3 222 0 (10 * Int32.ofNat R + Int32.ofNat C).toInt64 = W at lW fW
  have f1 : ∀ k, k ≠ 0 → ¬ (2 ≤ k ∧ k < 8) → k ≠ 19 → k ≠ 22 → k ≠ 222 → vC W k = vC V k := fun k h1 h2 h3 h4 h5 => by
    rw [fW k h5, fq k h3 h4, fV2 k (by omega), vC_wI (by omega), vC_wI (by omega), fV1 k (by omega) (by omega), vC_wI h1]
  -- the reference
  have m1 : zLay (wI W 207 0 0) := zLay_wI lW
  have y0 : vI (wI W 207 0 0) 207 0 = 0 := tz lW
  have y7 : ∀ k, k ≠ 0 → vI (wI W 207 0 0) 207 k = vI V 207 k := fun k hk => by rw [vI_wI (zLen lW (by omega)), zup_ne hk, vI_C (f1 207 (by omega) (by omega) (by omega) (by omega) (by omega))]
  rcases run (wI W 207 0 0) m1 (fun k _ => by rw [vI_wI_ne (by omega), vI_C (f1 216 (by omega) (by omega) (by omega) (by omega) (by omega))]) (by rw [y7 12 (by omega)]; exact l2) with ⟨e', U1, el', ec', er', fU⟩ | ⟨C', R', ec', er', tx'⟩
  · exfalso
    have := rt_val (ec'.symm.trans ec)
    exact ofn_nn (p := e') (by omega) (by rw [this]; decide)
  obtain ⟨z1, z2⟩ := tx.u tx'
  subst z1 z2
  have fU := FrT.w (x := Int32.ofNat R) (y := Int32.ofNat C) m1
  have k4 : vI (wI (wI (wI W 207 0 0) 207 14 (Int32.ofNat R)) 207 15 (Int32.ofNat C)) 207 14 = Int32.ofNat R := by
    rw [vI_wI (zLen (zLay_wI m1) (by omega)), zup_ne (by omega), vI_wI (zLen m1 (by omega)), zup_eq]
  have k5 : vI (wI (wI (wI W 207 0 0) 207 14 (Int32.ofNat R)) 207 15 (Int32.ofNat C)) 207 15 = Int32.ofNat C := by
    rw [vI_wI (zLen (zLay_wI m1) (by omega)), zup_eq]
  have er2 : ev_X9_wrong n (wI W 207 0 0) 207 = rt (-1) (wI (wI (wI W 207 0 0) 207 14 (Int32.ofNat R)) 207 15 (Int32.ofNat C)) := er'
  generalize wI (wI (wI W 207 0 0) 207 14 (Int32.ofNat R)) 207 15 (Int32.ofNat C) = U1 at fU k4 k5 er2
  have m2 : zLay (wI U1 207 12 0) := zLay_wI fU.1
  have u2 : vI (wI U1 207 12 0) 207 = zup (vI U1 207) 12 0 := by rw [vI_wI (zLen fU.1 (by omega))]
  have v2 : ∀ k, k ≠ 207 → vC (wI U1 207 12 0) k = vC W k := fun k hk => by rw [vC_wI hk, fU.2.1 k hk, vC_wI hk]
  obtain ⟨U2, e70, lU2, fU2, kU2⟩ := r_l70 (n := n) (y1 := x) (y3 := Int32.ofNat l) 290 n 0 (wI U1 207 12 0) (by omega) (by omega) m2
  obtain ⟨U, e98, lU, fU3, ⟨kU9, kU7⟩, kU⟩ := r_l98 (n := n) (t := vI V 1) (x := x) hl r8 c8 ht n64 l n 0 U2 (by omega) (by omega) lU2 (fun k hk => by rw [vI_C (fU2 216 (by omega)), vI_C (v2 216 (by omega)), vI_C (f1 216 (by omega) (by omega) (by omega) (by omega) (by omega)), lt k hk]) (by rw [vI_C (fU2 207 (by omega)), u2, zup_ne (by omega)]; exact k4) (by rw [vI_C (fU2 207 (by omega)), u2, zup_ne (by omega)]; exact k5) (fun j hj => by
    rw [kU2 j, if_pos (by omega)]
    by_cases z : 2 ≤ j ∧ j < 66
    · rw [if_pos z]; rfl
    · rw [if_neg z])
  have f2 : ∀ k, k ≠ 207 → k ≠ 208 → vC U k = vC W k := fun k h1 h2 => by rw [fU3 k h1 h2, fU2 k h2, v2 k h1]
  have f3 : ∀ k, k ≠ 0 → ¬ (2 ≤ k ∧ k < 8) → k ≠ 19 → k ≠ 22 → k ≠ 207 → k ≠ 208 → k ≠ 222 → vC U k = vC V k := fun k h1 h2 h3 h4 h5 h6 h7 => by rw [f2 k h5 h6, f1 k h1 h2 h3 h4 h7]
  have g7 : ∀ k, k ≠ 9 → k ≠ 12 → vI U 207 k = vI U1 207 k := fun k h1 h2 => by rw [kU7 k h1, vI_C (fU2 207 (by omega)), u2, zup_ne h2]
  have e0 : vI U 0 = zup (vI V 0) 1 0 := by
    rw [vI_C (f2 0 (by omega) (by omega)), vI_C (fW 0 (by omega)), vI_C (fq 0 (by omega) (by omega)), vI_C (fV2 0 (by omega)), vI_wI_ne (by omega), vI_wI_ne (by omega), vI_C (fV1 0 (by omega) (by omega)), vI_wI (zLen hL (by omega))]
  refine ⟨U, ?_, ?_, by rw [g7 0 (by omega) (by omega), fU.2.2 0 (by omega) (by omega)]; exact y0, f2 222 (by omega) (by omega)⟩
  · unfold ev_X9_load eX9_load_0
    rw [sq_eq, er2, bd_rt, sq_eq, if_pos (by decide), u2, zup_ne (by omega), k4, r_side (by omega), bd_rt, if_pos (show 3 ≤ R ∧ R ≤ 8 from ⟨r3, r8⟩), if_neg (by decide), u2, zup_ne (by omega), k5, r_side (by omega), bd_rt, if_pos (show 3 ≤ C ∧ C ≤ 8 from ⟨c3, c8⟩), if_neg (by decide), fU.2.2 12 (by omega) (by omega), y7 12 (by omega), l2]
    exact e70.trans e98
  · have nU' : NumV U := hM.fr (fun a ha u hu => by
      have z1 := zB_22 a ha u hu; have z2 := zB_hi a ha u hu
      rw [vI_C (f3 _ (by omega) (by omega) (by omega) (by omega) (by omega) (by omega) (by omega))])
    have d2 : vI U 2 = vI V1 2 := by rw [vI_C (f2 2 (by omega) (by omega)), vI_C (fW 2 (by omega)), vI_C (fq 2 (by omega) (by omega)), vI_C (fV2 2 (by omega)), vI_wI_ne (by omega), vI_wI_ne (by omega)]
    have d7 : vI U 7 = vI V1 7 := by rw [vI_C (f2 7 (by omega) (by omega)), vI_C (fW 7 (by omega)), vI_C (fq 7 (by omega) (by omega)), vI_C (fV2 7 (by omega)), vI_wI_ne (by omega), vI_wI_ne (by omega)]
    have d3 : vI U 3 = zup (zup (vI V1 3) 1 (Int32.ofNat R)) 2 (Int32.ofNat C) := by rw [vI_C (f2 3 (by omega) (by omega)), vI_C (fW 3 (by omega)), vI_C (fq 3 (by omega) (by omega)), vI_C (fV2 3 (by omega)), s3]
    have d4 : vI U 4 = vI V2 4 := by rw [vI_C (f2 4 (by omega) (by omega)), vI_C (fW 4 (by omega)), vI_C (fq 4 (by omega) (by omega))]
    obtain ⟨b1, b2', b3, b4, b5, b6, b7, b8, b9⟩ := kV1
    have rU : Rp 2 U (gLd (vI V 1) l R C x) := by
      refine ⟨fun k hk => ?_, fun u hu => nU' 2 b2 u hu⟩
      unfold Lv at hk
      rw [gLd_R r8, gLd_C c8, gLd_U, gLd_O, gLd_E] at hk
      have z : k = 0 ∨ k = 1 ∨ (2 ≤ k ∧ k - 2 < R * C) ∨ k = 66 ∨ k = 155 ∨ k = 156 ∨ k = 157 ∨ k = 166 ∨ k = 167 ∨ k = 168 ∨ k = 290 ∨ k = 291 := by omega
      rcases z with rfl | rfl | ⟨z1, z2⟩ | rfl | rfl | rfl | rfl | rfl | rfl | rfl | rfl | rfl
      · rw [blk_at (o := 1) (p := 1) rfl, d3, zup_ne (by omega), zup_eq]; rfl
      · rw [blk_at (o := 1) (p := 2) rfl, d3, zup_eq]; rfl
      · have := loc_g (k - 2) (by omega)
        rw [show k = 2 + (k - 2) from by omega, blk_at this, d4, kV2 _ (by omega), gLd_c (by omega)]
      · rw [blk_at (o := 0) (p := 2) rfl, d2, b1, gLd_0 (by omega) (by omega) (by omega) (by omega)]
      · rw [blk_at (o := 0) (p := 10) rfl, d2, b8, gLd_155]
      · rw [blk_at (o := 0) (p := 8) rfl, d2, b6, gLd_0 (by omega) (by omega) (by omega) (by omega)]
      · rw [blk_at (o := 0) (p := 4) rfl, d2, b2', gLd_0 (by omega) (by omega) (by omega) (by omega)]
      · rw [blk_at (o := 0) (p := 6) rfl, d2, b4, gLd_166]
      · rw [blk_at (o := 0) (p := 7) rfl, d2, b5, gLd_0 (by omega) (by omega) (by omega) (by omega)]
      · rw [blk_at (o := 5) (p := 3) rfl, d7, b9, gLd_0 (by omega) (by omega) (by omega) (by omega)]
      · rw [blk_at (o := 0) (p := 5) rfl, d2, b3, gLd_0 (by omega) (by omega) (by omega) (by omega)]
      · rw [blk_at (o := 0) (p := 9) rfl, d2, b7, gLd_291]
    refine ⟨by omega, lU, nU', ⟨⟨0, by omega, by rw [e0, zup_eq]; rfl, ?_, fun k hk => by omega⟩, ?_⟩, ?_, ?_, 0, 0, q, gLd (vI V 1) l R C x, gLd (vI V 1) l R C x, fun _ => 0, fun _ => 0, by omega, by omega, by omega, a4, .inl ⟨rfl, gLd_F, gLd_W ht r3 r8 c3 c8⟩, ⟨rU, ?_, fun j hj => by omega⟩, ⟨kU, fun z => absurd (show gLd (vI V 1) l R C x 156 ≤ 0 by rw [gLd_0 (by omega) (by omega) (by omega) (by omega)]; decide) z, fun j hj => by omega⟩, ⟨?_, ?_, fun j hj => by omega⟩, kU9, fun j hj => by omega⟩
    · rw [kU7 12 (by omega), vI_C (fU2 207 (by omega)), u2, zup_eq]; rfl
    · rw [e0, zup_ne (by omega), g7 13 (by omega) (by omega), fU.2.2 13 (by omega) (by omega), y7 13 (by omega)]; exact te
    · exact hR.fr (fun k hk => f3 k (by omega) (by omega) (by omega) (by omega) (by omega) (by omega) (by omega))
    · exact hK.fr (by omega) (by rw [e0, zup_ne (by omega)]) (by rw [g7 10 (by omega) (by omega), fU.2.2 10 (by omega) (by omega), y7 10 (by omega)]) (fun k hk => f3 k (by omega) (by omega) (by omega) (by omega) (by omega) (by omega) (by omega))
    · rw [vI_C (f2 19 (by omega) (by omega)), vI_C (fW 19 (by omega)), q1, zup_eq]; rfl
    · rw [vI_C (f2 22 (by omega) (by omega)), vI_C (fW 22 (by omega)), q2, zup_ne (by omega), vI_C (fV2 22 (by omega)), vI_wI_ne (by omega), vI_wI_ne (by omega), vI_C (fV1 22 (by omega) (by omega)), vI_wI_ne (by omega)]; exact hh.1
    · rw [vI_C (f2 22 (by omega) (by omega)), vI_C (fW 22 (by omega)), q2, zup_eq]; rfl
end
