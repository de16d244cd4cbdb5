/-! the text of a grid -/
def tof (x : Int32) : Int32 := if x = 46 then 0 else if x = 35 then 1 else if x = 111 then 2 else if x = 126 then 3 else if x = 94 then 4 else -1
theorem tof_47 : tof 47 = -1 := by decide +kernel
theorem tof_le (x : Int32) : tof x = -1 ∨ (0 ≤ tof x ∧ Nb (tof x) 4) := by
  unfold tof
  by_cases h0 : x = 46
  · rw [if_pos h0]; exact .inr ⟨by decide, nb_z⟩
  rw [if_neg h0]
  by_cases h1 : x = 35
  · rw [if_pos h1]; exact .inr ⟨by decide, Nb.of (k := 1) (by omega) (by omega)⟩
  rw [if_neg h1]
  by_cases h2 : x = 111
  · rw [if_pos h2]; exact .inr ⟨by decide, Nb.of (k := 2) (by omega) (by omega)⟩
  rw [if_neg h2]
  by_cases h3 : x = 126
  · rw [if_pos h3]; exact .inr ⟨by decide, Nb.of (k := 3) (by omega) (by omega)⟩
  rw [if_neg h3]
  by_cases h4 : x = 94
  · rw [if_pos h4]; exact .inr ⟨by decide, Nb.of (k := 4) (by omega) (by omega)⟩
  rw [if_neg h4]; exact .inl rfl
section
variable {n : Nat} {V : VS} {x : Int32}
theorem r_tof : ev_X9_terrainOf n V x = rt (tof x) V := by
  unfold ev_X9_terrainOf eX9_terrainOf_0 tof
  by_cases h0 : x = 46
  · rw [if_pos h0, if_pos h0]
  rw [if_neg h0, if_neg h0]
  by_cases h1 : x = 35
  · rw [if_pos h1, if_pos h1]
  rw [if_neg h1, if_neg h1]
  by_cases h2 : x = 111
  · rw [if_pos h2, if_pos h2]
  rw [if_neg h2, if_neg h2]
  by_cases h3 : x = 126
  · rw [if_pos h3, if_pos h3]
  rw [if_neg h3, if_neg h3]
  by_cases h4 : x = 94
  · rw [if_pos h4, if_pos h4]
  rw [if_neg h4, if_neg h4]
theorem c_ixs {m j : Nat} (hj : j < 5) {y : Int32} : elJ1_indexOfChar_4cfef_7 n (m + 1) V 5 y (Int32.ofNat j) = if sgI (Int32.ofNat j) = y then rt (Int32.ofNat j) V else elJ1_indexOfChar_4cfef_7 n m V 5 y (Int32.ofNat (j + 1)) := by
  show eJ1_indexOfChar_4cfef_7 n (elJ1_indexOfChar_4cfef_7 n m) V 5 y (Int32.ofNat j) = _
  unfold eJ1_indexOfChar_4cfef_7
  rw [if_neg (fun e => by have := (of_le (a := 5) (by omega) (by omega)).mp e; omega), if_pos (in_of hj (by decide)), p1_of]
theorem c_ixe {m : Nat} {y : Int32} : elJ1_indexOfChar_4cfef_7 n (m + 1) V 5 y (Int32.ofNat 5) = rt (-1) V := by
  show eJ1_indexOfChar_4cfef_7 n (elJ1_indexOfChar_4cfef_7 n m) V 5 y (Int32.ofNat 5) = _
  unfold eJ1_indexOfChar_4cfef_7
  rw [if_pos (by decide)]
theorem ix_dec : ∀ k, k < 256 → (sgI (Int32.ofNat 0) = (Int32.ofNat k).toInt8.toInt32 ↔ Int32.ofNat k = 46) ∧ (sgI (Int32.ofNat 1) = (Int32.ofNat k).toInt8.toInt32 ↔ Int32.ofNat k = 35) ∧ (sgI (Int32.ofNat 2) = (Int32.ofNat k).toInt8.toInt32 ↔ Int32.ofNat k = 111) ∧ (sgI (Int32.ofNat 3) = (Int32.ofNat k).toInt8.toInt32 ↔ Int32.ofNat k = 126) ∧ (sgI (Int32.ofNat 4) = (Int32.ofNat k).toInt8.toInt32 ↔ Int32.ofNat k = 94) := by decide +kernel
theorem tof_out (h : x < 0 ∨ 255 < x) : tof x = -1 := by
  unfold tof
  have z : ∀ y : Int32, (0 ≤ y ∧ y ≤ 255) → x ≠ y := fun y hy e => by
    subst e
    rcases h with h | h
    · exact Int32.not_lt.mpr hy.1 h
    · exact Int32.not_lt.mpr hy.2 h
  rw [if_neg (z 46 (by decide)), if_neg (z 35 (by decide)), if_neg (z 111 (by decide)), if_neg (z 126 (by decide)), if_neg (z 94 (by decide))]
/-- a sign's place among the signs -/
theorem c_idx (hn : 6 < n) : ev_J0_indexOf_0f7a4 n V x = rt (tof x) V := by
  unfold ev_J0_indexOf_0f7a4 eJ0_indexOf_0f7a4_0 ev_J0_indexOf_7cf53 eJ0_indexOf_7cf53_0 ev_J0_isLatin1_aae02 eJ0_isLatin1_aae02_0 ev_J0_length_8abf5 eJ0_length_8abf5_0 ev_J0_coder_7d493 eJ0_coder_7d493_0 ev_J1_indexOf_4cfef eJ1_indexOf_4cfef_0 ev_J1_canEncode_9a6ad eJ1_canEncode_9a6ad_0
  rw [bd_rt, if_neg (by decide), bd_rt, bd_rt]
  by_cases g : x < 0
  · rw [if_pos g, bd_rt, if_pos rfl, bd_rt, bd_rt, tof_out (.inl g)]
  by_cases g2 : 255 < x
  · rw [if_neg g, if_pos g2, bd_rt, if_pos rfl, bd_rt, bd_rt, tof_out (.inr g2)]
  rw [if_neg g, if_neg g2, bd_rt, if_neg (by decide), if_pos (by decide)]
  obtain ⟨k, hk, rfl⟩ := rng (k := 256) (by omega) g (by
    have := Int32.le_iff_toInt_le.mp (Int32.not_lt.mp g2)
    rw [Int32.lt_iff_toInt_lt, show (Int32.ofNat 256).toInt = 256 from by decide]
    have e : (255 : Int32).toInt = 255 := by decide
    omega)
  obtain ⟨d0, d1, d2, d3, d4⟩ := ix_dec k hk
  obtain ⟨m, rfl⟩ : ∃ m, n = m + 6 := ⟨n - 6, by omega⟩
  have e5 : (if (5 : Int32) < (5 : Int32) >>> ((0 : Int32) &&& 31) then 5 else (5 : Int32) >>> ((0 : Int32) &&& 31)) = 5 := by decide
  have e0 : (if (0 : Int32) < 0 then 0 else 0) = Int32.ofNat 0 := by decide
  unfold ev_J1_indexOfChar_4cfef eJ1_indexOfChar_4cfef_0 tof
  rw [e5, e0, c_ixs (by omega), c_ixs (by omega), c_ixs (by omega), c_ixs (by omega), c_ixs (by omega), c_ixe]
  by_cases h0 : Int32.ofNat k = 46
  · rw [if_pos (d0.mpr h0), if_pos h0, bd_rt, bd_rt, bd_rt]; rfl
  rw [if_neg (fun e => h0 (d0.mp e)), if_neg h0]
  by_cases h1 : Int32.ofNat k = 35
  · rw [if_pos (d1.mpr h1), if_pos h1, bd_rt, bd_rt, bd_rt]; rfl
  rw [if_neg (fun e => h1 (d1.mp e)), if_neg h1]
  by_cases h2 : Int32.ofNat k = 111
  · rw [if_pos (d2.mpr h2), if_pos h2, bd_rt, bd_rt, bd_rt]; rfl
  rw [if_neg (fun e => h2 (d2.mp e)), if_neg h2]
  by_cases h3 : Int32.ofNat k = 126
  · rw [if_pos (d3.mpr h3), if_pos h3, bd_rt, bd_rt, bd_rt]; rfl
  rw [if_neg (fun e => h3 (d3.mp e)), if_neg h3]
  by_cases h4 : Int32.ofNat k = 94
  · rw [if_pos (d4.mpr h4), if_pos h4, bd_rt, bd_rt, bd_rt]; rfl
  rw [if_neg (fun e => h4 (d4.mp e)), if_neg h4, bd_rt, bd_rt, bd_rt]
end
/-! append -/
theorem nar_ok : ∀ k, k < 127 → vp_nar .char (Int32.ofNat k) = Int32.ofNat k := by decide +kernel
section
variable {i n : Nat} {V T U : VS} {x : Int32}
/-- what text operations leave -/
theorem tx_inv (hI : Inv i V) (hi : i < 512) (hL : zLay U) (f : ∀ k, k ≠ 0 → k ≠ 1 → k ≠ 207 → k ≠ 216 → k ≠ 222 → vC U k = vC V k) (f8 : vI U 0 8 = vI V 0 8) (f7 : ∀ k, k = 9 ∨ k = 10 → vI U 207 k = vI V 207 k) (hT : TxV U) : Inv (i + 1) U := by
  obtain ⟨_, _, hM, _, hR, hK, N, hc, q, w, w0, kd, ar, hF⟩ := hI
  exact ⟨by omega, hL, hM.fr (fun a ha u hu => by
    have z1 := zB_22 a ha u hu; have z2 := zB_hi a ha u hu
    rw [vI_C (f _ (by omega) (by omega) (by omega) (by omega) (by omega))]), hT, hR.fr (fun k hk => f k (by omega) (by omega) (by omega) (by omega) (by omega)), hK.fr (by omega) f8 (f7 10 (by omega)) (fun k hk => f k (by omega) (by omega) (by omega) (by omega) (by omega)), N, hc, q, w, w0, kd, ar, hF.fr (by omega) (fun k hk => f k (by omega) (by omega) (by omega) (by omega) (by omega)) (f7 9 (by omega))⟩
theorem p_append (hI : Inv i V) (hi : i < 512) : PairI i (ev_L_append n V 0 x 222) (fun T => ev_X9_append n T 207 x) gI := by
  obtain ⟨⟨l, hl, l1, l2, lt⟩, te⟩ := hI.2.2.2.1
  have hL := hI.L
  unfold ev_L_append eL_append_0
  by_cases g : x < 32 ∨ 126 < x
  · refine q_th hI hi (c := 1) (T := V) (E := "java/lang/IllegalArgumentException") ?_ (FrQ.rf hI.L hI.M) (if_pos rfl) (by decide) (fun T fT => ?_)
    · unfold ev_X8_append eX8_append_0 eX8_append_12
      by_cases g1 : x < 32
      · rw [if_pos g1]
      · rw [if_neg g1, if_neg (Int32.not_le.mpr (g.resolve_left g1))]
    · have m1 : zLay (wI T 207 0 0) := zLay_wI fT.1
      refine ⟨wI (wI T 207 0 0) 207 0 1, 0, ?_, ((FrX.rf fT.1).t (x := 0)).t, tz m1⟩
      unfold ev_X9_append eX9_append_0
      rw [sq_eq, isIn_no g, bd_rt, if_pos rfl, r_no m1, bd_rt]
  have g1 : ¬ x < 32 := fun e => g (.inl e)
  have g2 : ¬ 126 < x := fun e => g (.inr e)
  by_cases h7 : l = 71
  · refine q_th hI hi (c := 2) (T := V) (E := "java/lang/IllegalStateException") ?_ (FrQ.rf hI.L hI.M) (by rw [if_neg (by decide), if_pos rfl]) (by decide) (fun T fT => ?_)
    · unfold ev_X8_append eX8_append_0
      rw [if_neg g1, if_pos (Int32.not_lt.mp g2), show vR V 0 0 = some 1 from zR hL (by decide +kernel), ob_1, l1, show vN V 1 = 71 from zN hL (by decide +kernel), h7, if_neg (by decide)]
    · have m1 : zLay (wI T 207 0 0) := zLay_wI fT.1
      refine ⟨wI (wI T 207 0 0) 207 0 2, 0, ?_, ((FrX.rf fT.1).t (x := 0)).t, tz m1⟩
      unfold ev_X9_append eX9_append_0
      rw [sq_eq, isIn_yes g1 g2, bd_rt, if_neg (by decide), vI_wI (zLen fT.1 (by omega)), zup_ne (by omega), fT.2.2.2 12 (by omega), l2, h7, if_pos (by decide), r_no m1, bd_rt]
  have xk : ∃ k, k < 127 ∧ x = Int32.ofNat k := by
    refine rng (k := 127) (by omega) ?_ ?_
    · intro e
      apply g1
      rw [Int32.lt_iff_toInt_lt] at e ⊢
      have a1 : (0 : Int32).toInt = 0 := by decide
      have a2 : (32 : Int32).toInt = 32 := by decide
      omega
    · have := Int32.le_iff_toInt_le.mp (Int32.not_lt.mp g2)
      rw [Int32.lt_iff_toInt_lt, show (Int32.ofNat 127).toInt = 127 from by decide]
      have a1 : (126 : Int32).toInt = 126 := by decide
      omega
  have xn : vp_nar .char x = x := by
    obtain ⟨k, hk, rfl⟩ := xk
    exact nar_ok k hk
  have c1 : zLay (wI V 1 l x) := zLay_wI hL
  have c2 : zLay (wI (wI V 1 l x) 0 1 (Int32.ofNat (l + 1))) := zLay_wI c1
  refine q_gen (T := wI (wI V 1 l x) 0 1 (Int32.ofNat (l + 1))) (r := Int32.ofNat (l + 1)) ?_ c2 ?_
  · unfold ev_X8_append eX8_append_0
    rw [if_neg g1, if_pos (Int32.not_lt.mp g2), show vR V 0 0 = some 1 from zR hL (by decide +kernel), ob_1, l1, show vN V 1 = 71 from zN hL (by decide +kernel), if_pos ((of_lt (by omega) (by omega)).mpr (by omega)), ob_1, show vN V 1 = 71 from zN hL (by decide +kernel), if_pos (in_of (by omega) (by decide)), if_pos xn, tn_of (by omega), sq_eq, vI_wI_ne (by omega), l1, p1_of, sq_eq, vI_wI (zLen c1 (by omega)), zup_eq]
  have lW : zLay (wJ (wI (wI V 1 l x) 0 1 (Int32.ofNat (l + 1))) 222 0 (Int32.ofNat (l + 1)).toInt64) := zLay_wJ c2
  have fW : ∀ k, k ≠ 222 → vC (wJ (wI (wI V 1 l x) 0 1 (Int32.ofNat (l + 1))) 222 0 (Int32.ofNat (l + 1)).toInt64) k = vC (wI (wI V 1 l x) 0 1 (Int32.ofNat (l + 1))) k := fun k hk => vC_wJ hk
  generalize wJ (wI (wI V 1 l x) 0 1 (Int32.ofNat (l + 1))) 222 0 (Int32.ofNat (l + 1)).toInt64 = W at lW fW
  have w0 : vI W 0 = zup (vI V 0) 1 (Int32.ofNat (l + 1)) := by rw [vI_C (fW 0 (by omega)), vI_wI (zLen c1 (by omega)), vI_wI_ne (by omega)]
  have w1 : vI W 1 = zup (vI V 1) l x := by rw [vI_C (fW 1 (by omega)), vI_wI_ne (by omega), vI_wI (zLen hL (by omega))]
  have f1 : ∀ k, k ≠ 0 → k ≠ 1 → k ≠ 222 → vC W k = vC V k := fun k h0 h1 h2 => by rw [fW k h2, vC_wI h0, vC_wI h1]
  have m1 : zLay (wI W 207 0 0) := zLay_wI lW
  have m2 : zLay (wI (wI W 207 0 0) 216 l x) := zLay_wI m1
  have x12 : vI (wI W 207 0 0) 207 12 = Int32.ofNat l := by rw [vI_wI (zLen lW (by omega)), zup_ne (by omega), vI_C (f1 207 (by omega) (by omega) (by omega))]; exact l2
  have x13 : vI (wI (wI W 207 0 0) 216 l x) 207 12 = Int32.ofNat l := by rw [vI_wI_ne (by omega)]; exact x12
  have m3 : zLay (wI (wI (wI W 207 0 0) 216 l x) 207 12 (Int32.ofNat (l + 1))) := zLay_wI m2
  have u7 : vI (wI (wI (wI W 207 0 0) 216 l x) 207 12 (Int32.ofNat (l + 1))) 207 = zup (zup (vI W 207) 0 0) 12 (Int32.ofNat (l + 1)) := by rw [vI_wI (zLen m2 (by omega)), vI_wI_ne (by omega), vI_wI (zLen lW (by omega))]
  have u16 : vI (wI (wI (wI W 207 0 0) 216 l x) 207 12 (Int32.ofNat (l + 1))) 216 = zup (vI W 216) l x := by rw [vI_wI_ne (by omega), vI_wI (zLen m1 (by omega)), vI_wI_ne (by omega)]
  have fU : ∀ k, k ≠ 207 → k ≠ 216 → vC (wI (wI (wI W 207 0 0) 216 l x) 207 12 (Int32.ofNat (l + 1))) k = vC W k := fun k h1 h2 => by rw [vC_wI h1, vC_wI h2, vC_wI h1]
  refine ⟨wI (wI (wI W 207 0 0) 216 l x) 207 12 (Int32.ofNat (l + 1)), ?_, ?_, ?_, fU 222 (by omega) (by omega)⟩
  · unfold ev_X9_append eX9_append_0
    rw [sq_eq, isIn_yes g1 g2, bd_rt, if_neg (by decide), x12, if_neg (fun e => by exact h7 ((of_inj (b := 71) (by omega) (by omega)).mp e)), show vR (wI W 207 0 0) 207 11 = some 216 from zR m1 (by decide +kernel), ob_1, show vN (wI W 207 0 0) 216 = 71 from zN m1 (by decide +kernel), if_pos (in_of (by omega) (by decide)), tn_of (by omega), sq_eq, x13, p1_of, sq_eq, u7, zup_eq]
  · refine tx_inv hI hi m3 (fun k h0 h1 h2 h3 h4 => by rw [fU k h2 h3, f1 k h0 h1 h4]) ?_ (fun k hk => ?_) ⟨⟨l + 1, by omega, ?_, ?_, fun k hk => ?_⟩, ?_⟩
    · rw [vI_C (fU 0 (by omega) (by omega)), w0, zup_ne (by omega)]
    · rw [u7, zup_ne (by omega), zup_ne (by omega), vI_C (f1 207 (by omega) (by omega) (by omega))]
    · rw [vI_C (fU 0 (by omega) (by omega)), w0, zup_eq]
    · rw [u7, zup_eq]
    · rw [vI_C (fU 1 (by omega) (by omega)), w1, u16, vI_C (f1 216 (by omega) (by omega) (by omega))]
      unfold zup
      by_cases e : k = l
      · rw [if_pos e, if_pos e]
      · rw [if_neg e, if_neg e]; exact lt k (by omega)
    · rw [vI_C (fU 0 (by omega) (by omega)), w0, zup_ne (by omega), u7, zup_ne (by omega), zup_ne (by omega), vI_C (f1 207 (by omega) (by omega) (by omega))]; exact te
  · rw [u7, zup_ne (by omega), zup_eq]
end
