/-! addUnit -/
section
variable {i n : Nat} {V T : VS} {w : RW} {t k c u : Nat}
theorem r_add111 {x y z : Int32} (h8 : u < 8) : ∀ (d m j : Nat) (V : VS), j + d = 11 → d < m → zLay V → ∃ S, elX9_addUnit_111 n m V 207 x y z (Int32.ofNat u) (Int32.ofNat j) = bd (ev_X9_sets n S 207 (Int32.ofNat u) 0 x) (fun _ V1 => bd (ev_X9_sets n V1 207 (Int32.ofNat u) 1 y) (fun _ V2 => bd (ev_X9_sets n V2 207 (Int32.ofNat u) 2 z) (fun _ V3 => bd (ev_X9_number n V3 y 0) (fun r5 V4 => bd (ev_X9_sets n V4 207 (Int32.ofNat u) 3 r5) (fun _ V6 => bd (ev_X9_number n V6 y 7) (fun r8 V7 => bd (ev_X9_sets n V7 207 (Int32.ofNat u) 4 r8) (fun _ V9 => bd (ev_X9_number n V9 y 8) (fun r11 V10 => bd (ev_X9_sets n V10 207 (Int32.ofNat u) 5 r11) (fun _ V12 => rt (Int32.ofNat u) V12) th) th) th) th) th) th) th) th) th ∧ zLay S ∧ (∀ i, i ≠ 208 → vC S i = vC V i) ∧ ∀ q, vI S 208 q = if 67 + 11 * u + j ≤ q ∧ q < 67 + 11 * u + 11 then 0 else vI V 208 q
  | 0, m + 1, j, V, e, _, hL => by
    have : j = 11 := by omega
    subst this
    refine ⟨V, ?_, hL, fun _ _ => rfl, fun q => by rw [if_neg (by omega)]⟩
    show eX9_addUnit_111 n (elX9_addUnit_111 n m) V 207 x y z (Int32.ofNat u) (Int32.ofNat 11) = _
    unfold eX9_addUnit_111
    rw [if_pos (by decide)]
  | d + 1, m + 1, j, V, e, hm, hL => by
    show ∃ S, eX9_addUnit_111 n (elX9_addUnit_111 n m) V 207 x y z (Int32.ofNat u) (Int32.ofNat j) = _ ∧ _
    unfold eX9_addUnit_111
    rw [if_neg (fun e => by have := (of_le (a := 11) (by omega) (by omega)).mp e; omega), r_setj (x := Int32.ofNat j) (j := j) hL h8 (by omega) rfl, bd_rt, p1_of]
    obtain ⟨S, eS, lS, fS, kS⟩ := r_add111 (x := x) (y := y) (z := z) h8 d m (j + 1) (wI V 208 (67 + 11 * u + j) 0) (by omega) (by omega) (zLay_wI hL)
    refine ⟨S, eS, lS, fun i hi => (fS i hi).trans (vC_wI hi), fun q => ?_⟩
    rw [kS q, vI_wI (zLen hL (by omega))]
    unfold zup
    by_cases g : q = 67 + 11 * u + j
    · rw [if_neg (by omega), if_pos g, if_pos (by omega)]
    · rw [if_neg g]
      by_cases g2 : 67 + 11 * u + (j + 1) ≤ q ∧ q < 67 + 11 * u + 11
      · rw [if_pos g2, if_pos (by omega)]
      · rw [if_neg g2, if_neg (by omega)]
theorem r_add (hn : 12 < n) (hL : zLay V) (hQ : Qr V w) (hW : WF w) (h8 : nU w < 8) (hk : k < 4) : ∃ U, elX9_addUnit_111 n n (wI V 208 66 (w 66 + 1)) 207 (Int32.ofNat t) (Int32.ofNat k) (Int32.ofNat c) (w 66) 0 = rt (Int32.ofNat (nU w)) U ∧ Qr U (gAdd w t k c) ∧ zLay U ∧ ∀ i, i ≠ 208 → vC U i = vC V i := by
  have l1 : zLay (wI V 208 66 (w 66 + 1)) := zLay_wI hL
  obtain ⟨S, eS, lS, fS, kS⟩ := r_add111 (n := n) (x := Int32.ofNat t) (y := Int32.ofNat k) (z := Int32.ofNat c) h8 11 n 0 (wI V 208 66 (w 66 + 1)) (by omega) (by omega) l1
  have nb : ∀ (T : VS) (y : Int32) (q : Nat), q < 9 → y = Int32.ofNat q → ev_X9_number n T (Int32.ofNat k) y = rt (tbI q (Int32.ofNat k)) T := fun T y q hq ey => r_number hk hq rfl ey
  have l2 : zLay (wI S 208 (67 + 11 * nU w + 0) (Int32.ofNat t)) := zLay_wI lS
  have l3 : zLay (wI (wI S 208 (67 + 11 * nU w + 0) (Int32.ofNat t)) 208 (67 + 11 * nU w + 1) (Int32.ofNat k)) := zLay_wI l2
  have l4 : zLay (wI (wI (wI S 208 (67 + 11 * nU w + 0) (Int32.ofNat t)) 208 (67 + 11 * nU w + 1) (Int32.ofNat k)) 208 (67 + 11 * nU w + 2) (Int32.ofNat c)) := zLay_wI l3
  have l5 : zLay (wI (wI (wI (wI S 208 (67 + 11 * nU w + 0) (Int32.ofNat t)) 208 (67 + 11 * nU w + 1) (Int32.ofNat k)) 208 (67 + 11 * nU w + 2) (Int32.ofNat c)) 208 (67 + 11 * nU w + 3) (tbI 0 (Int32.ofNat k))) := zLay_wI l4
  have l6 : zLay (wI (wI (wI (wI (wI S 208 (67 + 11 * nU w + 0) (Int32.ofNat t)) 208 (67 + 11 * nU w + 1) (Int32.ofNat k)) 208 (67 + 11 * nU w + 2) (Int32.ofNat c)) 208 (67 + 11 * nU w + 3) (tbI 0 (Int32.ofNat k))) 208 (67 + 11 * nU w + 4) (tbI 7 (Int32.ofNat k))) := zLay_wI l5
  rw [show (0 : Int32) = Int32.ofNat 0 from rfl, hW.ue]
  rw [hW.ue] at eS
  refine ⟨wI (wI (wI (wI (wI (wI S 208 (67 + 11 * nU w + 0) (Int32.ofNat t)) 208 (67 + 11 * nU w + 1) (Int32.ofNat k)) 208 (67 + 11 * nU w + 2) (Int32.ofNat c)) 208 (67 + 11 * nU w + 3) (tbI 0 (Int32.ofNat k))) 208 (67 + 11 * nU w + 4) (tbI 7 (Int32.ofNat k))) 208 (67 + 11 * nU w + 5) (tbI 8 (Int32.ofNat k)), ?_, fun q hq => ?_, zLay_wI l6, fun i hi => ?_⟩
  · rw [eS, r_setj (x := 0) (j := 0) lS h8 (by decide) rfl, bd_rt, r_setj (x := 1) (j := 1) l2 h8 (by decide) rfl, bd_rt, r_setj (x := 2) (j := 2) l3 h8 (by decide) rfl, bd_rt, nb _ 0 0 (by decide) rfl, bd_rt, r_setj (x := 3) (j := 3) l4 h8 (by decide) rfl, bd_rt, nb _ 7 7 (by decide) rfl, bd_rt, r_setj (x := 4) (j := 4) l5 h8 (by decide) rfl, bd_rt, nb _ 8 8 (by decide) rfl, bd_rt, r_setj (x := 5) (j := 5) l6 h8 (by decide) rfl, bd_rt]
  · rw [vI_wI (zLen l6 (by omega)), vI_wI (zLen l5 (by omega)), vI_wI (zLen l4 (by omega)), vI_wI (zLen l3 (by omega)), vI_wI (zLen l2 (by omega)), vI_wI (zLen lS (by omega))]
    by_cases h : 67 + 11 * nU w ≤ q ∧ q < 67 + 11 * nU w + 11
    · obtain ⟨j, rfl⟩ : ∃ j, q = 67 + 11 * nU w + j := ⟨q - (67 + 11 * nU w), by omega⟩
      rw [gAdd_u (by omega)]
      have : j = 0 ∨ j = 1 ∨ j = 2 ∨ j = 3 ∨ j = 4 ∨ j = 5 ∨ 6 ≤ j := by omega
      rcases this with rfl | rfl | rfl | rfl | rfl | rfl | h6
      · rw [zup_ne (by omega), zup_ne (by omega), zup_ne (by omega), zup_ne (by omega), zup_ne (by omega), zup_eq]; rfl
      · rw [zup_ne (by omega), zup_ne (by omega), zup_ne (by omega), zup_ne (by omega), zup_eq]; rfl
      · rw [zup_ne (by omega), zup_ne (by omega), zup_ne (by omega), zup_eq]; rfl
      · rw [zup_ne (by omega), zup_ne (by omega), zup_eq]; rfl
      · rw [zup_ne (by omega), zup_eq]; rfl
      · rw [zup_eq]; rfl
      · rw [zup_ne (by omega), zup_ne (by omega), zup_ne (by omega), zup_ne (by omega), zup_ne (by omega), zup_ne (by omega), kS, if_pos (by omega), List.getD_eq_getElem?_getD, List.getElem?_eq_none (by simpa using h6)]; rfl
    · rw [zup_ne (by omega), zup_ne (by omega), zup_ne (by omega), zup_ne (by omega), zup_ne (by omega), zup_ne (by omega), kS, if_neg (by omega), vI_wI (zLen hL (by omega))]
      by_cases h6 : q = 66
      · subst h6
        rw [zup_eq]; unfold gAdd; rw [if_pos rfl, hW.ue]
      · rw [zup_ne h6, gAdd_at h6 h (by omega)]; exact hQ q hq
  · rw [vC_wI hi, vC_wI hi, vC_wI hi, vC_wI hi, vC_wI hi, vC_wI hi, fS i hi, vC_wI hi]
def PairU (i : Nat) (C : Rs Int32) (R : VS → Rs Int32) : Prop := ∃ c T r U, C = rt c T ∧ R T = rt r U ∧ Inv (i + 1) U
theorem PairI.toU {C : Rs Int32} {R : VS → Rs Int32} {g : Int32 → Int64} (h : PairI i C R g) : PairU i C R := by
  obtain ⟨c, T, r, U, a, b, d, _⟩ := h
  exact ⟨c, T, r, U, a, b, d⟩
theorem dead_no (hF : Fre w) (hW : WF w) (hu : u < nU w) : dead w u = false := by
  have h := (hF.2.2.2.2.2.2.2.2 u hu).2.1
  have hk := kindN_lt hW hu
  have e := (tb_u hW hu (q := 0) (by decide)).1
  have p := (tb0_le _ hk).2.2.2
  have l := (tb0_le _ hk).1
  unfold dead
  rw [h, e]
  exact decide_eq_false (fun q => by have := (of_le (b := 0) (by omega) (by omega)).mp q; omega)
theorem occ_onc (hF : Fre w) (hW : WF w) {x : Int32} : occ w x = onc w x := by
  unfold occ onc
  rw [Bool.eq_iff_iff, List.any_eq_true, List.any_eq_true]
  constructor
  · rintro ⟨v, hv, q⟩
    rw [dead_no hF hW (List.mem_range.mp hv)] at q
    exact ⟨v, hv, by simpa using q⟩
  · rintro ⟨v, hv, q⟩
    refine ⟨v, hv, ?_⟩
    rw [dead_no hF hW (List.mem_range.mp hv)]
    simpa using q
theorem p_addUnit {x y z : Int32} (hn : 2100 < n) (hI : Inv i V) (hi : i < 512) : PairU i (ev_L_addUnit n V 0 x y z 222) (fun T => ev_X9_addUnit n T 207 x y z) := by
  obtain ⟨N, hc, q, w, w0, kd, ar, hF, hW, hC, hQ, hN, hP⟩ := hI.get
  have u8 := hW.u8; have rc := hW.rc
  unfold ev_L_addUnit eL_addUnit_0
  -- a refusal
  have bad : ∀ E, ev_X8_addUnit n V 0 x y z = th E V → (E = "java/lang/IndexOutOfBoundsException" ∨ E = "java/lang/IllegalArgumentException" ∨ E = "java/lang/IllegalStateException") → (∀ T, FrQ V T → ∃ r U, ev_X9_addUnit n T 207 x y z = rt r U ∧ FrX T U) → PairU i (bd (ev_X8_addUnit n V 0 x y z) (fun r2 V1 => if gvp_in 0 (vN V1 222) = true then sq (wJ V1 222 ((0 : Int32).toNatClampNeg) ((r2 : Int32).toInt64)) (fun V3 => rt 0 V3) else none) (fun E V9 => if E = "java/lang/IndexOutOfBoundsException" then rt 1 V9 else (if E = "java/lang/IllegalArgumentException" then rt 2 V9 else (if E = "java/lang/IllegalStateException" then rt 3 V9 else none)))) (fun T => ev_X9_addUnit n T 207 x y z) := by
    intro E eC hE h
    obtain ⟨r, U, eU, fU⟩ := h V (FrQ.rf hI.L hI.M)
    have iU : Inv (i + 1) U := (fU.q hI.M).inv hI (by omega) (by omega)
    rcases hE with rfl | rfl | rfl
    · exact ⟨1, V, r, U, by rw [eC, bd_th, if_pos rfl], eU, iU⟩
    · exact ⟨2, V, r, U, by rw [eC, bd_th, if_neg (by decide), if_pos rfl], eU, iU⟩
    · exact ⟨3, V, r, U, by rw [eC, bd_th, if_neg (by decide), if_neg (by decide), if_pos rfl], eU, iU⟩
  have no : ∀ (T : VS) (y : Int32), zLay T → ∃ r U, bd (ev_X9_no n (wI T 207 0 0) 207 y) (fun r2 V1 => rt r2 V1) th = rt r U ∧ FrX T U := fun T y lT => by
    have l1 : zLay (wI T 207 0 0) := zLay_wI lT
    exact ⟨0, _, by rw [r_no l1, bd_rt], ((FrX.rf lT).t (x := 0)).t⟩
  rcases out_k (k := 2) (by omega) x with g1 | ⟨t, ht, rfl⟩
  · refine bad "java/lang/IndexOutOfBoundsException" ?_ (.inl rfl) (fun T fT => ?_)
    · unfold ev_X8_addUnit eX8_addUnit_0 ev_X8_requireTeam eX8_requireTeam_0
      rw [if_neg (fun e => by subst e; exact in_out (j := 0) (k := 2) (by omega) (by omega) g1), if_neg (fun e => by subst e; exact in_out (j := 1) (k := 2) (by omega) (by omega) g1), bd_th]
    · have := in_no (n := n) (V := wI T 207 0 0) (k := 2) (by omega) g1
      rw [show Int32.ofNat 2 - 1 = (1 : Int32) from by decide] at this
      unfold ev_X9_addUnit eX9_addUnit_0 eX9_addUnit_31
      rw [sq_eq, this, bd_rt, if_pos rfl]
      exact no T 1 fT.1
  have tm : ev_X8_requireTeam n V (Int32.ofNat t) = rt () V := by
    unfold ev_X8_requireTeam eX8_requireTeam_0
    have : t = 0 ∨ t = 1 := by omega
    rcases this with rfl | rfl
    · rw [if_pos (by decide)]
    · rw [if_neg (by decide), if_pos (by decide)]
  have in2 : ∀ T : VS, ev_X9_isIn n T (Int32.ofNat t) 0 1 = rt 1 T := fun T => by
    have := in_yes (n := n) (V := T) (k := 2) ht (by omega)
    rwa [show Int32.ofNat 2 - 1 = (1 : Int32) from by decide] at this
  rcases out_k (k := 4) (by omega) y with g1 | ⟨k, hk, rfl⟩
  · refine bad "java/lang/IndexOutOfBoundsException" ?_ (.inl rfl) (fun T fT => ?_)
    · unfold ev_X8_addUnit eX8_addUnit_0 eX8_addUnit_13
      rw [tm, bd_rt]
      by_cases g2 : y < 0
      · rw [if_pos g2]
      · rw [if_neg g2, if_neg (show ¬ y < 4 from Int32.not_lt.mpr (g1.resolve_left g2))]
    · have := in_no (n := n) (V := wI T 207 0 0) (k := 4) (by omega) g1
      rw [show Int32.ofNat 4 - 1 = (3 : Int32) from by decide] at this
      unfold ev_X9_addUnit eX9_addUnit_0 eX9_addUnit_31
      rw [sq_eq, in2, bd_rt, if_neg (by decide), this, bd_rt, if_pos rfl]
      exact no T 1 fT.1
  have in4 : ∀ T : VS, ev_X9_isIn n T (Int32.ofNat k) 0 3 = rt 1 T := fun T => by
    have := in_yes (n := n) (V := T) (k := 4) hk (by omega)
    rwa [show Int32.ofNat 4 - 1 = (3 : Int32) from by decide] at this
  rcases out_k (k := nR w * nC w) (by omega) z with g1 | ⟨c, hcc, rfl⟩
  · refine bad "java/lang/IndexOutOfBoundsException" ?_ (.inl rfl) (fun T fT => ?_)
    · unfold ev_X8_addUnit eX8_addUnit_0
      rw [tm, bd_rt, if_neg (ofn_nn (by omega)), if_pos (by exact (of_lt (b := 4) (by omega) (by omega)).mpr hk), c_reqC0 hI.L hW hC g1, bd_th]
    · have l1 : zLay (wI T 207 0 0) := zLay_wI fT.1
      unfold ev_X9_addUnit eX9_addUnit_0 eX9_addUnit_31
      rw [sq_eq, in2, bd_rt, if_neg (by decide), in4, bd_rt, if_neg (by decide), r_isC0 l1 (tq (fT.Q hF)) hW g1, bd_rt, if_pos rfl]
      exact no T 1 fT.1
  have cF : ev_X8_addUnit n V 0 (Int32.ofNat t) (Int32.ofNat k) (Int32.ofNat c) = if w (2 + c) = 1 then th "java/lang/IllegalArgumentException" V else if onc w (Int32.ofNat c) = true then th "java/lang/IllegalArgumentException" V else if ¬ w 156 ≤ 0 then th "java/lang/IllegalStateException" V else if nU w < 8 then bd (ev_X2_enlist n V 2 (Int32.ofNat t) (Int32.ofNat k) (Int32.ofNat c)) (fun r16 V15 => rt r16 V15) th else th "java/lang/IllegalStateException" V := by
    unfold ev_X8_addUnit eX8_addUnit_0 eX8_addUnit_54 eX8_addUnit_86
    rw [tm, bd_rt, if_neg (ofn_nn (by omega)), if_pos (by exact (of_lt (b := 4) (by omega) (by omega)).mpr hk), c_reqC1 hI.L hW hC hcc, bd_rt, r03 hI.L, ob_1, zr0 hI.L b2, ob_1, c_ground hI.L b2 hW hC hcc, bd_rt]
    by_cases h1 : w (2 + c) = 1
    · rw [if_pos h1, if_pos h1]
    rw [if_neg h1, if_neg h1, r03 hI.L, ob_1, c_hasUnitOn (by omega) hI.L b2 hW hC, bd_rt]
    by_cases h2 : onc w (Int32.ofNat c) = true
    · rw [if_pos h2, if_pos h2, if_neg (by decide)]
    rw [if_neg h2, if_neg h2, if_pos rfl, r03 hI.L, ob_1, c_hasBegun hC, bd_rt]
    by_cases h3 : w 156 ≤ 0
    · rw [if_pos h3, if_pos rfl, if_neg (fun f => f h3), r03 hI.L, ob_1, hC.count, hW.ue]
      by_cases h4 : nU w < 8
      · rw [if_pos (by exact (of_lt (b := 8) (by omega) (by omega)).mpr h4), if_pos h4, ob_1]
      · rw [if_neg (fun e => by exact h4 ((of_lt (b := 8) (by omega) (by omega)).mp e)), if_neg h4]
    · rw [if_neg h3, if_neg (by decide), if_pos h3]
  have rF : ∀ T, zLay T → Qr T w → (w (2 + c) = 1 ∨ occ w (Int32.ofNat c) = true ∨ ¬ w 156 ≤ 0 ∨ nU w = 8) → ∃ r U, ev_X9_addUnit n T 207 (Int32.ofNat t) (Int32.ofNat k) (Int32.ofNat c) = rt r U ∧ FrX T U := fun T lT qT h => by
    have l1 : zLay (wI T 207 0 0) := zLay_wI lT
    have q1 : Qr (wI T 207 0 0) w := tq qT
    obtain ⟨g9, e9⟩ := r_gc l1 q1 (c := c) (by omega)
    obtain ⟨g6, e6⟩ := r_v l1 q1 (k := 66) (x := 66) (by decide) rfl
    unfold ev_X9_addUnit eX9_addUnit_0 eX9_addUnit_57 eX9_addUnit_82
    rw [sq_eq, in2, bd_rt, if_neg (by decide), in4, bd_rt, if_neg (by decide), r_isC1 l1 q1 hW hcc, bd_rt, if_neg (by decide), r71 l1, ob_1, if_pos g9, e9]
    by_cases h1 : w (2 + c) = 1
    · rw [if_pos h1]; exact no T 2 lT
    rw [if_neg h1]
    rcases r_unitOn (n := n) (by omega) l1 q1 hW (t := Int32.ofNat c) with ⟨o, eo⟩ | ⟨o, v, hv, _, _, eo⟩
    · rw [eo, bd_rt, if_pos (by decide), r_hasBegun l1 q1, bd_rt]
      by_cases h3 : w 156 ≤ 0
      · have h8 : nU w = 8 := by
          rcases h with h | h | h | h
          · exact absurd h h1
          · rw [o] at h; cases h
          · exact absurd h3 h
          · exact h
        rw [if_pos h3, if_pos rfl, r71 l1, ob_1, if_pos g6, e6, hW.ue, h8, if_pos (by decide)]
        exact no T 3 lT
      · rw [if_neg h3, if_neg (by decide)]; exact no T 3 lT
    · rw [eo, bd_rt, if_neg (ofn_nn (by omega))]; exact no T 2 lT
  by_cases h1 : w (2 + c) = 1
  · exact bad _ (by rw [cF, if_pos h1]) (.inr (.inl rfl)) (fun T fT => rF T fT.1 (fT.Q hF) (.inl h1))
  by_cases h3 : ¬ w 156 ≤ 0
  · by_cases h2 : onc w (Int32.ofNat c) = true
    · exact bad _ (by rw [cF, if_neg h1, if_pos h2]) (.inr (.inl rfl)) (fun T fT => rF T fT.1 (fT.Q hF) (.inr (.inr (.inl h3))))
    · exact bad _ (by rw [cF, if_neg h1, if_neg h2, if_pos h3]) (.inr (.inr rfl)) (fun T fT => rF T fT.1 (fT.Q hF) (.inr (.inr (.inl h3))))
  have h3' : w 156 ≤ 0 := Classical.not_not.mp h3
  obtain ⟨n0, fr, _⟩ := hP.no (by omega) h3'
  by_cases h2 : onc w (Int32.ofNat c) = true
  · exact bad _ (by rw [cF, if_neg h1, if_pos h2]) (.inr (.inl rfl)) (fun T fT => rF T fT.1 (fT.Q hF) (.inr (.inl (by rw [occ_onc fr hW]; exact h2))))
  by_cases h8 : nU w < 8
  rotate_left
  · exact bad _ (by rw [cF, if_neg h1, if_neg h2, if_neg h3, if_neg h8]) (.inr (.inr rfl)) (fun T fT => rF T fT.1 (fT.Q hF) (.inr (.inr (.inr (by omega)))))
  -- a unit more
  obtain ⟨A, eA, rA, fA⟩ := c_enlist (n := n) (t := t) (c := c) hI.L b2 hW hC h8 hk
  have lW : zLay (wJ A 222 0 (Int32.ofNat (nU w)).toInt64) := zLay_wJ fA.1
  have fW : ∀ k, k ≠ 222 → vC (wJ A 222 0 (Int32.ofNat (nU w)).toInt64) k = vC A k := fun k hk => vC_wJ hk
  have cW : bd (ev_X8_addUnit n V 0 (Int32.ofNat t) (Int32.ofNat k) (Int32.ofNat c)) (fun r2 V1 => if gvp_in 0 (vN V1 222) = true then sq (wJ V1 222 ((0 : Int32).toNatClampNeg) ((r2 : Int32).toInt64)) (fun V3 => rt (0 : Int32) V3) else none) (fun E V9 => if E = "java/lang/IndexOutOfBoundsException" then rt (1 : Int32) V9 else (if E = "java/lang/IllegalArgumentException" then rt 2 V9 else (if E = "java/lang/IllegalStateException" then rt 3 V9 else none))) = rt (0 : Int32) (wJ A 222 0 (Int32.ofNat (nU w)).toInt64) := by
    rw [cF, if_neg h1, if_neg h2, if_neg h3, if_pos h8, eA, bd_rt, bd_rt, wj fA.1]
  generalize wJ A 222 0 (Int32.ofNat (nU w)).toInt64 = W at lW fW cW
  have f1 : ∀ k, ¬ (2 ≤ k ∧ k < 19) → k ≠ 222 → vC W k = vC V k := fun k h1 h2 => by rw [fW k h2, fA.2 k (by omega)]
  have qW : Qr W w := fun k hk => by rw [vI_C (f1 208 (by omega) (by omega))]; exact hQ k hk
  have l1 : zLay (wI W 207 0 0) := zLay_wI lW
  have q1 : Qr (wI W 207 0 0) w := tq qW
  obtain ⟨g9, e9⟩ := r_gc l1 q1 (c := c) (by omega)
  obtain ⟨g6, e6⟩ := r_v l1 q1 (k := 66) (x := 66) (by decide) rfl
  obtain ⟨U, eU, qU, lU, fU⟩ := r_add (n := n) (t := t) (k := k) (c := c) (by omega) l1 q1 hW h8 hk
  have eR : ev_X9_addUnit n W 207 (Int32.ofNat t) (Int32.ofNat k) (Int32.ofNat c) = rt (Int32.ofNat (nU w)) U := by
    unfold ev_X9_addUnit eX9_addUnit_0
    rcases r_unitOn (n := n) (by omega) l1 q1 hW (t := Int32.ofNat c) with ⟨o, eo⟩ | ⟨o, v, hv, _, _, eo⟩
    · rw [sq_eq, in2, bd_rt, if_neg (by decide), in4, bd_rt, if_neg (by decide), r_isC1 l1 q1 hW hcc, bd_rt, if_neg (by decide), r71 l1, ob_1, if_pos g9, e9, if_neg h1, eo, bd_rt, if_pos (by decide), r_hasBegun l1 q1, bd_rt, if_pos h3', if_pos rfl, r71 l1, ob_1, if_pos g6, e6, if_neg (fun e => by rw [hW.ue] at e; have := (of_inj (b := 8) (by omega) (by omega)).mp e; omega), ob_1, if_pos g6, ob_1, if_pos g6, if_pos g6, e6, sq_eq, show (66 : Int32).toNatClampNeg = 66 from by decide +kernel]
      exact eU
    · exfalso
      rw [occ_onc fr hW] at o
      exact h2 o
  have f4 : ∀ k, k ≠ 207 → k ≠ 208 → vC U k = vC W k := fun k h1 h2 => by rw [fU k h2, vC_wI h1]
  have f3 : ∀ k, ¬ (2 ≤ k ∧ k < 19) → k ≠ 207 → k ≠ 208 → k ≠ 222 → vC U k = vC V k := fun k h0 h1 h2 h3 => by rw [f4 k h1 h2, f1 k h0 h3]
  have f7 : ∀ k, k ≠ 0 → vI U 207 k = vI V 207 k := fun k hk => by rw [vI_C (fU 207 (by omega)), vI_wI (zLen lW (by omega)), zup_ne hk, vI_C (f1 207 (by omega) (by omega))]
  obtain ⟨i5, hL, hM, hT, hR, hK, _⟩ := hI
  obtain ⟨a1, a2, a3, a4, _, sc, sr, hh, hr⟩ := hF
  have rU : Rp 2 U (gAdd w t k c) := rA.fr (fun k hk => by rw [f4 _ (by omega) (by omega), fW _ (by omega)])
  have fr' := gAdd_F (t := t) (k := k) (c := c) hW h8 fr
  refine ⟨0, W, Int32.ofNat (nU w), U, cW, eR, by omega, lU, ?_, ?_, ?_, ?_, 0, 0, q, gAdd w t k c, w0, kd, ar, by omega, by omega, by omega, a4, .inl ⟨rfl, fr', gAdd_W hW h8 ht hk hcc⟩, ⟨rU, ?_, fun j hj => by omega⟩, ⟨qU, fun nb => ?_, fun j hj => by omega⟩, ⟨?_, ?_, fun j hj => by omega⟩, ?_, fun j hj => by omega⟩
  · exact hM.fr2 b2 rU (fun b hb e u hu => by
      have z1 := zB_22 b hb u hu; have z2 := zB_hi b hb u hu; have z3 := zB_le b hb
      rcases z1.2 with y | y
      · exact absurd y.symm e
      · exact f3 _ (by omega) (by omega) (by omega) (by omega))
  · exact hT.fr (fun k _ => by rw [vI_C (f3 0 (by omega) (by omega) (by omega) (by omega))]) (fun k hk => f7 k (by omega)) (f3 1 (by omega) (by omega) (by omega) (by omega)) (f3 216 (by omega) (by omega) (by omega) (by omega))
  · exact hR.fr (fun k hk => f3 k (by omega) (by omega) (by omega) (by omega))
  · exact hK.fr (by omega) (by rw [vI_C (f3 0 (by omega) (by omega) (by omega) (by omega))]) (f7 10 (by omega)) (fun k hk => f3 k (by omega) (by omega) (by omega) (by omega))
  · rw [vI_C (f3 19 (by omega) (by omega) (by omega) (by omega)), sc.2.1, n0]
  · exact absurd (by rw [fr'.1]; decide) nb
  · rw [vI_C (f3 22 (by omega) (by omega) (by omega) (by omega))]; exact hh.1
  · rw [vI_C (f3 22 (by omega) (by omega) (by omega) (by omega)), hh.2.1, show hc = 0 by omega]
  · rw [f7 9 (by omega), hr.1, show hc = 0 by omega]
end
