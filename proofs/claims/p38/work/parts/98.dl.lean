/-! storeHealths, storedBits -/
def hU (w : RW) (u : Nat) : Int32 := w (67 + 11 * u + 3)
def fU (w : RW) (u : Nat) : UInt32 := FP.fdiv (FP.i2f (w (67 + 11 * u + 3))) (FP.i2f (tbI 0 (w (67 + 11 * u + 1))))
theorem row_r : ∀ r, r < 2 → vR W0 (201 + 3 * r) 0 = some (202 + 3 * r) ∧ vR W0 (201 + 3 * r) 1 = some (203 + 3 * r) ∧ vN W0 (202 + 3 * r) = 8 ∧ vN W0 (203 + 3 * r) = 8 := by decide +kernel
section
variable {i n r : Nat} {V T : VS} {w : RW} {x y : Int32}
theorem rw0 (h : zLay V) (hr : r < 2) : vR V (201 + 3 * r) 0 = some (202 + 3 * r) := zR h (row_r r hr).1
theorem rw1 (h : zLay V) (hr : r < 2) : vR V (201 + 3 * r) 1 = some (203 + 3 * r) := zR h (row_r r hr).2.1
theorem rn0 (h : zLay V) (hr : r < 2) : vN V (202 + 3 * r) = 8 := zN h (row_r r hr).2.2.1
theorem rn1 (h : zLay V) (hr : r < 2) : vN V (203 + 3 * r) = 8 := zN h (row_r r hr).2.2.2
theorem q19 (h : zLay V) : vR V 207 19 = some 218 := zR h (by decide +kernel)
theorem q20 (h : zLay V) : vR V 207 20 = some 219 := zR h (by decide +kernel)
theorem q21 (h : zLay V) : vR V 207 21 = some 220 := zR h (by decide +kernel)
theorem q22 (h : zLay V) : vR V 207 22 = some 221 := zR h (by decide +kernel)
theorem n218 (h : zLay V) : vN V 218 = 16 := zN h (by decide +kernel)
theorem n219 (h : zLay V) : vN V 219 = 2 := zN h (by decide +kernel)
theorem n220 (h : zLay V) : vN V 220 = 2 := zN h (by decide +kernel)
theorem n221 (h : zLay V) : vN V 221 = 16 := zN h (by decide +kernel)
theorem c_reqR (hL : zLay V) (hr : r < 2) : ev_X8_requireRow n V 0 (Int32.ofNat r) = rt (some (201 + 3 * r)) V := by
  unfold ev_X8_requireRow eX8_requireRow_0 eX8_requireRow_20
  have : r = 0 ∨ r = 1 := by omega
  rcases this with rfl | rfl
  · rw [if_pos (by decide), if_pos (by decide), show vR V 0 11 = some 201 from zR hL (by decide +kernel), ob_1]
  · rw [if_neg (by decide), if_pos (by decide), if_neg (by decide), show vR V 0 12 = some 204 from zR hL (by decide +kernel), ob_1]
theorem x01 (g : x < 0 ∨ Int32.ofNat 2 ≤ x) : x ≠ 0 ∧ x ≠ 1 := ⟨fun e => by subst e; exact absurd g (by decide), fun e => by subst e; exact absurd g (by decide)⟩
theorem c_reqR0 (g : x < 0 ∨ Int32.ofNat 2 ≤ x) : ev_X8_requireRow n V 0 x = th "java/lang/IndexOutOfBoundsException" V := by
  unfold ev_X8_requireRow eX8_requireRow_0
  rw [if_neg (x01 g).1, if_neg (x01 g).2]
theorem r_in0 (g : x < 0 ∨ Int32.ofNat 2 ≤ x) : ev_X9_isIn n V x 0 1 = rt 0 V := by
  rw [show (1 : Int32) = Int32.ofNat 2 - 1 from by decide]; exact in_no (by omega) g
theorem r_in1 (hr : r < 2) : ev_X9_isIn n V (Int32.ofNat r) 0 1 = rt 1 V := by
  rw [show (1 : Int32) = Int32.ofNat 2 - 1 from by decide]; exact in_yes hr (by omega)
theorem c_stL (hr : r < 2) (hW : WF w) : ∀ (d m u : Nat) (V : VS), u + d = nU w → d < m → zLay V → Rp 2 V w → vI V (201 + 3 * r) 4 = Int32.ofNat (nU w) → ∃ U, elX6_store_20 n m V (201 + 3 * r) 2 (Int32.ofNat u) = rt () U ∧ zLay U ∧ (∀ i, i ≠ 202 + 3 * r → i ≠ 203 + 3 * r → vC U i = vC V i) ∧ (∀ k, vI U (202 + 3 * r) k = if u ≤ k ∧ k < nU w then hU w k else vI V (202 + 3 * r) k) ∧ ∀ k, vF U (203 + 3 * r) k = if u ≤ k ∧ k < nU w then fU w k else vF V (203 + 3 * r) k
  | 0, m + 1, u, V, e, _, hL, hB, h4 => by
    have eu : u = nU w := by omega
    subst eu
    refine ⟨V, ?_, hL, fun _ _ _ => rfl, fun k => by rw [if_neg (by omega)], fun k => by rw [if_neg (by omega)]⟩
    show eX6_store_20 n (elX6_store_20 n m) V (201 + 3 * r) 2 (Int32.ofNat (nU w)) = _
    unfold eX6_store_20
    rw [h4, if_pos (Int32.le_refl _)]
  | d + 1, m + 1, u, V, e, hd, hL, hB, h4 => by
    have u8 := hW.u8
    have hu : u < nU w := by omega
    have nh := hW.f hu (j := 3) (by omega)
    have nk := hW.f hu (j := 1) (by omega)
    have e5 : vI V (2 + 9 + u) 5 = hU w u := hB.u hu (by omega) (j := 3) (by omega)
    have e2 : vI V (2 + 9 + u) 2 = w (67 + 11 * u + 1) := hB.u hu (by omega) (j := 1) (by omega)
    have l4 : zLay (wI V (202 + 3 * r) u (hU w u)) := zLay_wI hL
    have x4 : vI (wI V (202 + 3 * r) u (hU w u)) (202 + 3 * r) = zup (vI V (202 + 3 * r)) u (hU w u) := vI_wI (zLen hL (by omega))
    have f4 : ∀ i, i ≠ 202 + 3 * r → vC (wI V (202 + 3 * r) u (hU w u)) i = vC V i := fun i hi => vC_wI hi
    have k4 : (w (67 + 11 * u + 1)).toNatClampNeg < 4 := by have := nk.le; have : ub 1 = 3 := rfl; omega
    have h18 : (w (67 + 11 * u + 3)).toNatClampNeg < 19 := by have := nh.le; have : ub 3 = 18 := rfl; omega
    have gk : gvp_in (w (67 + 11 * u + 1)) 4 = true := by rw [nk.eq]; exact in_of k4 (by omega)
    have gf : gvf_n32 (fU w u) = true := by
      have := (okB_f _ k4 _ h18).2
      unfold fU
      rw [nh.eq, nk.eq]; exact this
    have st : elX6_store_20 n (m + 1) V (201 + 3 * r) 2 (Int32.ofNat u) = elX6_store_20 n m (wF (wI V (202 + 3 * r) u (hU w u)) (203 + 3 * r) u (fU w u)) (201 + 3 * r) 2 (Int32.ofNat (u + 1)) := by
      show eX6_store_20 n (elX6_store_20 n m) V (201 + 3 * r) 2 (Int32.ofNat u) = _
      unfold eX6_store_20
      rw [h4, if_neg (fun e => by have := (of_le (by omega) (by omega)).mp e; omega), zr1 hL b2, ob_1, znu hL b2, if_pos (in_of (by omega) (by omega)), tn_of (by omega), zru hL b2 (by omega), ob_1, rw0 hL hr, ob_1, rn0 hL hr, if_pos (in_of (by omega) (by omega)), e5, sq_eq, rw1 l4 hr, ob_1, vI_C (f4 (2 + 9 + u) (by omega)), e2, e5, if_pos gk, if_pos (show gvf_n32 (FP.fdiv (FP.i2f (hU w u)) (FP.i2f (tbI 0 (w (67 + 11 * u + 1))))) = true from gf), rn1 l4 hr, if_pos (in_of (by omega) (by omega)), sq_eq, p1_of]
      rfl
    generalize wI V (202 + 3 * r) u (hU w u) = V4 at l4 x4 f4 st
    have l5 : zLay (wF V4 (203 + 3 * r) u (fU w u)) := zLay_wF l4
    obtain ⟨U, eU, lU, fU', iU, jU⟩ := c_stL hr hW d m (u + 1) (wF V4 (203 + 3 * r) u (fU w u)) (by omega) (by omega) l5 (hB.fr (fun i hi => by rw [vC_wF (by omega), f4 _ (by omega)])) (by rw [vI_wF, vI_C (f4 _ (by omega))]; exact h4)
    refine ⟨U, st.trans eU, lU, fun i h1 h2 => by rw [fU' i h1 h2, vC_wF h2, f4 i h1], fun k => ?_, fun k => ?_⟩
    · rw [iU k, vI_wF, x4]
      by_cases z : k = u
      · rw [z, if_neg (by omega), zup_eq, if_pos (by omega)]
      · rw [zup_ne z]
        by_cases y : u + 1 ≤ k ∧ k < nU w
        · rw [if_pos y, if_pos (by omega)]
        · rw [if_neg y, if_neg (by omega)]
    · rw [jU k, vF_wF_at (zLen l4 (by omega)), vF_C (f4 (203 + 3 * r) (by omega))]
      by_cases z : k = u
      · rw [z, if_neg (by omega), if_pos ⟨rfl, rfl⟩, if_pos (by omega)]
      · rw [if_neg (show ¬ (203 + 3 * r = 203 + 3 * r ∧ k = u) from fun e => z e.2)]
        by_cases y : u + 1 ≤ k ∧ k < nU w
        · rw [if_pos y, if_pos (by omega)]
        · rw [if_neg y, if_neg (by omega)]
theorem r_stL (hr : r < 2) (hW : WF w) : ∀ (d m u : Nat) (V : VS), u + d = nU w → d < m → zLay V → Qr V w → ∃ U, elX9_storeHealths_58 n m V 207 (Int32.ofNat r) (Int32.ofNat u) = rt (w 66) U ∧ zLay U ∧ (∀ i, i ≠ 218 → i ≠ 221 → vC U i = vC V i) ∧ (∀ k, vI U 218 k = if 8 * r + u ≤ k ∧ k < 8 * r + nU w then hU w (k - 8 * r) else vI V 218 k) ∧ ∀ k, vF U 221 k = if 8 * r + u ≤ k ∧ k < 8 * r + nU w then fU w (k - 8 * r) else vF V 221 k
  | 0, m + 1, u, V, e, _, hL, hQ => by
    have eu : u = nU w := by omega
    have u8 := hW.u8
    obtain ⟨g6, e6⟩ := r_v hL hQ (k := 66) (x := 66) (by decide) rfl
    refine ⟨V, ?_, hL, fun _ _ _ => rfl, fun k => by rw [if_neg (by omega)], fun k => by rw [if_neg (by omega)]⟩
    show eX9_storeHealths_58 n (elX9_storeHealths_58 n m) V 207 (Int32.ofNat r) (Int32.ofNat u) = _
    unfold eX9_storeHealths_58
    rw [r71 hL, ob_1, if_pos g6, e6, if_pos (by rw [hW.ue, eu]; exact Int32.le_refl _), ob_1, if_pos g6, e6]
  | d + 1, m + 1, u, V, e, hd, hL, hQ => by
    have u8 := hW.u8
    have hu : u < nU w := by omega
    have nh := hW.f hu (j := 3) (by omega)
    have nk := hW.f hu (j := 1) (by omega)
    obtain ⟨g6, e6⟩ := r_v hL hQ (k := 66) (x := 66) (by decide) rfl
    have l4 : zLay (wI V 218 (8 * r + u) (hU w u)) := zLay_wI hL
    have x4 : vI (wI V 218 (8 * r + u) (hU w u)) 218 = zup (vI V 218) (8 * r + u) (hU w u) := vI_wI (zLen hL (by omega))
    have f4 : ∀ i, i ≠ 218 → vC (wI V 218 (8 * r + u) (hU w u)) i = vC V i := fun i hi => vC_wI hi
    have q4 : Qr (wI V 218 (8 * r + u) (hU w u)) w := hQ.wo (by omega)
    have k4 : (w (67 + 11 * u + 1)).toNatClampNeg < 4 := by have := nk.le; have : ub 1 = 3 := rfl; omega
    have h18 : (w (67 + 11 * u + 3)).toNatClampNeg < 19 := by have := nh.le; have : ub 3 = 18 := rfl; omega
    have gf : gvf_n32 (fU w u) = true := by
      have := (okB_f _ k4 _ h18).2
      unfold fU
      rw [nh.eq, nk.eq]; exact this
    have st : elX9_storeHealths_58 n (m + 1) V 207 (Int32.ofNat r) (Int32.ofNat u) = elX9_storeHealths_58 n m (wF (wI V 218 (8 * r + u) (hU w u)) 221 (8 * r + u) (fU w u)) 207 (Int32.ofNat r) (Int32.ofNat (u + 1)) := by
      show eX9_storeHealths_58 n (elX9_storeHealths_58 n m) V 207 (Int32.ofNat r) (Int32.ofNat u) = _
      unfold eX9_storeHealths_58
      rw [r71 hL, ob_1, if_pos g6, e6, if_neg (fun e => by rw [hW.ue] at e; have := (of_le (by omega) (by omega)).mp e; omega), q19 hL, ob_1, r_of3 hL hQ (by omega), bd_rt, show (8 : Int32) * Int32.ofNat r = Int32.ofNat (8 * r) from of_mul (a := 8), of_add, n218 hL, if_pos (in_of (by omega) (by omega)), tn_of (by omega), sq_eq]
      show (vR (wI V 218 (8 * r + u) (hU w u)) 207 22).bind _ = _
      have l4' : zLay (wI V 218 (8 * r + u) (w (67 + 11 * u + 3))) := l4
      have q4' : Qr (wI V 218 (8 * r + u) (w (67 + 11 * u + 3))) w := q4
      rw [q22 l4, ob_1, r_of3 l4' q4' (by omega), bd_rt, r_kindly l4' q4' hW hu (q := 0) (y := 0) (by omega) rfl, bd_rt, if_pos (show gvf_n32 (FP.fdiv (FP.i2f (w (67 + 11 * u + 3))) (FP.i2f (tbI 0 (w (67 + 11 * u + 1))))) = true from gf), n221 l4', if_pos (in_of (by omega) (by omega)), sq_eq, p1_of]
      rfl
    generalize wI V 218 (8 * r + u) (hU w u) = V4 at l4 x4 f4 q4 st
    have l5 : zLay (wF V4 221 (8 * r + u) (fU w u)) := zLay_wF l4
    obtain ⟨U, eU, lU, fU', iU, jU⟩ := r_stL hr hW d m (u + 1) (wF V4 221 (8 * r + u) (fU w u)) (by omega) (by omega) l5 (fun k hk => by rw [vI_wF]; exact q4 k hk)
    refine ⟨U, st.trans eU, lU, fun i h1 h2 => by rw [fU' i h1 h2, vC_wF h2, f4 i h1], fun k => ?_, fun k => ?_⟩
    · rw [iU k, vI_wF, x4]
      by_cases z : k = 8 * r + u
      · rw [z, if_neg (by omega), zup_eq, if_pos (by omega), Nat.add_sub_cancel_left]
      · rw [zup_ne z]
        by_cases y : 8 * r + (u + 1) ≤ k ∧ k < 8 * r + nU w
        · rw [if_pos y, if_pos (by omega)]
        · rw [if_neg y, if_neg (by omega)]
    · rw [jU k, vF_wF_at (zLen l4 (by omega)), vF_C (f4 221 (by omega))]
      by_cases z : k = 8 * r + u
      · rw [z, if_neg (by omega), if_pos ⟨rfl, rfl⟩, if_pos (by omega), Nat.add_sub_cancel_left]
      · rw [if_neg (show ¬ ((221 : Nat) = 221 ∧ k = 8 * r + u) from fun e => z e.2)]
        by_cases y : 8 * r + (u + 1) ≤ k ∧ k < 8 * r + nU w
        · rw [if_pos y, if_pos (by omega)]
        · rw [if_neg y, if_neg (by omega)]
theorem p_storeHealths (hn : 2100 < n) (hI : Inv i V) (hi : i < 512) (hy : y = 0 ∨ y = 1) : PairI i (ev_L_storeHealths n V 0 x y 222) (fun T => ev_X9_storeHealths n T 207 x y) gI := by
  obtain ⟨N, hc, q, w, w0, kd, ar, hF, hW, hC, hQ, hN, hP⟩ := hI.get
  have hL := hI.L
  have u8 := hW.u8
  unfold ev_L_storeHealths eL_storeHealths_0
  rcases out_k (k := 2) (by omega) x with g | ⟨r, hr, rfl⟩
  · refine q_th hI hi (c := 1) (T := V) (E := "java/lang/IndexOutOfBoundsException") ?_ (FrQ.rf hI.L hI.M) (if_pos rfl) (by decide) (fun T fT => ?_)
    · unfold ev_X8_storeHealths eX8_storeHealths_0
      rw [c_reqR0 g, bd_th]
    · refine ⟨wI T 207 0 1, 0, ?_, (FrX.rf fT.1).t, tz fT.1⟩
      unfold ev_X9_storeHealths eX9_storeHealths_0 eX9_storeHealths_15
      rw [r_in0 g, bd_rt, if_pos rfl, sq_eq, tz fT.1, if_pos rfl]
  obtain ⟨so, s1, s2, s3⟩ : ∃ so : Nat, (so = 1 ∨ so = 2) ∧ (y = if so = 1 then 1 else 0) ∧ ∀ T, (if y = 0 then eX9_storeHealths_42 n T 207 (Int32.ofNat r) 2 (Int32.ofNat r) 220 else eX9_storeHealths_42 n T 207 (Int32.ofNat r) 1 (Int32.ofNat r) 220) = eX9_storeHealths_42 n T 207 (Int32.ofNat r) (Int32.ofNat so) (Int32.ofNat r) 220 := by
    rcases hy with rfl | rfl
    · exact ⟨2, .inr rfl, rfl, fun T => if_pos rfl⟩
    · exact ⟨1, .inl rfl, rfl, fun T => if_neg (by decide)⟩
  -- the class
  have l1 : zLay (wI V (201 + 3 * r) 2 1) := zLay_wI hL
  have l2 : zLay (wI (wI V (201 + 3 * r) 2 1) (201 + 3 * r) 3 y) := zLay_wI l1
  have l3 : zLay (wI (wI (wI V (201 + 3 * r) 2 1) (201 + 3 * r) 3 y) (201 + 3 * r) 4 (w 66)) := zLay_wI l2
  have x3 : vI (wI (wI (wI V (201 + 3 * r) 2 1) (201 + 3 * r) 3 y) (201 + 3 * r) 4 (w 66)) (201 + 3 * r) = zup (zup (zup (vI V (201 + 3 * r)) 2 1) 3 y) 4 (w 66) := by rw [vI_wI (zLen l2 (by omega)), vI_wI (zLen l1 (by omega)), vI_wI (zLen hL (by omega))]
  have f3 : ∀ k, k ≠ 201 + 3 * r → vC (wI (wI (wI V (201 + 3 * r) 2 1) (201 + 3 * r) 3 y) (201 + 3 * r) 4 (w 66)) k = vC V k := fun k hk => by rw [vC_wI hk, vC_wI hk, vC_wI hk]
  have gy : gisZ y = true := by rcases hy with rfl | rfl <;> decide
  have e3 : ev_X6_store n V (201 + 3 * r) 2 y = elX6_store_20 n n (wI (wI (wI V (201 + 3 * r) 2 1) (201 + 3 * r) 3 y) (201 + 3 * r) 4 (w 66)) (201 + 3 * r) 2 0 := by
    unfold ev_X6_store eX6_store_0
    rw [sq_eq, if_pos gy, sq_eq, vI_wI_ne (show (2 : Nat) ≠ 201 + 3 * r by omega), vI_wI_ne (show (2 : Nat) ≠ 201 + 3 * r by omega), hC.count, sq_eq]
  generalize wI (wI (wI V (201 + 3 * r) 2 1) (201 + 3 * r) 3 y) (201 + 3 * r) 4 (w 66) = V3 at l3 x3 f3 e3
  obtain ⟨C, eC, lC, fC, iC, jC⟩ := c_stL (n := n) hr hW (nU w) n 0 V3 (by omega) (by omega) l3 (hC.fr (fun k hk => f3 _ (by omega))) (by rw [x3, zup_eq, ← hW.ue])
  have e4 : ev_X6_store n V (201 + 3 * r) 2 y = rt () C := e3.trans eC
  have xC : vI C (201 + 3 * r) = zup (zup (zup (vI V (201 + 3 * r)) 2 1) 3 y) 4 (w 66) := by rw [vI_C (fC _ (by omega) (by omega)), x3]
  refine q_gen (T := C) (r := w 66) ?_ lC ?_
  · unfold ev_X8_storeHealths eX8_storeHealths_0
    rw [c_reqR hL hr, bd_rt, ob_1, r03 hL, ob_1, e4, bd_rt, xC, zup_eq]
  have fVC : ∀ k, k ≠ 201 + 3 * r → k ≠ 202 + 3 * r → k ≠ 203 + 3 * r → vC C k = vC V k := fun k h1 h2 h3 => by rw [fC k h2 h3, f3 k h1]
  have lW : zLay (wJ C 222 0 (w 66).toInt64) := zLay_wJ lC
  have fW : ∀ k, k ≠ 222 → vC (wJ C 222 0 (w 66).toInt64) k = vC C k := fun k hk => vC_wJ hk
  generalize wJ C 222 0 (w 66).toInt64 = W at lW fW
  have f1 : ∀ k, ¬ (201 ≤ k ∧ k < 207) → k ≠ 222 → vC W k = vC V k := fun k h1 h2 => by rw [fW k h2, fVC k (by omega) (by omega) (by omega)]
  have qW : Qr W w := fun k hk => by rw [vI_C (f1 208 (by omega) (by omega))]; exact hQ k hk
  -- the reference
  have m1 : zLay (wI W 207 0 0) := zLay_wI lW
  have m2 : zLay (wI (wI W 207 0 0) 220 r (Int32.ofNat so)) := zLay_wI m1
  have m3 : zLay (wI (wI (wI W 207 0 0) 220 r (Int32.ofNat so)) 219 r (w 66)) := zLay_wI m2
  have z7 : vI (wI (wI (wI W 207 0 0) 220 r (Int32.ofNat so)) 219 r (w 66)) 207 = zup (vI W 207) 0 0 := by rw [vI_wI_ne (by omega), vI_wI_ne (by omega), vI_wI (zLen lW (by omega))]
  have z20 : vI (wI (wI (wI W 207 0 0) 220 r (Int32.ofNat so)) 219 r (w 66)) 220 = zup (vI V 220) r (Int32.ofNat so) := by rw [vI_wI_ne (by omega), vI_wI (zLen m1 (by omega)), vI_wI_ne (by omega), vI_C (f1 220 (by omega) (by omega))]
  have z19 : vI (wI (wI (wI W 207 0 0) 220 r (Int32.ofNat so)) 219 r (w 66)) 219 = zup (vI V 219) r (w 66) := by rw [vI_wI (zLen m2 (by omega)), vI_wI_ne (by omega), vI_wI_ne (by omega), vI_C (f1 219 (by omega) (by omega))]
  have zf : ∀ k, k ≠ 207 → k ≠ 219 → k ≠ 220 → vC (wI (wI (wI W 207 0 0) 220 r (Int32.ofNat so)) 219 r (w 66)) k = vC W k := fun k h1 h2 h3 => by rw [vC_wI h2, vC_wI h3, vC_wI h1]
  have q2 : Qr (wI (wI W 207 0 0) 220 r (Int32.ofNat so)) w := (tq qW).wo (by omega)
  have q3 : Qr (wI (wI (wI W 207 0 0) 220 r (Int32.ofNat so)) 219 r (w 66)) w := q2.wo (by omega)
  obtain ⟨g6, e6⟩ := r_v m2 q2 (k := 66) (x := 66) (by decide) rfl
  have eR0 : ev_X9_storeHealths n W 207 (Int32.ofNat r) y = elX9_storeHealths_58 n n (wI (wI (wI W 207 0 0) 220 r (Int32.ofNat so)) 219 r (w 66)) 207 (Int32.ofNat r) 0 := by
    unfold ev_X9_storeHealths eX9_storeHealths_0 eX9_storeHealths_15
    rw [r_in1 hr, bd_rt, if_neg (by decide), sq_eq, tz lW, if_neg (by decide), q21 m1, ob_1, s3]
    unfold eX9_storeHealths_42
    rw [n220 m1, if_pos (in_of hr (by omega)), tn_of (by omega), sq_eq, q20 m2, ob_1, r71 m2, ob_1, if_pos g6, n219 m2, if_pos (in_of hr (by omega)), e6, sq_eq]
  generalize wI (wI (wI W 207 0 0) 220 r (Int32.ofNat so)) 219 r (w 66) = T3 at m3 z7 z20 z19 zf q3 eR0
  obtain ⟨U, eU, lU, fU', iU, jU⟩ := r_stL (n := n) hr hW (nU w) n 0 T3 (by omega) (by omega) m3 q3
  have f2 : ∀ k, k ≠ 207 → k ≠ 218 → k ≠ 219 → k ≠ 220 → k ≠ 221 → vC U k = vC W k := fun k h1 h2 h3 h4 h5 => by rw [fU' k h2 h5, zf k h1 h3 h4]
  have f9 : ∀ k, ¬ (201 ≤ k ∧ k < 208) → ¬ (218 ≤ k ∧ k < 223) → vC U k = vC V k := fun k h1 h2 => by rw [f2 k (by omega) (by omega) (by omega) (by omega) (by omega), f1 k (by omega) (by omega)]
  have f7 : ∀ k, k ≠ 0 → vI U 207 k = vI V 207 k := fun k h0 => by rw [vI_C (fU' 207 (by omega) (by omega)), z7, zup_ne h0, vI_C (f1 207 (by omega) (by omega))]
  refine ⟨U, eR0.trans eU, ?_, by rw [vI_C (fU' 207 (by omega) (by omega)), z7, zup_eq], f2 222 (by omega) (by omega) (by omega) (by omega) (by omega)⟩
  obtain ⟨i5, _, hM, hT, hR, hK, _⟩ := hI
  refine ⟨by omega, lU, ?_, ?_, ?_, ?_, N, hc, q, w, w0, kd, ar, hF.fr (by omega) (fun k hk => f9 k (by omega) (by omega)) (f7 9 (by omega))⟩
  · exact hM.fr (fun a ha u hu => by
      have z2 := zB_hi a ha u hu
      rw [vI_C (f9 _ (by omega) (by omega))])
  · exact hT.fr (fun k _ => by rw [vI_C (f9 0 (by omega) (by omega))]) (fun k hk => f7 k (by omega)) (f9 1 (by omega) (by omega)) (f9 216 (by omega) (by omega))
  · intro r' hr'
    obtain ⟨so', L', a1, a2, a3, a4, a5, a6, a7, a8⟩ := hR r' hr'
    have u218 : ∀ k, vI U 218 k = if 8 * r + 0 ≤ k ∧ k < 8 * r + nU w then hU w (k - 8 * r) else vI V 218 k := fun k => by rw [iU k, vI_C (zf 218 (by omega) (by omega) (by omega)), vI_C (f1 218 (by omega) (by omega))]
    have u221 : ∀ k, vF U 221 k = if 8 * r + 0 ≤ k ∧ k < 8 * r + nU w then fU w (k - 8 * r) else vF V 221 k := fun k => by rw [jU k, vF_C (zf 221 (by omega) (by omega) (by omega)), vF_C (f1 221 (by omega) (by omega))]
    have uc : ∀ k, 201 ≤ k → k < 207 → vC U k = vC C k := fun k h1 h2 => by rw [f2 k (by omega) (by omega) (by omega) (by omega) (by omega), fW k (by omega)]
    by_cases e : r' = r
    · subst e
      refine ⟨so, nU w, by omega, u8, ?_, ?_, ?_, fun _ => ?_, ?_, fun j hj => ?_⟩
      · rw [vI_C (fU' 219 (by omega) (by omega)), z19, zup_eq, hW.ue]
      · rw [vI_C (fU' 220 (by omega) (by omega)), z20, zup_eq]
      · rw [vI_C (uc _ (by omega) (by omega)), xC, zup_ne (by omega), zup_ne (by omega), zup_eq, if_neg (by omega)]
      · rw [vI_C (uc _ (by omega) (by omega)), xC, zup_ne (by omega), zup_eq, s2]
      · rw [vI_C (uc _ (by omega) (by omega)), xC, zup_eq, hW.ue]
      · rw [vI_C (uc _ (by omega) (by omega)), vF_C (uc _ (by omega) (by omega)), iC, jC, u218, u221, Nat.add_sub_cancel_left]
        by_cases z : j < nU w
        · rw [if_pos (by omega), if_pos (by omega), if_pos (by omega), if_pos (by omega)]
          refine ⟨rfl, hW.f z (j := 3) (by omega), rfl, (w (67 + 11 * j + 3)).toNatClampNeg, (w (67 + 11 * j + 1)).toNatClampNeg, (hW.f z (j := 3) (by omega)).le, ?_, ?_⟩
          · have := (hW.f z (j := 1) (by omega)).le
            have : ub 1 = 3 := rfl
            omega
          · rw [← (hW.f z (j := 3) (by omega)).eq, ← (hW.f z (j := 1) (by omega)).eq]; rfl
        · rw [if_neg (by omega), if_neg (by omega), if_neg (by omega), if_neg (by omega), vI_C (f3 _ (by omega)), vF_C (f3 _ (by omega))]
          exact a8 j hj
    · refine ⟨so', L', a1, a2, ?_, ?_, ?_, fun h => ?_, ?_, fun j hj => ?_⟩
      · rw [vI_C (fU' 219 (by omega) (by omega)), z19, zup_ne e]; exact a3
      · rw [vI_C (fU' 220 (by omega) (by omega)), z20, zup_ne e]; exact a4
      · rw [vI_C (uc _ (by omega) (by omega)), vI_C (fVC _ (by omega) (by omega) (by omega))]; exact a5
      · rw [vI_C (uc _ (by omega) (by omega)), vI_C (fVC _ (by omega) (by omega) (by omega))]; exact a6 h
      · rw [vI_C (uc _ (by omega) (by omega)), vI_C (fVC _ (by omega) (by omega) (by omega))]; exact a7
      · rw [vI_C (uc _ (by omega) (by omega)), vF_C (uc _ (by omega) (by omega)), vI_C (fVC _ (by omega) (by omega) (by omega)), vF_C (fVC _ (by omega) (by omega) (by omega)), u218, u221, if_neg (by omega), if_neg (by omega)]
        exact a8 j hj
  · exact hK.fr (by omega) (by rw [vI_C (f9 0 (by omega) (by omega))]) (f7 10 (by omega)) (fun k hk => f9 k (by omega) (by omega))
theorem p_storedBits (hn : 2100 < n) (hI : Inv i V) (hi : i < 512) : PairI i (ev_L_storedBits n V 0 x y 222) (fun T => ev_X9_storedBits n T 207 x y) gI := by
  have hL := hI.L
  unfold ev_L_storedBits eL_storedBits_0
  rcases out_k (k := 2) (by omega) x with g | ⟨r, hr, rfl⟩
  · refine q_th hI hi (c := 1) (T := V) (E := "java/lang/IndexOutOfBoundsException") ?_ (FrQ.rf hI.L hI.M) (if_pos rfl) (by decide) (fun T fT => ?_)
    · unfold ev_X8_storedBits eX8_storedBits_0
      rw [c_reqR0 g, bd_th]
    · refine ⟨wI T 207 0 1, 0, ?_, (FrX.rf fT.1).t, tz fT.1⟩
      unfold ev_X9_storedBits eX9_storedBits_0 eX9_storedBits_44
      rw [r_in0 g, bd_rt, if_pos rfl, sq_eq, tz fT.1, if_neg (by decide)]
  obtain ⟨so, L, a1, a2, a3, a4, a5, a6, a7, a8⟩ := hI.2.2.2.2.1 r hr
  have bad : so = 0 ∨ (so ≠ 0 ∧ (y < 0 ∨ Int32.ofNat L ≤ y)) → PairI i (bd (ev_X8_storedBits n V 0 (Int32.ofNat r) y) (fun r2 V1 => (if gvp_in 0 (vN V1 222) = true then sq (wJ V1 222 ((0 : Int32).toNatClampNeg) ((r2 : Int32).toInt64)) (fun V3 => rt 0 V3) else none)) (fun E V9 => (if E = "java/lang/IndexOutOfBoundsException" then rt 1 V9 else (if E = "java/util/NoSuchElementException" then rt 2 V9 else none)))) (fun T => ev_X9_storedBits n T 207 (Int32.ofNat r) y) gI := by
    intro z
    refine q_th hI hi (c := 2) (T := V) (E := "java/util/NoSuchElementException") ?_ (FrQ.rf hI.L hI.M) (by rw [if_neg (by decide), if_pos rfl]) (by decide) (fun T fT => ?_)
    · unfold ev_X8_storedBits eX8_storedBits_0 eX8_storedBits_25
      rw [c_reqR hL hr, bd_rt, ob_1, a5]
      rcases z with z | ⟨z, g⟩
      · rw [if_pos z, if_pos rfl]
      · rw [if_neg z, if_neg (by decide), a7]
        by_cases y0 : y < 0
        · rw [if_pos y0]
        · rw [if_neg y0, if_neg (Int32.not_lt.mpr (g.resolve_left y0))]
    · have t21 : vI T 220 r = Int32.ofNat so := by rw [vI_C (fT.2.2.1 220 (by omega) (by omega) (by omega) (by omega) (by omega) (by omega))]; exact a4
      have t20 : vI T 219 r = Int32.ofNat L := by rw [vI_C (fT.2.2.1 219 (by omega) (by omega) (by omega) (by omega) (by omega) (by omega))]; exact a3
      refine ⟨wI T 207 0 2, 0, ?_, (FrX.rf fT.1).t, tz fT.1⟩
      unfold ev_X9_storedBits eX9_storedBits_0 eX9_storedBits_39 eX9_storedBits_44
      rw [r_in1 hr, bd_rt, if_neg (by decide), q21 fT.1, ob_1, n220 fT.1, if_pos (in_of hr (by omega)), tn_of (by omega), t21]
      rcases z with z | ⟨z, g⟩
      · rw [z, if_pos (by decide), sq_eq, tz fT.1, if_neg (by decide)]
      · rw [if_neg (fun e => by exact z ((of_inj (b := 0) (by omega) (by omega)).mp e)), q20 fT.1, ob_1, n219 fT.1, if_pos (in_of hr (by omega)), t20, in_no (by omega) g, bd_rt, if_pos rfl, sq_eq, tz fT.1, if_neg (by decide)]
  by_cases s0 : so = 0
  · exact bad (.inl s0)
  rcases out_k (k := L) (by omega) y with g | ⟨j, hj, rfl⟩
  · exact bad (.inr ⟨s0, g⟩)
  obtain ⟨b1, b2', b3, b4⟩ := a8 j (by omega)
  have c18 : (vI V 218 (8 * r + j)).toNatClampNeg < 19 := by have := b2'.le; omega
  have kB1 : okB (FP.i2f (vI V 218 (8 * r + j))) = true := by rw [b2'.eq]; exact okB_i _ c18
  have kB2 := b4.B
  have kb : okB (if so = 1 then FP.i2f (vI V 218 (8 * r + j)) else vF V 221 (8 * r + j)) = true := by
    by_cases z : so = 1
    · rw [if_pos z]; exact kB1
    · rw [if_neg z]; exact kB2
  obtain ⟨b, hb⟩ : ∃ b, b = (if so = 1 then FP.i2f (vI V 218 (8 * r + j)) else vF V 221 (8 * r + j)) := ⟨_, rfl⟩
  refine q_ok hI hi (r := b.toInt32) (T := V) ?_ (FrQ.rf hI.L hI.M) (fun T fT => ?_)
  · unfold ev_X8_storedBits eX8_storedBits_0 eX8_storedBits_59
    rw [c_reqR hL hr, bd_rt, ob_1, a5, if_neg s0, if_neg (by decide), if_neg (ofn_nn (by omega)), a7, if_pos ((of_lt (by omega) (by omega)).mpr hj), a6 s0]
    by_cases z : so = 1
    · rw [if_pos z, if_neg (by decide), rw0 hL hr, ob_1, rn0 hL hr, if_pos (in_of (by omega) (by omega)), tn_of (by omega), b1, c_bits (by omega) kB1, bd_rt, hb, if_pos z]
    · rw [if_neg z, if_pos rfl, rw1 hL hr, ob_1, rn1 hL hr, if_pos (in_of (by omega) (by omega)), tn_of (by omega), b3, c_bits (by omega) kB2, bd_rt, hb, if_neg z]
  · have t21 : vI T 220 r = Int32.ofNat so := by rw [vI_C (fT.2.2.1 220 (by omega) (by omega) (by omega) (by omega) (by omega) (by omega))]; exact a4
    have t20 : vI T 219 r = Int32.ofNat L := by rw [vI_C (fT.2.2.1 219 (by omega) (by omega) (by omega) (by omega) (by omega) (by omega))]; exact a3
    have l1 : zLay (wI T 207 0 0) := zLay_wI fT.1
    have t18 : vI (wI T 207 0 0) 218 = vI V 218 := by rw [vI_wI_ne (by omega), vI_C (fT.2.2.1 218 (by omega) (by omega) (by omega) (by omega) (by omega) (by omega))]
    have t22 : vF (wI T 207 0 0) 221 = vF V 221 := by rw [vF_C (vC_wI (by omega)), vF_C (fT.2.2.1 221 (by omega) (by omega) (by omega) (by omega) (by omega) (by omega))]
    have u21 : vI (wI T 207 0 0) 220 r = Int32.ofNat so := by rw [vI_wI_ne (by omega)]; exact t21
    have e8 : (8 : Int32) * Int32.ofNat r = Int32.ofNat (8 * r) := of_mul (a := 8)
    refine ⟨wI T 207 0 0, ?_, (FrX.rf fT.1).t, tz fT.1⟩
    unfold ev_X9_storedBits eX9_storedBits_0 eX9_storedBits_39 eX9_storedBits_44 eX9_storedBits_92
    rw [r_in1 hr, bd_rt, if_neg (by decide), q21 fT.1, ob_1, n220 fT.1, if_pos (in_of hr (by omega)), tn_of (by omega), t21, if_neg (fun e => by exact s0 ((of_inj (b := 0) (by omega) (by omega)).mp e)), q20 fT.1, ob_1, n219 fT.1, if_pos (in_of hr (by omega)), t20, in_yes hj (by omega), bd_rt, if_neg (by decide), sq_eq, tz fT.1, if_pos (by decide), q21 l1, ob_1, n220 l1, if_pos (in_of hr (by omega)), u21, e8, of_add, q19 l1, q22 l1, ob_1, ob_1, n218 l1, n221 l1, if_pos (in_of (by omega) (by omega)), if_pos (in_of (by omega) (by omega)), tn_of (by omega), t18, t22]
    by_cases z : so = 1
    · rw [z, if_pos (by decide), r_bits kB1, bd_rt, hb, if_pos z]
    · rw [if_neg (fun e => by exact z ((of_inj (b := 1) (by omega) (by omega)).mp e)), r_bits kB2, bd_rt, hb, if_neg z]
end
