/-! copyHealths -/
def RwE (V T : VS) : Prop := ∀ r, r < 2 → ∀ i, i < 8 → vI V (202 + 3 * r) i = vI T 218 (8 * r + i) ∧ Nb (vI T 218 (8 * r + i)) 18 ∧ vF V (203 + 3 * r) i = vF T 221 (8 * r + i) ∧ okF (vF T 221 (8 * r + i))
section
variable {i n r s cnt so : Nat} {V T : VS} {x y : Int32}
theorem vF_wI' {V : VS} {i k j q : Nat} {v : Int32} : vF (wI V i k v) j q = vF V j q := by
  unfold vF wI; rw [vC_up]
  by_cases h : j = i ∧ i < V.length
  · rw [if_pos h, h.1]
  · rw [if_neg h]
theorem c_58 {k : VS → Nat → Nat → Int32 → Int32 → Int32 → Rs Int32} {y2 y3 : Int32} {j : Nat} (hL : zLay V) (hr : r < 2) (hs : s < 2) (hj : j < 8) : eX6_takeFrom_58 n k V (201 + 3 * s) (201 + 3 * r) y2 y3 (Int32.ofNat j) = k (wF (wI V (202 + 3 * s) j (vI V (202 + 3 * r) j)) (203 + 3 * s) j (vF V (203 + 3 * r) j)) (201 + 3 * s) (201 + 3 * r) y2 y3 (Int32.ofNat (j + 1)) := by
  unfold eX6_takeFrom_58
  have l1 : zLay (wI V (202 + 3 * s) j (vI V (202 + 3 * r) j)) := zLay_wI hL
  rw [rw0 hL hs, ob_1, rw0 hL hr, ob_1, rn0 hL hr, if_pos (in_of (by omega) (by omega)), rn0 hL hs, if_pos (in_of (by omega) (by omega)), tn_of (by omega), sq_eq, rw1 l1 hs, ob_1, rw1 l1 hr, ob_1, rn1 l1 hr, if_pos (in_of (by omega) (by omega)), rn1 l1 hs, if_pos (in_of (by omega) (by omega)), sq_eq, vF_wI', p1_of]
theorem r_186 {k : VS → Nat → Int32 → Int32 → Int32 → Int32 → Rs Int32} {y1 y2 z0 z1 : Int32} {j p q : Nat} (hL : zLay V) (hp : p < 16) (hq : q < 16) : eX9_copyHealths_186 n k V 207 y1 y2 (Int32.ofNat j) (Int32.ofNat p) (Int32.ofNat q) z0 z1 = k (wF (wI V 218 q (vI V 218 p)) 221 q (vF V 221 p)) 207 y1 y2 (z1 ||| z0) (Int32.ofNat (j + 1)) := by
  unfold eX9_copyHealths_186
  have l1 : zLay (wI V 218 q (vI V 218 p)) := zLay_wI hL
  rw [q19 hL, ob_1, ob_1, n218 hL, if_pos (in_of hp (by omega)), if_pos (in_of hq (by omega)), tn_of (by omega), tn_of (by omega), sq_eq, q22 l1, ob_1, ob_1, n221 l1, if_pos (in_of hp (by omega)), if_pos (in_of hq (by omega)), sq_eq, vF_wI', p1_of]
theorem RwE.cp {j : Nat} (h : RwE V T) (hL : zLay V) (hT : zLay T) (hr : r < 2) (hs : s < 2) (hj : j < 8) : RwE (wF (wI V (202 + 3 * s) j (vI V (202 + 3 * r) j)) (203 + 3 * s) j (vF V (203 + 3 * r) j)) (wF (wI T 218 (8 * s + j) (vI T 218 (8 * r + j))) 221 (8 * s + j) (vF T 221 (8 * r + j))) := fun p hp i hi => by
  have l1 : zLay (wI V (202 + 3 * s) j (vI V (202 + 3 * r) j)) := zLay_wI hL
  have l2 : zLay (wI T 218 (8 * s + j) (vI T 218 (8 * r + j))) := zLay_wI hT
  rw [vI_wF, vI_wF, vI_wI_at (zLen hL (by omega)), vI_wI_at (zLen hT (by omega)), vF_wF_at (zLen l1 (by omega)), vF_wF_at (zLen l2 (by omega)), vF_wI', vF_wI']
  by_cases e : p = s ∧ i = j
  · rw [if_pos (by omega), if_pos (by omega), if_pos (by omega), if_pos (by omega)]
    exact h r hr j hj
  · rw [if_neg (by omega), if_neg (by omega), if_neg (by omega), if_neg (by omega)]
    exact h p hp i hi
theorem c_tk (hr : r < 2) (hs : s < 2) (hrs : Int32.ofNat s = 1 - Int32.ofNat r) (hc : cnt ≤ 8) (h1 : so = 1 ∨ so = 2) : ∀ (d m j : Nat) (f : Bool) (V : VS), j + d = cnt → d < m → zLay V → vI V (201 + 3 * s) 3 = (if so = 1 then 1 else 0) → ∃ U g, elX6_takeFrom_5 n m V (201 + 3 * s) (201 + 3 * r) (Int32.ofNat cnt) (bi f) (Int32.ofNat j) = rt (bi g) U ∧ zLay U ∧ (∀ i, i ≠ 202 + 3 * s → i ≠ 203 + 3 * s → vC U i = vC V i) ∧ ∀ T, zLay T → RwE V T → vI T 220 0 = Int32.ofNat so → ∃ S, elX9_copyHealths_101 n m T 207 (Int32.ofNat r) (Int32.ofNat cnt) (bi f) (Int32.ofNat j) = rt (bi g) S ∧ zLay S ∧ (∀ i, i ≠ 218 → i ≠ 221 → vC S i = vC T i) ∧ RwE U S
  | 0, m + 1, j, f, V, e, _, hL, h3 => by
    have ej : j = cnt := by omega
    subst ej
    have gf : gisZ (bi f) = true := by cases f <;> decide
    refine ⟨V, f, ?_, hL, fun _ _ _ => rfl, fun T hT hE h20 => ⟨T, ?_, hT, fun _ _ _ => rfl, hE⟩⟩
    · show eX6_takeFrom_5 n (elX6_takeFrom_5 n m) V (201 + 3 * s) (201 + 3 * r) (Int32.ofNat j) (bi f) (Int32.ofNat j) = _
      unfold eX6_takeFrom_5
      rw [if_pos (Int32.le_refl _), if_pos gf]
    · show eX9_copyHealths_101 n (elX9_copyHealths_101 n m) T 207 (Int32.ofNat r) (Int32.ofNat j) (bi f) (Int32.ofNat j) = _
      unfold eX9_copyHealths_101
      rw [if_pos (Int32.le_refl _), if_pos gf]
  | d + 1, m + 1, j, f, V, e, hd, hL, h3 => by
    have hj : j < 8 := by omega
    have l1 : zLay (wI V (202 + 3 * s) j (vI V (202 + 3 * r) j)) := zLay_wI hL
    have l2 : zLay (wF (wI V (202 + 3 * s) j (vI V (202 + 3 * r) j)) (203 + 3 * s) j (vF V (203 + 3 * r) j)) := zLay_wF l1
    obtain ⟨b, hb⟩ : ∃ b : Bool, b = (if so = 1 then decide (vI V (202 + 3 * s) j = vI V (202 + 3 * r) j) else decide ((Op.cmpValue (FP.fcmp (vF V (203 + 3 * s) j) (vF V (203 + 3 * r) j)) CmpOp.l) = 0)) := ⟨_, rfl⟩
    obtain ⟨U, g, eU, lU, fU', kU⟩ := c_tk hr hs hrs hc h1 d m (j + 1) (f || !b) (wF (wI V (202 + 3 * s) j (vI V (202 + 3 * r) j)) (203 + 3 * s) j (vF V (203 + 3 * r) j)) (by omega) (by omega) l2 (by rw [vI_wF, vI_wI_ne (by omega)]; exact h3)
    have nle : ¬ Int32.ofNat cnt ≤ Int32.ofNat j := fun e => by have := (of_le (by omega) (by omega)).mp e; omega
    have fb : ∀ c : Bool, bi (f || !c) = if c = true then bi f else 1 := fun c => by cases f <;> cases c <;> rfl
    refine ⟨U, g, ?_, lU, fun i h1 h2 => by rw [fU' i h1 h2, vC_wF h2, vC_wI h1], fun T hT hE h20 => ?_⟩
    · rw [← eU, fb]
      show eX6_takeFrom_5 n (elX6_takeFrom_5 n m) V (201 + 3 * s) (201 + 3 * r) (Int32.ofNat cnt) (bi f) (Int32.ofNat j) = _
      unfold eX6_takeFrom_5 eX6_takeFrom_56
      rw [if_neg nle, h3, c_58 hL hr hs hj, c_58 hL hr hs hj]
      rcases h1 with z | z
      · rw [if_pos z] at hb
        rw [if_pos z, if_neg (by decide), rw0 hL hs, ob_1, rn0 hL hs, if_pos (in_of (by omega) (by omega)), rw0 hL hr, ob_1, rn0 hL hr, if_pos (in_of (by omega) (by omega)), tn_of (by omega)]
        by_cases y : vI V (202 + 3 * s) j = vI V (202 + 3 * r) j
        · rw [if_pos y, hb, decide_eq_true y, if_pos rfl]
        · rw [if_neg y, hb, decide_eq_false y, if_neg (by decide)]
      · rw [if_neg (by omega)] at hb
        rw [if_neg (show ¬ so = 1 by omega), if_pos rfl, rw1 hL hs, ob_1, rn1 hL hs, if_pos (in_of (by omega) (by omega)), rw1 hL hr, ob_1, rn1 hL hr, if_pos (in_of (by omega) (by omega)), tn_of (by omega)]
        by_cases y : (Op.cmpValue (FP.fcmp (vF V (203 + 3 * s) j) (vF V (203 + 3 * r) j)) CmpOp.l) = 0
        · rw [if_pos y, hb, decide_eq_true y, if_pos rfl]
        · rw [if_neg y, hb, decide_eq_false y, if_neg (by decide)]
    · have m1 : zLay (wI T 218 (8 * s + j) (vI T 218 (8 * r + j))) := zLay_wI hT
      have m2 : zLay (wF (wI T 218 (8 * s + j) (vI T 218 (8 * r + j))) 221 (8 * s + j) (vF T 221 (8 * r + j))) := zLay_wF m1
      obtain ⟨S, eS, lS, fS, rS⟩ := kU _ m2 (hE.cp hL hT hr hs hj) (by rw [vI_wF, vI_wI_ne (by omega)]; exact h20)
      refine ⟨S, ?_, lS, fun i h1 h2 => by rw [fS i h1 h2, vC_wF h2, vC_wI h1], rS⟩
      obtain ⟨a1, a2, a3, a4⟩ := hE r hr j hj
      obtain ⟨c1, c2, c3, c4⟩ := hE s hs j hj
      have e8 : ∀ p : Nat, (8 : Int32) * Int32.ofNat p + Int32.ofNat j = Int32.ofNat (8 * p + j) := fun p => by
        rw [show (8 : Int32) * Int32.ofNat p = Int32.ofNat (8 * p) from of_mul (a := 8), of_add]
      have o0 : bi f ||| 0 = bi f := by cases f <;> decide
      have o1 : bi f ||| 1 = 1 := by cases f <;> decide
      rw [← eS, fb]
      show eX9_copyHealths_101 n (elX9_copyHealths_101 n m) T 207 (Int32.ofNat r) (Int32.ofNat cnt) (bi f) (Int32.ofNat j) = _
      unfold eX9_copyHealths_101
      rw [if_neg nle, ← hrs, e8 r, e8 s, r_186 hT (by omega) (by omega), r_186 hT (by omega) (by omega), q21 hT, ob_1, n220 hT, if_pos (by decide), t0n, h20, o0, o1]
      rcases h1 with z | z
      · rw [if_pos z] at hb
        rw [z, if_pos (by decide), q19 hT, ob_1, n218 hT, if_pos (in_of (by omega) (by omega)), ob_1, n218 hT, if_pos (in_of (by omega) (by omega)), tn_of (by omega), tn_of (by omega), ← a1, ← c1]
        by_cases y : vI V (202 + 3 * s) j = vI V (202 + 3 * r) j
        · rw [if_pos y.symm, hb, decide_eq_true y, if_pos rfl]
        · rw [if_neg (fun e => y e.symm), hb, decide_eq_false y, if_neg (by decide)]
      · rw [if_neg (by omega)] at hb
        rw [z, if_neg (by decide), q22 hT, ob_1, n221 hT, if_pos (in_of (by omega) (by omega)), ob_1, n221 hT, if_pos (in_of (by omega) (by omega)), tn_of (by omega), tn_of (by omega)]
        have sy := a4.sym c4
        rw [c3, a3] at hb
        by_cases y : (Op.cmpValue (FP.fcmp (vF T 221 (8 * s + j)) (vF T 221 (8 * r + j))) CmpOp.l) = 0
        · rw [if_pos (sy.mpr y), hb, decide_eq_true y, if_pos rfl]
        · rw [if_neg (fun e => y (sy.mp e)), hb, decide_eq_false y, if_neg (by decide)]
theorem p_copyHealths (hn : 2100 < n) (hI : Inv i V) (hi : i < 512) : PairI i (ev_L_copyHealths n V 0 x y 222) (fun T => ev_X9_copyHealths n T 207 x y) gB := by
  have hL := hI.L
  unfold ev_L_copyHealths eL_copyHealths_0
  rcases out_k (k := 2) (by omega) x with g | ⟨r, hr, rfl⟩
  · refine q_th hI hi (c := 1) (T := V) (E := "java/lang/IndexOutOfBoundsException") ?_ (FrQ.rf hI.L hI.M) (if_pos rfl) (by decide) (fun T fT => ?_)
    · unfold ev_X8_copyHealths eX8_copyHealths_0
      rw [c_reqR0 g, bd_th]
    · refine ⟨wI T 207 0 1, 0, ?_, (FrX.rf fT.1).t, tz fT.1⟩
      unfold ev_X9_copyHealths eX9_copyHealths_0 eX9_copyHealths_84
      rw [r_in0 g, bd_rt, if_pos rfl, sq_eq, tz fT.1, if_neg (by decide)]
  obtain ⟨s, hs, hrs, hrs'⟩ : ∃ s, s < 2 ∧ Int32.ofNat s = 1 - Int32.ofNat r ∧ s = 1 - r := by
    have : r = 0 ∨ r = 1 := by omega
    rcases this with rfl | rfl
    · exact ⟨1, by omega, by decide, rfl⟩
    · exact ⟨0, by omega, by decide, rfl⟩
  obtain ⟨i5, _, hM, hT, hR, hK, N, hc, q, w, w0, kd, ar, hF⟩ := hI
  have hI : Inv i V := ⟨i5, hL, hM, hT, hR, hK, N, hc, q, w, w0, kd, ar, hF⟩
  obtain ⟨A, M, a1, a2, a3, a4, a5, a6, a7, a8⟩ := hR r hr
  obtain ⟨B, K, b1, b2', b3, b4, b5, b6, b7, b8⟩ := hR s hs
  obtain ⟨A0, M0, B0, K0, z1, z2, z3, z4, hz⟩ : ∃ A0 M0 B0 K0 : Nat, vI V 220 0 = Int32.ofNat A0 ∧ vI V 219 0 = Int32.ofNat M0 ∧ vI V 220 1 = Int32.ofNat B0 ∧ vI V 219 1 = Int32.ofNat K0 ∧ ((A0 = A ∧ M0 = M ∧ B0 = B ∧ K0 = K) ∨ (A0 = B ∧ M0 = K ∧ B0 = A ∧ K0 = M)) := by
    have : r = 0 ∨ r = 1 := by omega
    rcases this with rfl | rfl
    · subst hrs'
      exact ⟨A, M, B, K, a4, a3, b4, b3, .inl ⟨rfl, rfl, rfl, rfl⟩⟩
    · subst hrs'
      exact ⟨B, K, A, M, b4, b3, a4, a3, .inr ⟨rfl, rfl, rfl, rfl⟩⟩
  have n1 : (1 : Int32).toNatClampNeg = 1 := by decide +kernel
  have oz : ∀ k, k ≤ 2 → (Int32.ofNat k = 0 ↔ k = 0) := fun k hk => ⟨fun e => by exact (of_inj (b := 0) (by omega) (by omega)).mp e, fun e => by rw [e]; rfl⟩
  -- what throws
  have bad : ∀ (c : Int32) (E : String), c ≠ 0 → ¬ c ≤ 0 → (if E = "java/lang/IndexOutOfBoundsException" then rt (1 : Int32) V else (if E = "java/util/NoSuchElementException" then rt 2 V else (if E = "java/lang/UnsupportedOperationException" then rt 3 V else (if E = "java/lang/IllegalArgumentException" then rt 4 V else none)))) = rt c V → ev_X8_copyHealths n V 0 (Int32.ofNat r) y = th E V → (∀ T, FrQ V T → ev_X9_copyHealths n T 207 (Int32.ofNat r) y = rt 0 (wI T 207 0 c)) → PairI i (bd (ev_X8_copyHealths n V 0 (Int32.ofNat r) y) (fun r2 V1 => (if r2 = 0 then (if gvp_in 0 (vN V1 222) = true then sq (wJ V1 222 ((0 : Int32).toNatClampNeg) 0) (fun V3 => rt 0 V3) else none) else (if gvp_in 0 (vN V1 222) = true then sq (wJ V1 222 ((0 : Int32).toNatClampNeg) 1) (fun V4 => rt 0 V4) else none))) (fun E V9 => (if E = "java/lang/IndexOutOfBoundsException" then rt 1 V9 else (if E = "java/util/NoSuchElementException" then rt 2 V9 else (if E = "java/lang/UnsupportedOperationException" then rt 3 V9 else (if E = "java/lang/IllegalArgumentException" then rt 4 V9 else none)))))) (fun T => ev_X9_copyHealths n T 207 (Int32.ofNat r) y) gB := fun c E c0 _ hE hX hRf =>
    q_th hI hi (c := c) (T := V) (E := E) hX (FrQ.rf hL hM) hE c0 (fun T fT => ⟨wI T 207 0 c, 0, hRf T fT, (FrX.rf fT.1).t, tz fT.1⟩)
  have rows : ∀ T, FrQ V T → vI T 220 0 = Int32.ofNat A0 ∧ vI T 219 0 = Int32.ofNat M0 ∧ vI T 220 1 = Int32.ofNat B0 ∧ vI T 219 1 = Int32.ofNat K0 := fun T fT => by
    rw [vI_C (fT.2.2.1 220 (by omega) (by omega) (by omega) (by omega) (by omega) (by omega)), vI_C (fT.2.2.1 219 (by omega) (by omega) (by omega) (by omega) (by omega) (by omega))]
    exact ⟨z1, z2, z3, z4⟩
  by_cases hA : A = 0 ∨ B = 0
  · refine bad 2 "java/util/NoSuchElementException" (by decide) (by decide) (by rw [if_neg (by decide), if_pos rfl]) ?_ (fun T fT => ?_)
    · unfold ev_X8_copyHealths eX8_copyHealths_0 eX8_copyHealths_30
      rw [c_reqR hL hr, bd_rt, ob_1, ← hrs, c_reqR hL hs, bd_rt, ob_1, a5, b5]
      by_cases A0 : A = 0
      · rw [if_pos A0, if_pos rfl]
      · rw [if_neg A0, if_neg (by decide), if_pos (hA.resolve_left A0), if_pos rfl]
    · obtain ⟨t1, t2, t3, t4⟩ := rows T fT
      unfold ev_X9_copyHealths eX9_copyHealths_0 eX9_copyHealths_32 eX9_copyHealths_84
      rw [r_in1 hr, bd_rt, if_neg (by decide), q21 fT.1, ob_1, n220 fT.1, if_pos (by decide), t0n, t1]
      by_cases y0 : A0 = 0
      · rw [if_pos ((oz A0 (by omega)).mpr y0), sq_eq, tz fT.1, if_neg (by decide)]
      · rw [if_neg (fun e => y0 ((oz A0 (by omega)).mp e)), ob_1, n220 fT.1, if_pos (by decide), n1, t3, if_pos ((oz B0 (by omega)).mpr (by omega)), sq_eq, tz fT.1, if_neg (by decide)]
  have hA1 : A ≠ 0 := fun e => hA (.inl e)
  have hB1 : B ≠ 0 := fun e => hA (.inr e)
  have pre : ev_X8_copyHealths n V 0 (Int32.ofNat r) y = if A = B then (if y < 0 then th "java/lang/IllegalArgumentException" V else if Int32.ofNat M < y then th "java/lang/IllegalArgumentException" V else if y ≤ Int32.ofNat K then bd (ev_X6_takeFrom n V (201 + 3 * s) (201 + 3 * r) y) (fun r8 V7 => (if gisZ r8 = true then rt r8 V7 else none)) th else th "java/lang/IllegalArgumentException" V) else th "java/lang/UnsupportedOperationException" V := by
    unfold ev_X8_copyHealths eX8_copyHealths_0 eX8_copyHealths_85
    rw [c_reqR hL hr, bd_rt, ob_1, ← hrs, c_reqR hL hs, bd_rt, ob_1, a5, b5, if_neg hA1, if_neg (by decide), if_neg hB1, if_neg (by decide), a6 hA1, b6 hB1, a7, b7]
    by_cases e : A = B
    · rw [if_pos e, if_pos (by rw [e])]
    · rw [if_neg e, if_neg]
      have : (A = 1 ∧ B = 2) ∨ (A = 2 ∧ B = 1) := by omega
      rcases this with ⟨rfl, rfl⟩ | ⟨rfl, rfl⟩ <;> decide
  have preR : ∀ T, FrQ V T → ev_X9_copyHealths n T 207 (Int32.ofNat r) y = if A = B then (if y < 0 then rt 0 (wI T 207 0 4) else if Int32.ofNat M0 < y then rt 0 (wI T 207 0 4) else if y ≤ Int32.ofNat K0 then elX9_copyHealths_101 n n (wI T 207 0 0) 207 (Int32.ofNat r) y 0 0 else rt 0 (wI T 207 0 4)) else rt 0 (wI T 207 0 3) := fun T fT => by
    obtain ⟨t1, t2, t3, t4⟩ := rows T fT
    unfold ev_X9_copyHealths eX9_copyHealths_0 eX9_copyHealths_79 eX9_copyHealths_84
    rw [r_in1 hr, bd_rt, if_neg (by decide), q21 fT.1, ob_1, n220 fT.1, if_pos (by decide), t0n, t1, if_neg (fun e => by have := (oz A0 (by omega)).mp e; omega), ob_1, n220 fT.1, if_pos (by decide), n1, t3, if_neg (fun e => by have := (oz B0 (by omega)).mp e; omega), ob_1, n220 fT.1, if_pos (by decide), ob_1, n220 fT.1, if_pos (by decide), t1, t3]
    by_cases e : A = B
    · rw [if_pos e, if_pos (by rw [show A0 = B0 by omega])]
      by_cases y0 : y < 0
      · rw [if_pos y0, if_pos y0, sq_eq, tz fT.1, if_neg (by decide)]
      rw [if_neg y0, if_neg y0, q20 fT.1, ob_1, n219 fT.1, if_pos (by decide), t2]
      by_cases y1 : Int32.ofNat M0 < y
      · rw [if_pos y1, if_pos y1, sq_eq, tz fT.1, if_neg (by decide)]
      rw [if_neg y1, if_neg y1, ob_1, n219 fT.1, if_pos (by decide), t4]
      by_cases y2 : y ≤ Int32.ofNat K0
      · rw [if_pos y2, if_pos y2, sq_eq, tz fT.1, if_pos (by decide)]
      · rw [if_neg y2, if_neg y2, sq_eq, tz fT.1, if_neg (by decide)]
    · rw [if_neg e, if_neg (fun z => by have := (of_inj (by omega) (by omega)).mp z; omega), sq_eq, tz fT.1, if_neg (by decide)]
  by_cases eAB : A = B
  rotate_left
  · exact bad 3 "java/lang/UnsupportedOperationException" (by decide) (by decide) (by rw [if_neg (by decide), if_neg (by decide), if_pos rfl]) (by rw [pre, if_neg eAB]) (fun T fT => by rw [preR T fT, if_neg eAB])
  rw [if_pos eAB] at pre
  have preR : ∀ T, FrQ V T → ev_X9_copyHealths n T 207 (Int32.ofNat r) y = (if y < 0 then rt 0 (wI T 207 0 4) else if Int32.ofNat M0 < y then rt 0 (wI T 207 0 4) else if y ≤ Int32.ofNat K0 then elX9_copyHealths_101 n n (wI T 207 0 0) 207 (Int32.ofNat r) y 0 0 else rt 0 (wI T 207 0 4)) := fun T fT => by rw [preR T fT, if_pos eAB]
  have e4 : (if "java/lang/IllegalArgumentException" = "java/lang/IndexOutOfBoundsException" then rt (1 : Int32) V else (if "java/lang/IllegalArgumentException" = "java/util/NoSuchElementException" then rt 2 V else (if "java/lang/IllegalArgumentException" = "java/lang/UnsupportedOperationException" then rt 3 V else (if "java/lang/IllegalArgumentException" = "java/lang/IllegalArgumentException" then rt 4 V else none)))) = rt 4 V := by rw [if_neg (by decide), if_neg (by decide), if_neg (by decide), if_pos rfl]
  by_cases y0 : y < 0
  · exact bad 4 "java/lang/IllegalArgumentException" (by decide) (by decide) e4 (by rw [pre, if_pos y0]) (fun T fT => by rw [preR T fT, if_pos y0])
  by_cases yc : Int32.ofNat M < y ∨ Int32.ofNat K < y
  · refine bad 4 "java/lang/IllegalArgumentException" (by decide) (by decide) e4 ?_ (fun T fT => ?_)
    · rw [pre, if_neg y0]
      by_cases u : Int32.ofNat M < y
      · rw [if_pos u]
      · rw [if_neg u, if_neg (Int32.not_le.mpr (yc.resolve_left u))]
    · rw [preR T fT, if_neg y0]
      by_cases u : Int32.ofNat M0 < y
      · rw [if_pos u]
      · rw [if_neg u, if_neg]
        intro v
        rcases hz with ⟨_, h1, _, h2⟩ | ⟨_, h1, _, h2⟩
        · rw [h1] at u; rw [h2] at v
          exact Int32.not_le.mpr (yc.resolve_left u) v
        · rw [h1] at u; rw [h2] at v
          exact Int32.not_lt.mpr v (yc.resolve_right u)
  have yM : ¬ Int32.ofNat M < y := fun e => yc (.inl e)
  have yK : ¬ Int32.ofNat K < y := fun e => yc (.inr e)
  obtain ⟨cnt, hcn, rfl⟩ : ∃ c, c < 9 ∧ y = Int32.ofNat c := by
    refine rng (k := 9) (by omega) y0 ?_
    have h1 := Int32.le_iff_toInt_le.mp (Int32.not_lt.mp yM)
    rw [ti_of (by omega)] at h1
    rw [Int32.lt_iff_toInt_lt, ti_of (by omega)]; omega
  have yM0 : ¬ Int32.ofNat M0 < Int32.ofNat cnt := by
    rcases hz with ⟨_, h1, _, h2⟩ | ⟨_, h1, _, h2⟩
    · rw [h1]; exact yM
    · rw [h1]; exact yK
  have yK0 : Int32.ofNat cnt ≤ Int32.ofNat K0 := by
    rcases hz with ⟨_, h1, _, h2⟩ | ⟨_, h1, _, h2⟩
    · rw [h2]; exact Int32.not_lt.mp yK
    · rw [h2]; exact Int32.not_lt.mp yM
  obtain ⟨U, g, eU, lU, fU', kU⟩ := c_tk (n := n) (so := B) hr hs hrs (by omega : cnt ≤ 8) (by omega) cnt n 0 false V (by omega) (by omega) hL (b6 hB1)
  have gg : gisZ (bi g) = true := by cases g <;> decide
  have eX : ev_X8_copyHealths n V 0 (Int32.ofNat r) (Int32.ofNat cnt) = rt (bi g) U := by
    rw [pre, if_neg y0, if_neg yM, if_pos (Int32.not_lt.mp yK)]
    refine (congrArg (fun X => bd X _ _) (show ev_X6_takeFrom n V (201 + 3 * s) (201 + 3 * r) (Int32.ofNat cnt) = _ from eU)).trans ?_
    rw [bd_rt, if_pos gg]
  obtain ⟨W, eW, lW, fW, jW⟩ : ∃ W, (bd (ev_X8_copyHealths n V 0 (Int32.ofNat r) (Int32.ofNat cnt)) (fun r2 V1 => (if r2 = 0 then (if gvp_in 0 (vN V1 222) = true then sq (wJ V1 222 ((0 : Int32).toNatClampNeg) 0) (fun V3 => rt 0 V3) else none) else (if gvp_in 0 (vN V1 222) = true then sq (wJ V1 222 ((0 : Int32).toNatClampNeg) 1) (fun V4 => rt 0 V4) else none))) (fun E V9 => (if E = "java/lang/IndexOutOfBoundsException" then rt 1 V9 else (if E = "java/util/NoSuchElementException" then rt 2 V9 else (if E = "java/lang/UnsupportedOperationException" then rt 3 V9 else (if E = "java/lang/IllegalArgumentException" then rt 4 V9 else none)))))) = rt (0 : Int32) W ∧ zLay W ∧ (∀ k, k ≠ 222 → vC W k = vC U k) ∧ vJ W 222 0 = gB (bi g) := by
    rw [eX, bd_rt]
    cases g
    · exact ⟨wJ U 222 0 0, by rw [if_pos (show bi false = 0 from rfl), wj lU], zLay_wJ lU, fun k hk => vC_wJ hk, by rw [vJ_wJ (zLen lU (by omega))]; rfl⟩
    · exact ⟨wJ U 222 0 1, by rw [if_neg (show ¬ bi true = 0 by decide), wj lU], zLay_wJ lU, fun k hk => vC_wJ hk, by rw [vJ_wJ (zLen lU (by omega))]; rfl⟩
  have f1 : ∀ k, ¬ (201 ≤ k ∧ k < 207) → k ≠ 222 → vC W k = vC V k := fun k h1 h2 => by rw [fW k h2, fU' k (by omega) (by omega)]
  have l1 : zLay (wI W 207 0 0) := zLay_wI lW
  have eq0 : ∀ k, k ≠ 207 → vC (wI W 207 0 0) k = vC W k := fun k hk => vC_wI hk
  have z7 : vI (wI W 207 0 0) 207 = zup (vI W 207) 0 0 := vI_wI (zLen lW (by omega))
  have hE : RwE V (wI W 207 0 0) := fun p hp j hj => by
    rw [vI_C (eq0 218 (by omega)), vF_C (eq0 221 (by omega)), vI_C (f1 218 (by omega) (by omega)), vF_C (f1 221 (by omega) (by omega))]
    obtain ⟨_, _, _, _, _, _, _, _, _, h⟩ := hR p hp
    exact h j hj
  obtain ⟨S, eS, lS, fS, rS⟩ := kU _ l1 hE (by rw [vI_C (eq0 220 (by omega)), vI_C (f1 220 (by omega) (by omega)), z1, show A0 = B by omega])
  have f9 : ∀ k, ¬ (201 ≤ k ∧ k < 208) → k ≠ 218 → k ≠ 221 → k ≠ 222 → vC S k = vC V k := fun k h1 h2 h3 h4 => by rw [fS k h2 h3, eq0 k (by omega), f1 k (by omega) h4]
  have f7 : ∀ k, k ≠ 0 → vI S 207 k = vI V 207 k := fun k h0 => by rw [vI_C (fS 207 (by omega) (by omega)), z7, zup_ne h0, vI_C (f1 207 (by omega) (by omega))]
  have fc : ∀ k, 201 ≤ k → k < 207 → vC S k = vC U k := fun k h1 h2 => by rw [fS k (by omega) (by omega), eq0 k (by omega), fW k (by omega)]
  have fR : ∀ T : VS, zLay T → (∀ k, ¬ (201 ≤ k ∧ k < 207) → k ≠ 222 → vC T k = vC V k) → ev_X9_copyHealths n T 207 (Int32.ofNat r) (Int32.ofNat cnt) = elX9_copyHealths_101 n n (wI T 207 0 0) 207 (Int32.ofNat r) (Int32.ofNat cnt) 0 0 := fun T lT fT => by
    have t1 : vI T 220 0 = Int32.ofNat A0 := by rw [vI_C (fT 220 (by omega) (by omega))]; exact z1
    have t2 : vI T 219 0 = Int32.ofNat M0 := by rw [vI_C (fT 219 (by omega) (by omega))]; exact z2
    have t3 : vI T 220 1 = Int32.ofNat B0 := by rw [vI_C (fT 220 (by omega) (by omega))]; exact z3
    have t4 : vI T 219 1 = Int32.ofNat K0 := by rw [vI_C (fT 219 (by omega) (by omega))]; exact z4
    unfold ev_X9_copyHealths eX9_copyHealths_0 eX9_copyHealths_79 eX9_copyHealths_84
    rw [r_in1 hr, bd_rt, if_neg (by decide), q21 lT, ob_1, n220 lT, if_pos (by decide), t0n, t1, if_neg (fun e => by have := (oz A0 (by omega)).mp e; omega), ob_1, n220 lT, if_pos (by decide), n1, t3, if_neg (fun e => by have := (oz B0 (by omega)).mp e; omega), ob_1, n220 lT, if_pos (by decide), ob_1, n220 lT, if_pos (by decide), t1, t3, if_pos (by rw [show A0 = B0 by omega]), if_neg y0, q20 lT, ob_1, n219 lT, if_pos (by decide), t2, if_neg yM0, ob_1, n219 lT, if_pos (by decide), t4, if_pos yK0, sq_eq, tz lT, if_pos (by decide)]
  refine ⟨0, W, bi g, S, eW, (fR W lW f1).trans eS, ?_, by rw [vI_C (fS 207 (by omega) (by omega)), z7, zup_eq], fun _ => by rw [vJ_C (fS 222 (by omega) (by omega)), vJ_C (eq0 222 (by omega)), jW]⟩
  refine ⟨by omega, lS, ?_, ?_, ?_, ?_, N, hc, q, w, w0, kd, ar, hF.fr (by omega) (fun k hk => f9 k (by omega) (by omega) (by omega) (by omega)) (f7 9 (by omega))⟩
  · exact hM.fr (fun a ha u hu => by
      have z2 := zB_hi a ha u hu
      rw [vI_C (f9 _ (by omega) (by omega) (by omega) (by omega))])
  · exact hT.fr (fun k _ => by rw [vI_C (f9 0 (by omega) (by omega) (by omega) (by omega))]) (fun k hk => f7 k (by omega)) (f9 1 (by omega) (by omega) (by omega) (by omega)) (f9 216 (by omega) (by omega) (by omega) (by omega))
  · intro p hp
    obtain ⟨so', L', c1, c2, c3, c4, c5, c6, c7, c8⟩ := hR p hp
    have h0 : vI S (201 + 3 * p) = vI V (201 + 3 * p) := by rw [vI_C (fc _ (by omega) (by omega)), vI_C (fU' _ (by omega) (by omega))]
    refine ⟨so', L', c1, c2, by rw [vI_C (f9 219 (by omega) (by omega) (by omega) (by omega))]; exact c3, by rw [vI_C (f9 220 (by omega) (by omega) (by omega) (by omega))]; exact c4, by rw [h0]; exact c5, fun h => by rw [h0]; exact c6 h, by rw [h0]; exact c7, fun j hj => ?_⟩
    rw [vI_C (fc _ (by omega) (by omega)), vF_C (fc _ (by omega) (by omega))]
    exact rS p hp j hj
  · exact hK.fr (by omega) (by rw [vI_C (f9 0 (by omega) (by omega) (by omega) (by omega))]) (f7 10 (by omega)) (fun k hk => f9 k (by omega) (by omega) (by omega) (by omega))
end
