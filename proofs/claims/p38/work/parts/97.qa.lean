/-! questions -/
def FrX (V U : VS) : Prop := zLay U ∧ (∀ i, i ≠ 207 → i ≠ 217 → vC U i = vC V i) ∧ ∀ k, k = 9 ∨ k = 10 ∨ k = 12 ∨ k = 13 → vI U 207 k = vI V 207 k
theorem FrX.rf {V : VS} (h : zLay V) : FrX V V := ⟨h, fun _ _ _ => rfl, fun _ _ => rfl⟩
theorem FrX.tr {V U T : VS} (h : FrX V U) (g : FrX U T) : FrX V T := ⟨g.1, fun i a b => (g.2.1 i a b).trans (h.2.1 i a b), fun k hk => (g.2.2 k hk).trans (h.2.2 k hk)⟩
theorem FrX.t {V U : VS} {x : Int32} (h : FrX V U) : FrX V (wI U 207 0 x) := by
  have l := zLen h.1 (i := 207) (by omega)
  refine ⟨zLay_wI h.1, fun i a b => (vC_wI a).trans (h.2.1 i a b), fun k hk => ?_⟩
  rw [vI_wI l, zup_ne (by omega)]; exact h.2.2 k hk
theorem FrX.q {V U : VS} (h : FrX V U) (g : NumV V) : FrQ V U := ⟨h.1, g.fr (fun a ha u hu => by have := zB_hi a ha u hu; rw [vI_C (h.2.1 _ (by omega) (by omega))]), fun i _ a _ b _ _ => h.2.1 i a b, h.2.2⟩
theorem FrF.x {V U : VS} (h : FrF V U) : FrX V U := ⟨h.1, fun i _ b => h.2 i b, fun k _ => by rw [vI_C (h.2 207 (by omega))]⟩
theorem wj {T : VS} {x : Int64} (h : zLay T) : (if gvp_in 0 (vN T 222) = true then sq (wJ T 222 ((0 : Int32).toNatClampNeg) x) (fun V3 => rt (0 : Int32) V3) else none) = rt 0 (wJ T 222 0 x) := by
  rw [show vN T 222 = 1 from zN h (by decide +kernel), if_pos (by decide), sq_eq, t0n]
theorem wd {T : VS} {x : UInt64} (h : zLay T) : (if gvp_in 0 (vN T 223) = true then sq (wD T 223 ((0 : Int32).toNatClampNeg) x) (fun V3 => rt (0 : Int32) V3) else none) = rt 0 (wD T 223 0 x) := by
  rw [show vN T 223 = 1 from zN h (by decide +kernel), if_pos (by decide), sq_eq, t0n]
theorem FrX.j {V U : VS} {x : Int64} (h : FrX (wJ V 222 0 x) U) (l : zLay V) : vJ U 222 0 = x := by
  rw [vJ_C (h.2.1 222 (by omega) (by omega)), vJ_wJ (zLen l (by omega))]
theorem FrX.d {V U : VS} {x : UInt64} (h : FrX (wD V 223 0 x) U) (l : zLay V) : vD U 223 0 = x := by
  rw [vD_C (h.2.1 223 (by omega) (by omega)), vD_wD (zLen l (by omega))]
section
variable {i n : Nat} {V T : VS}
theorem Inv.L (h : Inv i V) : zLay V := h.2.1
theorem Inv.M (h : Inv i V) : NumV V := h.2.2.1
theorem q_ok {X : Rs Int32} {R : VS → Rs Int32} {r : Int32} {f : String → VS → Rs Int32} (hI : Inv i V) (hi : i < 512) (eC : X = rt r T) (fC : FrQ V T) (eR : ∀ T', FrQ V T' → ∃ U, R T' = rt r U ∧ FrX T' U ∧ vI U 207 0 = 0) : PairI i (bd X (fun r2 V1 => if gvp_in 0 (vN V1 222) = true then sq (wJ V1 222 ((0 : Int32).toNatClampNeg) ((r2 : Int32).toInt64)) (fun V3 => rt 0 V3) else none) f) R gI := by
  have fT : FrQ V (wJ T 222 0 r.toInt64) := fC.j
  obtain ⟨U, eU, fU, tU⟩ := eR _ fT
  refine ⟨0, _, r, U, by rw [eC, bd_rt, wj fC.1], eU, (fT.tr (fU.q fT.2.1)).inv hI (by omega) (by omega), tU, fun _ => fU.j fC.1⟩
theorem q_okB {X : Rs Int32} {R : VS → Rs Int32} {r : Int32} {f : String → VS → Rs Int32} (hI : Inv i V) (hi : i < 512) (eC : X = rt r T) (fC : FrQ V T) (eR : ∀ T', FrQ V T' → ∃ U, R T' = rt r U ∧ FrX T' U ∧ vI U 207 0 = 0) : PairI i (bd X (fun r2 V1 => if r2 = 0 then (if gvp_in 0 (vN V1 222) = true then sq (wJ V1 222 ((0 : Int32).toNatClampNeg) 0) (fun V3 => rt 0 V3) else none) else (if gvp_in 0 (vN V1 222) = true then sq (wJ V1 222 ((0 : Int32).toNatClampNeg) 1) (fun V4 => rt 0 V4) else none)) f) R gB := by
  have key : ∀ x : Int64, x = gB r → ∃ U, R (wJ T 222 0 x) = rt r U ∧ FrX (wJ T 222 0 x) U ∧ vI U 207 0 = 0 := fun x _ => eR _ fC.j
  by_cases g : r = 0
  · obtain ⟨U, eU, fU, tU⟩ := key 0 (by unfold gB; rw [if_pos g])
    exact ⟨0, _, r, U, by rw [eC, bd_rt, if_pos g, wj fC.1], eU, (fC.j.tr (fU.q fC.j.2.1)).inv hI (by omega) (by omega), tU, fun _ => by rw [fU.j fC.1]; unfold gB; rw [if_pos g]⟩
  · obtain ⟨U, eU, fU, tU⟩ := key 1 (by unfold gB; rw [if_neg g])
    exact ⟨0, _, r, U, by rw [eC, bd_rt, if_neg g, wj fC.1], eU, (fC.j.tr (fU.q fC.j.2.1)).inv hI (by omega) (by omega), tU, fun _ => by rw [fU.j fC.1]; unfold gB; rw [if_neg g]⟩
theorem q_okD {X : Rs UInt64} {R : VS → Rs UInt64} {r : UInt64} {f : String → VS → Rs Int32} (hI : Inv i V) (hi : i < 512) (eC : X = rt r T) (fC : FrQ V T) (eR : ∀ T', FrQ V T' → ∃ U, R T' = rt r U ∧ FrX T' U ∧ vI U 207 0 = 0) : PairD i (bd X (fun r2 V1 => if gvp_in 0 (vN V1 223) = true then sq (wD V1 223 ((0 : Int32).toNatClampNeg) r2) (fun V3 => rt 0 V3) else none) f) R := by
  obtain ⟨U, eU, fU, tU⟩ := eR _ (fC.d (x := r))
  exact ⟨0, _, r, U, by rw [eC, bd_rt, wd fC.1], eU, (fC.d.tr (fU.q fC.d.2.1)).inv hI (by omega) (by omega), tU, fun _ => fU.d fC.1⟩
theorem q_th {X : Rs Int32} {R : VS → Rs Int32} {E : String} {c : Int32} {f : String → VS → Rs Int32} {k : Int32 → VS → Rs Int32} {g : Int32 → Int64} (hI : Inv i V) (hi : i < 512) (eC : X = th E T) (fC : FrQ V T) (ef : f E T = rt c T) (c0 : c ≠ 0) (eR : ∀ T', FrQ V T' → ∃ U r, R T' = rt r U ∧ FrX T' U ∧ vI U 207 0 = c) : PairI i (bd X k f) R g := by
  obtain ⟨U, r, eU, fU, tU⟩ := eR _ fC
  exact ⟨c, T, r, U, by rw [eC, bd_th, ef], eU, (fC.tr (fU.q fC.2.1)).inv hI (by omega) (by omega), tU, fun e => absurd e c0⟩
theorem q_thD {X : Rs UInt64} {R : VS → Rs UInt64} {E : String} {c : Int32} {f : String → VS → Rs Int32} {k : UInt64 → VS → Rs Int32} (hI : Inv i V) (hi : i < 512) (eC : X = th E T) (fC : FrQ V T) (ef : f E T = rt c T) (c0 : c ≠ 0) (eR : ∀ T', FrQ V T' → ∃ U r, R T' = rt r U ∧ FrX T' U ∧ vI U 207 0 = c) : PairD i (bd X k f) R := by
  obtain ⟨U, r, eU, fU, tU⟩ := eR _ fC
  exact ⟨c, T, r, U, by rw [eC, bd_th, ef], eU, (fC.tr (fU.q fC.2.1)).inv hI (by omega) (by omega), tU, fun e => absurd e c0⟩
theorem q_v {X : Rs Int32} {R : VS → Rs Int32} {r : Int32} (hI : Inv i V) (hi : i < 512) (eC : X = rt r V) (eR : ∃ U, R V = rt r U ∧ FrX V U) : PairV i X R := by
  obtain ⟨U, eU, fU⟩ := eR
  exact ⟨r, V, U, eC, eU, (fU.q hI.M).inv hI (by omega) (by omega)⟩
theorem tz {x : Int32} (h : zLay T) : vI (wI T 207 0 x) 207 0 = x := by rw [vI_wI (zLen h (by omega)), zup_eq]
theorem tq {w : RW} {x : Int32} (h : Qr T w) : Qr (wI T 207 0 x) w := h.wo (by omega)
theorem in_k {k : Nat} (hk : k < 1000000) {x : Int32} : ((x < 0 ∨ Int32.ofNat k ≤ x) ∧ ev_X9_isIn n V x 0 (Int32.ofNat k - 1) = rt 0 V) ∨ ∃ j, j < k ∧ x = Int32.ofNat j ∧ ev_X9_isIn n V x 0 (Int32.ofNat k - 1) = rt 1 V := by
  by_cases g : x < 0
  · exact .inl ⟨.inl g, isIn_no (.inl g)⟩
  by_cases g2 : Int32.ofNat k ≤ x
  · refine .inl ⟨.inr g2, isIn_no (.inr ?_)⟩
    rw [Int32.lt_iff_toInt_lt]; rw [Int32.le_iff_toInt_le, ti_of (by omega)] at g2
    by_cases z : k = 0
    · rw [z]; have : (Int32.ofNat 0 - 1).toInt = -1 := by decide +kernel
      omega
    · rw [show Int32.ofNat k - 1 = Int32.ofNat (k - 1) from of_sub (b := 1) (by omega), ti_of (by omega)]; omega
  · obtain ⟨u, hu, rfl⟩ := rng (by omega) g (Int32.not_le.mp g2)
    refine .inr ⟨u, hu, rfl, isIn_yes g ?_⟩
    rw [show Int32.ofNat k - 1 = Int32.ofNat (k - 1) from of_sub (b := 1) (by omega), of_lt (by omega) (by omega)]; omega
theorem in_out {j k : Nat} (hj : j < k) (hk : k < 1000000) (h : Int32.ofNat j < 0 ∨ Int32.ofNat k ≤ Int32.ofNat j) : False := by
  rcases h with h | h
  · exact ofn_nn (by omega) h
  · have := (of_le (by omega) (by omega)).mp h; omega
theorem in_yes {j k : Nat} (hj : j < k) (hk : k < 1000000) : ev_X9_isIn n V (Int32.ofNat j) 0 (Int32.ofNat k - 1) = rt 1 V := by
  rcases in_k (n := n) (V := V) hk (x := Int32.ofNat j) with ⟨a, _⟩ | ⟨_, _, _, e⟩
  · exact (in_out hj hk a).elim
  · exact e
theorem in_no {k : Nat} (hk : k < 1000000) {x : Int32} (h : x < 0 ∨ Int32.ofNat k ≤ x) : ev_X9_isIn n V x 0 (Int32.ofNat k - 1) = rt 0 V := by
  rcases in_k (n := n) (V := V) hk (x := x) with ⟨_, e⟩ | ⟨j, hj, e, _⟩
  · exact e
  · subst e; exact (in_out hj hk h).elim
/-- an int is out of a range, or in it -/
theorem out_k {k : Nat} (hk : k < 1000000) (x : Int32) : (x < 0 ∨ Int32.ofNat k ≤ x) ∨ ∃ j, j < k ∧ x = Int32.ofNat j := by
  rcases in_k (n := 0) (V := []) hk (x := x) with ⟨a, _⟩ | ⟨j, a, b, _⟩
  · exact .inl a
  · exact .inr ⟨j, a, b⟩
variable {w : RW} {x : Int32}
theorem c_reqU0 (hL : zLay V) (hW : WF w) (h : Rp 2 V w) (g : x < 0 ∨ Int32.ofNat (nU w) ≤ x) : ev_X8_requireUnit n V 0 x = th "java/lang/IndexOutOfBoundsException" V := by
  have u8 := hW.u8
  unfold ev_X8_requireUnit eX8_requireUnit_0
  rw [r03 hL, ob_1]
  rcases c_find (n := n) hL b2 hW h (x := x) with ⟨_, e⟩ | ⟨u, hu, e, _⟩
  · rw [e, bd_rt]; rfl
  · subst e; exact (in_out hu (by omega) g).elim
theorem c_reqU1 (hL : zLay V) (hW : WF w) (h : Rp 2 V w) {u : Nat} (hu : u < nU w) : ev_X8_requireUnit n V 0 (Int32.ofNat u) = rt (some (2 + 9 + u)) V := by
  unfold ev_X8_requireUnit eX8_requireUnit_0
  rw [r03 hL, ob_1, c_findU hL b2 hW h hu, bd_rt]; rfl
theorem r_isU0 (hL : zLay V) (hQ : Qr V w) (hW : WF w) (g : x < 0 ∨ Int32.ofNat (nU w) ≤ x) : ev_X9_isUnit n V 207 x = rt 0 V := by
  have u8 := hW.u8
  rcases r_isUnit (n := n) hL hQ hW (x := x) with ⟨_, e⟩ | ⟨u, hu, e, _⟩
  · exact e
  · subst e; exact (in_out hu (by omega) g).elim
theorem r_isU1 (hL : zLay V) (hQ : Qr V w) (hW : WF w) {u : Nat} (hu : u < nU w) : ev_X9_isUnit n V 207 (Int32.ofNat u) = rt 1 V := by
  have u8 := hW.u8
  rcases r_isUnit (n := n) hL hQ hW (x := Int32.ofNat u) with ⟨a, _⟩ | ⟨_, _, _, e⟩
  · rw [hW.ue] at a; exact (in_out hu (by omega) a).elim
  · exact e
theorem c_reqC0 (hL : zLay V) (hW : WF w) (h : Rp 2 V w) (g : x < 0 ∨ Int32.ofNat (nR w * nC w) ≤ x) : ev_X8_requireCell n V 0 x = th "java/lang/IndexOutOfBoundsException" V := by
  unfold ev_X8_requireCell eX8_requireCell_0
  rw [r03 hL, ob_1, zr0 hL b2, ob_1, c_hasCell hW h]
  by_cases g0 : x < 0
  · rw [if_pos g0, bd_rt, if_pos rfl]
  · rw [if_neg g0, if_pos (g.resolve_left g0), bd_rt, if_pos rfl]
theorem c_reqC1 (hL : zLay V) (hW : WF w) (h : Rp 2 V w) {c : Nat} (hc : c < nR w * nC w) : ev_X8_requireCell n V 0 (Int32.ofNat c) = rt () V := by
  have rc := hW.rc
  unfold ev_X8_requireCell eX8_requireCell_0
  rw [r03 hL, ob_1, zr0 hL b2, ob_1, c_hasCell hW h, if_neg (ofn_nn (by omega)), if_neg (fun e => by have := (of_le (by omega) (by omega)).mp e; omega), bd_rt, if_neg (by decide)]
theorem r_isC0 (hL : zLay V) (hQ : Qr V w) (hW : WF w) (g : x < 0 ∨ Int32.ofNat (nR w * nC w) ≤ x) : ev_X9_isCell n V 207 x = rt 0 V := by
  have rc := hW.rc
  rcases r_isCell (n := n) hL hQ hW (x := x) with ⟨_, e⟩ | ⟨u, hu, e, _⟩
  · exact e
  · subst e; exact (in_out hu (by omega) g).elim
theorem r_isC1 (hL : zLay V) (hQ : Qr V w) (hW : WF w) {c : Nat} (hc : c < nR w * nC w) : ev_X9_isCell n V 207 (Int32.ofNat c) = rt 1 V := by
  have rc := hW.rc
  rcases r_isCell (n := n) hL hQ hW (x := Int32.ofNat c) with ⟨a, _⟩ | ⟨_, _, _, e⟩
  · exact (in_out hc (by omega) a).elim
  · exact e
theorem r_no (hL : zLay V) {y : Int32} : ev_X9_no n V 207 y = rt 0 (wI V 207 0 y) := by
  unfold ev_X9_no eX9_no_0; rw [sq_eq]
/-- errorPosition -/
theorem p_errorPosition (hI : Inv i V) (hi : i < 512) : PairI i (ev_L_errorPosition n V 0 222) (fun T => ev_X9_errorPosition n T 207) gI := by
  have hE : vI V 0 2 = vI V 207 13 := hI.2.2.2.1.2
  unfold ev_L_errorPosition eL_errorPosition_0
  by_cases g : 0 ≤ vI V 207 13
  · refine q_ok hI hi (r := vI V 207 13) (T := V) ?_ (FrQ.rf hI.L hI.M) (fun T fT => ?_)
    · unfold ev_X8_errorPosition eX8_errorPosition_0
      rw [hE, if_pos g]
    · have x13 : vI (wI T 207 0 0) 207 13 = vI V 207 13 := by rw [vI_wI (zLen fT.1 (by omega)), zup_ne (by omega)]; exact fT.2.2.2 13 (by omega)
      refine ⟨wI T 207 0 0, ?_, (FrX.rf fT.1).t, tz fT.1⟩
      unfold ev_X9_errorPosition eX9_errorPosition_0 eX9_errorPosition_13
      rw [fT.2.2.2 13 (by omega), if_pos g, sq_eq, x13, if_pos g]
  · refine q_th hI hi (c := 1) (T := V) (E := "java/util/NoSuchElementException") ?_ (FrQ.rf hI.L hI.M) (if_pos rfl) (by decide) (fun T fT => ?_)
    · unfold ev_X8_errorPosition eX8_errorPosition_0
      rw [hE, if_neg g]
    · have x13 : vI (wI T 207 0 1) 207 13 = vI V 207 13 := by rw [vI_wI (zLen fT.1 (by omega)), zup_ne (by omega)]; exact fT.2.2.2 13 (by omega)
      refine ⟨wI T 207 0 1, 0, ?_, (FrX.rf fT.1).t, tz fT.1⟩
      unfold ev_X9_errorPosition eX9_errorPosition_0 eX9_errorPosition_13
      rw [fT.2.2.2 13 (by omega), if_neg g, sq_eq, x13, if_neg g]
end
