/-! questions about paths -/
section
variable {i n : Nat} {V T : VS} {w : RW} {u g : Nat}
theorem c_reqT0 (hL : zLay V) (e : ev_X2_onTurn n V 2 = rt none V) : ev_X8_requireTurn n V 0 = th "java/lang/UnsupportedOperationException" V := by
  unfold ev_X8_requireTurn eX8_requireTurn_0
  rw [r03 hL, ob_1, e, bd_rt, om_0]
theorem c_reqT1 {a : Nat} (hL : zLay V) (e : ev_X2_onTurn n V 2 = rt (some a) V) : ev_X8_requireTurn n V 0 = rt (some a) V := by
  unfold ev_X8_requireTurn eX8_requireTurn_0
  rw [r03 hL, ob_1, e, bd_rt, om_1]
/-- what may be asked of a thing that is there or isn't -/
theorem r_ask0 (hL : zLay T) : ev_X9_mayAsk n T 207 0 = rt 0 (wI T 207 0 1) := by
  unfold ev_X9_mayAsk eX9_mayAsk_0 eX9_mayAsk_22
  rw [if_pos rfl, sq_eq, tz hL, if_neg (by decide)]
theorem r_ask2 (hn : 8 < n) (hL : zLay T) (hQ : Qr T w) (hW : WF w) (a : cnd w = false) : ev_X9_mayAsk n T 207 1 = rt 0 (wI T 207 0 2) := by
  obtain ⟨r, er, r1, _⟩ := r_conditions (n := n) hn hL hQ hW
  unfold ev_X9_mayAsk eX9_mayAsk_0 eX9_mayAsk_22
  rw [if_neg (by decide), er, bd_rt, if_neg (fun x => by rw [r1.mp x] at a; cases a), sq_eq, tz hL, if_neg (by decide)]
theorem r_ask1 (hn : 8 < n) (hL : zLay T) (hQ : Qr T w) (hW : WF w) (a : cnd w = true) : ev_X9_mayAsk n T 207 1 = rt 1 (wI T 207 0 0) := by
  obtain ⟨r, er, r1, _⟩ := r_conditions (n := n) hn hL hQ hW
  unfold ev_X9_mayAsk eX9_mayAsk_0 eX9_mayAsk_22
  rw [if_neg (by decide), er, bd_rt, if_pos (r1.mpr a), sq_eq, tz hL, if_pos rfl]
theorem r71x (h : zLay V) : vR V 0 10 = some 197 := zR h (by decide +kernel)
theorem farD_le {f : Nat → Nat} (hE : EqD w g f) {c : Nat} (hc : c < nR w * nC w) : farD f c ≤ 129 := by
  unfold farD
  by_cases q : f c < 1000000
  · rw [if_pos q]; have := (hE.2.1 c hc).2 q; omega
  · rw [if_neg q]; omega
/-- what a path costs, for the reference -/
theorem r_costsTo0 (hL : zLay T) (hQ : Qr T w) (hu : u < 8) (hT : w 166 = Int32.ofNat u) (hc : w (67 + 11 * u + 2) = Int32.ofNat g) : ev_X9_costsTo n T 207 (Int32.ofNat g) = rt 0 T := by
  obtain ⟨g6, e6⟩ := r_v hL hQ (k := 166) (x := 166) (by decide) rfl
  unfold ev_X9_costsTo eX9_costsTo_0
  rw [r71 hL, ob_1, if_pos g6, e6, hT, r_of2 hL hQ hu, bd_rt, if_pos hc.symm]
theorem r_costsTo1 (hn : 8 < n) (hL : zLay T) (hQ : Qr T w) (hW : WF w) (hu : u < nU w) (hT : w 166 = Int32.ofNat u) (hg : g < nR w * nC w) (hc : cellN w u ≠ g) (he : ent w g = 0) : ev_X9_costsTo n T 207 (Int32.ofNat g) = rt (-1) T := by
  have u8 := hW.u8; have rc := hW.rc; have cl := cell_lt hW hu
  obtain ⟨g6, e6⟩ := r_v hL hQ (k := 166) (x := 166) (by decide) rfl
  have nf : ¬ fre w g = true := fun q => by have := (fre_ent q).2; omega
  unfold ev_X9_costsTo eX9_costsTo_0
  rw [r71 hL, ob_1, if_pos g6, e6, hT, r_of2 hL hQ (by omega), bd_rt, cell_e hW hu, if_neg (fun e => hc ((of_inj (by omega) (by omega)).mp e).symm), r_isFree hn hL hQ hW (by omega), if_neg nf, bd_rt, if_pos rfl]
theorem r_costsTo2 {f : Nat → Nat} (hn : 200 < n) (hL : zLay T) (hQ : Qr T w) (hW : WF w) (hu : u < nU w) (hT : w 166 = Int32.ofNat u) (hg : g < nR w * nC w) (hc : cellN w u ≠ g) (he : 0 < ent w g) (hE : EqD w g f) : ∃ U, ev_X9_costsTo n T 207 (Int32.ofNat g) = rt (if f (cellN w u) < 1000000 then Int32.ofNat (f (cellN w u)) else -1) U ∧ FaR U (nR w * nC w) (farD f) ∧ FrF T U ∧ Qr U w := by
  have u8 := hW.u8; have rc := hW.rc; have cl := cell_lt hW hu
  obtain ⟨g6, e6⟩ := r_v hL hQ (k := 166) (x := 166) (by decide) rfl
  have fr := (ent_fre he).1
  obtain ⟨U, eU, aU, fU, qU⟩ := r_measures (n := n) hn hL hQ hW hE hg
  refine ⟨U, ?_, aU, fU, qU⟩
  unfold ev_X9_costsTo eX9_costsTo_0
  rw [r71 hL, ob_1, if_pos g6, e6, hT, r_of2 hL hQ (by omega), bd_rt, cell_e hW hu, if_neg (fun e => hc ((of_inj (by omega) (by omega)).mp e).symm), r_isFree (by omega) hL hQ hW (by omega), if_pos fr, bd_rt, if_neg (by decide), eU, bd_rt, r717 fU.1, ob_1, m217 fU.1, if_pos (in_of (by omega) (by decide)), tn_of (by omega), aU _ cl]
  unfold farD
  by_cases q : f (cellN w u) < 1000000
  · rw [if_pos q, if_pos q, show Int32.ofNat (f (cellN w u) + 1) - 1 = Int32.ofNat (f (cellN w u) + 1 - 1) from of_sub (b := 1) (by omega)]; rfl
  · rw [if_neg q, if_neg q]; rfl
/-- the class's path -/
theorem c_reqP (hn : 64 < n) (hL : zLay V) (hW : WF w) (hC : Rp 2 V w) (hu : u < nU w) (hT : w 166 = Int32.ofNat u) (hg : g < nR w * nC w) : ∃ U f dn, ev_X8_requirePath n V 0 (2 + 9 + u) (Int32.ofNat g) = (if f (cellN w u) < 1000000 then rt (Int32.ofNat (f (cellN w u))) U else th "java/util/NoSuchElementException" U) ∧ PA U (nR w * nC w) (ent w) f dn ∧ FrA V U ∧ (if ent w g = 0 ∧ cellN w u ≠ g then (∀ c, f c = 1000000) else EqD w g f) := by
  have u8 := hW.u8; have rc := hW.rc; have cl := cell_lt hW hu
  obtain ⟨U, f, dn, e, p, fr, q⟩ := c_measure (n := n) hn hL b2 hW hC hu hT hg
  refine ⟨U, f, dn, ?_, p, fr, q⟩
  have fl : f (cellN w u) ≤ 1000000 := by
    by_cases z : ent w g = 0 ∧ cellN w u ≠ g
    · rw [if_pos z] at q; rw [q]; omega
    · rw [if_neg z] at q; exact (q.2.1 _ cl).1
  have rU := hC.fA b2 fr
  unfold ev_X8_requirePath eX8_requirePath_0
  rw [r71x hL, ob_1, r03 hL, ob_1, e, bd_rt, r71x fr.1, ob_1, show vI U (2 + 9 + u) 4 = w (67 + 11 * u + 2) from rU.u hu (by omega) (j := 2) (by decide), cell_e hW hu, c_costsFrom fr.1 p rc cl, bd_rt]
  by_cases z : f (cellN w u) < 1000000
  · rw [if_pos z, if_pos (by exact (of_lt (b := 1000000) (by omega) (by omega)).mpr z)]
  · rw [if_neg z, if_neg (fun e => by exact z ((of_lt (b := 1000000) (by omega) (by omega)).mp e))]
theorem p_costs {x : Int32} (hn : 200 < n) (hI : Inv i V) (hi : i < 512) : PairI i (ev_L_costs n V 0 x 222) (fun T => ev_X9_costs n T 207 x) gI := by
  obtain ⟨N, hc, q, w, w0, kd, ar, hF, hW, hC, hQ, hN, hP⟩ := hI.get
  have rc := hW.rc; have u8 := hW.u8
  unfold ev_L_costs eL_costs_0
  rcases out_k (k := nR w * nC w) (by omega) x with g1 | ⟨g, hg, rfl⟩
  · refine q_th hI hi (c := 1) (T := V) (E := "java/lang/IndexOutOfBoundsException") ?_ (FrQ.rf hI.L hI.M) (if_pos rfl) (by decide) (fun T fT => ?_)
    · unfold ev_X8_costs eX8_costs_0
      rw [c_reqC0 hI.L hW hC g1, bd_th]
    · refine ⟨wI T 207 0 1, 0, ?_, (FrX.rf fT.1).t, tz fT.1⟩
      unfold ev_X9_costs eX9_costs_0
      rw [r_isC0 fT.1 (fT.Q hF) hW g1, bd_rt, r_ask0 fT.1, bd_rt, if_pos rfl]
  rcases onT (n := n) hI.L hW hC hP hN with ⟨a, b, t, f, e6, e⟩ | ⟨a, b, c, e⟩
  rotate_left
  · refine q_th hI hi (c := 2) (T := V) (E := "java/lang/UnsupportedOperationException") ?_ (FrQ.rf hI.L hI.M) (by rw [if_neg (by decide), if_pos rfl]) (by decide) (fun T fT => ?_)
    · unfold ev_X8_costs eX8_costs_0
      rw [c_reqC1 hI.L hW hC hg, bd_rt, c_reqT0 hI.L e, bd_th]
    · refine ⟨wI T 207 0 2, 0, ?_, (FrX.rf fT.1).t, tz fT.1⟩
      unfold ev_X9_costs eX9_costs_0
      rw [r_isC1 fT.1 (fT.Q hF) hW hg, bd_rt, r_ask2 (by omega) fT.1 (fT.Q hF) hW a, bd_rt, if_pos rfl]
  have hu := f.1.u
  generalize ord w t = u at hu e6 e
  obtain ⟨U, fd, dn, eU, pU, fU, qU⟩ := c_reqP (n := n) (by omega) hI.L hW hC hu e6 hg
  have cU : ev_X8_costs n V 0 (Int32.ofNat g) = if fd (cellN w u) < 1000000 then rt (Int32.ofNat (fd (cellN w u))) U else th "java/util/NoSuchElementException" U := by
    unfold ev_X8_costs eX8_costs_0
    rw [c_reqC1 hI.L hW hC hg, bd_rt, c_reqT1 hI.L e, bd_rt, ob_1, eU]
    by_cases z : fd (cellN w u) < 1000000
    · rw [if_pos z, bd_rt]
    · rw [if_neg z, bd_th]
  have bad : ¬ fd (cellN w u) < 1000000 → (∀ T, FrQ V T → zLay (wI T 207 0 0) → ∃ S, ev_X9_costsTo n (wI T 207 0 0) 207 (Int32.ofNat g) = rt (-1) S ∧ FrX (wI T 207 0 0) S) → PairI i (bd (ev_X8_costs n V 0 (Int32.ofNat g)) (fun r2 V1 => if gvp_in 0 (vN V1 222) = true then sq (wJ V1 222 ((0 : Int32).toNatClampNeg) ((r2 : Int32).toInt64)) (fun V3 => rt 0 V3) else none) (fun E V9 => if E = "java/lang/IndexOutOfBoundsException" then rt 1 V9 else (if E = "java/lang/UnsupportedOperationException" then rt 2 V9 else (if E = "java/util/NoSuchElementException" then rt 3 V9 else none)))) (fun T => ev_X9_costs n T 207 (Int32.ofNat g)) gI := by
    intro z h
    refine q_th hI hi (c := 3) (T := U) (E := "java/util/NoSuchElementException") (by rw [cU, if_neg z]) (fU.q hI.M) (by rw [if_neg (by decide), if_neg (by decide), if_pos rfl]) (by decide) (fun T fT => ?_)
    have l1 : zLay (wI T 207 0 0) := zLay_wI fT.1
    obtain ⟨S, eS, fS⟩ := h T fT l1
    refine ⟨wI S 207 0 3, 0, ?_, ((FrX.rf fT.1).t.tr fS).t, tz fS.1⟩
    unfold ev_X9_costs eX9_costs_0
    rw [r_isC1 fT.1 (fT.Q hF) hW hg, bd_rt, r_ask1 (by omega) fT.1 (fT.Q hF) hW a, bd_rt, if_neg (by decide), eS, bd_rt, if_neg (by decide), r_no fS.1, bd_rt]
  by_cases c0 : cellN w u = g
  · rw [if_neg (fun y => y.2 c0)] at qU
    have fz : fd (cellN w u) = 0 := by rw [c0]; exact qU.1
    refine q_ok hI hi (r := 0) (T := U) (by rw [cU, fz, if_pos (by omega)]; rfl) (fU.q hI.M) (fun T fT => ?_)
    have l1 : zLay (wI T 207 0 0) := zLay_wI fT.1
    refine ⟨wI T 207 0 0, ?_, (FrX.rf fT.1).t, tz fT.1⟩
    unfold ev_X9_costs eX9_costs_0
    rw [r_isC1 fT.1 (fT.Q hF) hW hg, bd_rt, r_ask1 (by omega) fT.1 (fT.Q hF) hW a, bd_rt, if_neg (by decide), r_costsTo0 l1 (tq (fT.Q hF)) (by omega) e6 (by rw [cell_e hW hu, c0]), bd_rt, if_pos (by decide)]
  by_cases c1 : ent w g = 0
  · rw [if_pos ⟨c1, c0⟩] at qU
    exact bad (by rw [qU]; omega) (fun T fT l1 => ⟨_, r_costsTo1 (n := n) (by omega) l1 (tq (fT.Q hF)) hW hu e6 hg c0 c1, FrX.rf l1⟩)
  · rw [if_neg (fun y => c1 y.1)] at qU
    by_cases z : fd (cellN w u) < 1000000
    · refine q_ok hI hi (r := Int32.ofNat (fd (cellN w u))) (T := U) (by rw [cU, if_pos z]) (fU.q hI.M) (fun T fT => ?_)
      have l1 : zLay (wI T 207 0 0) := zLay_wI fT.1
      obtain ⟨S, eS, aS, fS, qS⟩ := r_costsTo2 (n := n) hn l1 (tq (fT.Q hF)) hW hu e6 hg c0 (by omega) qU
      refine ⟨S, ?_, (FrX.rf fT.1).t.tr fS.x, by rw [vI_C (fS.2 207 (by omega))]; exact tz fT.1⟩
      unfold ev_X9_costs eX9_costs_0
      rw [r_isC1 fT.1 (fT.Q hF) hW hg, bd_rt, r_ask1 (by omega) fT.1 (fT.Q hF) hW a, bd_rt, if_neg (by decide), eS, if_pos z, bd_rt, if_pos (Int32.not_lt.mp (ofn_nn (by omega)))]
    · exact bad z (fun T fT l1 => by
        obtain ⟨S, eS, aS, fS, qS⟩ := r_costsTo2 (n := n) hn l1 (tq (fT.Q hF)) hW hu e6 hg c0 (by omega) qU
        exact ⟨S, by rw [eS, if_neg z], fS.x⟩)
/-! the cells of a path -/
def wkN (w : RW) (f : Nat → Nat) : Nat → Nat → Option Nat
  | 0, c => some c
  | d + 1, c => match nx w f c with
    | none => none
    | some b => wkN w f d b
theorem nx_lt {f : Nat → Nat} {c b : Nat} (hW : WF w) (hc : c < nR w * nC w) (h : nx w f c = some b) : b < nR w * nC w ∧ f b < f c := by
  obtain ⟨a, e, q⟩ := nx_ok h
  exact ⟨adj_in hW hc a, by omega⟩
theorem nx_goal {f : Nat → Nat} (hE : EqD w g f) : nx w f g = none := by
  cases h : nx w f g with
  | none => rfl
  | some b =>
    obtain ⟨_, e, q⟩ := nx_ok h
    rw [hE.1] at q; omega
def pot (N : Nat) (f : Nat → Nat) (c : Nat) : Nat := (List.range N).countP (fun q => decide (f q < f c))
theorem cnt_strict {p q : Nat → Bool} {b : Nat} (hpq : ∀ k, p k = true → q k = true) (hb : p b = false) (hq : q b = true) : ∀ N, (List.range N).countP p + (if b < N then 1 else 0) ≤ (List.range N).countP q
  | 0 => Nat.le_refl _
  | N + 1 => by
    have ih := cnt_strict hpq hb hq N
    rw [List.range_succ, List.countP_append, List.countP_append, List.countP_singleton, List.countP_singleton]
    by_cases e : b = N
    · subst e
      rw [if_neg (Nat.lt_irrefl b)] at ih
      rw [if_pos (Nat.lt_succ_self b), hb, hq, if_neg (by decide), if_pos rfl]; omega
    · have z : (if p N = true then 1 else 0) ≤ (if q N = true then 1 else 0) := by
        by_cases x : p N = true
        · rw [if_pos x, if_pos (hpq N x)]; omega
        · rw [if_neg x]; omega
      by_cases l : b < N
      · rw [if_pos l] at ih; rw [if_pos (show b < N + 1 by omega)]; omega
      · rw [if_neg l] at ih; rw [if_neg (show ¬ b < N + 1 by omega)]; omega
theorem pot_lt {f : Nat → Nat} {N c b : Nat} (hb : b < N) (h : f b < f c) : pot N f b < pot N f c := by
  have := cnt_strict (p := fun q => decide (f q < f b)) (q := fun q => decide (f q < f c)) (b := b) (fun k hk => decide_eq_true (by have := of_decide_eq_true hk; omega)) (decide_eq_false (Nat.lt_irrefl _)) (decide_eq_true h) N
  rw [if_pos hb] at this
  unfold pot; omega
theorem pot_le {f : Nat → Nat} {N c : Nat} (hc : c < N) : pot N f c < N := by
  have := cnt_strict (p := fun q => decide (f q < f c)) (q := fun _ => true) (b := c) (fun _ _ => rfl) (decide_eq_false (Nat.lt_irrefl _)) rfl N
  have l := cnt_le (dn := fun _ => true) N
  rw [if_pos hc] at this
  unfold pot; omega
/-- a path has an end -/
theorem wk_none {f : Nat → Nat} (hW : WF w) : ∀ (d c : Nat), c < nR w * nC w → pot (nR w * nC w) f c < d → wkN w f d c = none
  | 0, _, _, h => by omega
  | d + 1, c, hc, h => by
    show (match nx w f c with
      | none => none
      | some b => wkN w f d b) = none
    cases hb : nx w f c with
    | none => rfl
    | some b =>
      obtain ⟨b1, b2⟩ := nx_lt hW hc hb
      have := pot_lt b1 b2
      exact wk_none hW d b b1 (by omega)
theorem c_pc {f : Nat → Nat} {dn : Nat → Bool} {J : Nat} (hn : 64 < n) (hL : zLay V) (hW : WF w) (hC : Rp 2 V w) (hp : PA V (nR w * nC w) (ent w) f dn) (hf : ∀ b, b < nR w * nC w → f b ≤ 1000000) (hJ : J < 64) : ∀ (d m k c : Nat), k + d = J + 1 → d + 1 < m → c < nR w * nC w → f c < 1000000 → elX8_pathCell_34 n m V 0 (Int32.ofNat J) (Int32.ofNat c) (Int32.ofNat k) = match wkN w f d c with
    | none => th "java/util/NoSuchElementException" V
    | some b => rt (Int32.ofNat b) V
  | 0, m + 1, k, c, e, _, hc, fc => by
    have rc := hW.rc
    have : k = J + 1 := by omega
    subst this
    show eX8_pathCell_34 n (elX8_pathCell_34 n m) V 0 (Int32.ofNat J) (Int32.ofNat c) (Int32.ofNat (J + 1)) = rt (Int32.ofNat c) V
    unfold eX8_pathCell_34 eX8_pathCell_76
    rw [if_pos ((of_lt (by omega) (by omega)).mpr (by omega)), if_neg (ofn_nn (by omega)), if_pos (by exact (of_lt (b := 64) (by omega) (by omega)).mpr hJ)]
  | d + 1, m + 1, k, c, e, hm, hc, fc => by
    have rc := hW.rc
    show eX8_pathCell_34 n (elX8_pathCell_34 n m) V 0 (Int32.ofNat J) (Int32.ofNat c) (Int32.ofNat k) = match (match nx w f c with
      | none => none
      | some b => wkN w f d b) with
      | none => th "java/util/NoSuchElementException" V
      | some b => rt (Int32.ofNat b) V
    unfold eX8_pathCell_34
    rw [if_neg (fun e => by have := (of_lt (by omega) (by omega)).mp e; omega), if_neg (fun e => by have := (of_le (a := 64) (by omega) (by omega)).mp e; omega), if_neg (ofn_nn (by omega)), r71x hL, ob_1, r03 hL, ob_1, zr0 hL b2, ob_1, c_next (by omega) hL b2 hW hC hW rfl rfl hp hf hc, bd_rt, if_pos fc, p1_of]
    cases hb : nx w f c with
    | none =>
      obtain ⟨m, rfl⟩ : ∃ j, m = j + 1 := ⟨m - 1, by omega⟩
      show eX8_pathCell_34 n (elX8_pathCell_34 n m) V 0 (Int32.ofNat J) (-1) (Int32.ofNat (k + 1)) = th "java/util/NoSuchElementException" V
      unfold eX8_pathCell_34 eX8_pathCell_76 eX8_pathCell_87
      rw [if_pos (show (-1 : Int32) < 0 by decide), if_pos (show (-1 : Int32) < 0 by decide), ite_self, ite_self]
    | some b =>
      obtain ⟨b1, b2⟩ := nx_lt hW hc hb
      exact c_pc hn hL hW hC hp hf hJ d m (k + 1) b (by omega) (by omega) b1 (by omega)
theorem r_pc {f : Nat → Nat} {J : Nat} {x : Int32} (hn : 64 < n) (hL : zLay V) (hQ : Qr V w) (hW : WF w) (hE : EqD w g f) (hF : FaR V (nR w * nC w) (farD f)) (hg : g < nR w * nC w) (hJ : J < 2147483647) (ex : x = Int32.ofNat J) : ∀ (d m k c : Nat), k + d = J + 1 → pot (nR w * nC w) f c + 1 < m → c < nR w * nC w → f c < 1000000 → elX9_pathCell_49 n m V 207 (Int32.ofNat g) x (Int32.ofNat c) (Int32.ofNat k) = match wkN w f d c with
    | none => rt 0 (wI V 207 0 3)
    | some b => rt (Int32.ofNat b) V
  | 0, m + 1, k, c, e, _, hc, fc => by
    have : k = J + 1 := by omega
    subst this; subst ex
    show eX9_pathCell_49 n (elX9_pathCell_49 n m) V 207 (Int32.ofNat g) (Int32.ofNat J) (Int32.ofNat c) (Int32.ofNat (J + 1)) = rt (Int32.ofNat c) V
    unfold eX9_pathCell_49
    rw [if_pos ((of_lt (by omega) (by omega)).mpr (by omega))]
  | d + 1, m + 1, k, c, e, hm, hc, fc => by
    have rc := hW.rc
    show eX9_pathCell_49 n (elX9_pathCell_49 n m) V 207 (Int32.ofNat g) x (Int32.ofNat c) (Int32.ofNat k) = match (match nx w f c with
      | none => none
      | some b => wkN w f d b) with
      | none => rt 0 (wI V 207 0 3)
      | some b => rt (Int32.ofNat b) V
    unfold eX9_pathCell_49
    rw [ex, if_neg (fun e => by have := (of_lt (by omega) (by omega)).mp e; omega)]
    by_cases cg : c = g
    · rw [if_pos (by rw [cg]), cg, nx_goal hE, r_no hL, bd_rt]
    · obtain ⟨b, hb⟩ := hE.nx hc cg fc
      obtain ⟨b1, b2⟩ := nx_lt hW hc hb
      have pl := pot_lt b1 b2
      rw [if_neg (fun e => cg ((of_inj (by omega) (by omega)).mp e)), hb, r_next (by omega) hW hE hL hQ hW (fun _ _ => rfl) hF hc fc (fun _ _ _ => rfl) hb, bd_rt, p1_of, ← ex]
      exact r_pc hn hL hQ hW hE hF hg hJ ex d m (k + 1) b (by omega) (by omega) b1 (by omega)
theorem p_pathCell {x y : Int32} (hn : 200 < n) (hI : Inv i V) (hi : i < 512) : PairI i (ev_L_pathCell n V 0 x y 222) (fun T => ev_X9_pathCell n T 207 x y) gI := by
  obtain ⟨N, hc, q, w, w0, kd, ar, hF, hW, hC, hQ, hN, hP⟩ := hI.get
  have rc := hW.rc; have u8 := hW.u8
  unfold ev_L_pathCell eL_pathCell_0
  rcases out_k (k := nR w * nC w) (by omega) x with g1 | ⟨g, hg, rfl⟩
  · refine q_th hI hi (c := 1) (T := V) (E := "java/lang/IndexOutOfBoundsException") ?_ (FrQ.rf hI.L hI.M) (if_pos rfl) (by decide) (fun T fT => ?_)
    · unfold ev_X8_pathCell eX8_pathCell_0
      rw [c_reqC0 hI.L hW hC g1, bd_th]
    · refine ⟨wI T 207 0 1, 0, ?_, (FrX.rf fT.1).t, tz fT.1⟩
      unfold ev_X9_pathCell eX9_pathCell_0
      rw [r_isC0 fT.1 (fT.Q hF) hW g1, bd_rt, r_ask0 fT.1, bd_rt, if_pos rfl]
  rcases onT (n := n) hI.L hW hC hP hN with ⟨a, b, t, f, e6, e⟩ | ⟨a, b, c, e⟩
  rotate_left
  · refine q_th hI hi (c := 2) (T := V) (E := "java/lang/UnsupportedOperationException") ?_ (FrQ.rf hI.L hI.M) (by rw [if_neg (by decide), if_pos rfl]) (by decide) (fun T fT => ?_)
    · unfold ev_X8_pathCell eX8_pathCell_0
      rw [c_reqC1 hI.L hW hC hg, bd_rt, c_reqT0 hI.L e, bd_th]
    · refine ⟨wI T 207 0 2, 0, ?_, (FrX.rf fT.1).t, tz fT.1⟩
      unfold ev_X9_pathCell eX9_pathCell_0
      rw [r_isC1 fT.1 (fT.Q hF) hW hg, bd_rt, r_ask2 (by omega) fT.1 (fT.Q hF) hW a, bd_rt, if_pos rfl]
  have hu := f.1.u
  generalize ord w t = u at hu e6 e
  have cl := cell_lt hW hu
  obtain ⟨U, fd, dn, eU, pU, fU, qU⟩ := c_reqP (n := n) (by omega) hI.L hW hC hu e6 hg
  have rU := hC.fA b2 fU
  -- no such cell, for the class and for the reference
  have bad : ev_X8_pathCell n V 0 (Int32.ofNat g) y = th "java/util/NoSuchElementException" U → (∀ T, FrQ V T → zLay (wI T 207 0 0) → ∃ S, bd (ev_X9_costsTo n (wI T 207 0 0) 207 (Int32.ofNat g)) (fun r6 V5 => (if r6 ≤ 0 then eX9_pathCell_26 n V5 207 else (if 0 ≤ y then (vR V5 207 1).bind (fun a7v => (if gvp_in 166 (vN V5 a7v) = true then bd (ev_X9_of n V5 207 (vI V5 a7v (166 : Int32).toNatClampNeg) 2) (fun r9 V8 => elX9_pathCell_49 n n V8 207 (Int32.ofNat g) y r9 0) th else none)) else eX9_pathCell_26 n V5 207))) th = rt 0 (wI S 207 0 3) ∧ FrX (wI T 207 0 0) S) → PairI i (bd (ev_X8_pathCell n V 0 (Int32.ofNat g) y) (fun r2 V1 => if gvp_in 0 (vN V1 222) = true then sq (wJ V1 222 ((0 : Int32).toNatClampNeg) ((r2 : Int32).toInt64)) (fun V3 => rt 0 V3) else none) (fun E V9 => if E = "java/lang/IndexOutOfBoundsException" then rt 1 V9 else (if E = "java/lang/UnsupportedOperationException" then rt 2 V9 else (if E = "java/util/NoSuchElementException" then rt 3 V9 else none)))) (fun T => ev_X9_pathCell n T 207 (Int32.ofNat g) y) gI := by
    intro z h
    refine q_th hI hi (c := 3) (T := U) (E := "java/util/NoSuchElementException") z (fU.q hI.M) (by rw [if_neg (by decide), if_neg (by decide), if_pos rfl]) (by decide) (fun T fT => ?_)
    have l1 : zLay (wI T 207 0 0) := zLay_wI fT.1
    obtain ⟨S, eS, fS⟩ := h T fT l1
    refine ⟨wI S 207 0 3, 0, ?_, ((FrX.rf fT.1).t.tr fS).t, tz fS.1⟩
    unfold ev_X9_pathCell eX9_pathCell_0
    rw [r_isC1 fT.1 (fT.Q hF) hW hg, bd_rt, r_ask1 (by omega) fT.1 (fT.Q hF) hW a, bd_rt, if_neg (by decide)]
    exact eS
  have no26 : ∀ S, zLay S → eX9_pathCell_26 n S 207 = rt 0 (wI S 207 0 3) := fun S l => by
    unfold eX9_pathCell_26; rw [r_no l, bd_rt]
  have cNo : ¬ fd (cellN w u) < 1000000 → ev_X8_pathCell n V 0 (Int32.ofNat g) y = th "java/util/NoSuchElementException" U := fun z => by
    unfold ev_X8_pathCell eX8_pathCell_0
    rw [c_reqC1 hI.L hW hC hg, bd_rt, c_reqT1 hI.L e, bd_rt, ob_1, eU, if_neg z, bd_th]
  have cNeg : fd (cellN w u) < 1000000 → y < 0 → ev_X8_pathCell n V 0 (Int32.ofNat g) y = th "java/util/NoSuchElementException" U := fun z y0 => by
    unfold ev_X8_pathCell eX8_pathCell_0
    rw [c_reqC1 hI.L hW hC hg, bd_rt, c_reqT1 hI.L e, bd_rt, ob_1, eU, if_pos z, bd_rt, if_neg (Int32.not_le.mpr y0)]
    obtain ⟨m, rfl⟩ : ∃ j, n = j + 1 := ⟨n - 1, by omega⟩
    show eX8_pathCell_34 (m + 1) (elX8_pathCell_34 (m + 1) m) U 0 y (-1) 0 = _
    unfold eX8_pathCell_34 eX8_pathCell_76 eX8_pathCell_87
    rw [if_pos (show (-1 : Int32) < 0 by decide), if_pos (show (-1 : Int32) < 0 by decide), ite_self, ite_self]
  have cPos : fd (cellN w u) < 1000000 → (∀ b, b < nR w * nC w → fd b ≤ 1000000) → ∀ J, y = Int32.ofNat J → J < 64 → ev_X8_pathCell n V 0 (Int32.ofNat g) y = match wkN w fd (J + 1) (cellN w u) with
      | none => th "java/util/NoSuchElementException" U
      | some b => rt (Int32.ofNat b) U := fun z hf J ey hJ => by
    unfold ev_X8_pathCell eX8_pathCell_0
    rw [c_reqC1 hI.L hW hC hg, bd_rt, c_reqT1 hI.L e, bd_rt, ob_1, eU, if_pos z, bd_rt, ey, if_pos (Int32.not_lt.mp (ofn_nn (by omega))), show vI U (2 + 9 + u) 4 = w (67 + 11 * u + 2) from rU.u hu (by omega) (j := 2) (by decide), cell_e hW hu]
    exact c_pc (n := n) (by omega) fU.1 hW rU pU hf hJ (J + 1) n 0 (cellN w u) (by omega) (by omega) cl z
  have cBig : fd (cellN w u) < 1000000 → (∀ b, b < nR w * nC w → fd b ≤ 1000000) → (64 : Int32) ≤ y → ev_X8_pathCell n V 0 (Int32.ofNat g) y = th "java/util/NoSuchElementException" U := fun z hf y6 => by
    unfold ev_X8_pathCell eX8_pathCell_0
    have y0 : (0 : Int32) ≤ y := by
      rw [Int32.le_iff_toInt_le] at y6 ⊢
      have a1 : (64 : Int32).toInt = 64 := by decide
      have a2 : (0 : Int32).toInt = 0 := by decide
      omega
    rw [c_reqC1 hI.L hW hC hg, bd_rt, c_reqT1 hI.L e, bd_rt, ob_1, eU, if_pos z, bd_rt, if_pos y0, show vI U (2 + 9 + u) 4 = w (67 + 11 * u + 2) from rU.u hu (by omega) (j := 2) (by decide), cell_e hW hu]
    have key : ∀ (d m k : Nat) (c : Option Nat), k + d = 64 → d + 1 < m → (∀ b, c = some b → b < nR w * nC w ∧ fd b < 1000000) → elX8_pathCell_34 n m U 0 y (oi c) (Int32.ofNat k) = th "java/util/NoSuchElementException" U := by
      intro d
      induction d with
      | zero =>
        intro m k c e1 hm hb
        obtain ⟨m, rfl⟩ : ∃ j, m = j + 1 := ⟨m - 1, by omega⟩
        have : k = 64 := by omega
        subst this
        show eX8_pathCell_34 n (elX8_pathCell_34 n m) U 0 y (oi c) (Int32.ofNat 64) = _
        unfold eX8_pathCell_34 eX8_pathCell_76 eX8_pathCell_87
        rw [if_pos (show (64 : Int32) ≤ Int32.ofNat 64 by decide), if_neg (Int32.not_lt.mpr y6), ite_self, ite_self]
      | succ d ih =>
        intro m k c e1 hm hb
        obtain ⟨m, rfl⟩ : ∃ j, m = j + 1 := ⟨m - 1, by omega⟩
        show eX8_pathCell_34 n (elX8_pathCell_34 n m) U 0 y (oi c) (Int32.ofNat k) = _
        unfold eX8_pathCell_34 eX8_pathCell_76 eX8_pathCell_87
        rw [if_neg (fun e => by
          rw [Int32.lt_iff_toInt_lt, ti_of (by omega)] at e
          rw [Int32.le_iff_toInt_le, show (64 : Int32).toInt = 64 from by decide] at y6
          omega), if_neg (fun e => by have := (of_le (a := 64) (by omega) (by omega)).mp e; omega)]
        cases c with
        | none => rw [if_pos (show oi none < 0 by decide), if_pos (show oi none < 0 by decide)]
        | some b =>
          obtain ⟨b1, b3⟩ := hb b rfl
          rw [if_neg (show ¬ oi (some b) < 0 from ofn_nn (by omega)), r71x fU.1, ob_1, r03 fU.1, ob_1, zr0 fU.1 b2, ob_1, show oi (some b) = Int32.ofNat b from rfl, c_next (by omega) fU.1 b2 hW rU hW rfl rfl pU hf b1, bd_rt, if_pos b3, p1_of]
          exact ih m (k + 1) (nx w fd b) (by omega) (by omega) (fun b' hb' => by
            obtain ⟨x1, x2⟩ := nx_lt hW b1 hb'
            exact ⟨x1, by omega⟩)
    exact key 64 n 0 (some (cellN w u)) (by omega) (by omega) (fun b hb => by cases hb; exact ⟨cl, z⟩)
  by_cases c0 : cellN w u = g
  · rw [if_neg (fun z => z.2 c0)] at qU
    have fz : fd (cellN w u) = 0 := by rw [c0]; exact qU.1
    have hf : ∀ b, b < nR w * nC w → fd b ≤ 1000000 := fun b hb => (qU.2.1 b hb).1
    refine bad ?_ (fun T fT l1 => ⟨wI T 207 0 0, ?_, FrX.rf l1⟩)
    · by_cases y0 : y < 0
      · exact cNeg (by omega) y0
      by_cases y6 : (64 : Int32) ≤ y
      · exact cBig (by omega) hf y6
      · obtain ⟨J, hJ, ey⟩ := rng (k := 64) (by omega) y0 (Int32.not_le.mp y6)
        rw [cPos (by omega) hf J ey hJ]
        have : wkN w fd (J + 1) (cellN w u) = none := by
          show (match nx w fd (cellN w u) with
            | none => none
            | some b => wkN w fd J b) = none
          rw [c0, nx_goal qU]
        rw [this]
    · rw [r_costsTo0 l1 (tq (fT.Q hF)) (by omega) e6 (by rw [cell_e hW hu, c0]), bd_rt, if_pos (by decide), no26 _ l1]
  by_cases c1 : ent w g = 0
  · rw [if_pos ⟨c1, c0⟩] at qU
    exact bad (cNo (by rw [qU]; omega)) (fun T fT l1 => ⟨_, by rw [r_costsTo1 (n := n) (by omega) l1 (tq (fT.Q hF)) hW hu e6 hg c0 c1, bd_rt, if_pos (by decide), no26 _ l1], FrX.rf l1⟩)
  rw [if_neg (fun z => c1 z.1)] at qU
  have hf : ∀ b, b < nR w * nC w → fd b ≤ 1000000 := fun b hb => (qU.2.1 b hb).1
  by_cases z : fd (cellN w u) < 1000000
  rotate_left
  · exact bad (cNo z) (fun T fT l1 => by
      obtain ⟨S, eS, aS, fS, qS⟩ := r_costsTo2 (n := n) hn l1 (tq (fT.Q hF)) hW hu e6 hg c0 (by omega) qU
      exact ⟨S, by rw [eS, if_neg z, bd_rt, if_pos (by decide), no26 _ fS.1], fS.x⟩)
  have f1 : 0 < fd (cellN w u) := by
    obtain ⟨s, _, _, b, d⟩ := qU.2.2.1 _ cl c0 z
    omega
  by_cases y0 : y < 0
  · refine bad (cNeg z y0) (fun T fT l1 => ?_)
    obtain ⟨S, eS, aS, fS, qS⟩ := r_costsTo2 (n := n) hn l1 (tq (fT.Q hF)) hW hu e6 hg c0 (by omega) qU
    exact ⟨S, by rw [eS, if_pos z, bd_rt, if_neg (fun e => by have := (of_le (b := 0) (by omega) (by omega)).mp e; omega), if_neg (Int32.not_le.mpr y0), no26 _ fS.1], fS.x⟩
  have y0' : (0 : Int32) ≤ y := Int32.not_lt.mp y0
  obtain ⟨J, ey⟩ : ∃ J, y = Int32.ofNat J := ⟨_, (Int32.ofNat_toNatClampNeg y y0').symm⟩
  have hJm : ∃ J, y = Int32.ofNat J ∧ J < 2147483648 := ⟨y.toNatClampNeg, (Int32.ofNat_toNatClampNeg y y0').symm, by
    show y.toInt.toNat < 2147483648
    have := Int32.toInt_lt y
    omega⟩
  clear ey J
  obtain ⟨J, ey, hJ⟩ := hJm
  have plo := pot_le (f := fd) cl
  by_cases J6 : J < 64
  rotate_left
  · refine bad (cBig z hf (by rw [ey]; exact (of_le (a := 64) (by omega) (by omega)).mpr (by omega))) (fun T fT l1 => ?_)
    obtain ⟨S, eS, aS, fS, qS⟩ := r_costsTo2 (n := n) hn l1 (tq (fT.Q hF)) hW hu e6 hg c0 (by omega) qU
    refine ⟨S, ?_, fS.x⟩
    obtain ⟨g6, e7⟩ := r_v fS.1 qS (k := 166) (x := 166) (by decide) rfl
    rw [eS, if_pos z, bd_rt, if_neg (fun e => by have := (of_le (b := 0) (by omega) (by omega)).mp e; omega), if_pos y0', r71 fS.1, ob_1, if_pos g6, e7, e6, r_of2 fS.1 qS (by omega), bd_rt, cell_e hW hu]
    -- an index past every path: the reference comes to the goal first
    have key : ∀ (m k c : Nat), c < nR w * nC w → fd c < 1000000 → k + pot (nR w * nC w) fd c ≤ 63 → pot (nR w * nC w) fd c + 1 < m → elX9_pathCell_49 n m S 207 (Int32.ofNat g) y (Int32.ofNat c) (Int32.ofNat k) = rt 0 (wI S 207 0 3) := by
      intro m
      induction m with
      | zero => intro k c _ _ _ h; omega
      | succ m ih =>
        intro k c hc fc hk hm
        show eX9_pathCell_49 n (elX9_pathCell_49 n m) S 207 (Int32.ofNat g) y (Int32.ofNat c) (Int32.ofNat k) = _
        unfold eX9_pathCell_49
        rw [if_neg (fun e => by rw [ey] at e; have := (of_lt (by omega) (by omega)).mp e; omega)]
        by_cases cg : c = g
        · rw [if_pos (by rw [cg]), r_no fS.1, bd_rt]
        · obtain ⟨b, hb⟩ := qU.nx hc cg fc
          obtain ⟨x1, x2⟩ := nx_lt hW hc hb
          have pl := pot_lt x1 x2
          rw [if_neg (fun e => cg ((of_inj (by omega) (by omega)).mp e)), r_next (by omega) hW qU fS.1 qS hW (fun _ _ => rfl) aS hc fc (fun _ _ _ => rfl) hb, bd_rt, p1_of]
          exact ih (k + 1) b x1 (by omega) (by omega) (by omega)
    exact key n 0 (cellN w u) cl z (by omega) (by omega)
  have cp := cPos z hf J ey J6
  cases hwk : wkN w fd (J + 1) (cellN w u) with
  | none =>
    rw [hwk] at cp
    refine bad cp (fun T fT l1 => ?_)
    obtain ⟨S, eS, aS, fS, qS⟩ := r_costsTo2 (n := n) hn l1 (tq (fT.Q hF)) hW hu e6 hg c0 (by omega) qU
    refine ⟨S, ?_, fS.x⟩
    obtain ⟨g6, e7⟩ := r_v fS.1 qS (k := 166) (x := 166) (by decide) rfl
    have rp := r_pc (n := n) (by omega) fS.1 qS hW qU aS hg (by omega) ey (J + 1) n 0 (cellN w u) (by omega) (by omega) cl z
    rw [hwk] at rp
    rw [eS, if_pos z, bd_rt, if_neg (fun e => by have := (of_le (b := 0) (by omega) (by omega)).mp e; omega), if_pos y0', r71 fS.1, ob_1, if_pos g6, e7, e6, r_of2 fS.1 qS (by omega), bd_rt, cell_e hW hu]
    exact rp
  | some b =>
    rw [hwk] at cp
    refine q_ok hI hi (r := Int32.ofNat b) (T := U) cp (fU.q hI.M) (fun T fT => ?_)
    have l1 : zLay (wI T 207 0 0) := zLay_wI fT.1
    obtain ⟨S, eS, aS, fS, qS⟩ := r_costsTo2 (n := n) hn l1 (tq (fT.Q hF)) hW hu e6 hg c0 (by omega) qU
    obtain ⟨g6, e7⟩ := r_v fS.1 qS (k := 166) (x := 166) (by decide) rfl
    have rp := r_pc (n := n) (by omega) fS.1 qS hW qU aS hg (by omega) ey (J + 1) n 0 (cellN w u) (by omega) (by omega) cl z
    rw [hwk] at rp
    refine ⟨S, ?_, (FrX.rf fT.1).t.tr fS.x, by rw [vI_C (fS.2 207 (by omega))]; exact tz fT.1⟩
    unfold ev_X9_pathCell eX9_pathCell_0
    rw [r_isC1 fT.1 (fT.Q hF) hW hg, bd_rt, r_ask1 (by omega) fT.1 (fT.Q hF) hW a, bd_rt, if_neg (by decide), eS, if_pos z, bd_rt, if_neg (fun e => by have := (of_le (b := 0) (by omega) (by omega)).mp e; omega), if_pos y0', r71 fS.1, ob_1, if_pos g6, e7, e6, r_of2 fS.1 qS (by omega), bd_rt, cell_e hW hu]
    exact rp
end
