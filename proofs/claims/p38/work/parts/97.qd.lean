/-! questions about attacks -/
theorem d20_ok : ∀ s, s < 21 → gvf_n64 (FP.ddiv (FP.i2d (Int32.ofNat s)) (4626322717216342016 : UInt64)) = true := by decide +kernel
theorem d80_a : ∀ a, a < 60 → ∀ b, b < 60 → gvf_n64 (FP.ddiv (FP.i2d (Int32.ofNat (60 * a + b))) (4635329916471083008 : UInt64)) = true := by decide +kernel
theorem d80_ok (s : Nat) (h : s < 3521) : gvf_n64 (FP.ddiv (FP.i2d (Int32.ofNat s)) (4635329916471083008 : UInt64)) = true := by
  have := d80_a (s / 60) (by omega) (s % 60) (by omega)
  rwa [Nat.div_add_mod] at this
section
variable {i n : Nat} {V T : VS} {w : RW} {u t : Nat} {x y : Int32}
theorem r_look0 (hL : zLay T) (hQ : Qr T w) (hW : WF w) (g : (x < 0 ∨ Int32.ofNat (nU w) ≤ x) ∨ (y < 0 ∨ Int32.ofNat (nU w) ≤ y)) : ev_X9_mayLook n T 207 x y = rt 0 (wI T 207 0 1) := by
  have u8 := hW.u8
  unfold ev_X9_mayLook eX9_mayLook_0 eX9_mayLook_17 eX9_mayLook_35
  rcases out_k (k := nU w) (by omega) x with g1 | ⟨c, hc, ec⟩
  · rw [r_isU0 hL hQ hW g1, bd_rt, if_pos rfl, sq_eq, tz hL, if_neg (by decide)]
  · have g2 : y < 0 ∨ Int32.ofNat (nU w) ≤ y := g.resolve_left (fun q => by rw [ec] at q; exact in_out hc (by omega) q)
    rw [ec, r_isU1 hL hQ hW hc, bd_rt, if_neg (by decide), r_isU0 hL hQ hW g2, bd_rt, if_pos rfl, sq_eq, tz hL, if_neg (by decide)]
theorem r_look (hn : 64 < n) (hL : zLay T) (hQ : Qr T w) (hW : WF w) (hu : u < nU w) (ht : t < nU w) : ev_X9_mayLook n T 207 (Int32.ofNat u) (Int32.ofNat t) = if canA w u t = true then rt 1 (wI T 207 0 0) else rt 0 (wI T 207 0 2) := by
  unfold ev_X9_mayLook eX9_mayLook_0 eX9_mayLook_35
  rw [r_isU1 hL hQ hW hu, bd_rt, if_neg (by decide), r_isU1 hL hQ hW ht, bd_rt, if_neg (by decide), r_canAttack hn hL hQ hW hu ht, bd_rt]
  cases canA w u t
  · rw [if_pos (show bi false = 0 from rfl), sq_eq, tz hL, if_neg (by decide), if_neg (by decide)]
  · rw [if_neg (show ¬ bi true = 0 by decide), sq_eq, tz hL, if_pos rfl, if_pos rfl]
theorem c_target (hn : 64 < n) (hL : zLay V) (hW : WF w) (hC : Rp 2 V w) (hu : u < nU w) (ht : t < nU w) : ev_X8_requireTarget n V 0 (2 + 9 + u) (2 + 9 + t) = if canA w u t = true then rt () V else th "java/lang/IllegalArgumentException" V := by
  unfold ev_X8_requireTarget eX8_requireTarget_0
  rw [r03 hL, ob_1, c_canStrike hn hL b2 hW hC hu ht, bd_rt]
  cases canA w u t
  · rw [if_pos (show bi false = 0 from rfl), if_neg (by decide)]
  · rw [if_neg (show ¬ bi true = 0 by decide), if_pos rfl]
theorem r_cntD (hL : zLay V) (hQ : Qr V w) (hW : WF w) (hu : u < nU w) (ht : t < nU w) : ∀ (d m die s : Nat), die + d = 21 → s + d ≤ 20 → d < m → elX9_chance_16 n m V 207 (Int32.ofNat u) (Int32.ofNat t) (Int32.ofNat s) (Int32.ofNat die) = rt (FP.ddiv (FP.i2d (Int32.ofNat (s + sHit w u t d die))) (4626322717216342016 : UInt64)) V
  | 0, m + 1, die, s, e, e2, _ => by
    have : die = 21 := by omega
    subst this
    show eX9_chance_16 n (elX9_chance_16 n m) V 207 _ _ _ (Int32.ofNat 21) = _
    unfold eX9_chance_16
    rw [if_pos (by decide), if_pos (d20_ok s (by omega))]; rfl
  | d + 1, m + 1, die, s, e, e2, h => by
    show eX9_chance_16 n (elX9_chance_16 n m) V 207 _ _ _ (Int32.ofNat die) = _
    unfold eX9_chance_16 sHit eX9_chance_40
    rw [if_neg (fun x => by have := (of_lt (a := 20) (by omega) (by omega)).mp x; omega), r_hits hL hQ hW hu ht (by omega), bd_rt, p1_of, p0_of, p1_of]
    cases hitB w u t die
    · rw [if_pos (show bi false = 0 from rfl), r_cntD hL hQ hW hu ht d m (die + 1) s (by omega) (by omega) (by omega), if_neg (by decide), Nat.zero_add]
    · rw [if_neg (show ¬ bi true = 0 by decide), r_cntD hL hQ hW hu ht d m (die + 1) (s + 1) (by omega) (by omega) (by omega), if_pos rfl, Nat.add_assoc s]
theorem p_chance (hn : 64 < n) (hI : Inv i V) (hi : i < 512) : PairD i (ev_L_chance n V 0 x y 223) (fun T => ev_X9_chance n T 207 x y) := by
  obtain ⟨N, hc, q, w, w0, kd, ar, hF, hW, hC, hQ, hN, hP⟩ := hI.get
  have u8 := hW.u8
  unfold ev_L_chance eL_chance_0
  have bad : ((x < 0 ∨ Int32.ofNat (nU w) ≤ x) ∨ (y < 0 ∨ Int32.ofNat (nU w) ≤ y)) → PairD i (bd (ev_X8_chance n V 0 x y) (fun r2 V1 => if gvp_in 0 (vN V1 223) = true then sq (wD V1 223 ((0 : Int32).toNatClampNeg) r2) (fun V3 => rt 0 V3) else none) (fun E V9 => if E = "java/lang/IndexOutOfBoundsException" then rt 1 V9 else (if E = "java/lang/IllegalArgumentException" then rt 2 V9 else none))) (fun T => ev_X9_chance n T 207 x y) := by
    intro g
    refine q_thD hI hi (c := 1) (T := V) (E := "java/lang/IndexOutOfBoundsException") ?_ (FrQ.rf hI.L hI.M) (if_pos rfl) (by decide) (fun T fT => ?_)
    · unfold ev_X8_chance eX8_chance_0
      rcases out_k (k := nU w) (by omega) x with g1 | ⟨c, hc, ec⟩
      · rw [c_reqU0 hI.L hW hC g1, bd_th]
      · have g2 : y < 0 ∨ Int32.ofNat (nU w) ≤ y := g.resolve_left (fun q => by rw [ec] at q; exact in_out hc (by omega) q)
        rw [ec, c_reqU1 hI.L hW hC hc, bd_rt, ob_1, c_reqU0 hI.L hW hC g2, bd_th]
    · refine ⟨wI T 207 0 1, FP.dconst0, ?_, (FrX.rf fT.1).t, tz fT.1⟩
      unfold ev_X9_chance eX9_chance_0
      rw [r_look0 fT.1 (fT.Q hF) hW g, bd_rt, if_pos rfl]
  rcases out_k (k := nU w) (by omega) x with g | ⟨u, hu, rfl⟩
  · exact bad (.inl g)
  rcases out_k (k := nU w) (by omega) y with g | ⟨t, ht, rfl⟩
  · exact bad (.inr g)
  have hl := sHit_le w u t 20 1
  cases hA : canA w u t
  · refine q_thD hI hi (c := 2) (T := V) (E := "java/lang/IllegalArgumentException") ?_ (FrQ.rf hI.L hI.M) (by rw [if_neg (by decide), if_pos rfl]) (by decide) (fun T fT => ?_)
    · unfold ev_X8_chance eX8_chance_0
      rw [c_reqU1 hI.L hW hC hu, bd_rt, ob_1, c_reqU1 hI.L hW hC ht, bd_rt, ob_1, c_target hn hI.L hW hC hu ht, if_neg (by rw [hA]; decide), bd_th]
    · refine ⟨wI T 207 0 2, FP.dconst0, ?_, (FrX.rf fT.1).t, tz fT.1⟩
      unfold ev_X9_chance eX9_chance_0
      rw [r_look hn fT.1 (fT.Q hF) hW hu ht, if_neg (by rw [hA]; decide), bd_rt, if_pos rfl]
  · refine q_okD hI hi (r := FP.ddiv (FP.i2d (Int32.ofNat (gCnt w u t))) (4626322717216342016 : UInt64)) (T := V) ?_ (FrQ.rf hI.L hI.M) (fun T fT => ?_)
    · unfold ev_X8_chance eX8_chance_0
      rw [c_reqU1 hI.L hW hC hu, bd_rt, ob_1, c_reqU1 hI.L hW hC ht, bd_rt, ob_1, c_target hn hI.L hW hC hu ht, if_pos hA, bd_rt, r03 hI.L, ob_1, c_countHits (by omega) hI.L b2 hW hC hu ht, bd_rt, if_pos (show gvf_n64 (FP.ddiv (FP.i2d (Int32.ofNat (gCnt w u t))) (4626322717216342016 : UInt64)) = true from d20_ok _ (Nat.lt_succ_of_le hl))]
    · have l1 : zLay (wI T 207 0 0) := zLay_wI fT.1
      refine ⟨wI T 207 0 0, ?_, (FrX.rf fT.1).t, tz fT.1⟩
      unfold ev_X9_chance eX9_chance_0
      have := r_cntD (n := n) l1 (tq (fT.Q hF)) hW hu ht 20 n 1 0 (by omega) (by omega) (by omega)
      rw [Nat.zero_add] at this
      rw [r_look hn fT.1 (fT.Q hF) hW hu ht, if_pos hA, bd_rt, if_neg (by decide)]
      exact this
theorem p_meanDamage (hn : 64 < n) (hI : Inv i V) (hi : i < 512) : PairD i (ev_L_meanDamage n V 0 x y 223) (fun T => ev_X9_meanDamage n T 207 x y) := by
  obtain ⟨N, hc, q, w, w0, kd, ar, hF, hW, hC, hQ, hN, hP⟩ := hI.get
  have u8 := hW.u8
  unfold ev_L_meanDamage eL_meanDamage_0
  have bad : ((x < 0 ∨ Int32.ofNat (nU w) ≤ x) ∨ (y < 0 ∨ Int32.ofNat (nU w) ≤ y)) → PairD i (bd (ev_X8_meanDamage n V 0 x y) (fun r2 V1 => if gvp_in 0 (vN V1 223) = true then sq (wD V1 223 ((0 : Int32).toNatClampNeg) r2) (fun V3 => rt 0 V3) else none) (fun E V9 => if E = "java/lang/IndexOutOfBoundsException" then rt 1 V9 else (if E = "java/lang/IllegalArgumentException" then rt 2 V9 else none))) (fun T => ev_X9_meanDamage n T 207 x y) := by
    intro g
    refine q_thD hI hi (c := 1) (T := V) (E := "java/lang/IndexOutOfBoundsException") ?_ (FrQ.rf hI.L hI.M) (if_pos rfl) (by decide) (fun T fT => ?_)
    · unfold ev_X8_meanDamage eX8_meanDamage_0
      rcases out_k (k := nU w) (by omega) x with g1 | ⟨c, hc, ec⟩
      · rw [c_reqU0 hI.L hW hC g1, bd_th]
      · have g2 : y < 0 ∨ Int32.ofNat (nU w) ≤ y := g.resolve_left (fun q => by rw [ec] at q; exact in_out hc (by omega) q)
        rw [ec, c_reqU1 hI.L hW hC hc, bd_rt, ob_1, c_reqU0 hI.L hW hC g2, bd_th]
    · refine ⟨wI T 207 0 1, FP.dconst0, ?_, (FrX.rf fT.1).t, tz fT.1⟩
      unfold ev_X9_meanDamage eX9_meanDamage_0
      rw [r_look0 fT.1 (fT.Q hF) hW g, bd_rt, if_pos rfl]
  rcases out_k (k := nU w) (by omega) x with g | ⟨u, hu, rfl⟩
  · exact bad (.inl g)
  rcases out_k (k := nU w) (by omega) y with g | ⟨t, ht, rfl⟩
  · exact bad (.inr g)
  have hl := gSum_le hW hu ht
  cases hA : canA w u t
  · refine q_thD hI hi (c := 2) (T := V) (E := "java/lang/IllegalArgumentException") ?_ (FrQ.rf hI.L hI.M) (by rw [if_neg (by decide), if_pos rfl]) (by decide) (fun T fT => ?_)
    · unfold ev_X8_meanDamage eX8_meanDamage_0
      rw [c_reqU1 hI.L hW hC hu, bd_rt, ob_1, c_reqU1 hI.L hW hC ht, bd_rt, ob_1, c_target hn hI.L hW hC hu ht, if_neg (by rw [hA]; decide), bd_th]
    · refine ⟨wI T 207 0 2, FP.dconst0, ?_, (FrX.rf fT.1).t, tz fT.1⟩
      unfold ev_X9_meanDamage eX9_meanDamage_0
      rw [r_look hn fT.1 (fT.Q hF) hW hu ht, if_neg (by rw [hA]; decide), bd_rt, if_pos rfl]
  · refine q_okD hI hi (r := FP.ddiv (FP.i2d (Int32.ofNat (gSum w u t))) (4635329916471083008 : UInt64)) (T := V) ?_ (FrQ.rf hI.L hI.M) (fun T fT => ?_)
    · unfold ev_X8_meanDamage eX8_meanDamage_0
      rw [c_reqU1 hI.L hW hC hu, bd_rt, ob_1, c_reqU1 hI.L hW hC ht, bd_rt, ob_1, c_target hn hI.L hW hC hu ht, if_pos hA, bd_rt, r03 hI.L, ob_1, c_sumDamages (by omega) hI.L b2 hW hC hu ht, bd_rt, if_pos (d80_ok _ (by omega))]
    · have l1 : zLay (wI T 207 0 0) := zLay_wI fT.1
      refine ⟨wI T 207 0 0, ?_, (FrX.rf fT.1).t, tz fT.1⟩
      unfold ev_X9_meanDamage eX9_meanDamage_0
      rw [r_look hn fT.1 (fT.Q hF) hW hu ht, if_pos hA, bd_rt, if_neg (by decide), r_damages (by omega) l1 (tq (fT.Q hF)) hW hu ht, bd_rt, if_pos (d80_ok _ (by omega))]
/-! the best target -/
def btr (w : RW) (u t : Nat) (b : Option Nat) : Bool := canA w u t && (match b with
  | none => true
  | some c => decide (gSum w u c < gSum w u t) || (decide (gSum w u t = gSum w u c) && !decide (w (67 + 11 * c + 3) ≤ w (67 + 11 * t + 3))))
theorem btr_s {w : RW} {u t c : Nat} : btr w u t (some c) = (canA w u t && (decide (gSum w u c < gSum w u t) || (decide (gSum w u t = gSum w u c) && !decide (w (67 + 11 * c + 3) ≤ w (67 + 11 * t + 3))))) := rfl
def bRes (V : VS) (b : Option Nat) : Rs Int32 := match b with
  | none => rt 0 (wI V 207 0 2)
  | some c => rt (Int32.ofNat c) V
def bst (w : RW) (u : Nat) : Nat → Nat → Option Nat → Option Nat
  | 0, _, b => b
  | d + 1, t, b => bst w u d (t + 1) (if btr w u t b = true then some t else b)
def bOk (w : RW) (u : Nat) (b : Option Nat) (s h : Int32) : Prop := match b with
  | none => True
  | some c => c < nU w ∧ s = Int32.ofNat (gSum w u c) ∧ h = w (67 + 11 * c + 3)
theorem c_bst (hn : 64 < n) (hL : zLay V) (hW : WF w) (hC : Rp 2 V w) (hu : u < nU w) : ∀ (d m t : Nat) (b : Option Nat) (s h : Int32), t + d = nU w → d < m → bOk w u b s h → elX2_chooseTarget_10 n m V 2 (2 + 9 + u) (oi b) s h (Int32.ofNat t) = rt (oi (bst w u d t b)) V
  | 0, m + 1, t, b, s, h, e, _, _ => by
    have u8 := hW.u8
    have : t = nU w := by omega
    subst this
    show eX2_chooseTarget_10 n (elX2_chooseTarget_10 n m) V 2 (2 + 9 + u) (oi b) s h (Int32.ofNat (nU w)) = _
    unfold eX2_chooseTarget_10
    rw [hC.count, hW.ue, if_pos (by exact (of_le (by omega) (by omega)).mpr (Nat.le_refl _))]; rfl
  | d + 1, m + 1, t, b, s, h, e, hm, ho => by
    have u8 := hW.u8
    have ht : t < nU w := by omega
    have lt := gSum_le hW hu ht
    show eX2_chooseTarget_10 n (elX2_chooseTarget_10 n m) V 2 (2 + 9 + u) (oi b) s h (Int32.ofNat t) = rt (oi (bst w u d (t + 1) (if btr w u t b = true then some t else b))) V
    unfold eX2_chooseTarget_10 eX2_chooseTarget_73
    rw [hC.count, hW.ue, if_neg (fun e => by have := (of_le (by omega) (by omega)).mp e; omega), zr1 hL b2, ob_1, znu hL b2, if_pos (in_of (by omega) (by decide)), tn_of (by omega), zru hL b2 (by omega), ob_1, c_canStrike hn hL b2 hW hC hu ht, bd_rt, p1_of]
    have keep : btr w u t b = false → elX2_chooseTarget_10 n m V 2 (2 + 9 + u) (oi b) s h (Int32.ofNat (t + 1)) = rt (oi (bst w u d (t + 1) (if btr w u t b = true then some t else b))) V := fun g => by
      rw [if_neg (by rw [g]; decide)]
      exact c_bst hn hL hW hC hu d m (t + 1) b s h (by omega) (by omega) ho
    cases hA : canA w u t
    · rw [if_pos (show bi false = 0 from rfl)]
      exact keep (by unfold btr; rw [hA]; rfl)
    rw [if_neg (show ¬ bi true = 0 by decide), c_sumDamages (by omega) hL b2 hW hC hu ht, bd_rt, show vI V (2 + 9 + t) 5 = w (67 + 11 * t + 3) from hC.u ht (by omega) (j := 3) (by decide)]
    have take : btr w u t b = true → elX2_chooseTarget_10 n m V 2 (2 + 9 + u) (Int32.ofNat t) (Int32.ofNat (gSum w u t)) (w (67 + 11 * t + 3)) (Int32.ofNat (t + 1)) = rt (oi (bst w u d (t + 1) (if btr w u t b = true then some t else b))) V := fun g => by
      rw [if_pos g]
      exact c_bst hn hL hW hC hu d m (t + 1) (some t) _ _ (by omega) (by omega) ⟨ht, rfl, rfl⟩
    cases b with
    | none =>
      rw [if_pos (show oi none < 0 by decide)]
      exact take (by unfold btr; rw [hA]; rfl)
    | some c =>
      obtain ⟨c1, c2, c3⟩ : c < nU w ∧ s = Int32.ofNat (gSum w u c) ∧ h = w (67 + 11 * c + 3) := ho
      have lc := gSum_le hW hu c1
      have eb : btr w u t (some c) = (decide (gSum w u c < gSum w u t) || (decide (gSum w u t = gSum w u c) && !decide (w (67 + 11 * c + 3) ≤ w (67 + 11 * t + 3)))) := by rw [btr_s, hA, Bool.true_and]
      rw [if_neg (show ¬ oi (some c) < 0 from ofn_nn (by omega)), c2, c3]
      by_cases g1 : gSum w u c < gSum w u t
      · rw [if_pos (by exact (of_lt (by omega) (by omega)).mpr g1)]
        exact take (by rw [eb, decide_eq_true g1]; rfl)
      rw [if_neg (fun e => g1 ((of_lt (by omega) (by omega)).mp e))]
      by_cases g2 : gSum w u t = gSum w u c
      · rw [if_pos (by rw [g2])]
        by_cases g3 : w (67 + 11 * c + 3) ≤ w (67 + 11 * t + 3)
        · rw [if_pos g3, ← c2, ← c3]
          exact keep (by rw [eb, decide_eq_false g1, decide_eq_true g2, decide_eq_true g3]; rfl)
        · rw [if_neg g3]
          exact take (by rw [eb, decide_eq_false g1, decide_eq_true g2, decide_eq_false g3]; rfl)
      · rw [if_neg (fun e => g2 ((of_inj (by omega) (by omega)).mp e)), ← c2, ← c3]
        exact keep (by rw [eb, decide_eq_false g1, decide_eq_false g2]; rfl)
theorem r_bst (hn : 64 < n) (hL : zLay V) (hQ : Qr V w) (hW : WF w) (hu : u < nU w) : ∀ (d m t : Nat) (b : Option Nat), t + d = nU w → d < m → (∀ c, b = some c → c < nU w) → elX9_bestTarget_40 n m V 207 (oi b) (Int32.ofNat u) (Int32.ofNat t) = bRes V (bst w u d t b)
  | 0, m + 1, t, b, e, _, hb => by
    have u8 := hW.u8
    have : t = nU w := by omega
    subst this
    obtain ⟨g6, e6⟩ := r_v hL hQ (k := 66) (x := 66) (by decide) rfl
    show eX9_bestTarget_40 n (elX9_bestTarget_40 n m) V 207 (oi b) (Int32.ofNat u) (Int32.ofNat (nU w)) = bRes V b
    unfold eX9_bestTarget_40
    rw [r71 hL, ob_1, if_pos g6, e6, hW.ue, if_pos (by exact (of_le (by omega) (by omega)).mpr (Nat.le_refl _))]
    cases b with
    | none => rw [if_neg (show ¬ 0 ≤ oi none by decide), r_no hL, bd_rt]; rfl
    | some c => rw [if_pos (show (0 : Int32) ≤ oi (some c) from Int32.not_lt.mp (ofn_nn (by have := hb c rfl; omega)))]; rfl
  | d + 1, m + 1, t, b, e, hm, hb => by
    have u8 := hW.u8
    have ht : t < nU w := by omega
    have lt := gSum_le hW hu ht
    obtain ⟨g6, e6⟩ := r_v hL hQ (k := 66) (x := 66) (by decide) rfl
    show eX9_bestTarget_40 n (elX9_bestTarget_40 n m) V 207 (oi b) (Int32.ofNat u) (Int32.ofNat t) = bRes V (bst w u d (t + 1) (if btr w u t b = true then some t else b))
    unfold eX9_bestTarget_40 eX9_bestTarget_84 eX9_bestTarget_111
    rw [r71 hL, ob_1, if_pos g6, e6, hW.ue, if_neg (fun e => by have := (of_le (by omega) (by omega)).mp e; omega), r_canAttack hn hL hQ hW hu ht, bd_rt, p1_of]
    have keep := fun (g : btr w u t b = false) => show elX9_bestTarget_40 n m V 207 (oi b) (Int32.ofNat u) (Int32.ofNat (t + 1)) = bRes V (bst w u d (t + 1) (if btr w u t b = true then some t else b)) from by
      rw [if_neg (by rw [g]; decide)]
      exact r_bst hn hL hQ hW hu d m (t + 1) b (by omega) (by omega) hb
    have take := fun (g : btr w u t b = true) => show elX9_bestTarget_40 n m V 207 (Int32.ofNat t) (Int32.ofNat u) (Int32.ofNat (t + 1)) = bRes V (bst w u d (t + 1) (if btr w u t b = true then some t else b)) from by
      rw [if_pos g]
      exact r_bst hn hL hQ hW hu d m (t + 1) (some t) (by omega) (by omega) (fun c hc => by cases hc; exact ht)
    cases hA : canA w u t
    · rw [if_pos (show bi false = 0 from rfl)]
      exact keep (by unfold btr; rw [hA]; rfl)
    rw [if_neg (show ¬ bi true = 0 by decide)]
    cases b with
    | none =>
      rw [if_neg (show ¬ 0 ≤ oi none by decide), if_pos (show (0 : Int32) < 1 by decide)]
      exact take (by unfold btr; rw [hA]; rfl)
    | some c =>
      have c1 := hb c rfl
      have lc := gSum_le hW hu c1
      have eb : btr w u t (some c) = (decide (gSum w u c < gSum w u t) || (decide (gSum w u t = gSum w u c) && !decide (w (67 + 11 * c + 3) ≤ w (67 + 11 * t + 3)))) := by rw [btr_s, hA, Bool.true_and]
      rw [if_pos (show (0 : Int32) ≤ oi (some c) from Int32.not_lt.mp (ofn_nn (by omega))), r_damages (by omega) hL hQ hW hu ht, bd_rt, show oi (some c) = Int32.ofNat c from rfl, r_damages (by omega) hL hQ hW hu c1, bd_rt]
      have d1 : (0 : Int32) < Int32.ofNat (gSum w u t) - Int32.ofNat (gSum w u c) ↔ gSum w u c < gSum w u t := by
        rw [ji_nat, ji_nat, ← Int32.ofInt_sub, ji_0, ji_lt (by omega) (by omega) (by omega) (by omega)]; omega
      have d2 : Int32.ofNat (gSum w u t) - Int32.ofNat (gSum w u c) = 0 ↔ gSum w u t = gSum w u c := by
        constructor
        · intro q
          have q2 : ¬ (0 : Int32) < Int32.ofNat (gSum w u t) - Int32.ofNat (gSum w u c) := by rw [q]; decide
          have q3 : ¬ Int32.ofNat (gSum w u t) - Int32.ofNat (gSum w u c) < (0 : Int32) := by rw [q]; decide
          rw [d1] at q2
          rw [ji_nat, ji_nat, ← Int32.ofInt_sub, ji_0, ji_lt (by omega) (by omega) (by omega) (by omega)] at q3
          omega
        · intro q; rw [q, Int32.sub_self]
      by_cases g1 : gSum w u c < gSum w u t
      · rw [if_pos (d1.mpr g1)]
        exact take (by rw [eb, decide_eq_true g1]; rfl)
      rw [if_neg (fun e => g1 (d1.mp e))]
      by_cases g2 : gSum w u t = gSum w u c
      · rw [if_pos (d2.mpr g2), r_of3 hL hQ (by omega), bd_rt, r_of3 hL hQ (by omega), bd_rt]
        by_cases g3 : w (67 + 11 * c + 3) ≤ w (67 + 11 * t + 3)
        · rw [if_pos g3]
          exact keep (by rw [eb, decide_eq_false g1, decide_eq_true g2, decide_eq_true g3]; rfl)
        · rw [if_neg g3]
          exact take (by rw [eb, decide_eq_false g1, decide_eq_true g2, decide_eq_false g3]; rfl)
      · rw [if_neg (fun e => g2 (d2.mp e))]
        exact keep (by rw [eb, decide_eq_false g1, decide_eq_false g2]; rfl)
theorem bst_lt {w : RW} {u : Nat} : ∀ (d t : Nat) (b : Option Nat), t + d = nU w → (∀ c, b = some c → c < nU w) → ∀ c, bst w u d t b = some c → c < nU w
  | 0, _, b, _, hb, c, h => hb c h
  | d + 1, t, b, e, hb, c, h => by
    refine bst_lt d (t + 1) _ (by omega) (fun c' h' => ?_) c h
    by_cases g : btr w u t b = true
    · rw [if_pos g] at h'; cases h'; omega
    · rw [if_neg g] at h'; exact hb c' h'
theorem p_bestTarget (hn : 64 < n) (hI : Inv i V) (hi : i < 512) : PairI i (ev_L_bestTarget n V 0 222) (fun T => ev_X9_bestTarget n T 207) gI := by
  obtain ⟨N, hc, q, w, w0, kd, ar, hF, hW, hC, hQ, hN, hP⟩ := hI.get
  have u8 := hW.u8
  unfold ev_L_bestTarget eL_bestTarget_0
  rcases onT (n := n) hI.L hW hC hP hN with ⟨a, b, t, f, e6, e⟩ | ⟨a, b, c, e⟩
  · have hu := f.1.u
    have cb := c_bst (n := n) hn hI.L hW hC hu (nU w) n 0 none 0 0 (by omega) (by omega) trivial
    cases hb : bst w (ord w t) (nU w) 0 none with
    | none =>
      rw [hb] at cb
      refine q_th hI hi (c := 2) (T := V) (E := "java/util/NoSuchElementException") ?_ (FrQ.rf hI.L hI.M) (by rw [if_neg (by decide), if_pos rfl]) (by decide) (fun T fT => ?_)
      · unfold ev_X8_bestTarget eX8_bestTarget_0 ev_X8_requireTurn eX8_requireTurn_0 ev_X2_chooseTarget eX2_chooseTarget_0
        rw [r03 hI.L, ob_1, ob_1, e, bd_rt, om_1, bd_rt, ob_1]
        have cb' : elX2_chooseTarget_10 n n V 2 (2 + 9 + ord w t) (-1) 0 0 0 = rt (-1) V := cb
        rw [cb', bd_rt, if_neg (by decide)]
      · obtain ⟨r, er, r1, _⟩ := r_conditions (n := n) (by omega) fT.1 (fT.Q hF) hW
        have l1 : zLay (wI T 207 0 0) := zLay_wI fT.1
        obtain ⟨g6, e7⟩ := r_v l1 (tq (fT.Q hF)) (k := 166) (x := 166) (by decide) rfl
        have rb := r_bst (n := n) hn l1 (tq (fT.Q hF)) hW hu (nU w) n 0 none (by omega) (by omega) (fun c hc => by cases hc)
        rw [hb] at rb
        have rb' : elX9_bestTarget_40 n n (wI T 207 0 0) 207 (-1) (Int32.ofNat (ord w t)) 0 = rt 0 (wI (wI T 207 0 0) 207 0 2) := rb
        refine ⟨wI (wI T 207 0 0) 207 0 2, 0, ?_, ((FrX.rf fT.1).t (x := 0)).t (x := 2), tz l1⟩
        unfold ev_X9_bestTarget eX9_bestTarget_0 eX9_bestTarget_14
        rw [er, bd_rt, if_pos (r1.mpr a), sq_eq, tz fT.1, if_neg (by decide), r71 l1, ob_1, if_pos g6, e7, e6, rb']
    | some c =>
      have c1 := bst_lt (nU w) 0 none (by omega) (fun c hc => by cases hc) c hb
      rw [hb] at cb
      refine q_ok hI hi (r := Int32.ofNat c) (T := V) ?_ (FrQ.rf hI.L hI.M) (fun T fT => ?_)
      · unfold ev_X8_bestTarget eX8_bestTarget_0 ev_X8_requireTurn eX8_requireTurn_0 ev_X2_chooseTarget eX2_chooseTarget_0
        rw [r03 hI.L, ob_1, ob_1, e, bd_rt, om_1, bd_rt, ob_1]
        have cb' : elX2_chooseTarget_10 n n V 2 (2 + 9 + ord w t) (-1) 0 0 0 = rt (Int32.ofNat c) V := cb
        rw [cb', bd_rt, if_pos (Int32.not_lt.mp (ofn_nn (by omega)))]
      · obtain ⟨r, er, r1, _⟩ := r_conditions (n := n) (by omega) fT.1 (fT.Q hF) hW
        have l1 : zLay (wI T 207 0 0) := zLay_wI fT.1
        obtain ⟨g6, e7⟩ := r_v l1 (tq (fT.Q hF)) (k := 166) (x := 166) (by decide) rfl
        have rb := r_bst (n := n) hn l1 (tq (fT.Q hF)) hW hu (nU w) n 0 none (by omega) (by omega) (fun c hc => by cases hc)
        rw [hb] at rb
        have rb' : elX9_bestTarget_40 n n (wI T 207 0 0) 207 (-1) (Int32.ofNat (ord w t)) 0 = rt (Int32.ofNat c) (wI T 207 0 0) := rb
        refine ⟨wI T 207 0 0, ?_, (FrX.rf fT.1).t, tz fT.1⟩
        unfold ev_X9_bestTarget eX9_bestTarget_0 eX9_bestTarget_14
        rw [er, bd_rt, if_pos (r1.mpr a), sq_eq, tz fT.1, if_neg (by decide), r71 l1, ob_1, if_pos g6, e7, e6, rb']
  · refine q_th hI hi (c := 1) (T := V) (E := "java/lang/UnsupportedOperationException") ?_ (FrQ.rf hI.L hI.M) (if_pos rfl) (by decide) (fun T fT => ?_)
    · unfold ev_X8_bestTarget eX8_bestTarget_0 ev_X8_requireTurn eX8_requireTurn_0
      rw [r03 hI.L, ob_1, ob_1, e, bd_rt, om_0, bd_th]
    · obtain ⟨r, er, r1, _⟩ := r_conditions (n := n) (by omega) fT.1 (fT.Q hF) hW
      refine ⟨wI T 207 0 1, 0, ?_, (FrX.rf fT.1).t, tz fT.1⟩
      unfold ev_X9_bestTarget eX9_bestTarget_0 eX9_bestTarget_14
      rw [er, bd_rt, if_neg (fun x => by rw [r1.mp x] at a; cases a), sq_eq, tz fT.1, if_pos rfl]
end
