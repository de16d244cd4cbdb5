/-! behind a command -/
def CT (w : RW) (t : Nat) : Prop := WF w ∧ t < nO w ∧ w 290 = Int32.ofNat t ∧ w 166 = Int32.ofNat (ord w t)
def gSettle (w : RW) : RW := if goB w = false then zup (zup w 166 (-1)) 167 0 else if dead w (w 166).toNatClampNeg = true then gPassT w else w
theorem CT.u {w : RW} {t : Nat} (h : CT w t) : ord w t < nU w := ord_lt h.1 h.2.1
theorem CT.e {w : RW} {t : Nat} (h : CT w t) : (w 166).toNatClampNeg = ord w t := by
  have := h.u; have := h.1.u8
  rw [h.2.2.2, tn_of (by omega)]
theorem CT.P {w : RW} {t : Nat} (h : CT w t) : PI w (t + 1) := ⟨h.1, by rw [h.2.2.1]; exact of_add, h.2.1⟩
section
variable {n a : Nat} {V : VS} {w : RW} {t : Nat}
theorem c_settle (hn : 16 < n) (hL : zLay V) (ha : a ∈ zB) (h : Rp a V w) (hC : CT w t) : ∃ U, ev_X2_settle n V a (a + 9 + ord w t) = rt () U ∧ Rp a U (gSettle w) ∧ FrC a V U := by
  have u8 := hC.1.u8; have ou := hC.u
  unfold ev_X2_settle eX2_settle_0 gSettle
  rw [c_goesOn (by omega) hL ha hC.1 h, bd_rt]
  by_cases g : goB w = true
  · rw [if_pos g, if_neg (by decide), if_neg (by rw [g]; decide), c_lives h ou (by omega), bd_rt, hC.e]
    by_cases d : dead w (ord w t) = true
    · rw [if_pos d, if_pos rfl, if_pos d]
      obtain ⟨U, e, r, f⟩ := c_passTurn (n := n) hn hL ha h hC.P
      rw [e, bd_rt]
      exact ⟨U, rfl, r, f⟩
    · rw [if_neg d, if_neg (by decide), if_neg d]
      exact ⟨V, rfl, h, FrC.rf hL⟩
  · rw [if_neg g, if_pos rfl, if_pos (by simpa using g), sq_eq, sq_eq]
    exact ⟨_, rfl, (h.wcur hL ha).wacts (zLay_wI hL) ha, ((FrC.rf hL).w0).w0⟩
theorem r_place (hn : 8 < n) (hL : zLay V) (hQ : Qr V w) (hC : CT w t) : ev_X9_placeOfTurn n V 207 = rt (Int32.ofNat t) V := by
  have u8 := hC.1.u8; have o8 := hC.1.o8; have ou := hC.u
  obtain ⟨g1, e1⟩ := r_v hL hQ (k := 157) (x := 157) (by decide) rfl
  obtain ⟨g2, e2⟩ := r_v hL hQ (k := 166) (x := 166) (by decide) rfl
  have key := loop_find (V := V) (F := fun m k => elX9_placeOfTurn_2 n m V 207 (Int32.ofNat k)) (p := fun i => decide (w (158 + i) = w 166)) (N := nO w) (fun m k hk => by
    show eX9_placeOfTurn_2 n (elX9_placeOfTurn_2 n m) V 207 (Int32.ofNat k) = _
    unfold eX9_placeOfTurn_2
    have io : (158 : Int32) + Int32.ofNat k = Int32.ofNat (158 + k) := of_add (a := 158)
    rw [r71 hL, ob_1, if_pos g1, e1, hC.1.oe, if_neg (fun e => by have := (of_le (by omega) (by omega)).mp e; omega), ob_1, io, m208 hL, if_pos (in_of (by omega) (by decide)), ob_1, tn_of (by omega), hQ _ (by omega)]
    rw [if_pos g2, e2, p1_of]
    by_cases g : w (158 + k) = w 166
    · rw [if_pos g, decide_eq_true g, if_pos rfl]
    · rw [if_neg g, decide_eq_false g, if_neg (by decide)]) (fun m => by
    show eX9_placeOfTurn_2 n (elX9_placeOfTurn_2 n m) V 207 (Int32.ofNat (nO w)) = _
    unfold eX9_placeOfTurn_2
    rw [r71 hL, ob_1, if_pos g1, e1, hC.1.oe, if_pos (by exact (of_le (by omega) (by omega)).mpr (Nat.le_refl _))]) (nO w) n 0 (by omega) (by omega)
  unfold ev_X9_placeOfTurn eX9_placeOfTurn_0
  have et : w (158 + t) = w 166 := by rw [hC.2.2.2, ord_e hC.1 hC.2.1]
  rcases key with ⟨x, _⟩ | ⟨j, _, hj, pj, qj, f⟩
  · exfalso
    have := List.any_eq_false.mp x t (List.mem_range'_1.mpr ⟨by omega, by have := hC.2.1; omega⟩)
    exact this (decide_eq_true et)
  · have ej : w (158 + j) = w 166 := of_decide_eq_true pj
    have : j = t := by
      rcases Nat.lt_trichotomy j t with q | q | q
      · exact absurd (ej.trans et.symm) (hC.1.od q hC.2.1)
      · exact q
      · exact absurd (et.trans ej.symm) (hC.1.od q hj)
    rw [this] at f
    exact f
theorem Fin_pass (hC : CT w t) : Fin (gPassT w) := by
  have u8 := hC.1.u8; have o8 := hC.1.o8
  refine pass_old 16 (t + 1) _ (passT_PI hC.P) ?_
  rw [nO_z (by omega), nO_z (by omega)]; omega
theorem r_settles {b : Nat} (hn : 120 < n) (hL : zLay V) (hQ : Qr V w) (hC : CT w t) (hr : ¬ w 156 ≤ 0) (hb : Nb (w 156) b) (hbd : b + 16 < 2000000) : ∃ U, ev_X9_settles n V 207 = rt () U ∧ Qr U (gSettle w) ∧ FrP V U := by
  have u8 := hC.1.u8; have ou := hC.u
  unfold ev_X9_settles eX9_settles_0 gSettle
  obtain ⟨r, er, r1, _⟩ := r_conditions (n := n) (by omega) hL hQ hC.1
  have cc : cnd w = goB w := by unfold cnd; rw [decide_eq_false hr]; rfl
  rw [cc] at r1
  obtain ⟨g6, e6⟩ := r_v hL hQ (k := 166) (x := 166) (by decide) rfl
  rw [er, bd_rt]
  by_cases g : goB w = true
  · rw [if_pos (r1.mpr g), r71 hL, ob_1, if_pos g6, e6, if_neg (by rw [g]; decide), hC.e, hC.2.2.2, r_lives hL hQ (by omega), bd_rt]
    by_cases d : dead w (ord w t) = true
    · rw [if_pos d, if_pos rfl, if_pos d, r_place (by omega) hL hQ hC, bd_rt]
      obtain ⟨U, e, q, f⟩ := r_goesOn (n := n) hn hL hQ hC.P hC.2.2.1.symm hr hb hbd (Fin_pass hC)
      rw [e, bd_rt]
      exact ⟨U, rfl, q, f⟩
    · rw [if_neg d, if_neg (by decide), if_neg d]
      exact ⟨V, rfl, hQ, (FrR.rf hL).p⟩
  · rw [if_neg (fun x => g (r1.mp x)), r71 hL, ob_1, if_pos g6, sq_eq, show (166 : Int32).toNatClampNeg = 166 from by decide +kernel, if_pos (by simpa using g)]
    have l1 : zLay (wI V 208 166 (-1)) := zLay_wI hL
    have q1 : Qr (wI V 208 166 (-1)) (zup w 166 (-1)) := hQ.w hL
    obtain ⟨g7, _⟩ := r_v l1 q1 (k := 167) (x := 167) (by decide) rfl
    rw [r71 l1, ob_1, if_pos g7, sq_eq, show (167 : Int32).toNatClampNeg = 167 from by decide +kernel]
    exact ⟨_, rfl, q1.w l1, (((FrR.rf hL).w).w).p⟩
end
/-! an attack is carried out -/
def dieN (w : RW) (s : Nat) : Nat := (rD w (Int32.ofNat s)).toNatClampNeg
theorem die_e (w : RW) {s : Nat} (hs : 0 < s) (h : s < 1000) : rD w (Int32.ofNat s) = Int32.ofNat (dieN w s) ∧ 0 < dieN w s ∧ dieN w s ≤ s := by
  obtain ⟨k, hk, e⟩ := rD_of w hs h
  unfold dieN
  rw [e, tn_of (by omega)]
  exact ⟨rfl, by omega, by omega⟩
def gA1 (w : RW) (u : Nat) : RW := zup w (67 + 11 * u + 4) (w (67 + 11 * u + 4) - 1)
def gA2 (w : RW) (u : Nat) : RW := rW (gA1 w u)
def gAd (w : RW) (u : Nat) : Nat := dieN (gA1 w u) 20
def gA3 (w : RW) (u : Nat) : RW := rW (gA2 w u)
def gAx (w : RW) (u : Nat) : Nat := dieN (gA2 w u) 4
def gAhit (w : RW) (u t : Nat) : Bool := hitB (gA2 w u) u t (gAd w u)
def gAm (w : RW) (u t : Nat) : Nat := dmg (gA3 w u) u t (gAd w u) (gAx w u)
def gA4 (w : RW) (u t : Nat) : RW := gTell (gLose (gA3 w u) t (Int32.ofNat (gAm w u t))) 2 (Int32.ofNat u) (Int32.ofNat (gAm w u t))
def gStrike (w : RW) (u t : Nat) : RW := if gAhit w u t = true then (if dead (gA4 w u t) t = true then gTell (gA4 w u t) 4 (Int32.ofNat t) 0 else gA4 w u t) else gTell (gA2 w u) 3 (Int32.ofNat u) (Int32.ofNat t)
def gStrD (w : RW) (u t : Nat) : Nat := if gAhit w u t = true then gAm w u t else 0
theorem pos_of {x : Int32} {b : Nat} (h : Nb x b) (hb : b < 1000000) (hs : ¬ x ≤ 0) : 0 < x.toNatClampNeg := by
  have e := h.eq; have l := h.le
  rcases Nat.eq_zero_or_pos x.toNatClampNeg with q | q
  · rw [q] at e; exact absurd (by rw [e]; decide) hs
  · exact q
theorem m1_nb {x : Int32} {b : Nat} (h : Nb x b) (hb : b < 1000000) (hs : ¬ x ≤ 0) : Nb (x - 1) b := by
  have e := h.eq; have l := h.le; have p := pos_of h hb hs
  generalize x.toNatClampNeg = q at e l p
  rw [e, show Int32.ofNat q - 1 = Int32.ofNat (q - 1) from of_sub (b := 1) p]
  exact Nb.of (by omega) (by omega)
section
variable {w : RW} {u t : Nat}
theorem a1_at {k : Nat} (h : k ≠ 67 + 11 * u + 4) : gA1 w u k = w k := zup_ne h
theorem a2_at {k : Nat} (h : k ≠ 67 + 11 * u + 4) (h2 : k ≠ 155) : gA2 w u k = w k := (zup_ne h2).trans (a1_at h)
theorem a3_at {k : Nat} (h : k ≠ 67 + 11 * u + 4) (h2 : k ≠ 155) : gA3 w u k = w k := (zup_ne h2).trans (a2_at h h2)
theorem a1_W (hW : WF w) (hu : u < nU w) (hs : ¬ w (67 + 11 * u + 4) ≤ 0) : WF (gA1 w u) :=
  hW.zu (j := 4) (by have := hW.u8; omega) (by omega) (m1_nb (hW.f hu (j := 4) (by omega)) (by decide) hs) (fun x => by omega)
theorem a2_W (hW : WF w) (hu : u < nU w) (hs : ¬ w (67 + 11 * u + 4) ≤ 0) : WF (gA2 w u) := (a1_W hW hu hs).z (.inl rfl)
theorem a3_W (hW : WF w) (hu : u < nU w) (hs : ¬ w (67 + 11 * u + 4) ≤ 0) : WF (gA3 w u) := (a2_W hW hu hs).z (.inl rfl)
theorem a1_u (h8 : u < 8) : nU (gA1 w u) = nU w := nU_z (by omega)
theorem a2_u (h8 : u < 8) : nU (gA2 w u) = nU w := (nU_z (by omega)).trans (a1_u h8)
theorem a3_u (h8 : u < 8) : nU (gA3 w u) = nU w := (nU_z (by omega)).trans (a2_u h8)
theorem gAd_le (w : RW) (u : Nat) : 0 < gAd w u ∧ gAd w u ≤ 20 := (die_e (gA1 w u) (s := 20) (by omega) (by omega)).2
theorem gAx_le (w : RW) (u : Nat) : 0 < gAx w u ∧ gAx w u ≤ 4 := (die_e (gA2 w u) (s := 4) (by omega) (by omega)).2
theorem gAm_le (hW : WF w) (hu : u < nU w) (ht : t < nU w) (hs : ¬ w (67 + 11 * u + 4) ≤ 0) : gAm w u t ≤ 44 ∧ 0 < gAm w u t := by
  have u8 := hW.u8
  exact dmg_le (a3_W hW hu hs) (by rw [a3_u (by omega)]; exact hu) (by rw [a3_u (by omega)]; exact ht) (gAx_le w u).2
theorem a4_W (hW : WF w) (hu : u < nU w) (ht : t < nU w) (hs : ¬ w (67 + 11 * u + 4) ≤ 0) : WF (gLose (gA3 w u) t (Int32.ofNat (gAm w u t))) ∧ WF (gA4 w u t) := by
  have u8 := hW.u8
  have ml := (gAm_le hW hu ht hs).1
  have w4 := (a3_W hW hu hs).lose (u := t) (m := gAm w u t) (by rw [a3_u (by omega)]; exact ht) (by omega)
  exact ⟨w4, w4.tell⟩
theorem WF.strike (hW : WF w) (hu : u < nU w) (ht : t < nU w) (hs : ¬ w (67 + 11 * u + 4) ≤ 0) : WF (gStrike w u t) := by
  have w4 := (a4_W hW hu ht hs).2
  unfold gStrike
  by_cases h : gAhit w u t = true
  · rw [if_pos h]
    by_cases d : dead (gA4 w u t) t = true
    · rw [if_pos d]; exact w4.tell
    · rw [if_neg d]; exact w4
  · rw [if_neg h]; exact (a2_W hW hu hs).tell
theorem gLose_at {x : Int32} {k : Nat} (h : k ≠ 67 + 11 * u + 3) : gLose w u x k = w k := zup_ne h
theorem a4_at (hW : WF w) (hu : u < nU w) (ht : t < nU w) (hs : ¬ w (67 + 11 * u + 4) ≤ 0) {k : Nat} (h : k ≠ 67 + 11 * u + 4) (h2 : k ≠ 155) (h3 : k ≠ 67 + 11 * t + 3) (h4 : k < 168 ∨ 289 ≤ k) : gA4 w u t k = w k := by
  unfold gA4
  rw [gTell_lo (a4_W hW hu ht hs).1.e h4, gLose_at h3, a3_at h h2]
theorem strike_at (hW : WF w) (hu : u < nU w) (ht : t < nU w) (hs : ¬ w (67 + 11 * u + 4) ≤ 0) {k : Nat} (h : k ≠ 67 + 11 * u + 4) (h2 : k ≠ 155) (h3 : k ≠ 67 + 11 * t + 3) (h4 : k < 168 ∨ 289 ≤ k) : gStrike w u t k = w k := by
  unfold gStrike
  by_cases g : gAhit w u t = true
  · rw [if_pos g]
    by_cases d : dead (gA4 w u t) t = true
    · rw [if_pos d, gTell_lo (a4_W hW hu ht hs).2.e h4, a4_at hW hu ht hs h h2 h3 h4]
    · rw [if_neg d, a4_at hW hu ht hs h h2 h3 h4]
  · rw [if_neg g, gTell_lo (a2_W hW hu hs).e h4, a2_at h h2]
theorem strike_nU (hW : WF w) (hu : u < nU w) (ht : t < nU w) (hs : ¬ w (67 + 11 * u + 4) ≤ 0) : nU (gStrike w u t) = nU w := by
  have u8 := hW.u8
  unfold nU; rw [strike_at hW hu ht hs (by omega) (by omega) (by omega) (by omega)]
/-- a miss changes no health -/
theorem strike_miss (hW : WF w) (hu : u < nU w) (hs : ¬ w (67 + 11 * u + 4) ≤ 0) (h : gAhit w u t = false) {k : Nat} (h1 : k ≠ 67 + 11 * u + 4) (h2 : k ≠ 155) (h4 : k < 168 ∨ 289 ≤ k) : gStrike w u t k = w k := by
  unfold gStrike
  rw [if_neg (by rw [h]; decide), gTell_lo (a2_W hW hu hs).e h4, a2_at h1 h2]
end
section
variable {n a : Nat} {V : VS} {w : RW} {u t : Nat}
theorem c_strike (hL : zLay V) (ha : a ∈ zB) (hW : WF w) (h : Rp a V w) (hu : u < nU w) (ht : t < nU w) (hs : ¬ w (67 + 11 * u + 4) ≤ 0) : ∃ U, ev_X2_strike n V a (a + 9 + u) (a + 9 + t) = rt (Int32.ofNat (gStrD w u t)) U ∧ Rp a U (gStrike w u t) ∧ FrC a V U := by
  have u8 := hW.u8
  have dl := gAd_le w u; have xl := gAx_le w u; have ml := gAm_le hW hu ht hs
  have w2 := a2_W hW hu hs; have w3 := a3_W hW hu hs
  obtain ⟨w4, w5⟩ := a4_W hW hu ht hs
  have hu2 : u < nU (gA2 w u) := by rw [a2_u (by omega)]; exact hu
  have ht2 : t < nU (gA2 w u) := by rw [a2_u (by omega)]; exact ht
  have hu3 : u < nU (gA3 w u) := by rw [a3_u (by omega)]; exact hu
  have ht3 : t < nU (gA3 w u) := by rw [a3_u (by omega)]; exact ht
  have d1 : rD (gA1 w u) 20 = Int32.ofNat (gAd w u) := (die_e (gA1 w u) (s := 20) (by omega) (by omega)).1
  have d2 : rD (gA2 w u) 4 = Int32.ofNat (gAx w u) := (die_e (gA2 w u) (s := 4) (by omega) (by omega)).1
  unfold ev_X2_strike eX2_strike_0
  rw [sq_eq, show vI V (a + 9 + u) 6 = w (67 + 11 * u + 4) from h.u hu (by omega) (j := 4) (by decide)]
  have l1 : zLay (wI V (a + 9 + u) 6 (w (67 + 11 * u + 4) - 1)) := zLay_wI hL
  have r1 : Rp a (wI V (a + 9 + u) 6 (w (67 + 11 * u + 4) - 1)) (gA1 w u) := h.wu hL ha (by omega) (j := 4) (by decide)
  have f1 : FrC a V (wI V (a + 9 + u) 6 (w (67 + 11 * u + 4) - 1)) := (FrC.rf hL).wu (by omega)
  generalize wI V (a + 9 + u) 6 (w (67 + 11 * u + 4) - 1) = V1 at l1 r1 f1 ⊢
  rw [c_roll (x := 20) (s := 20) l1 ha r1 (by omega) (by omega) rfl, bd_rt, d1]
  have l2 : zLay (wI V1 a 10 (rZ (gA1 w u))) := zLay_wI l1
  have r2 : Rp a (wI V1 a 10 (rZ (gA1 w u))) (gA2 w u) := r1.wz l1 ha
  have f2 : FrC a V (wI V1 a 10 (rZ (gA1 w u))) := f1.w0
  generalize wI V1 a 10 (rZ (gA1 w u)) = V2 at l2 r2 f2 ⊢
  rw [c_needed l2 ha w2 r2 hu2 ht2, bd_rt]
  have eh : ev_X2_isHit n V2 (Int32.ofNat (gAd w u)) (Int32.ofNat (gNeed (gA2 w u) u t) - Int32.ofNat (tbN 2 (kindN (gA2 w u) u))) = rt (bi (gAhit w u t)) V2 :=
    c_isHit (by omega) (by have := need_le w2 hu2 ht2; omega) (by have := (tb_u w2 hu2 (q := 2) (by decide)).2; omega)
  rw [eh, bd_rt]
  unfold gStrD gStrike
  cases hb : gAhit w u t
  · rw [if_pos (show bi false = 0 from rfl), zr11 l2 ha, ob_1, r2.num (by omega), r2.num (by omega), if_neg (by decide), if_neg (by decide)]
    obtain ⟨U, e, r, f⟩ := c_note (n := n) l2 ha r2 w2.e (k := 3) (u := Int32.ofNat u) (x := Int32.ofNat t)
    rw [e, bd_rt]
    exact ⟨U, rfl, r, f2.tr f⟩
  · rw [if_neg (show ¬ bi true = 0 by decide), if_pos rfl, if_pos rfl]
    rw [c_roll (x := 4) (s := 4) l2 ha r2 (by omega) (by omega) rfl, bd_rt, d2]
    have l3 : zLay (wI V2 a 10 (rZ (gA2 w u))) := zLay_wI l2
    have r3 : Rp a (wI V2 a 10 (rZ (gA2 w u))) (gA3 w u) := r2.wz l2 ha
    have f3 : FrC a V (wI V2 a 10 (rZ (gA2 w u))) := f2.w0
    generalize wI V2 a 10 (rZ (gA2 w u)) = V3 at l3 r3 f3 ⊢
    rw [c_damageOf w3 r3 hu3 ht3 (by omega) xl.1 xl.2, bd_rt, show dmg (gA3 w u) u t (gAd w u) (gAx w u) = gAm w u t from rfl]
    rw [c_lose r3 ht3 (by omega), bd_rt]
    have l4 : zLay (wI V3 (a + 9 + t) 5 (gHp (gA3 w u) t (Int32.ofNat (gAm w u t)))) := zLay_wI l3
    have r4 : Rp a (wI V3 (a + 9 + t) 5 (gHp (gA3 w u) t (Int32.ofNat (gAm w u t)))) (gLose (gA3 w u) t (Int32.ofNat (gAm w u t))) := r3.wu l3 ha (by omega) (j := 3) (by decide)
    have f4 : FrC a V (wI V3 (a + 9 + t) 5 (gHp (gA3 w u) t (Int32.ofNat (gAm w u t)))) := f3.wu (by omega)
    generalize wI V3 (a + 9 + t) 5 (gHp (gA3 w u) t (Int32.ofNat (gAm w u t))) = V4 at l4 r4 f4 ⊢
    rw [zr11 l4 ha, ob_1, r4.num (by omega)]
    obtain ⟨T, eT, rT, fT⟩ := c_note (n := n) l4 ha r4 w4.e (k := 2) (u := Int32.ofNat u) (x := Int32.ofNat (gAm w u t))
    have rT' : Rp a T (gA4 w u t) := rT
    have ht5 : t < nU (gA4 w u t) := by unfold nU; rw [a4_at hW hu ht hs (by omega) (by omega) (by omega) (by omega)]; exact ht
    rw [eT, bd_rt, c_lives rT' ht5 (by omega), bd_rt]
    by_cases d : dead (gA4 w u t) t = true
    · rw [if_pos d, if_pos rfl, if_pos d, zr11 fT.1 ha, ob_1, rT'.num (by omega)]
      obtain ⟨U, e, r, f⟩ := c_note (n := n) fT.1 ha rT' w5.e (k := 4) (u := Int32.ofNat t) (x := 0)
      rw [e, bd_rt]
      exact ⟨U, rfl, r, (f4.tr fT).tr f⟩
    · rw [if_neg d, if_neg (by decide), if_neg d]
      exact ⟨T, rfl, rT', f4.tr fT⟩
theorem r_attacks (hn : 120 < n) (hL : zLay V) (hQ : Qr V w) (hW : WF w) (hu : u < nU w) (ht : t < nU w) (hs : ¬ w (67 + 11 * u + 4) ≤ 0) : ∃ U, ev_X9_attacks n V 207 (Int32.ofNat u) (Int32.ofNat t) = rt (Int32.ofNat (gStrD w u t)) U ∧ Qr U (gStrike w u t) ∧ FrR V U := by
  have u8 := hW.u8
  have dl := gAd_le w u; have xl := gAx_le w u; have ml := gAm_le hW hu ht hs
  have w2 := a2_W hW hu hs; have w3 := a3_W hW hu hs
  obtain ⟨w4, w5⟩ := a4_W hW hu ht hs
  have hu2 : u < nU (gA2 w u) := by rw [a2_u (by omega)]; exact hu
  have ht2 : t < nU (gA2 w u) := by rw [a2_u (by omega)]; exact ht
  have hu3 : u < nU (gA3 w u) := by rw [a3_u (by omega)]; exact hu
  have ht3 : t < nU (gA3 w u) := by rw [a3_u (by omega)]; exact ht
  have d1 : rD (gA1 w u) 20 = Int32.ofNat (gAd w u) := (die_e (gA1 w u) (s := 20) (by omega) (by omega)).1
  have d2 : rD (gA2 w u) 4 = Int32.ofNat (gAx w u) := (die_e (gA2 w u) (s := 4) (by omega) (by omega)).1
  unfold ev_X9_attacks eX9_attacks_0
  rw [r_of4 hL hQ (by omega), bd_rt, r_setj (x := 4) (j := 4) hL (by omega) (by decide) rfl, bd_rt]
  have l1 : zLay (wI V 208 (67 + 11 * u + 4) (w (67 + 11 * u + 4) - 1)) := zLay_wI hL
  have q1 : Qr (wI V 208 (67 + 11 * u + 4) (w (67 + 11 * u + 4) - 1)) (gA1 w u) := hQ.w hL
  have f1 : FrR V (wI V 208 (67 + 11 * u + 4) (w (67 + 11 * u + 4) - 1)) := (FrR.rf hL).w
  generalize wI V 208 (67 + 11 * u + 4) (w (67 + 11 * u + 4) - 1) = V1 at l1 q1 f1 ⊢
  rw [r_roll (x := 20) (s := 20) l1 q1 (by omega) (by omega) rfl, bd_rt, d1]
  have l2 : zLay (wI V1 208 155 (rZ (gA1 w u))) := zLay_wI l1
  have q2 : Qr (wI V1 208 155 (rZ (gA1 w u))) (gA2 w u) := q1.w l1
  have f2 : FrR V (wI V1 208 155 (rZ (gA1 w u))) := f1.w
  generalize wI V1 208 155 (rZ (gA1 w u)) = V2 at l2 q2 f2 ⊢
  have eh : ev_X9_hits n V2 207 (Int32.ofNat u) (Int32.ofNat t) (Int32.ofNat (gAd w u)) = rt (bi (gAhit w u t)) V2 := r_hits l2 q2 w2 hu2 ht2 (by omega)
  rw [eh, bd_rt]
  unfold gStrD gStrike
  cases hb : gAhit w u t
  · rw [if_pos (show bi false = 0 from rfl), if_neg (by decide), if_neg (by decide)]
    obtain ⟨U, e, r, f⟩ := r_tells (n := n) hn l2 q2 w2.e (k := 3) (u := Int32.ofNat u) (x := Int32.ofNat t)
    rw [e, bd_rt]
    exact ⟨U, rfl, r, f2.tr f⟩
  · rw [if_neg (show ¬ bi true = 0 by decide), if_pos rfl, if_pos rfl]
    rw [r_roll (x := 4) (s := 4) l2 q2 (by omega) (by omega) rfl, bd_rt, d2]
    have l3 : zLay (wI V2 208 155 (rZ (gA2 w u))) := zLay_wI l2
    have q3 : Qr (wI V2 208 155 (rZ (gA2 w u))) (gA3 w u) := q2.w l2
    have f3 : FrR V (wI V2 208 155 (rZ (gA2 w u))) := f2.w
    generalize wI V2 208 155 (rZ (gA2 w u)) = V3 at l3 q3 f3 ⊢
    rw [r_damage l3 q3 w3 hu3 ht3 (by omega) xl.1 xl.2, bd_rt, show dmg (gA3 w u) u t (gAd w u) (gAx w u) = gAm w u t from rfl]
    rw [r_loses (b := 18) (m := gAm w u t) l3 q3 (by omega) (w3.f ht3 (j := 3) (by omega)) (by omega) (by omega) rfl, bd_rt]
    have l4 : zLay (wI V3 208 (67 + 11 * t + 3) (gHp (gA3 w u) t (Int32.ofNat (gAm w u t)))) := zLay_wI l3
    have q4 : Qr (wI V3 208 (67 + 11 * t + 3) (gHp (gA3 w u) t (Int32.ofNat (gAm w u t)))) (gLose (gA3 w u) t (Int32.ofNat (gAm w u t))) := q3.w l3
    have f4 : FrR V (wI V3 208 (67 + 11 * t + 3) (gHp (gA3 w u) t (Int32.ofNat (gAm w u t)))) := f3.w
    generalize wI V3 208 (67 + 11 * t + 3) (gHp (gA3 w u) t (Int32.ofNat (gAm w u t))) = V4 at l4 q4 f4 ⊢
    obtain ⟨T, eT, qT, fT⟩ := r_tells (n := n) hn l4 q4 w4.e (k := 2) (u := Int32.ofNat u) (x := Int32.ofNat (gAm w u t))
    have qT' : Qr T (gA4 w u t) := qT
    rw [eT, bd_rt]
    obtain ⟨U, e, q, f⟩ := r_dies (n := n) hn fT.1 qT' w5.e (u := t) (by omega)
    rw [e, bd_rt]
    exact ⟨U, rfl, q, (f4.tr fT).tr f⟩
end
/-! sums of damages -/
def sEx (w : RW) (u t die : Nat) : Nat → Nat → Nat
  | 0, _ => 0
  | d + 1, ex => (if hitB w u t die = true then dmg w u t die ex else 0) + sEx w u t die d (ex + 1)
def sDie (w : RW) (u t : Nat) : Nat → Nat → Nat
  | 0, _ => 0
  | d + 1, die => sEx w u t die 4 1 + sDie w u t d (die + 1)
def gSum (w : RW) (u t : Nat) : Nat := sDie w u t 20 1
def sHit (w : RW) (u t : Nat) : Nat → Nat → Nat
  | 0, _ => 0
  | d + 1, die => (if hitB w u t die = true then 1 else 0) + sHit w u t d (die + 1)
def gCnt (w : RW) (u t : Nat) : Nat := sHit w u t 20 1
theorem sEx_no {w : RW} {u t die : Nat} (h : hitB w u t die = false) : ∀ d ex, sEx w u t die d ex = 0
  | 0, _ => rfl
  | d + 1, ex => by unfold sEx; rw [h, if_neg (by decide), sEx_no h d]
theorem sEx_le {w : RW} (hW : WF w) {u t die : Nat} (hu : u < nU w) (ht : t < nU w) : ∀ d ex, ex + d ≤ 5 → sEx w u t die d ex ≤ 44 * d
  | 0, _, _ => Nat.zero_le _
  | d + 1, ex, h => by
    have a := sEx_le hW hu ht (die := die) d (ex + 1) (by omega)
    have b := (dmg_le hW hu ht (die := die) (ex := ex) (by omega)).1
    unfold sEx
    by_cases g : hitB w u t die = true
    · rw [if_pos g]; omega
    · rw [if_neg g]; omega
theorem sDie_le {w : RW} (hW : WF w) {u t : Nat} (hu : u < nU w) (ht : t < nU w) : ∀ d die, sDie w u t d die ≤ 176 * d
  | 0, _ => Nat.zero_le _
  | d + 1, die => by
    have a := sDie_le hW hu ht d (die + 1)
    have b := sEx_le hW hu ht (die := die) 4 1 (by omega)
    unfold sDie; omega
theorem gSum_le {w : RW} (hW : WF w) {u t : Nat} (hu : u < nU w) (ht : t < nU w) : gSum w u t ≤ 3520 := sDie_le hW hu ht 20 1
theorem sHit_le (w : RW) (u t : Nat) : ∀ d die, sHit w u t d die ≤ d
  | 0, _ => Nat.zero_le _
  | d + 1, die => by
    have a := sHit_le w u t d (die + 1)
    unfold sHit
    by_cases g : hitB w u t die = true
    · rw [if_pos g]; omega
    · rw [if_neg g]; omega
section
variable {n a : Nat} {V : VS} {w : RW} {u t : Nat}
theorem c_hit (hW : WF w) (hu : u < nU w) (ht : t < nU w) {die : Nat} (hd : die < 1000) : ev_X2_isHit n V (Int32.ofNat die) (Int32.ofNat (gNeed w u t) - Int32.ofNat (tbN 2 (kindN w u))) = rt (bi (hitB w u t die)) V :=
  c_isHit hd (by have := need_le hW hu ht; omega) (by have := (tb_u hW hu (q := 2) (by decide)).2; omega)
theorem c_cnt (hW : WF w) (hu : u < nU w) (ht : t < nU w) : ∀ (d m die s : Nat), die + d = 21 → d < m → elX2_countHits_13 n m V (Int32.ofNat (gNeed w u t) - Int32.ofNat (tbN 2 (kindN w u))) (Int32.ofNat s) (Int32.ofNat die) = rt (Int32.ofNat (s + sHit w u t d die)) V
  | 0, m + 1, die, s, e, _ => by
    have : die = 21 := by omega
    subst this
    show eX2_countHits_13 n (elX2_countHits_13 n m) V _ _ (Int32.ofNat 21) = _
    unfold eX2_countHits_13
    rw [if_pos (by decide)]; rfl
  | d + 1, m + 1, die, s, e, h => by
    show eX2_countHits_13 n (elX2_countHits_13 n m) V _ _ (Int32.ofNat die) = _
    unfold eX2_countHits_13 sHit
    rw [if_neg (fun x => by have := (of_lt (a := 20) (by omega) (by omega)).mp x; omega), c_hit hW hu ht (by omega), bd_rt, p1_of, p1_of]
    cases hitB w u t die
    · rw [if_pos (show bi false = 0 from rfl), c_cnt hW hu ht d m (die + 1) s (by omega) (by omega), if_neg (by decide), Nat.zero_add]
    · rw [if_neg (show ¬ bi true = 0 by decide), c_cnt hW hu ht d m (die + 1) (s + 1) (by omega) (by omega), if_pos rfl, Nat.add_assoc s]
theorem c_countHits (hn : 21 < n) (hL : zLay V) (ha : a ∈ zB) (hW : WF w) (h : Rp a V w) (hu : u < nU w) (ht : t < nU w) : ev_X2_countHits n V a (a + 9 + u) (a + 9 + t) = rt (Int32.ofNat (gCnt w u t)) V := by
  unfold ev_X2_countHits eX2_countHits_0
  rw [c_needed hL ha hW h hu ht, bd_rt]
  have := c_cnt (n := n) (V := V) hW hu ht 20 n 1 0 (by omega) (by omega)
  rw [Nat.zero_add] at this
  exact this
theorem c_sEx (hW : WF w) (h : Rp a V w) (hu : u < nU w) (ht : t < nU w) {K : VS → Nat → Nat → Int32 → Int32 → Int32 → Rs Int32} {die : Nat} (hd : die < 1000) : ∀ (d m ex s : Nat), ex + d = 5 → 0 < ex → d < m → elX2_sumDamages_23 n K m V (a + 9 + u) (a + 9 + t) (Int32.ofNat (gNeed w u t) - Int32.ofNat (tbN 2 (kindN w u))) (Int32.ofNat s) (Int32.ofNat die) (Int32.ofNat ex) = K V (a + 9 + u) (a + 9 + t) (Int32.ofNat (gNeed w u t) - Int32.ofNat (tbN 2 (kindN w u))) (Int32.ofNat (s + sEx w u t die d ex)) (Int32.ofNat (die + 1))
  | 0, m + 1, ex, s, e, _, _ => by
    have : ex = 5 := by omega
    subst this
    show eX2_sumDamages_23 n K (elX2_sumDamages_23 n K m) V _ _ _ _ _ (Int32.ofNat 5) = _
    unfold eX2_sumDamages_23
    rw [if_pos (by decide), p1_of]; rfl
  | d + 1, m + 1, ex, s, e, h0, hm => by
    show eX2_sumDamages_23 n K (elX2_sumDamages_23 n K m) V _ _ _ _ _ (Int32.ofNat ex) = _
    unfold eX2_sumDamages_23 sEx
    rw [if_neg (fun x => by have := (of_lt (a := 4) (by omega) (by omega)).mp x; omega), c_hit hW hu ht hd, bd_rt, p1_of]
    cases hitB w u t die
    · rw [if_pos (show bi false = 0 from rfl), c_sEx hW h hu ht hd d m (ex + 1) s (by omega) (by omega) (by omega), if_neg (by decide), Nat.zero_add]
    · rw [if_neg (show ¬ bi true = 0 by decide), c_damageOf hW h hu ht hd h0 (by omega), bd_rt, of_add, c_sEx hW h hu ht hd d m (ex + 1) _ (by omega) (by omega) (by omega), if_pos rfl, Nat.add_assoc s]
theorem c_sDie (hn : 5 < n) (hW : WF w) (h : Rp a V w) (hu : u < nU w) (ht : t < nU w) : ∀ (d m die s : Nat), die + d = 21 → d < m → elX2_sumDamages_13 n m V (a + 9 + u) (a + 9 + t) (Int32.ofNat (gNeed w u t) - Int32.ofNat (tbN 2 (kindN w u))) (Int32.ofNat s) (Int32.ofNat die) = rt (Int32.ofNat (s + sDie w u t d die)) V
  | 0, m + 1, die, s, e, _ => by
    have : die = 21 := by omega
    subst this
    show eX2_sumDamages_13 n (elX2_sumDamages_13 n m) V _ _ _ _ (Int32.ofNat 21) = _
    unfold eX2_sumDamages_13
    rw [if_pos (by decide)]; rfl
  | d + 1, m + 1, die, s, e, hm => by
    show eX2_sumDamages_13 n (elX2_sumDamages_13 n m) V _ _ _ _ (Int32.ofNat die) = _
    unfold eX2_sumDamages_13 sDie
    have := c_sEx (n := n) (K := elX2_sumDamages_13 n m) hW h hu ht (die := die) (by omega) 4 n 1 s (by omega) (by omega) (by omega)
    rw [if_neg (fun x => by have := (of_lt (a := 20) (by omega) (by omega)).mp x; omega), show (1 : Int32) = Int32.ofNat 1 from rfl, this, c_sDie hn hW h hu ht d m (die + 1) _ (by omega) (by omega), Nat.add_assoc s]
theorem c_sumDamages (hn : 21 < n) (hL : zLay V) (ha : a ∈ zB) (hW : WF w) (h : Rp a V w) (hu : u < nU w) (ht : t < nU w) : ev_X2_sumDamages n V a (a + 9 + u) (a + 9 + t) = rt (Int32.ofNat (gSum w u t)) V := by
  unfold ev_X2_sumDamages eX2_sumDamages_0
  rw [c_needed hL ha hW h hu ht, bd_rt]
  have := c_sDie (n := n) (by omega) hW h hu ht 20 n 1 0 (by omega) (by omega)
  rw [Nat.zero_add] at this
  exact this
theorem r_sEx (hL : zLay V) (hQ : Qr V w) (hW : WF w) (hu : u < nU w) (ht : t < nU w) {K : VS → Nat → Int32 → Int32 → Int32 → Int32 → Rs Int32} {die : Nat} (hd : die < 1000) : ∀ (d m ex s : Nat), ex + d = 5 → 0 < ex → d < m → elX9_damages_15 n K m V 207 (Int32.ofNat u) (Int32.ofNat t) (Int32.ofNat s) (Int32.ofNat die) (Int32.ofNat ex) = K V 207 (Int32.ofNat u) (Int32.ofNat t) (Int32.ofNat (s + sEx w u t die d ex)) (Int32.ofNat (die + 1))
  | 0, m + 1, ex, s, e, _, _ => by
    have : ex = 5 := by omega
    subst this
    show eX9_damages_15 n K (elX9_damages_15 n K m) V 207 _ _ _ _ (Int32.ofNat 5) = _
    unfold eX9_damages_15
    rw [if_pos (by decide), p1_of]; rfl
  | d + 1, m + 1, ex, s, e, h0, hm => by
    show eX9_damages_15 n K (elX9_damages_15 n K m) V 207 _ _ _ _ (Int32.ofNat ex) = _
    unfold eX9_damages_15
    rw [if_neg (fun x => by have := (of_lt (a := 4) (by omega) (by omega)).mp x; omega), r_hits hL hQ hW hu ht hd, bd_rt, p1_of, p1_of]
    cases hb : hitB w u t die
    · rw [if_pos (show bi false = 0 from rfl), sEx_no hb]; rfl
    · rw [if_neg (show ¬ bi true = 0 by decide), r_damage hL hQ hW hu ht hd h0 (by omega), bd_rt, of_add, r_sEx hL hQ hW hu ht hd d m (ex + 1) _ (by omega) (by omega) (by omega)]
      rw [show sEx w u t die (d + 1) ex = (if hitB w u t die = true then dmg w u t die ex else 0) + sEx w u t die d (ex + 1) from rfl, if_pos hb, Nat.add_assoc s]
theorem r_sDie (hn : 5 < n) (hL : zLay V) (hQ : Qr V w) (hW : WF w) (hu : u < nU w) (ht : t < nU w) : ∀ (d m die s : Nat), die + d = 21 → d < m → elX9_damages_5 n m V 207 (Int32.ofNat u) (Int32.ofNat t) (Int32.ofNat s) (Int32.ofNat die) = rt (Int32.ofNat (s + sDie w u t d die)) V
  | 0, m + 1, die, s, e, _ => by
    have : die = 21 := by omega
    subst this
    show eX9_damages_5 n (elX9_damages_5 n m) V 207 _ _ _ (Int32.ofNat 21) = _
    unfold eX9_damages_5
    rw [if_pos (by decide)]; rfl
  | d + 1, m + 1, die, s, e, hm => by
    show eX9_damages_5 n (elX9_damages_5 n m) V 207 _ _ _ (Int32.ofNat die) = _
    unfold eX9_damages_5 sDie
    have := r_sEx (n := n) (K := elX9_damages_5 n m) hL hQ hW hu ht (die := die) (by omega) 4 n 1 s (by omega) (by omega) (by omega)
    rw [if_neg (fun x => by have := (of_lt (a := 20) (by omega) (by omega)).mp x; omega), show (1 : Int32) = Int32.ofNat 1 from rfl, this, r_sDie hn hL hQ hW hu ht d m (die + 1) _ (by omega) (by omega), Nat.add_assoc s]
theorem r_damages (hn : 21 < n) (hL : zLay V) (hQ : Qr V w) (hW : WF w) (hu : u < nU w) (ht : t < nU w) : ev_X9_damages n V 207 (Int32.ofNat u) (Int32.ofNat t) = rt (Int32.ofNat (gSum w u t)) V := by
  unfold ev_X9_damages eX9_damages_0
  have := r_sDie (n := n) (by omega) hL hQ hW hu ht 20 n 1 0 (by omega) (by omega)
  rw [Nat.zero_add] at this
  exact this
end
