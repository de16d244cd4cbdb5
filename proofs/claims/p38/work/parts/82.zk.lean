/-! a unit's turn begins -/
def gFin (w : RW) (u : Nat) : RW := zup (zup w 166 (Int32.ofNat u)) 167 (if w (67 + 11 * u + 7) ≤ 0 then 2 else 0)
def gOff (w : RW) (u : Nat) : RW := zup (zup w (67 + 11 * u + 9) 0) (67 + 11 * u + 10) 0
def gBurn (w : RW) (u : Nat) : RW := gTell (gLose w u 2) 5 (Int32.ofNat u) 2
def gTurn (w : RW) (u : Nat) : RW :=
  if dead w u = true then w
  else if w (67 + 11 * u + 8) ≤ 0 then gFin (gOff w u) u
  else if dead (gBurn (gOff w u) u) u = true then gTell (gBurn (gOff w u) u) 4 (Int32.ofNat u) 0
  else gFin (gBurn (gOff w u) u) u
def gTok (w : RW) (u : Nat) : Bool := !dead w u && (decide (w (67 + 11 * u + 8) ≤ 0) || !dead (gBurn (gOff w u) u) u)
theorem WF.lose {w : RW} (h : WF w) {u m : Nat} (hu : u < nU w) (hm : m < 1000) : WF (gLose w u (Int32.ofNat m)) :=
  h.zu (j := 3) (by have := h.u8; omega) (by omega) (gHp_nb (h.f hu (j := 3) (by omega)) (by decide) hm).1 (fun x => by omega)
theorem WF.off {w : RW} (h : WF w) {u : Nat} (hu : u < nU w) : WF (gOff w u) := by
  have u8 := h.u8
  exact (h.zu (j := 9) (by omega) (by omega) nb_z (fun x => by omega)).zu (j := 10) (by omega) (by omega) nb_z (fun x => by omega)
theorem gOff_u {w : RW} {u : Nat} (h8 : u < 8) : nU (gOff w u) = nU w := by unfold gOff; rw [nU_z (by omega), nU_z (by omega)]
theorem gLose_u {w : RW} {u : Nat} {x : Int32} (h8 : u < 8) : nU (gLose w u x) = nU w := by unfold gLose; rw [nU_z (by omega)]
theorem WF.burn {w : RW} (h : WF w) {u : Nat} (hu : u < nU w) : WF (gBurn w u) := (h.lose (m := 2) hu (by omega)).tell
theorem WF.fin {w : RW} (h : WF w) {u : Nat} : WF (gFin w u) := by
  refine (h.z (.inr (.inr (.inl rfl)))).za ?_
  by_cases g : w (67 + 11 * u + 7) ≤ 0
  · rw [if_pos g]; exact Nb.of (k := 2) (by omega) (by omega)
  · rw [if_neg g]; exact nb_z
theorem WF.turn {w : RW} (h : WF w) {u : Nat} (hu : u < nU w) : WF (gTurn w u) := by
  have u8 := h.u8
  have h1 := h.off hu
  have h2 := h1.burn (by rw [gOff_u (by omega)]; exact hu)
  unfold gTurn
  by_cases a : dead w u = true
  · rw [if_pos a]; exact h
  rw [if_neg a]
  by_cases b : w (67 + 11 * u + 8) ≤ 0
  · rw [if_pos b]; exact h1.fin
  rw [if_neg b]
  by_cases c : dead (gBurn (gOff w u) u) u = true
  · rw [if_pos c]; exact h2.tell
  · rw [if_neg c]; exact h2.fin
theorem gOff_at {w : RW} {u k : Nat} (h : k ≠ 67 + 11 * u + 9) (h2 : k ≠ 67 + 11 * u + 10) : gOff w u k = w k := by
  unfold gOff; rw [zup_ne h2, zup_ne h]
theorem gBurn_at {w : RW} {u k : Nat} (hE : Nb (w 168) 40) (h8 : u < 8) (h : k ≠ 67 + 11 * u + 3) (h2 : k < 168 ∨ 289 ≤ k) : gBurn w u k = w k := by
  unfold gBurn gLose
  rw [gTell_lo (by rw [zup_ne (by omega)]; exact hE) h2, zup_ne h]
theorem gFin_at {w : RW} {u k : Nat} (h : k ≠ 166) (h2 : k ≠ 167) : gFin w u k = w k := by
  unfold gFin; rw [zup_ne h2, zup_ne h]
theorem gTurn_at {w : RW} (hW : WF w) {u k : Nat} (hu : u < nU w) (h1 : k ≠ 67 + 11 * u + 3) (h2 : k ≠ 67 + 11 * u + 9) (h3 : k ≠ 67 + 11 * u + 10) (h4 : k < 166 ∨ 289 ≤ k) : gTurn w u k = w k := by
  have u8 := hW.u8
  have w1 := hW.off hu
  have w2 := w1.burn (by rw [gOff_u (by omega)]; exact hu)
  unfold gTurn
  by_cases a : dead w u = true
  · rw [if_pos a]
  rw [if_neg a]
  by_cases b : w (67 + 11 * u + 8) ≤ 0
  · rw [if_pos b, gFin_at (by omega) (by omega), gOff_at h2 h3]
  rw [if_neg b]
  by_cases c : dead (gBurn (gOff w u) u) u = true
  · rw [if_pos c, gTell_lo w2.e (by omega), gBurn_at w1.e (by omega) h1 (by omega), gOff_at h2 h3]
  · rw [if_neg c, gFin_at (by omega) (by omega), gBurn_at w1.e (by omega) h1 (by omega), gOff_at h2 h3]
theorem gTurn_yes {w : RW} {u : Nat} (h : gTok w u = true) : gTurn w u 166 = Int32.ofNat u ∧ dead (gTurn w u) u = false := by
  have fin : ∀ x : RW, dead x u = false → gFin x u 166 = Int32.ofNat u ∧ dead (gFin x u) u = false := fun x hx =>
    ⟨by unfold gFin; rw [zup_ne (by omega), zup_eq], by
      by_cases q : 67 + 11 * u + 3 = 166 ∨ 67 + 11 * u + 3 = 167
      · omega
      · rw [← hx]; exact dead_c (gFin_at (by omega) (by omega))⟩
  unfold gTok at h
  unfold gTurn
  have h1 : dead w u = false := by revert h; cases dead w u <;> simp
  rw [if_neg (by rw [h1]; decide)]
  by_cases b : w (67 + 11 * u + 8) ≤ 0
  · rw [if_pos b]
    exact fin _ (by rw [← h1]; exact dead_c (gOff_at (by omega) (by omega)))
  · rw [if_neg b]
    have h2 : dead (gBurn (gOff w u) u) u = false := by
      rw [h1, decide_eq_false b] at h; simpa using h
    rw [if_neg (by rw [h2]; decide)]
    exact fin _ h2
theorem gTurn_no {w : RW} (hW : WF w) {u : Nat} (hu : u < nU w) (h : gTok w u = false) : gTurn w u 166 = w 166 ∧ gTurn w u 167 = w 167 ∧ dead (gTurn w u) u = true := by
  have u8 := hW.u8
  have w1 := hW.off hu
  have w2 := w1.burn (by rw [gOff_u (by omega)]; exact hu)
  unfold gTok at h
  unfold gTurn
  by_cases a : dead w u = true
  · rw [if_pos a]; exact ⟨rfl, rfl, a⟩
  have a' : dead w u = false := by simpa using a
  rw [if_neg a]
  by_cases b : w (67 + 11 * u + 8) ≤ 0
  · rw [a', decide_eq_true b] at h; exact absurd h (by simp)
  rw [if_neg b]
  have c : dead (gBurn (gOff w u) u) u = true := by
    rw [a', decide_eq_false b] at h; simpa using h
  rw [if_pos c]
  refine ⟨?_, ?_, ?_⟩
  · rw [gTell_lo w2.e (by omega), gBurn_at w1.e (by omega) (by omega) (by omega), gOff_at (by omega) (by omega)]
  · rw [gTell_lo w2.e (by omega), gBurn_at w1.e (by omega) (by omega) (by omega), gOff_at (by omega) (by omega)]
  · rw [← c]; exact dead_c (gTell_lo w2.e (by omega))
/-- who died stays dead -/
theorem gTurn_dead {w : RW} (hW : WF w) {u v : Nat} (hu : u < nU w) (hv : v < 8) (h : dead w v = true) : dead (gTurn w u) v = true := by
  by_cases e : v = u
  · subst e
    have : gTurn w v = w := by unfold gTurn; rw [if_pos h]
    rw [this]; exact h
  · rw [← h]; exact dead_c (gTurn_at hW hu (by omega) (by omega) (by omega) (by have := hW.u8; omega))
section
variable {n a : Nat} {V : VS} {w : RW}
theorem c_fin43 (hL : zLay V) (ha : a ∈ zB) (hW : WF w) (h : Rp a V w) {u : Nat} (hu : u < nU w) : ∃ U, eX2_beginTurn_43 n V a (a + 9 + u) = rt () U ∧ Rp a U (if dead w u = true then gTell w 4 (Int32.ofNat u) 0 else gFin w u) ∧ FrC a V U := by
  have u8 := hW.u8
  unfold eX2_beginTurn_43
  rw [c_lives h hu (by omega), bd_rt]
  by_cases d : dead w u = true
  · rw [if_pos d, if_pos rfl, if_pos d, zr11 hL ha, ob_1, h.num (by omega)]
    obtain ⟨U, e, r, f⟩ := c_note (n := n) hL ha h hW.e (k := 4) (u := Int32.ofNat u) (x := 0)
    rw [e, bd_rt]
    exact ⟨U, rfl, r, f⟩
  · rw [if_neg d, if_neg (by decide), if_neg d, sq_eq, h.num (by omega)]
    have l1 : zLay (wI V a 6 (Int32.ofNat u)) := zLay_wI hL
    have r1 : Rp a (wI V a 6 (Int32.ofNat u)) (zup w 166 (Int32.ofNat u)) := h.wcur hL ha
    have f1 : FrC a V (wI V a 6 (Int32.ofNat u)) := (FrC.rf hL).w0
    have s1 : vI (wI V a 6 (Int32.ofNat u)) (a + 9 + u) 9 = w (67 + 11 * u + 7) := by
      rw [show vI (wI V a 6 (Int32.ofNat u)) (a + 9 + u) 9 = _ from r1.u (by rw [nU_z (by omega)]; exact hu) (by omega) (j := 7) (by decide), zup_ne (by omega)]
    rw [s1]
    unfold gFin
    by_cases g : w (67 + 11 * u + 7) ≤ 0
    · rw [if_pos g, if_pos g, sq_eq]
      exact ⟨_, rfl, r1.wacts l1 ha, f1.w0⟩
    · rw [if_neg g, if_neg g, sq_eq]
      exact ⟨_, rfl, r1.wacts l1 ha, f1.w0⟩
theorem c_beginTurn (hL : zLay V) (ha : a ∈ zB) (hW : WF w) (h : Rp a V w) {u : Nat} (hu : u < nU w) : ∃ U, ev_X2_beginTurn n V a (a + 9 + u) = rt () U ∧ Rp a U (gTurn w u) ∧ FrC a V U := by
  have u8 := hW.u8
  unfold ev_X2_beginTurn eX2_beginTurn_0 gTurn
  rw [c_lives h hu (by omega), bd_rt]
  by_cases d : dead w u = true
  · rw [if_pos d, if_pos rfl, if_pos d]
    exact ⟨V, rfl, h, FrC.rf hL⟩
  rw [if_neg d, if_neg (by decide), if_neg d]
  simp only [sq_eq]
  have l1 : zLay (wI V (a + 9 + u) 11 0) := zLay_wI hL
  have l2 : zLay (wI (wI V (a + 9 + u) 11 0) (a + 9 + u) 12 0) := zLay_wI l1
  have r1 : Rp a (wI V (a + 9 + u) 11 0) (zup w (67 + 11 * u + 9) 0) := h.wu hL ha (by omega) (j := 9) (by decide)
  have r2 : Rp a (wI (wI V (a + 9 + u) 11 0) (a + 9 + u) 12 0) (gOff w u) := r1.wu l1 ha (by omega) (j := 10) (by decide)
  have f2 : FrC a V (wI (wI V (a + 9 + u) 11 0) (a + 9 + u) 12 0) := ((FrC.rf hL).wu (by omega)).wu (by omega)
  have w2 := hW.off hu
  have nu2 : nU (gOff w u) = nU w := gOff_u (by omega)
  have hu2 : u < nU (gOff w u) := by rw [nu2]; exact hu
  have b2 : vI (wI (wI V (a + 9 + u) 11 0) (a + 9 + u) 12 0) (a + 9 + u) 10 = w (67 + 11 * u + 8) := by
    rw [show vI (wI (wI V (a + 9 + u) 11 0) (a + 9 + u) 12 0) (a + 9 + u) 10 = _ from r2.u hu2 (by omega) (j := 8) (by decide), gOff_at (by omega) (by omega)]
  have d2 : dead (gOff w u) u = dead w u := dead_c (gOff_at (by omega) (by omega))
  rw [b2]
  by_cases g : w (67 + 11 * u + 8) ≤ 0
  · rw [if_pos g, if_pos g]
    obtain ⟨U, e, r, f⟩ := c_fin43 (n := n) l2 ha w2 r2 hu2
    rw [d2, if_neg d] at r
    exact ⟨U, e, r, f2.tr f⟩
  · rw [if_neg g, if_neg g, c_lose r2 hu2 (by omega), bd_rt]
    have l3 : zLay (wI (wI (wI V (a + 9 + u) 11 0) (a + 9 + u) 12 0) (a + 9 + u) 5 (gHp (gOff w u) u 2)) := zLay_wI l2
    have r3 : Rp a (wI (wI (wI V (a + 9 + u) 11 0) (a + 9 + u) 12 0) (a + 9 + u) 5 (gHp (gOff w u) u 2)) (gLose (gOff w u) u 2) := r2.wu l2 ha (by omega) (j := 3) (by decide)
    have w3 : WF (gLose (gOff w u) u 2) := w2.lose (m := 2) hu2 (by omega)
    rw [zr11 l3 ha, ob_1, r3.num (by omega)]
    obtain ⟨T, eT, rT, fT⟩ := c_note (n := n) l3 ha r3 w3.e (k := 5) (u := Int32.ofNat u) (x := 2)
    rw [eT, bd_rt]
    have hu4 : u < nU (gBurn (gOff w u) u) := by
      unfold nU; rw [gBurn_at w2.e (by omega) (by omega) (by omega)]; exact hu2
    obtain ⟨U, e, r, f⟩ := c_fin43 (n := n) fT.1 ha (w2.burn hu2) rT hu4
    exact ⟨U, e, r, (((f2.wu (by omega)).tr fT).tr f)⟩
theorem r_fin54 (hL : zLay V) (hQ : Qr V w) {u : Nat} (hu : u < 8) : ∃ U, eX9_hasTurn_54 n V 207 (Int32.ofNat u) = rt (if dead w u = true then 0 else 1) U ∧ Qr U (if dead w u = true then w else gFin w u) ∧ FrR V U := by
  unfold eX9_hasTurn_54
  rw [r_lives hL hQ hu, bd_rt]
  by_cases d : dead w u = true
  · rw [if_pos d, if_pos rfl, if_pos d]
    exact ⟨V, rfl, hQ, FrR.rf hL⟩
  · rw [if_neg d, if_neg (by decide), if_neg d]
    obtain ⟨g1, e1⟩ := r_v hL hQ (k := 166) (x := 166) (by decide) rfl
    have l1 : zLay (wI V 208 166 (Int32.ofNat u)) := zLay_wI hL
    have q1 : Qr (wI V 208 166 (Int32.ofNat u)) (zup w 166 (Int32.ofNat u)) := hQ.w hL
    obtain ⟨g2, e2⟩ := r_v l1 q1 (k := 167) (x := 167) (by decide) rfl
    rw [r71 hL, ob_1, if_pos g1, sq_eq, show (166 : Int32).toNatClampNeg = 166 from by decide +kernel, r71 l1, ob_1, r_of7 l1 q1 hu, bd_rt, zup_ne (by omega)]
    unfold gFin
    by_cases g : w (67 + 11 * u + 7) ≤ 0
    · rw [if_pos g, if_pos g, if_pos g2, sq_eq, show (167 : Int32).toNatClampNeg = 167 from by decide +kernel]
      exact ⟨_, rfl, q1.w l1, ((FrR.rf hL).w).w⟩
    · rw [if_neg g, if_neg g, if_pos g2, sq_eq, show (167 : Int32).toNatClampNeg = 167 from by decide +kernel]
      exact ⟨_, rfl, q1.w l1, ((FrR.rf hL).w).w⟩
theorem r_hasTurn (hn : 120 < n) (hL : zLay V) (hQ : Qr V w) (hW : WF w) {u : Nat} (hu : u < nU w) : ∃ U, ev_X9_hasTurn n V 207 (Int32.ofNat u) = rt (if gTok w u = true then 1 else 0) U ∧ Qr U (gTurn w u) ∧ FrR V U := by
  have u8 := hW.u8
  unfold ev_X9_hasTurn eX9_hasTurn_0 gTurn gTok
  rw [r_lives hL hQ (by omega), bd_rt]
  by_cases d : dead w u = true
  · rw [if_pos d, if_pos rfl, if_pos d, d]
    exact ⟨V, rfl, hQ, FrR.rf hL⟩
  have d' : dead w u = false := by simpa using d
  rw [if_neg d, if_neg (by decide), if_neg d, d', r_setj (x := 9) (j := 9) hL (by omega) (by decide) rfl, bd_rt]
  have l1 : zLay (wI V 208 (67 + 11 * u + 9) 0) := zLay_wI hL
  have q1 : Qr (wI V 208 (67 + 11 * u + 9) 0) (zup w (67 + 11 * u + 9) 0) := hQ.w hL
  rw [r_setj (x := 10) (j := 10) l1 (by omega) (by decide) rfl, bd_rt]
  have l2 : zLay (wI (wI V 208 (67 + 11 * u + 9) 0) 208 (67 + 11 * u + 10) 0) := zLay_wI l1
  have q2 : Qr (wI (wI V 208 (67 + 11 * u + 9) 0) 208 (67 + 11 * u + 10) 0) (gOff w u) := q1.w l1
  have f2 : FrR V (wI (wI V 208 (67 + 11 * u + 9) 0) 208 (67 + 11 * u + 10) 0) := ((FrR.rf hL).w).w
  have w2 := hW.off hu
  have hu2 : u < nU (gOff w u) := by rw [gOff_u (by omega)]; exact hu
  have d2 : dead (gOff w u) u = dead w u := dead_c (gOff_at (by omega) (by omega))
  rw [r_of8 l2 q2 (by omega), bd_rt, gOff_at (by omega) (by omega)]
  by_cases g : w (67 + 11 * u + 8) ≤ 0
  · rw [if_pos g, if_pos g, decide_eq_true g]
    obtain ⟨U, e, r, f⟩ := r_fin54 (n := n) l2 q2 (u := u) (by omega)
    rw [d2, d'] at r e
    rw [e]
    exact ⟨U, rfl, r, f2.tr f⟩
  · rw [if_neg g, if_neg g, decide_eq_false g]
    rw [r_loses (x := 2) (m := 2) (b := 18) l2 q2 (by omega) (w2.f hu2 (j := 3) (by omega)) (by omega) (by omega) rfl, bd_rt]
    have l3 : zLay (wI (wI (wI V 208 (67 + 11 * u + 9) 0) 208 (67 + 11 * u + 10) 0) 208 (67 + 11 * u + 3) (gHp (gOff w u) u 2)) := zLay_wI l2
    have q3 : Qr (wI (wI (wI V 208 (67 + 11 * u + 9) 0) 208 (67 + 11 * u + 10) 0) 208 (67 + 11 * u + 3) (gHp (gOff w u) u 2)) (gLose (gOff w u) u 2) := q2.w l2
    have w3 : WF (gLose (gOff w u) u 2) := w2.lose (m := 2) hu2 (by omega)
    obtain ⟨T, eT, qT, fT⟩ := r_tells (n := n) hn l3 q3 w3.e (k := 5) (u := Int32.ofNat u) (x := 2)
    rw [eT, bd_rt]
    have w4 : WF (gBurn (gOff w u) u) := w2.burn hu2
    obtain ⟨S, eS, qS, fS⟩ := r_dies (n := n) (w := gBurn (gOff w u) u) hn fT.1 qT w4.e (u := u) (by omega)
    rw [eS, bd_rt]
    have f4 : FrR V S := ((f2.w).tr fT).tr fS
    by_cases c : dead (gBurn (gOff w u) u) u = true
    · have c4 : dead (gTell (gBurn (gOff w u) u) 4 (Int32.ofNat u) 0) u = true := by rw [← c]; exact dead_c (gTell_lo w4.e (by omega))
      have tk : (!false && (false || !dead (gBurn (gOff w u) u) u)) = false := by rw [c]; rfl
      have qq : Qr S (gTell (gBurn (gOff w u) u) 4 (Int32.ofNat u) 0) := by rw [if_pos c] at qS; exact qS
      obtain ⟨U, e, r, f⟩ := r_fin54 (n := n) fS.1 qq (u := u) (by omega)
      rw [if_pos c4] at e r
      rw [tk, if_pos c, e]
      exact ⟨U, rfl, r, f4.tr f⟩
    · have c' : dead (gBurn (gOff w u) u) u = false := by simpa using c
      have tk : (!false && (false || !dead (gBurn (gOff w u) u) u)) = true := by rw [c']; rfl
      have qq : Qr S (gBurn (gOff w u) u) := by rw [if_neg c] at qS; exact qS
      obtain ⟨U, e, r, f⟩ := r_fin54 (n := n) fS.1 qq (u := u) (by omega)
      rw [if_neg c] at e r
      rw [tk, if_neg c, e]
      exact ⟨U, rfl, r, f4.tr f⟩
end
