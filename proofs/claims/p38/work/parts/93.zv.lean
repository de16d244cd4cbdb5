/-! the commands, carried out by the reference -/
section
variable {n : Nat} {V : VS} {w p : RW} {t x b : Nat}
theorem r_settled {q : RW} {z : Int32} (hn : 120 < n) (hL : zLay V) (hQ : Qr V q) (hC : CT q t) (hr : ¬ q 156 ≤ 0) (hb : Nb (q 156) b) (hbd : b + 16 < 2000000) : ∃ U, eX9_does_195 n V 207 z = rt z U ∧ Qr U (gSettle q) ∧ FrP V U := by
  unfold eX9_does_195
  obtain ⟨U, e, r, f⟩ := r_settles (n := n) hn hL hQ hC hr hb hbd
  rw [e, bd_rt]
  exact ⟨U, rfl, r, f⟩
theorem r_moves {u : Nat} (hn : 200 < n) (hL : zLay V) (hQ : Qr V p) (hp : WF p) (hu : u < nU p) (hx : x < nR p * nC p) (hE : EqD p x (Dm p x)) (h6 : Dm p x (cellN p u) ≤ 6) : ∃ U, ev_X9_moves n V 207 (Int32.ofNat u) (Int32.ofNat x) = rt (gMoved p u x (67 + 11 * u + 2)) U ∧ Qr U (gM3 p u x) ∧ FrP V U := by
  have u8 := hp.u8
  unfold ev_X9_moves eX9_moves_0
  obtain ⟨T, eT, aT, fT, qT⟩ := r_measures (n := n) hn hL hQ hp hE hx
  rw [eT, bd_rt, r_of2 fT.1 qT (by omega), bd_rt]
  obtain ⟨S, eS, qS, fS⟩ := r_wk (n := n) (u := u) (by omega) hp hE hx 64 n T p (by omega) fT.1 qT hp (fun _ _ => rfl) hu (by omega) (by omega) (Nat.le_refl _) (fun _ _ => rfl) (fun _ _ _ => rfl) aT
  have eS' : elX9_moves_15 n n T 207 (Int32.ofNat u) (Int32.ofNat x) (p (67 + 11 * u + 2)) 0 = eX9_moves_69 n S 207 (Int32.ofNat u) (gMoved p u x (67 + 11 * u + 2)) := eS
  have qS' : Qr S (gMoved p u x) := qS
  obtain ⟨wM, kM⟩ := moved_p hp hu hE
  rw [eS']
  unfold eX9_moves_69
  obtain ⟨U, eU, qU, fU⟩ := r_tells (n := n) (by omega) fS.1 qS' wM.e (k := 1) (u := Int32.ofNat u) (x := gMoved p u x (67 + 11 * u + 2))
  rw [eU, bd_rt]
  exact ⟨U, rfl, qU, (fT.p.tr fS.p).tr fU.p⟩
theorem r_throwsAt {u : Nat} (hn : 120 < n) (hL : zLay V) (hQ : Qr V p) (hp : WF p) (hu : u < nU p) (hx : x < nR p * nC p) (hs : ¬ p (67 + 11 * u + 5) ≤ 0) : ∃ U, ev_X9_throwsAt n V 207 (Int32.ofNat u) (Int32.ofNat x) = rt (Int32.ofNat (gHr p u x).2) U ∧ Qr U (gHr p u x).1 ∧ FrP V U := by
  have u8 := hp.u8
  unfold ev_X9_throwsAt eX9_throwsAt_0
  rw [r_of5 hL hQ (by omega), bd_rt, r_setj (x := 5) (j := 5) hL (by omega) (by decide) rfl, bd_rt]
  have l1 : zLay (wI V 208 (67 + 11 * u + 5) (p (67 + 11 * u + 5) - 1)) := zLay_wI hL
  have q1 : Qr (wI V 208 (67 + 11 * u + 5) (p (67 + 11 * u + 5) - 1)) (zup p (67 + 11 * u + 5) (p (67 + 11 * u + 5) - 1)) := hQ.w hL
  have f1 : FrR V (wI V 208 (67 + 11 * u + 5) (p (67 + 11 * u + 5) - 1)) := (FrR.rf hL).w
  generalize wI V 208 (67 + 11 * u + 5) (p (67 + 11 * u + 5) - 1) = V1 at l1 q1 f1 ⊢
  obtain ⟨T, eT, qT, fT⟩ := r_tells (n := n) hn l1 q1 (hl_W hp hu hs).e (k := 8) (u := Int32.ofNat u) (x := Int32.ofNat x)
  rw [eT, bd_rt]
  have qT' : Qr T (gHl p u x) := qT
  have nH : Hid _ := hl_u (x := x) hp hu hs
  have n9 : nU (gHl p u x) < n := by rw [nH.o.1]; omega
  have px' : x < nR (gHl p u x) * nC (gHl p u x) := by rw [nH.o.2.1, nH.o.2.2]; exact hx
  have fn := r_throwL (n := n) (c := x) hn (nU (gHl p u x)) n 0 0 T (gHl p u x) (Nat.zero_add _) n9 fT.1 qT' (hl_W hp hu hs).tell px'
  rw [← gHr_e, Nat.zero_add] at fn
  clear n9 px'
  obtain ⟨U, eU, qU, fU⟩ := fn
  exact ⟨U, eU, qU, ((f1.tr fT).tr fU).p⟩
theorem r_ends (hn : 120 < n) (hL : zLay V) (hQ : Qr V p) (hC : CT p t) (hr : ¬ p 156 ≤ 0) (hb : Nb (p 156) b) (hbd : b + 16 < 2000000) : ∃ U, ev_X9_ends n V 207 (Int32.ofNat (ord p t)) = rt (gPassT (gE2 p (ord p t)) 166) U ∧ Qr U (gPassT (gE2 p (ord p t))) ∧ FrP V U := by
  have hp := hC.1; have u8 := hp.u8; have hu := hC.u
  obtain ⟨w1, k1⟩ := e1_p hp hu
  obtain ⟨w2, k2⟩ := e2_p hp hu
  have qC := (hC.c w2 (fun k hk => k2 k (by omega) (by omega))).1
  have fin : ∀ T : VS, zLay T → Qr T (gE2 p (ord p t)) → FrP V T → ∃ U, eX9_ends_52 n T 207 = rt (gPassT (gE2 p (ord p t)) 166) U ∧ Qr U (gPassT (gE2 p (ord p t))) ∧ FrP V U := by
    intro T lT qT fT
    unfold eX9_ends_52
    rw [r_place (by omega) lT qT qC, bd_rt]
    obtain ⟨U, e, q, f⟩ := r_goesOn (n := n) hn lT qT qC.P qC.2.2.1.symm (by rw [k2 156 (by omega) (by omega)]; exact hr) (by rw [k2 156 (by omega) (by omega)]; exact hb) hbd (Fin_pass qC)
    obtain ⟨g6, e6⟩ := r_v f.1 q (k := 166) (x := 166) (by decide) rfl
    rw [e, bd_rt, r71 f.1, ob_1, if_pos g6, e6]
    exact ⟨U, rfl, q, fT.tr f⟩
  have mid : ∀ T : VS, zLay T → Qr T (gE1 p (ord p t)) → FrP V T → ∃ U, eX9_ends_26 n T 207 (Int32.ofNat (ord p t)) = rt (gPassT (gE2 p (ord p t)) 166) U ∧ Qr U (gPassT (gE2 p (ord p t))) ∧ FrP V U := by
    intro T lT qT fT
    unfold eX9_ends_26
    rw [r_of8 lT qT (by omega), bd_rt]
    by_cases g : gE1 p (ord p t) (67 + 11 * ord p t + 8) ≤ 0
    · rw [if_pos g]
      exact fin T lT (by unfold gE2; rw [if_pos g]; exact qT) fT
    · rw [if_neg g, r_of8 lT qT (by omega), bd_rt, r_setj (x := 8) (j := 8) lT (by omega) (by decide) rfl, bd_rt]
      exact fin _ (zLay_wI lT) (by unfold gE2; rw [if_neg g]; exact qT.w lT) (fT.tr ((FrR.rf lT).w).p)
  unfold ev_X9_ends eX9_ends_0
  rw [r_of7 hL hQ (by omega), bd_rt]
  by_cases g : p (67 + 11 * ord p t + 7) ≤ 0
  · rw [if_pos g]
    exact mid V hL (by unfold gE1; rw [if_pos g]; exact hQ) (FrR.rf hL).p
  · rw [if_neg g, r_of7 hL hQ (by omega), bd_rt, r_setj (x := 7) (j := 7) hL (by omega) (by decide) rfl, bd_rt]
    exact mid _ (zLay_wI hL) (by unfold gE1; rw [if_neg g]; exact hQ.w hL) ((FrR.rf hL).w).p
theorem r_act0 {u : Nat} (hn : 200 < n) (hL : zLay V) (hQ : Qr V p) (h : PQ w p t u b) (hbd : b + 16 < 2000000) (px : x < nR p * nC p) (hE : EqD p x (Dm p x)) (h6 : Dm p x (cellN p u) ≤ 6) : ∃ U, bd (ev_X9_moves n V 207 (Int32.ofNat u) (Int32.ofNat x)) (fun r5 V4 => eX9_does_195 n V4 207 r5) th = rt (gMoved p u x (67 + 11 * u + 2)) U ∧ Qr U (gSettle (gM3 p u x)) ∧ FrP V U := by
  have u8 := h.u8
  obtain ⟨T, e, q, f⟩ := r_moves (n := n) hn hL hQ h.W h.un px hE h6
  rw [e, bd_rt]
  obtain ⟨w3, k3, c3⟩ := m3_p h.W h.un hE
  have qC := (h.C.c w3 (fun k hk => k3 k (by unfold Kp; omega) (by omega) (by omega) (by omega))).1
  have e6 : gM3 p u x 156 = p 156 := k3 156 (by unfold Kp; omega) (by omega) (by omega) (by omega)
  clear k3 c3 w3
  generalize gM3 p u x = y at q qC e6 ⊢
  generalize gMoved p u x (67 + 11 * u + 2) = z
  obtain ⟨U, eU, qU, fU⟩ := r_settled (n := n) (z := z) (by omega) f.1 q qC (by rw [e6]; exact h.r) (by rw [e6]; exact h.bn) hbd
  exact ⟨U, eU, qU, f.tr fU⟩
theorem r_act1 {u : Nat} (hn : 200 < n) (hL : zLay V) (hQ : Qr V p) (h : PQ w p t u b) (hbd : b + 16 < 2000000) (px : x < nU p) (s4 : ¬ p (67 + 11 * u + 4) ≤ 0) : ∃ U, bd (ev_X9_attacks n V 207 (Int32.ofNat u) (Int32.ofNat x)) (fun r7 V6 => eX9_does_195 n V6 207 r7) th = rt (Int32.ofNat (gStrD p u x)) U ∧ Qr U (gSettle (gStrike p u x)) ∧ FrP V U := by
  have u8 := h.u8; have p8 := h.W.u8
  obtain ⟨T, e, q, f⟩ := r_attacks (n := n) (by omega) hL hQ h.W h.un px s4
  rw [e, bd_rt]
  have k3 : ∀ k, (156 ≤ k ∧ k ≤ 166) ∨ k = 290 → gStrike p u x k = p k := fun k hk => strike_at h.W h.un px s4 (by omega) (by omega) (by omega) (by omega)
  have qC := (h.C.c (h.W.strike h.un px s4) (fun k hk => k3 k (by omega))).1
  have e6 := k3 156 (by omega)
  clear k3
  generalize gStrike p u x = y at q qC e6 ⊢
  generalize Int32.ofNat (gStrD p u x) = z
  obtain ⟨U, eU, qU, fU⟩ := r_settled (n := n) (z := z) (by omega) f.1 q qC (by rw [e6]; exact h.r) (by rw [e6]; exact h.bn) hbd
  exact ⟨U, eU, qU, f.p.tr fU⟩
theorem r_act2 {u : Nat} (hn : 200 < n) (hL : zLay V) (hQ : Qr V p) (h : PQ w p t u b) (hbd : b + 16 < 2000000) (px : x < nR p * nC p) (s5 : ¬ p (67 + 11 * u + 5) ≤ 0) : ∃ U, bd (ev_X9_throwsAt n V 207 (Int32.ofNat u) (Int32.ofNat x)) (fun r9 V8 => eX9_does_195 n V8 207 r9) th = rt (Int32.ofNat (gHr p u x).2) U ∧ Qr U (gSettle (gHr p u x).1) ∧ FrP V U := by
  have u8 := h.u8
  obtain ⟨w3, k3⟩ := hr_p (x := x) h.W h.un s5
  have fn := r_throwsAt (n := n) (by omega) hL hQ h.W h.un px s5
  generalize gHr p u x = y at w3 k3 fn ⊢
  obtain ⟨T, e, q, f⟩ := fn
  rw [e, bd_rt]
  have qC := (h.C.c w3 (fun k hk => k3 k (by unfold Kh; omega) (by omega) (by omega))).1
  have e6 := k3 156 (by unfold Kh; omega) (by omega) (by omega)
  clear k3
  obtain ⟨y1, y2⟩ := y
  obtain ⟨U, eU, qU, fU⟩ := r_settled (n := n) (z := Int32.ofNat y2) (by omega) f.1 q qC (by rw [e6]; exact h.r) (by rw [e6]; exact h.bn) hbd
  exact ⟨U, eU, qU, f.tr fU⟩
theorem r_act3 {u : Nat} (hL : zLay V) (hQ : Qr V p) (u8 : u < 8) : ∃ U, bd (ev_X9_sets n V 207 (Int32.ofNat u) 9 1) (fun _ V10 => (vR V10 207 1).bind (fun a11v => (if gvp_in 167 (vN V10 a11v) = true then rt (vI V10 a11v (167 : Int32).toNatClampNeg) V10 else none))) th = rt (p 167) U ∧ Qr U (zup p (67 + 11 * u + 9) 1) ∧ FrP V U := by
  rw [r_setj (x := 9) (j := 9) hL u8 (by decide) rfl, bd_rt]
  have l2 : zLay (wI V 208 (67 + 11 * u + 9) 1) := zLay_wI hL
  have q2 : Qr (wI V 208 (67 + 11 * u + 9) 1) (zup p (67 + 11 * u + 9) 1) := hQ.w hL
  obtain ⟨g8, e8⟩ := r_v l2 q2 (k := 167) (x := 167) (by decide) rfl
  rw [r71 l2, ob_1, if_pos g8, e8, zup_ne (by omega)]
  exact ⟨_, rfl, q2, ((FrR.rf hL).w).p⟩
theorem r_act6 {u : Nat} (hn : 120 < n) (hL : zLay V) (hQ : Qr V p) (h : PQ w p t u b) (hbd : b + 16 < 2000000) : ∃ U, bd (ev_X9_ends n V 207 (Int32.ofNat u)) (fun r3 V2 => rt r3 V2) th = rt (gPassT (gE2 p u) 166) U ∧ Qr U (gPassT (gE2 p u)) ∧ FrP V U := by
  have po := h.2.1
  obtain ⟨U, e, q, f⟩ := r_ends (n := n) hn hL hQ h.C h.r h.bn hbd
  rw [po] at e q
  rw [e, bd_rt]
  exact ⟨U, rfl, q, f⟩
theorem r_does62 {kind : Nat} {w2v : Nat} {z0 z1 had : Int32} (hn : 200 < n) (hL : zLay V) (hS : Fgt w t) (hl : LG w (ord w t) kind x) (hr : ¬ w 156 ≤ 0) (hb : Nb (w 156) b) (hbd : b + 16 < 2000000) (e2 : w2v = 208) (e1 : z1 = 167) (eh : had = w 167) (hQ : Qr V (zup w 289 (w 289 + 1))) (ez : z0 = (if kind = 4 then 0 else if kind = 6 then w 167 else w 167 - 1)) : ∃ U, eX9_does_62 n V 207 (Int32.ofNat kind) (Int32.ofNat x) (Int32.ofNat (ord w t)) had z0 z1 w2v = rt (gDo w kind x).2 U ∧ Qr U (gDo w kind x).1 ∧ FrP V U := by
  subst e2; subst e1; subst eh; subst ez
  have hC := hS.1
  have hq := pre_PQ hS hl hr hb
  have hu := hC.u; have u8 := hC.1.u8
  have o8 : ord w t < 8 := by omega
  obtain ⟨g7, _⟩ := r_v hL hQ (k := 167) (x := 167) (by decide) rfl
  unfold eX9_does_62
  rw [if_pos g7, sq_eq, show (167 : Int32).toNatClampNeg = 167 from by decide +kernel]
  have l1 : zLay (wI V 208 167 (if kind = 4 then 0 else if kind = 6 then w 167 else w 167 - 1)) := zLay_wI hL
  have q1 : Qr (wI V 208 167 (if kind = 4 then 0 else if kind = 6 then w 167 else w 167 - 1)) (gPre w kind) := hQ.w hL
  have f1 : FrP V (wI V 208 167 (if kind = 4 then 0 else if kind = 6 then w 167 else w 167 - 1)) := ((FrR.rf hL).w).p
  generalize wI V 208 167 (if kind = 4 then 0 else if kind = 6 then w 167 else w 167 - 1) = V1 at l1 q1 f1 ⊢
  rw [gDo_e hC]
  have hW := hC.1
  have hp := pre_W hC.1 hl
  have hl' := hl
  unfold LG at hl'
  rcases hl' with a | a | a | a | a | a | a
  · obtain ⟨rfl, _⟩ := a
    have m := show Hid _ from mv_f hW hu hl.m hp
    rw [gAct0, fst_mk, snd_mk, if_neg (by decide), if_pos (by decide)]
    clear hl hp hC hS
    generalize gPre w 0 = p at hq q1 m ⊢
    obtain ⟨U, e, q, f⟩ := r_act0 (n := n) hn l1 q1 hq hbd m.o.1 m.o.2.2.2.1 m.o.2.2.2.2
    exact ⟨U, e, q, f1.tr f⟩
  · obtain ⟨rfl, _⟩ := a
    obtain ⟨x1, x2⟩ := hl.s
    have px : x < nU (gPre w 1) := by rw [pre_u]; exact x1
    have s4 : ¬ gPre w 1 (67 + 11 * ord w t + 4) ≤ 0 := by rw [pre_at (by omega) (by omega)]; exact x2
    rw [gAct1, fst_mk, snd_mk, if_neg (by decide), if_neg (by decide), if_pos (by decide)]
    clear hl hp hC hS
    generalize gPre w 1 = p at hq q1 px s4 ⊢
    obtain ⟨U, e, q, f⟩ := r_act1 (n := n) hn l1 q1 hq hbd px s4
    exact ⟨U, e, q, f1.tr f⟩
  · obtain ⟨rfl, _⟩ := a
    obtain ⟨x1, x2⟩ := hl.h
    have px : x < nR (gPre w 2) * nC (gPre w 2) := by rw [pre_N.1, pre_N.2]; exact x1
    have s5 : ¬ gPre w 2 (67 + 11 * ord w t + 5) ≤ 0 := by rw [pre_at (by omega) (by omega)]; exact x2
    rw [gAct2, fst_mk, snd_mk, if_neg (by decide), if_neg (by decide), if_neg (by decide), if_pos (by decide)]
    clear hl hp hC hS
    generalize gPre w 2 = p at hq q1 px s5 ⊢
    have fn := r_act2 (n := n) hn l1 q1 hq hbd px s5
    generalize gHr p (ord w t) x = y at fn ⊢
    obtain ⟨U, e, q, f⟩ := fn
    exact ⟨U, e, q, f1.tr f⟩
  · obtain ⟨rfl, _⟩ := a
    rw [gAct3, fst_mk, snd_mk, if_neg (by decide), if_neg (by decide), if_neg (by decide), if_neg (by decide), if_pos (by decide)]
    generalize gPre w 3 = p at q1 ⊢
    obtain ⟨U, e, q, f⟩ := r_act3 (n := n) l1 q1 o8
    exact ⟨U, e, q, f1.tr f⟩
  · subst a
    rw [gAct4, fst_mk, snd_mk, if_neg (by decide), if_neg (by decide), if_neg (by decide), if_neg (by decide), if_neg (by decide), if_pos (by decide)]
    rw [r_setj (x := 10) (j := 10) l1 o8 (by decide) rfl, bd_rt]
    exact ⟨_, rfl, q1.w l1, f1.tr ((FrR.rf l1).w).p⟩
  · obtain ⟨rfl, _⟩ := a
    rw [gAct5, fst_mk, snd_mk, if_neg (by decide), if_neg (by decide), if_neg (by decide), if_neg (by decide), if_neg (by decide), if_neg (by decide), if_pos (by decide)]
    rw [r_of4 l1 q1 o8, bd_rt, r_kindly (y := 7) (q := 7) l1 q1 hp hq.un (by decide) rfl, bd_rt, r_setj (x := 4) (j := 4) l1 o8 (by decide) rfl, bd_rt]
    exact ⟨_, rfl, q1.w l1, f1.tr ((FrR.rf l1).w).p⟩
  · subst a
    rw [gAct6, fst_mk, snd_mk, if_pos (by decide)]
    clear hl hp hC hS
    generalize gPre w 6 = p at hq q1 ⊢
    obtain ⟨U, e, q, f⟩ := r_act6 (n := n) (by omega) l1 q1 hq hbd
    exact ⟨U, e, q, f1.tr f⟩
theorem r_does {kind : Nat} (hn : 200 < n) (hL : zLay V) (hQ : Qr V w) (hS : Fgt w t) (hl : LG w (ord w t) kind x) (hr : ¬ w 156 ≤ 0) (hb : Nb (w 156) b) (hbd : b + 16 < 2000000) : ∃ U, ev_X9_does n V 207 (Int32.ofNat kind) (Int32.ofNat x) = rt (gDo w kind x).2 U ∧ Qr U (gDo w kind x).1 ∧ FrP V U := by
  have hC := hS.1
  have k7 : kind < 7 := by
    unfold LG at hl
    omega
  obtain ⟨g9, e9⟩ := r_v hL hQ (k := 289) (x := 289) (by decide) rfl
  unfold ev_X9_does eX9_does_0
  rw [r71 hL, ob_1, if_pos g9, if_pos g9, e9, sq_eq, show (289 : Int32).toNatClampNeg = 289 from by decide +kernel]
  have l1 : zLay (wI V 208 289 (w 289 + 1)) := zLay_wI hL
  have q1 : Qr (wI V 208 289 (w 289 + 1)) (zup w 289 (w 289 + 1)) := hQ.w hL
  have f1 : FrP V (wI V 208 289 (w 289 + 1)) := ((FrR.rf hL).w).p
  generalize wI V 208 289 (w 289 + 1) = V1 at l1 q1 f1 ⊢
  obtain ⟨g6, e6⟩ := r_v l1 q1 (k := 166) (x := 166) (by decide) rfl
  obtain ⟨g7, e7⟩ := r_v l1 q1 (k := 167) (x := 167) (by decide) rfl
  rw [r71 l1, ob_1, if_pos g6, ob_1, if_pos g7, ob_1, e6, e7, zup_ne (by omega), zup_ne (by omega), hC.2.2.2]
  have key : ∀ z0 : Int32, z0 = (if kind = 4 then 0 else if kind = 6 then w 167 else w 167 - 1) → ∃ U, eX9_does_62 n V1 207 (Int32.ofNat kind) (Int32.ofNat x) (Int32.ofNat (ord w t)) (w 167) z0 167 208 = rt (gDo w kind x).2 U ∧ Qr U (gDo w kind x).1 ∧ FrP V U := fun z0 ez => by
    obtain ⟨U, e, q, f⟩ := r_does62 (n := n) (z0 := z0) hn l1 hS hl hr hb hbd rfl rfl rfl q1 ez
    exact ⟨U, e, q, f1.tr f⟩
  by_cases k4 : kind = 4
  · subst k4
    rw [if_pos (by decide)]
    exact key 0 (by rw [if_pos rfl])
  rw [if_neg (fun e => by exact k4 ((of_inj (b := 4) (by omega) (by omega)).mp e))]
  by_cases k6 : kind = 6
  · subst k6
    rw [if_pos (by decide)]
    exact key _ (by rw [if_neg (by decide), if_pos rfl])
  rw [if_neg (fun e => by exact k6 ((of_inj (b := 6) (by omega) (by omega)).mp e))]
  exact key _ (by rw [if_neg k4, if_neg k6])
end
