/-! the commands, carried out by the class -/
def FrW (a : Nat) (V U : VS) : Prop := zLay U ∧ ∀ i, ¬ (a ≤ i ∧ i < a + 17) → ¬ (197 ≤ i ∧ i < 201) → vC U i = vC V i
theorem FrC.W {a : Nat} {V U : VS} (h : FrC a V U) : FrW a V U := ⟨h.1, fun i hi _ => h.2 i hi⟩
theorem FrA.W {a : Nat} {V U : VS} (h : FrA V U) : FrW a V U := ⟨h.1, fun i _ hi => h.2 i hi⟩
theorem FrW.tr {a : Nat} {V U T : VS} (h : FrW a V U) (g : FrW a U T) : FrW a V T := ⟨g.1, fun i hi hj => (g.2 i hi hj).trans (h.2 i hi hj)⟩
theorem LG.m {w : RW} {u x : Nat} (h : LG w u 0 x) : x < nR w * nC w ∧ cellN w u ≠ x ∧ 0 < ent w x ∧ (∃ f, EqD w x f ∧ f (cellN w u) ≤ 6) := by
  unfold LG at h
  rcases h with a | a | a | a | a | a | a
  · exact ⟨a.2.1, a.2.2.1, a.2.2.2.1, a.2.2.2.2.1⟩
  · exact absurd a.1 (by decide)
  · exact absurd a.1 (by decide)
  · exact absurd a.1 (by decide)
  · exact absurd a (by decide)
  · exact absurd a.1 (by decide)
  · exact absurd a (by decide)
theorem LG.s {w : RW} {u x : Nat} (h : LG w u 1 x) : x < nU w ∧ ¬ w (67 + 11 * u + 4) ≤ 0 := by
  unfold LG at h
  rcases h with a | a | a | a | a | a | a
  · exact absurd a.1 (by decide)
  · exact ⟨a.2.1, a.2.2.1⟩
  · exact absurd a.1 (by decide)
  · exact absurd a.1 (by decide)
  · exact absurd a (by decide)
  · exact absurd a.1 (by decide)
  · exact absurd a (by decide)
theorem LG.h {w : RW} {u x : Nat} (h : LG w u 2 x) : x < nR w * nC w ∧ ¬ w (67 + 11 * u + 5) ≤ 0 := by
  unfold LG at h
  rcases h with a | a | a | a | a | a | a
  · exact absurd a.1 (by decide)
  · exact absurd a.1 (by decide)
  · exact ⟨a.2.1, a.2.2.1⟩
  · exact absurd a.1 (by decide)
  · exact absurd a (by decide)
  · exact absurd a.1 (by decide)
  · exact absurd a (by decide)
theorem settle_k {q : RW} {t k : Nat} (h : CT q t) (hk : Kq k) : gSettle q k = q k := by
  unfold gSettle
  by_cases g : goB q = false
  · rw [if_pos g, zup_ne (by unfold Kq at hk; omega), zup_ne (by unfold Kq at hk; omega)]
  · rw [if_neg g]
    by_cases d : dead q (q 166).toNatClampNeg = true
    · rw [if_pos d]
      unfold gPassT
      rw [pass_k hk 16 (t + 1) _ (passT_PI h.P), zup_ne (by unfold Kq at hk; omega), zup_ne (by unfold Kq at hk; omega)]
    · rw [if_neg d]
theorem PA.e {V : VS} {N : Nat} {e f f' : Nat → Nat} {dn : Nat → Bool} (h : PA V N e f dn) (he : ∀ c, c < N → f' c = f c) : PA V N e f' dn := ⟨h.1, h.2.1, fun c hc => by rw [he c hc]; exact h.2.2.1 c hc, h.2.2.2⟩
section
variable {n a : Nat} {V : VS} {w : RW} {t x : Nat}
theorem c_findU (hL : zLay V) (ha : a ∈ zB) (hW : WF w) (h : Rp a V w) (hx : x < nU w) : ev_X2_find n V a (Int32.ofNat x) = rt (some (a + 9 + x)) V := by
  have u8 := hW.u8
  rcases c_find (n := n) hL ha hW h (x := Int32.ofNat x) with ⟨y, _⟩ | ⟨v, hv, ev, e⟩
  · rw [hW.ue] at y
    rcases y with y | y
    · exact absurd y (ofn_nn (by omega))
    · have := (of_le (by omega) (by omega)).mp y; omega
  · have := (of_inj (by omega) (by omega)).mp ev
    rw [← this] at e; exact e
theorem moved_u (hp : WF w) {u : Nat} (hu : u < nU w) (hE : EqD w x (Dm w x)) : nU (gMoved w u x) = nU w ∧ nU (gM3 w u x) = nU w := by
  have u8 := hp.u8
  have k1 := (moved_p hp hu hE).2 66 (.inl (by omega)) (by omega) (by omega)
  have k2 := (m3_p hp hu hE).2.1 66 (.inl (by omega)) (by omega) (by omega) (by omega)
  constructor
  · unfold nU; rw [k1]
  · unfold nU; rw [k2]
theorem settle_u {q : RW} (h : CT q t) : nU (gSettle q) = nU q := by unfold nU; rw [settle_k h (.inl (by omega))]
theorem c_walk (hn : 64 < n) (hL : zLay V) (ha : a ∈ zB) (h : Rp a V w) (hS : Fgt w t) (hl : LG w (ord w t) 0 x) : ∃ U, ev_X2_walk n V a (Int32.ofNat x) 197 = rt (gDo w 0 x).2 U ∧ Rp a U (gDo w 0 x).1 ∧ FrW a V U := by
  obtain ⟨hC, hd, hg⟩ := hS
  have hu := hC.u; have u8 := hC.1.u8
  have o8 : ord w t < 8 := by omega
  have hp := pre_W hC.1 hl
  have pC : CT (gPre w 0) t := (pre_CT hC hl).1
  have po : Hid (ord (gPre w 0) t = ord w t) := (pre_CT hC hl).2
  have m := show Hid _ from mv_f hC.1 hu hl.m hp
  have pu : ord w t < nU (gPre w 0) := by rw [pre_u]; exact hu
  have e0 : gPre w 0 = zup (zup w 289 (w 289 + 1)) 167 (w 167 - 1) := by unfold gPre; rw [if_neg (by decide), if_neg (by decide)]
  rw [gDo_e hC, gAct0, fst_mk, snd_mk]
  unfold ev_X2_walk eX2_walk_0
  rw [c_onU hL ha hC.1 h hu hC.2.2.2, bd_rt, om_1, sq_eq, h.acts]
  have l1 : zLay (wI V a 7 (w 167 - 1)) := zLay_wI hL
  have r1 : Rp a (wI V a 7 (w 167 - 1)) (gPre w 0) := by rw [e0]; exact h.g9.wacts hL ha
  have f1 : FrC a V (wI V a 7 (w 167 - 1)) := (FrC.rf hL).w0
  clear e0
  generalize wI V a 7 (w 167 - 1) = V1 at l1 r1 f1 ⊢
  generalize gPre w 0 = p at hp pC po m pu r1 ⊢
  generalize ord w t = u at hu o8 po m pu ⊢
  have pt : p 166 = Int32.ofNat u := by rw [pC.2.2.2, po.o]
  obtain ⟨T, f, dn, eT, pT, fT, hE⟩ := c_measure (n := n) hn l1 ha hp r1 pu pt m.o.1
  have mm := m.o.2.2.1
  rw [if_neg (fun y => by have := y.1; omega)] at hE
  have pT' : PA T (nR p * nC p) (ent p) (Dm p x) dn := pT.e (fun c hc => by rw [← (Dm_ok hp m.o.1 hE).2, nrm_at hc])
  have rT := r1.fA ha fT
  have fn := c_wk (n := n) (u := u) hn ha hp m.o.2.2.2.1 m.o.1 64 n 0 T p (by omega) (by omega) fT.1 rT hp (fun _ _ => rfl) pu (Nat.lt_of_le_of_lt m.o.2.2.2.2 (by decide)) pT'
  rw [eT, bd_rt]
  obtain ⟨S, eS, rS, fS⟩ := fn
  have eS' : elX2_walk_33 n n T a (Int32.ofNat x) 197 (a + 9 + u) 0 0 = eX2_walk_95 n S a (a + 9 + u) := eS
  have rS' : Rp a S (gMoved p u x) := rS
  have wM : WF (gMoved p u x) := (moved_p hp pu m.o.2.2.2.1).1
  have nM : Hid (nU (gMoved p u x) = nU p ∧ nU (gM3 p u x) = nU p) := moved_u hp pu m.o.2.2.2.1
  obtain ⟨w3, k3, c3⟩ := m3_p hp pu m.o.2.2.2.1
  have q := show Hid _ from pC.c w3 (fun k hk => k3 k (by unfold Kp; omega) (by omega) (by omega) (by omega))
  rw [eS']
  unfold eX2_walk_95
  rw [zr11 fS.1 ha, ob_1, rS'.num o8, show vI S (a + 9 + u) 4 = gMoved p u x (67 + 11 * u + 2) from rS'.u (by rw [nM.o.1]; exact pu) o8 (j := 2) (by decide)]
  obtain ⟨R, eR, rR, fR⟩ := c_note (n := n) fS.1 ha rS' wM.e (k := 1) (u := Int32.ofNat u) (x := gMoved p u x (67 + 11 * u + 2))
  have rR' : Rp a R (gM3 p u x) := rR
  rw [eR, bd_rt]
  have st := c_settle (n := n) (by omega) fR.1 ha rR' q.o.1
  rw [q.o.2, po.o] at st
  obtain ⟨U, eU, rU, fU⟩ := st
  rw [eU, bd_rt]
  have kq : Kq (67 + 11 * u + 2) := by unfold Kq; omega
  refine ⟨U, ?_, rU, ((f1.W.tr fT.W).tr ((fS.tr fR).tr fU).W)⟩
  rw [show vI U (a + 9 + u) 4 = gSettle (gM3 p u x) (67 + 11 * u + 2) from rU.u (by rw [settle_u q.o.1, nM.o.2]; exact pu) o8 (j := 2) (by decide), settle_k q.o.1 kq, c3]
theorem c_shoot (hn : 64 < n) (hL : zLay V) (ha : a ∈ zB) (h : Rp a V w) (hS : Fgt w t) (hl : LG w (ord w t) 1 x) : ∃ U, ev_X2_shoot n V a (Int32.ofNat x) = rt (gDo w 1 x).2 U ∧ Rp a U (gDo w 1 x).1 ∧ FrW a V U := by
  obtain ⟨hC, hd, hg⟩ := hS
  have hu := hC.u; have u8 := hC.1.u8
  have hp := pre_W hC.1 hl
  obtain ⟨pC, po⟩ := pre_CT hC hl
  obtain ⟨x1, x2⟩ := hl.s
  have pu : ord w t < nU (gPre w 1) := by rw [pre_u]; exact hu
  have px : x < nU (gPre w 1) := by rw [pre_u]; exact x1
  have s4 : ¬ gPre w 1 (67 + 11 * ord w t + 4) ≤ 0 := by rw [pre_at (by omega) (by omega)]; exact x2
  have e0 : gPre w 1 = zup (zup w 289 (w 289 + 1)) 167 (w 167 - 1) := by unfold gPre; rw [if_neg (by decide), if_neg (by decide)]
  rw [gDo_e hC, gAct1, fst_mk, snd_mk]
  unfold ev_X2_shoot eX2_shoot_0
  rw [c_onU hL ha hC.1 h hu hC.2.2.2, bd_rt, om_1, c_findU hL ha hC.1 h x1, bd_rt, om_1, sq_eq, h.acts]
  have l1 : zLay (wI V a 7 (w 167 - 1)) := zLay_wI hL
  have r1 : Rp a (wI V a 7 (w 167 - 1)) (gPre w 1) := by rw [e0]; exact h.g9.wacts hL ha
  have f1 : FrC a V (wI V a 7 (w 167 - 1)) := (FrC.rf hL).w0
  generalize wI V a 7 (w 167 - 1) = V1 at l1 r1 f1 ⊢
  obtain ⟨S, eS, rS, fS⟩ := c_strike (n := n) l1 ha hp r1 pu px s4
  rw [eS, bd_rt]
  obtain ⟨qC, qo⟩ := pC.c (hp.strike pu px s4) (fun k hk => strike_at hp pu px s4 (by omega) (by omega) (by omega) (by omega))
  have st := c_settle (n := n) (by omega) fS.1 ha rS qC
  rw [qo, po] at st
  obtain ⟨U, eU, rU, fU⟩ := st
  rw [eU, bd_rt]
  exact ⟨U, rfl, rU, ((f1.tr fS).tr fU).W⟩
theorem hl_u (hp : WF w) {u : Nat} (hu : u < nU w) (hs : ¬ w (67 + 11 * u + 5) ≤ 0) : nU (gHl w u x) = nU w ∧ nR (gHl w u x) = nR w ∧ nC (gHl w u x) = nC w := by
  have u8 := hp.u8
  refine ⟨?_, ?_, ?_⟩
  · unfold nU; rw [hl_at hp hu hs (by omega) (by omega)]
  · unfold nR; rw [hl_at hp hu hs (by omega) (by omega)]
  · unfold nC; rw [hl_at hp hu hs (by omega) (by omega)]
theorem gHr_e {p : RW} {u x : Nat} : gHr p u x = gHurl (nU (gHl p u x)) 0 (gHl p u x) x := by unfold gHr; rfl
theorem c_hurl3 {p : RW} {u : Nat} (hn : 64 < n) (hL : zLay V) (ha : a ∈ zB) (h : Rp a V (gHr p u x).1) (hp : WF p) (pC : CT p t) (po : ord p t = u) (pu : u < nU p) (u8 : u < 8) (s5 : ¬ p (67 + 11 * u + 5) ≤ 0) : ∃ U, ev_X2_settle n V a (a + 9 + u) = rt () U ∧ Rp a U (gSettle (gHr p u x).1) ∧ FrC a V U := by
  obtain ⟨w3, k3⟩ := hr_p (x := x) hp pu s5
  have q := show Hid _ from pC.c w3 (fun k hk => k3 k (by unfold Kh; omega) (by omega) (by omega))
  generalize (gHr p u x).1 = y at h q ⊢
  have st := c_settle (n := n) (by omega) hL ha h q.o.1
  rw [q.o.2, po] at st
  exact st
theorem c_hurl2 {p : RW} {u : Nat} (hn : 64 < n) (hL : zLay V) (ha : a ∈ zB) (h : Rp a V (gHl p u x)) (hp : WF p) (pu : u < nU p) (px : x < nR p * nC p) (s5 : ¬ p (67 + 11 * u + 5) ≤ 0) : ∃ S, elX2_hurl_50 n n V a (Int32.ofNat x) (a + 9 + u) 0 0 = bd (ev_X2_settle n S a (a + 9 + u)) (fun _ V1 => rt (Int32.ofNat (gHr p u x).2) V1) th ∧ Rp a S (gHr p u x).1 ∧ FrC a V S := by
  have p8 := hp.u8
  have nH : Hid _ := hl_u (x := x) hp pu s5
  have n9 : nU (gHl p u x) < n := by rw [nH.o.1]; omega
  have px' : x < nR (gHl p u x) * nC (gHl p u x) := by rw [nH.o.2.1, nH.o.2.2]; exact px
  have fn := c_hurlL (n := n) (u0 := u) (c := x) hn ha (nU (gHl p u x)) n 0 0 V (gHl p u x) (Nat.zero_add _) n9 hL h (hl_W hp pu s5).tell px'
  rw [← gHr_e] at fn
  clear n9 px' nH
  generalize gHr p u x = y at fn ⊢
  obtain ⟨S, eS, rS, fS⟩ := fn
  rw [Nat.zero_add] at eS
  exact ⟨S, eS, rS, fS⟩
theorem c_hurl (hn : 64 < n) (hL : zLay V) (ha : a ∈ zB) (h : Rp a V w) (hS : Fgt w t) (hl : LG w (ord w t) 2 x) : ∃ U, ev_X2_hurl n V a (Int32.ofNat x) = rt (gDo w 2 x).2 U ∧ Rp a U (gDo w 2 x).1 ∧ FrW a V U := by
  obtain ⟨hC, hd, hg⟩ := hS
  have hu := hC.u; have u8 := hC.1.u8
  have o8 : ord w t < 8 := by omega
  have hp := pre_W hC.1 hl
  have pC : CT (gPre w 2) t := (pre_CT hC hl).1
  have po : Hid (ord (gPre w 2) t = ord w t) := (pre_CT hC hl).2
  obtain ⟨x1, x2⟩ := hl.h
  have pu : ord w t < nU (gPre w 2) := by rw [pre_u]; exact hu
  have px : x < nR (gPre w 2) * nC (gPre w 2) := by rw [pre_N.1, pre_N.2]; exact x1
  have s5 : ¬ gPre w 2 (67 + 11 * ord w t + 5) ≤ 0 := by rw [pre_at (by omega) (by omega)]; exact x2
  have e0 : gPre w 2 = zup (zup w 289 (w 289 + 1)) 167 (w 167 - 1) := by unfold gPre; rw [if_neg (by decide), if_neg (by decide)]
  rw [gDo_e hC, gAct2, fst_mk, snd_mk]
  unfold ev_X2_hurl eX2_hurl_0
  rw [c_onU hL ha hC.1 h hu hC.2.2.2, bd_rt, om_1, sq_eq, h.acts]
  have l1 : zLay (wI V a 7 (w 167 - 1)) := zLay_wI hL
  have r1 : Rp a (wI V a 7 (w 167 - 1)) (gPre w 2) := by rw [e0]; exact h.g9.wacts hL ha
  have f1 : FrC a V (wI V a 7 (w 167 - 1)) := (FrC.rf hL).w0
  clear e0 x1 x2
  generalize wI V a 7 (w 167 - 1) = V1 at l1 r1 f1 ⊢
  generalize gPre w 2 = p at hp pC po pu px s5 r1 ⊢
  generalize ord w t = u at hu o8 po pu s5 ⊢
  clear hl hd hg h hu
  rw [sq_eq, show vI V1 (a + 9 + u) 7 = p (67 + 11 * u + 5) from r1.u pu o8 (j := 5) (by decide)]
  have l2 : zLay (wI V1 (a + 9 + u) 7 (p (67 + 11 * u + 5) - 1)) := zLay_wI l1
  have r2 : Rp a (wI V1 (a + 9 + u) 7 (p (67 + 11 * u + 5) - 1)) (zup p (67 + 11 * u + 5) (p (67 + 11 * u + 5) - 1)) := r1.wu l1 ha o8 (j := 5) (by decide)
  have f2 : FrC a V (wI V1 (a + 9 + u) 7 (p (67 + 11 * u + 5) - 1)) := f1.wu o8
  generalize wI V1 (a + 9 + u) 7 (p (67 + 11 * u + 5) - 1) = V2 at l2 r2 f2 ⊢
  rw [zr11 l2 ha, ob_1, r2.num o8]
  obtain ⟨T, eT, rT, fT⟩ := c_note (n := n) l2 ha r2 (hl_W hp pu s5).e (k := 8) (u := Int32.ofNat u) (x := Int32.ofNat x)
  have rT' : Rp a T (gHl p u x) := rT
  clear rT r2
  rw [eT, bd_rt]
  obtain ⟨S, eS, rS, fS⟩ := c_hurl2 (n := n) hn fT.1 ha rT' hp pu px s5
  obtain ⟨U, eU, rU, fU⟩ := c_hurl3 (n := n) hn fS.1 ha rS hp pC po.o pu o8 s5
  rw [eS, eU, bd_rt]
  clear eS eU eT
  generalize gHr p u x = y at rS rU ⊢
  exact ⟨U, rfl, rU, (((f2.tr fT).tr fS).tr fU).W⟩
theorem c_guard (hL : zLay V) (ha : a ∈ zB) (h : Rp a V w) (hS : Fgt w t) : ∃ U, ev_X2_startGuarding n V a = rt (gDo w 3 x).2 U ∧ Rp a U (gDo w 3 x).1 ∧ FrW a V U := by
  obtain ⟨hC, hd, hg⟩ := hS
  have hu := hC.u; have u8 := hC.1.u8
  have e0 : gPre w 3 = zup (zup w 289 (w 289 + 1)) 167 (w 167 - 1) := by unfold gPre; rw [if_neg (by decide), if_neg (by decide)]
  rw [gDo_e hC, gAct3, fst_mk, snd_mk]
  unfold ev_X2_startGuarding eX2_startGuarding_0
  rw [c_onU hL ha hC.1 h hu hC.2.2.2, bd_rt, om_1, sq_eq, sq_eq]
  have l1 : zLay (wI V (a + 9 + ord w t) 11 1) := zLay_wI hL
  have r1 : Rp a (wI V (a + 9 + ord w t) 11 1) (zup (zup w 289 (w 289 + 1)) (67 + 11 * ord w t + 9) 1) := h.g9.wu hL ha (by omega) (j := 9) (by decide)
  have a1 : vI (wI V (a + 9 + ord w t) 11 1) a 7 = w 167 := by rw [r1.acts, zup_ne (by omega), zup_ne (by omega)]
  rw [a1]
  have r2 := r1.wacts (x := w 167 - 1) l1 ha
  rw [r2.acts, e0]
  refine ⟨wI (wI V (a + 9 + ord w t) 11 1) a 7 (w 167 - 1), ?_, ?_, (((FrC.rf hL).wu (by omega)).w0).W⟩
  · show rt (zup _ 167 (w 167 - 1) 167) _ = rt (zup _ 167 (w 167 - 1) 167) _
    rw [zup_eq, zup_eq]
  · show Rp a _ (zup (zup (zup w 289 (w 289 + 1)) 167 (w 167 - 1)) (67 + 11 * ord w t + 9) 1)
    rw [zup_cm (by omega)]; exact r2
theorem c_watch (hL : zLay V) (ha : a ∈ zB) (h : Rp a V w) (hS : Fgt w t) : ∃ U, ev_X2_startWatching n V a = rt (gDo w 4 x).2 U ∧ Rp a U (gDo w 4 x).1 ∧ FrW a V U := by
  obtain ⟨hC, hd, hg⟩ := hS
  have hu := hC.u; have u8 := hC.1.u8
  have e0 : gPre w 4 = zup (zup w 289 (w 289 + 1)) 167 0 := by unfold gPre; rw [if_pos rfl]
  rw [gDo_e hC, gAct4, fst_mk, snd_mk]
  unfold ev_X2_startWatching eX2_startWatching_0
  rw [c_onU hL ha hC.1 h hu hC.2.2.2, bd_rt, om_1, sq_eq, sq_eq]
  have l1 : zLay (wI V (a + 9 + ord w t) 12 1) := zLay_wI hL
  have r1 : Rp a (wI V (a + 9 + ord w t) 12 1) (zup (zup w 289 (w 289 + 1)) (67 + 11 * ord w t + 10) 1) := h.g9.wu hL ha (by omega) (j := 10) (by decide)
  have a1 : vI (wI V (a + 9 + ord w t) 12 1) a 7 = w 167 := by rw [r1.acts, zup_ne (by omega), zup_ne (by omega)]
  rw [a1]
  have r2 := r1.wacts (x := 0) l1 ha
  refine ⟨_, rfl, ?_, (((FrC.rf hL).wu (by omega)).w0).W⟩
  show Rp a _ (zup (gPre w 4) (67 + 11 * ord w t + 10) 1)
  rw [e0, zup_cm (by omega)]; exact r2
theorem c_refill (hL : zLay V) (ha : a ∈ zB) (h : Rp a V w) (hS : Fgt w t) : ∃ U, ev_X2_refill n V a = rt (gDo w 5 x).2 U ∧ Rp a U (gDo w 5 x).1 ∧ FrW a V U := by
  obtain ⟨hC, hd, hg⟩ := hS
  have hu := hC.u; have u8 := hC.1.u8
  have e0 : gPre w 5 = zup (zup w 289 (w 289 + 1)) 167 (w 167 - 1) := by unfold gPre; rw [if_neg (by decide), if_neg (by decide)]
  rw [gDo_e hC, gAct5, fst_mk, snd_mk]
  unfold ev_X2_refill eX2_refill_0
  rw [c_onU hL ha hC.1 h hu hC.2.2.2, bd_rt, om_1]
  rw [show vI V (a + 9 + ord w t) 2 = w (67 + 11 * ord w t + 1) from h.u hu (by omega) (j := 1) (by decide), show vI V (a + 9 + ord w t) 6 = w (67 + 11 * ord w t + 4) from h.u hu (by omega) (j := 4) (by decide), if_pos (kd_in hC.1 hu), sq_eq, sq_eq]
  have l1 : zLay (wI V (a + 9 + ord w t) 6 (tbI 7 (w (67 + 11 * ord w t + 1)))) := zLay_wI hL
  have r1 : Rp a (wI V (a + 9 + ord w t) 6 (tbI 7 (w (67 + 11 * ord w t + 1)))) (zup (zup w 289 (w 289 + 1)) (67 + 11 * ord w t + 4) (tbI 7 (w (67 + 11 * ord w t + 1)))) := h.g9.wu hL ha (by omega) (j := 4) (by decide)
  have a1 : vI (wI V (a + 9 + ord w t) 6 (tbI 7 (w (67 + 11 * ord w t + 1)))) a 7 = w 167 := by rw [r1.acts, zup_ne (by omega), zup_ne (by omega)]
  rw [a1]
  have r2 := r1.wacts (x := w 167 - 1) l1 ha
  have p1 : gPre w 5 (67 + 11 * ord w t + 1) = w (67 + 11 * ord w t + 1) := pre_at (by omega) (by omega)
  have p4 : gPre w 5 (67 + 11 * ord w t + 4) = w (67 + 11 * ord w t + 4) := pre_at (by omega) (by omega)
  rw [p1, p4]
  refine ⟨_, rfl, ?_, (((FrC.rf hL).wu (by omega)).w0).W⟩
  show Rp a _ (zup (gPre w 5) (67 + 11 * ord w t + 4) (tbI 7 (w (67 + 11 * ord w t + 1))))
  rw [e0, zup_cm (by omega)]; exact r2
theorem c_short {u : Nat} (hL : zLay V) (ha : a ∈ zB) (hW : WF w) (h : Rp a V w) (hu : u < nU w) : ∃ U, ev_X7_shortenStatuses n V (a + 9 + u) = rt () U ∧ Rp a U (gE2 w u) ∧ FrC a V U := by
  have u8 := hW.u8
  have b7 := hW.f hu (j := 7) (by omega); have b8 := hW.f hu (j := 8) (by omega)
  have key : ∀ (q : RW) (T : VS), zLay T → Rp a T q → nU q = nU w → q (67 + 11 * u + 8) = w (67 + 11 * u + 8) → FrC a V T → ∃ U, (if (vI T (a + 9 + u) 10) ≤ 0 then sq (wI T (a + 9 + u) 10 0) (fun V2 => rt () V2) else sq (wI T (a + 9 + u) 10 ((vI T (a + 9 + u) 10) - 1)) (fun V3 => rt () V3)) = rt () U ∧ Rp a U (if q (67 + 11 * u + 8) ≤ 0 then q else zup q (67 + 11 * u + 8) (q (67 + 11 * u + 8) - 1)) ∧ FrC a V U := by
    intro q T lT rT nq e8 fT
    rw [show vI T (a + 9 + u) 10 = q (67 + 11 * u + 8) from rT.u (by rw [nq]; exact hu) (by omega) (j := 8) (by decide)]
    by_cases g : q (67 + 11 * u + 8) ≤ 0
    · rw [if_pos g, if_pos g, sq_eq]
      have z : q (67 + 11 * u + 8) = 0 := nb0 (by rw [e8]; exact b8) (by decide) g
      have r := rT.wu (x := 0) lT ha (u := u) (by omega) (j := 8) (by decide)
      rw [zup_id z] at r
      exact ⟨_, rfl, r, fT.wu (by omega)⟩
    · rw [if_neg g, if_neg g, sq_eq]
      exact ⟨_, rfl, rT.wu lT ha (by omega) (j := 8) (by decide), fT.wu (by omega)⟩
  unfold ev_X7_shortenStatuses eX7_shortenStatuses_0 eX7_shortenStatuses_18 gE2 gE1
  rw [show vI V (a + 9 + u) 9 = w (67 + 11 * u + 7) from h.u hu (by omega) (j := 7) (by decide)]
  by_cases g : w (67 + 11 * u + 7) ≤ 0
  · rw [if_pos g, if_pos g, sq_eq]
    have z : w (67 + 11 * u + 7) = 0 := nb0 b7 (by decide) g
    have r := h.wu (x := 0) hL ha (u := u) (by omega) (j := 7) (by decide)
    rw [zup_id z] at r
    exact key w _ (zLay_wI hL) r rfl rfl ((FrC.rf hL).wu (by omega))
  · rw [if_neg g, if_neg g, sq_eq]
    exact key _ _ (zLay_wI hL) (h.wu hL ha (u := u) (by omega) (j := 7) (by decide)) (nU_z (by omega)) (zup_ne (by omega)) ((FrC.rf hL).wu (by omega))
theorem c_finish (hn : 64 < n) (hL : zLay V) (ha : a ∈ zB) (h : Rp a V w) (hS : Fgt w t) (hl : LG w (ord w t) 6 x) : ∃ U, ev_X2_finishTurn n V a = rt (gDo w 6 x).2 U ∧ Rp a U (gDo w 6 x).1 ∧ FrW a V U := by
  obtain ⟨hC, hd, hg⟩ := hS
  have hu := hC.u; have u8 := hC.1.u8
  have hp := pre_W hC.1 hl
  have pC : CT (gPre w 6) t := (pre_CT hC hl).1
  have pu : ord w t < nU (gPre w 6) := by rw [pre_u]; exact hu
  have e0 : gPre w 6 = zup w 289 (w 289 + 1) := by
    unfold gPre; rw [if_neg (by decide), if_pos rfl]
    exact zup_id (zup_ne (by omega))
  rw [gDo_e hC, gAct6, fst_mk, snd_mk]
  unfold ev_X2_finishTurn eX2_finishTurn_0
  rw [c_onU hL ha hC.1 h hu hC.2.2.2, bd_rt, om_1]
  have r0 : Rp a V (gPre w 6) := by rw [e0]; exact h.g9
  obtain ⟨T, eT, rT, fT⟩ := c_short (n := n) hL ha hp r0 pu
  rw [eT, bd_rt]
  obtain ⟨q1, q2⟩ := e2_p hp pu
  have qC := (pC.c q1 (fun k hk => q2 k (by omega) (by omega))).1
  obtain ⟨U, eU, rU, fU⟩ := c_passTurn (n := n) (by omega) fT.1 ha rT qC.P
  rw [eU, bd_rt]
  exact ⟨U, by rw [rU.cur], rU, (fT.tr fU).W⟩
theorem c_carry {kind : Nat} (hn : 64 < n) (hL : zLay V) (ha : a ∈ zB) (h : Rp a V w) (hS : Fgt w t) (hl : LG w (ord w t) kind x) : ∃ U, ev_X2_carryOut n V a (Int32.ofNat kind) (Int32.ofNat x) 197 = rt (gDo w kind x).2 U ∧ Rp a U (gDo w kind x).1 ∧ FrW a V U := by
  unfold ev_X2_carryOut eX2_carryOut_0
  have hl' := hl
  unfold LG at hl'
  rcases hl' with a1 | a1 | a1 | a1 | a1 | a1 | a1
  · obtain ⟨rfl, _⟩ := a1
    rw [if_neg (by decide), if_pos (by decide)]
    obtain ⟨U, e, r, f⟩ := c_walk (n := n) hn hL ha h hS hl
    rw [e, bd_rt]; exact ⟨U, rfl, r, f⟩
  · obtain ⟨rfl, _⟩ := a1
    rw [if_neg (by decide), if_neg (by decide), if_pos (by decide)]
    obtain ⟨U, e, r, f⟩ := c_shoot (n := n) hn hL ha h hS hl
    rw [e, bd_rt]; exact ⟨U, rfl, r, f⟩
  · obtain ⟨rfl, _⟩ := a1
    rw [if_neg (by decide), if_neg (by decide), if_neg (by decide), if_pos (by decide)]
    obtain ⟨U, e, r, f⟩ := c_hurl (n := n) hn hL ha h hS hl
    rw [e, bd_rt]; exact ⟨U, rfl, r, f⟩
  · obtain ⟨rfl, _⟩ := a1
    rw [if_neg (by decide), if_neg (by decide), if_neg (by decide), if_neg (by decide), if_pos (by decide)]
    obtain ⟨U, e, r, f⟩ := c_guard (n := n) (x := x) hL ha h hS
    rw [e, bd_rt]; exact ⟨U, rfl, r, f⟩
  · subst a1
    rw [if_neg (by decide), if_neg (by decide), if_neg (by decide), if_neg (by decide), if_neg (by decide), if_pos (by decide)]
    obtain ⟨U, e, r, f⟩ := c_watch (n := n) (x := x) hL ha h hS
    rw [e, bd_rt]; exact ⟨U, rfl, r, f⟩
  · obtain ⟨rfl, _⟩ := a1
    rw [if_neg (by decide), if_neg (by decide), if_neg (by decide), if_neg (by decide), if_neg (by decide), if_neg (by decide), if_pos (by decide)]
    obtain ⟨U, e, r, f⟩ := c_refill (n := n) (x := x) hL ha h hS
    rw [e, bd_rt]; exact ⟨U, rfl, r, f⟩
  · subst a1
    rw [if_pos (by decide)]
    obtain ⟨U, e, r, f⟩ := c_finish (n := n) hn hL ha h hS hl
    rw [e, bd_rt]; exact ⟨U, rfl, r, f⟩
end
