/-! reactions -/
def rOk (w : RW) (v u : Nat) : Bool := decide (w (67 + 11 * v + 10) = 1) && (!decide (w (67 + 11 * v + 4) ≤ 0) && canA w v u)
def gRe (w : RW) (v u : Nat) : RW := gTell (zup w (67 + 11 * v + 10) 0) 7 (Int32.ofNat v) (Int32.ofNat u)
def gReact : Nat → Nat → RW → Nat → RW × Bool
  | 0, _, w, _ => (w, false)
  | d + 1, v, w, u => if rOk w v u = true then (if 0 < gStrD (gRe w v u) v u then (gStrike (gRe w v u) v u, true) else gReact d (v + 1) (gStrike (gRe w v u) v u) u) else gReact d (v + 1) w u
theorem rOk_p {w : RW} {v u : Nat} (h : rOk w v u = true) : w (67 + 11 * v + 10) = 1 ∧ ¬ w (67 + 11 * v + 4) ≤ 0 ∧ canA w v u = true := by
  unfold rOk at h
  simp only [Bool.and_eq_true, Bool.not_eq_true', decide_eq_true_eq, decide_eq_false_iff_not] at h
  exact h
theorem canA_p {w : RW} {v u : Nat} (h : canA w v u = true) : dead w v = false ∧ dead w u = false ∧ v ≠ u := by
  unfold canA at h
  simp only [Bool.and_eq_true, Bool.not_eq_true', decide_eq_false_iff_not] at h
  exact ⟨h.1, h.2.1, fun e => h.2.2.1 (by rw [e])⟩
section
variable {w : RW} {v u : Nat}
theorem re_at (hE : Nb (w 168) 40) (hv : v < 8) {k : Nat} (h : k ≠ 67 + 11 * v + 10) (h2 : k < 168 ∨ 289 ≤ k) : gRe w v u k = w k := by
  unfold gRe
  rw [gTell_lo (by rw [zup_ne (by omega)]; exact hE) h2, zup_ne h]
theorem re_W (hW : WF w) (hv : v < 8) : WF (gRe w v u) := (hW.zu (j := 10) hv (by omega) nb_z (fun x => by omega)).tell
theorem re_u (hW : WF w) (hv : v < 8) : nU (gRe w v u) = nU w := by unfold nU; rw [re_at hW.e hv (by omega) (by omega)]
theorem re_s (hW : WF w) (hv : v < 8) (h : rOk w v u = true) : ¬ gRe w v u (67 + 11 * v + 4) ≤ 0 := by
  rw [re_at hW.e hv (by omega) (by omega)]; exact (rOk_p h).2.1
/-- what a reaction leaves as it is -/
def Kp (k : Nat) : Prop := k < 67 ∨ (155 < k ∧ k < 168) ∨ 289 ≤ k ∨ (67 ≤ k ∧ k < 155 ∧ (k - 67) % 11 ≠ 3 ∧ (k - 67) % 11 ≠ 4 ∧ (k - 67) % 11 ≠ 10)
theorem one_at (hW : WF w) (hv : v < nU w) (hu : u < nU w) (h : rOk w v u = true) {k : Nat} (hk : Kp k) : gStrike (gRe w v u) v u k = w k := by
  have u8 := hW.u8
  unfold Kp at hk
  rw [strike_at (re_W hW (by omega)) (by rw [re_u hW (by omega)]; exact hv) (by rw [re_u hW (by omega)]; exact hu) (re_s hW (by omega) h) (by omega) (by omega) (by omega) (by omega), re_at hW.e (by omega) (by omega) (by omega)]
theorem one_dead (hW : WF w) (hv : v < nU w) (hu : u < nU w) (h : rOk w v u = true) {x : Nat} (hx : x < 8) (hxu : x ≠ u) : dead (gStrike (gRe w v u) v u) x = dead w x := by
  have u8 := hW.u8
  refine dead_c ?_
  rw [strike_at (re_W hW (by omega)) (by rw [re_u hW (by omega)]; exact hv) (by rw [re_u hW (by omega)]; exact hu) (re_s hW (by omega) h) (by omega) (by omega) (by omega) (by omega), re_at hW.e (by omega) (by omega) (by omega)]
theorem one_W (hW : WF w) (hv : v < nU w) (hu : u < nU w) (h : rOk w v u = true) : WF (gStrike (gRe w v u) v u) := by
  have u8 := hW.u8
  exact (re_W hW (by omega)).strike (by rw [re_u hW (by omega)]; exact hv) (by rw [re_u hW (by omega)]; exact hu) (re_s hW (by omega) h)
theorem one_miss (hW : WF w) (hv : v < nU w) (hu : u < nU w) (h : rOk w v u = true) (h0 : ¬ 0 < gStrD (gRe w v u) v u) : dead (gStrike (gRe w v u) v u) u = dead w u := by
  have u8 := hW.u8
  have hit : gAhit (gRe w v u) v u = false := by
    cases q : gAhit (gRe w v u) v u
    · rfl
    · have := (gAm_le (re_W hW (by omega)) (by rw [re_u hW (by omega)]; exact hv) (by rw [re_u hW (by omega)]; exact hu) (re_s hW (by omega) h)).2
      unfold gStrD at h0
      rw [if_pos q] at h0
      exact absurd this h0
  refine dead_c ?_
  rw [strike_miss (re_W hW (by omega)) (by rw [re_u hW (by omega)]; exact hv) (re_s hW (by omega) h) hit (by omega) (by omega) (by omega), re_at hW.e (by omega) (by omega) (by omega)]
end
theorem react_p {u : Nat} : ∀ (d v : Nat) (w : RW), v + d = nU w → WF w → u < nU w → WF (gReact d v w u).1 ∧ (∀ k, Kp k → (gReact d v w u).1 k = w k) ∧ ((gReact d v w u).2 = false → ∀ x, x < 8 → dead (gReact d v w u).1 x = dead w x) ∧ (∀ x, x < 8 → x ≠ u → dead (gReact d v w u).1 x = dead w x)
  | 0, v, w, _, hW, _ => ⟨hW, fun _ _ => rfl, fun _ _ _ => rfl, fun _ _ _ => rfl⟩
  | d + 1, v, w, e, hW, hu => by
    have u8 := hW.u8
    have hv : v < nU w := by omega
    unfold gReact
    by_cases r : rOk w v u = true
    · rw [if_pos r]
      have w1 := one_W hW hv hu r
      have n1 : nU (gStrike (gRe w v u) v u) = nU w := by unfold nU; rw [one_at hW hv hu r (.inl (by omega))]
      by_cases h : 0 < gStrD (gRe w v u) v u
      · rw [if_pos h]
        refine ⟨w1, fun k hk => one_at hW hv hu r hk, fun x => ?_, fun x hx hxu => one_dead hW hv hu r hx hxu⟩
        exact absurd (show true = false from x) (by decide)
      · rw [if_neg h]
        obtain ⟨a1, a2, a3, a4⟩ := react_p d (v + 1) (gStrike (gRe w v u) v u) (by rw [n1]; omega) w1 (by rw [n1]; exact hu)
        refine ⟨a1, fun k hk => (a2 k hk).trans (one_at hW hv hu r hk), fun y x hx => ?_, fun x hx hxu => (a4 x hx hxu).trans (one_dead hW hv hu r hx hxu)⟩
        rw [a3 y x hx]
        by_cases q : x = u
        · rw [q]; exact one_miss hW hv hu r h
        · exact one_dead hW hv hu r hx q
    · rw [if_neg r]
      exact react_p d (v + 1) w (by omega) hW hu
section
variable {n a : Nat}
theorem c_react {u : Nat} (hn : 64 < n) (ha : a ∈ zB) : ∀ (d m v : Nat) (V : VS) (w : RW), v + d = nU w → d < m → zLay V → Rp a V w → WF w → u < nU w → ∃ U, elX2_isStoppedIn_24 n m V a (a + 9 + u) (Int32.ofNat v) = rt (bi (gReact d v w u).2) U ∧ Rp a U (gReact d v w u).1 ∧ FrC a V U
  | 0, m + 1, v, V, w, e, _, hL, h, hW, hu => by
    have u8 := hW.u8
    have : v = nU w := by omega
    subst this
    show ∃ U, eX2_isStoppedIn_24 n (elX2_isStoppedIn_24 n m) V a (a + 9 + u) (Int32.ofNat (nU w)) = _ ∧ _
    unfold eX2_isStoppedIn_24
    rw [h.count, hW.ue, if_pos (by exact (of_le (by omega) (by omega)).mpr (Nat.le_refl _))]
    exact ⟨V, rfl, h, FrC.rf hL⟩
  | d + 1, m + 1, v, V, w, e, hm, hL, h, hW, hu => by
    have u8 := hW.u8
    have hv : v < nU w := by omega
    have skip : rOk w v u = false → ∃ U, elX2_isStoppedIn_24 n m V a (a + 9 + u) (Int32.ofNat (v + 1)) = rt (bi (gReact (d + 1) v w u).2) U ∧ Rp a U (gReact (d + 1) v w u).1 ∧ FrC a V U := fun r => by
      unfold gReact
      rw [if_neg (by rw [r]; decide)]
      exact c_react hn ha d m (v + 1) V w (by omega) (by omega) hL h hW hu
    show ∃ U, eX2_isStoppedIn_24 n (elX2_isStoppedIn_24 n m) V a (a + 9 + u) (Int32.ofNat v) = _ ∧ _
    unfold eX2_isStoppedIn_24
    rw [h.count, hW.ue, if_neg (fun e => by have := (of_le (by omega) (by omega)).mp e; omega), zr1 hL ha, ob_1, znu hL ha, if_pos (in_of (by omega) (by decide)), tn_of (by omega), zru hL ha (by omega), ob_1, p1_of]
    rw [show vI V (a + 9 + v) 12 = w (67 + 11 * v + 10) from h.u hv (by omega) (j := 10) (by decide), show vI V (a + 9 + v) 6 = w (67 + 11 * v + 4) from h.u hv (by omega) (j := 4) (by decide)]
    have w10 := hW.f hv (j := 10) (by omega)
    by_cases g0 : w (67 + 11 * v + 10) = 0
    · rw [if_pos g0]
      exact skip (by unfold rOk; rw [g0]; rfl)
    have g1 : w (67 + 11 * v + 10) = 1 := by
      have l := w10.le
      rw [w10.eq] at g0 ⊢
      have : (w (67 + 11 * v + 10)).toNatClampNeg = 0 ∨ (w (67 + 11 * v + 10)).toNatClampNeg = 1 := by
        have : (w (67 + 11 * v + 10)).toNatClampNeg ≤ 1 := l
        omega
      rcases this with q | q
      · rw [q] at g0; exact absurd rfl g0
      · rw [q]; rfl
    rw [if_neg g0]
    by_cases g2 : w (67 + 11 * v + 4) ≤ 0
    · rw [if_pos g2]
      exact skip (by unfold rOk; rw [decide_eq_true g2]; simp)
    rw [if_neg g2, c_canStrike hn hL ha hW h hv hu, bd_rt]
    cases g3 : canA w v u
    · rw [if_pos (show bi false = 0 from rfl)]
      exact skip (by unfold rOk; rw [g3]; simp)
    rw [if_neg (show ¬ bi true = 0 by decide), sq_eq]
    have r : rOk w v u = true := by unfold rOk; rw [decide_eq_true g1, decide_eq_false g2, g3]; rfl
    have l1 : zLay (wI V (a + 9 + v) 12 0) := zLay_wI hL
    have r1 : Rp a (wI V (a + 9 + v) 12 0) (zup w (67 + 11 * v + 10) 0) := h.wu hL ha (by omega) (j := 10) (by decide)
    have f1 : FrC a V (wI V (a + 9 + v) 12 0) := (FrC.rf hL).wu (by omega)
    have w1 : WF (zup w (67 + 11 * v + 10) 0) := hW.zu (j := 10) (by omega) (by omega) nb_z (fun x => by omega)
    rw [zr11 l1 ha, ob_1, r1.num (by omega)]
    obtain ⟨T, eT, rT, fT⟩ := c_note (n := n) l1 ha r1 w1.e (k := 7) (u := Int32.ofNat v) (x := Int32.ofNat u)
    rw [eT, bd_rt]
    have rT' : Rp a T (gRe w v u) := rT
    obtain ⟨S, eS, rS, fS⟩ := c_strike (n := n) fT.1 ha (re_W hW (by omega)) rT' (by rw [re_u hW (by omega)]; exact hv) (by rw [re_u hW (by omega)]; exact hu) (re_s hW (by omega) r)
    rw [eS, bd_rt]
    have fS' := (f1.tr fT).tr fS
    unfold gReact
    rw [if_pos r]
    have ml : gStrD (gRe w v u) v u ≤ 44 := by
      have := (gAm_le (re_W hW (by omega)) (by rw [re_u hW (by omega)]; exact hv) (by rw [re_u hW (by omega)]; exact hu) (re_s hW (by omega) r)).1
      unfold gStrD
      by_cases q : gAhit (gRe w v u) v u = true
      · rw [if_pos q]; exact this
      · rw [if_neg q]; omega
    by_cases g4 : 0 < gStrD (gRe w v u) v u
    · rw [if_neg (fun e => by have := (of_le (b := 0) (by omega) (by omega)).mp e; omega), if_pos g4]
      exact ⟨S, rfl, rS, fS'⟩
    · rw [if_pos (by exact (of_le (b := 0) (by omega) (by omega)).mpr (by omega)), if_neg g4]
      have n1 : nU (gStrike (gRe w v u) v u) = nU w := by unfold nU; rw [one_at hW hv hu r (.inl (by omega))]
      obtain ⟨U, eU, rU, fU⟩ := c_react hn ha d m (v + 1) S (gStrike (gRe w v u) v u) (by rw [n1]; omega) (by omega) fS.1 rS (one_W hW hv hu r) (by rw [n1]; exact hu)
      exact ⟨U, eU, rU, fS'.tr fU⟩
theorem r_react {u : Nat} (hn : 120 < n) : ∀ (d m v : Nat) (V : VS) (w : RW), v + d = nU w → d < m → zLay V → Qr V w → WF w → u < nU w → ∃ U, elX9_isStopped_2 n m V 207 (Int32.ofNat u) (Int32.ofNat v) = rt (bi (gReact d v w u).2) U ∧ Qr U (gReact d v w u).1 ∧ FrR V U
  | 0, m + 1, v, V, w, e, _, hL, hQ, hW, hu => by
    have u8 := hW.u8
    have : v = nU w := by omega
    subst this
    obtain ⟨g1, e1⟩ := r_v hL hQ (k := 66) (x := 66) (by decide) rfl
    show ∃ U, eX9_isStopped_2 n (elX9_isStopped_2 n m) V 207 (Int32.ofNat u) (Int32.ofNat (nU w)) = _ ∧ _
    unfold eX9_isStopped_2
    rw [r71 hL, ob_1, if_pos g1, e1, hW.ue, if_pos (by exact (of_le (by omega) (by omega)).mpr (Nat.le_refl _))]
    exact ⟨V, rfl, hQ, FrR.rf hL⟩
  | d + 1, m + 1, v, V, w, e, hm, hL, hQ, hW, hu => by
    have u8 := hW.u8
    have hv : v < nU w := by omega
    obtain ⟨g1, e1⟩ := r_v hL hQ (k := 66) (x := 66) (by decide) rfl
    have skip : rOk w v u = false → ∃ U, eX9_isStopped_46 n (elX9_isStopped_2 n m) V 207 (Int32.ofNat u) (Int32.ofNat v) = rt (bi (gReact (d + 1) v w u).2) U ∧ Qr U (gReact (d + 1) v w u).1 ∧ FrR V U := fun r => by
      unfold gReact eX9_isStopped_46 eX9_isStopped_47
      rw [if_neg (show ¬ rOk w v u = true by rw [r]; decide), if_pos rfl, p1_of]
      exact r_react hn d m (v + 1) V w (by omega) (by omega) hL hQ hW hu
    show ∃ U, eX9_isStopped_2 n (elX9_isStopped_2 n m) V 207 (Int32.ofNat u) (Int32.ofNat v) = _ ∧ _
    unfold eX9_isStopped_2
    rw [r71 hL, ob_1, if_pos g1, e1, hW.ue, if_neg (fun e => by have := (of_le (by omega) (by omega)).mp e; omega), r_of10 hL hQ (by omega), bd_rt]
    by_cases g1 : w (67 + 11 * v + 10) = 1
    · rw [if_pos g1, r_of4 hL hQ (by omega), bd_rt]
      by_cases g2 : w (67 + 11 * v + 4) ≤ 0
      · rw [if_pos g2]
        exact skip (by unfold rOk; rw [decide_eq_true g2]; simp)
      rw [if_neg g2, r_canAttack (by omega) hL hQ hW hv hu, bd_rt]
      cases g3 : canA w v u
      · rw [if_pos (show bi false = 0 from rfl)]
        exact skip (by unfold rOk; rw [g3]; simp)
      rw [if_neg (show ¬ bi true = 0 by decide)]
      have r : rOk w v u = true := by unfold rOk; rw [decide_eq_true g1, decide_eq_false g2, g3]; rfl
      unfold eX9_isStopped_47
      rw [if_neg (by decide), r_setj (x := 10) (j := 10) hL (by omega) (by decide) rfl, bd_rt]
      have l1 : zLay (wI V 208 (67 + 11 * v + 10) 0) := zLay_wI hL
      have q1 : Qr (wI V 208 (67 + 11 * v + 10) 0) (zup w (67 + 11 * v + 10) 0) := hQ.w hL
      have f1 : FrR V (wI V 208 (67 + 11 * v + 10) 0) := (FrR.rf hL).w
      have w1 : WF (zup w (67 + 11 * v + 10) 0) := hW.zu (j := 10) (by omega) (by omega) nb_z (fun x => by omega)
      obtain ⟨T, eT, rT, fT⟩ := r_tells (n := n) hn l1 q1 w1.e (k := 7) (u := Int32.ofNat v) (x := Int32.ofNat u)
      rw [eT, bd_rt]
      have rT' : Qr T (gRe w v u) := rT
      obtain ⟨S, eS, rS, fS⟩ := r_attacks (n := n) hn fT.1 rT' (re_W hW (by omega)) (by rw [re_u hW (by omega)]; exact hv) (by rw [re_u hW (by omega)]; exact hu) (re_s hW (by omega) r)
      rw [eS, bd_rt]
      have fS' := (f1.tr fT).tr fS
      unfold gReact
      rw [if_pos r]
      have ml : gStrD (gRe w v u) v u ≤ 44 := by
        have := (gAm_le (re_W hW (by omega)) (by rw [re_u hW (by omega)]; exact hv) (by rw [re_u hW (by omega)]; exact hu) (re_s hW (by omega) r)).1
        unfold gStrD
        by_cases q : gAhit (gRe w v u) v u = true
        · rw [if_pos q]; exact this
        · rw [if_neg q]; omega
      by_cases g4 : 0 < gStrD (gRe w v u) v u
      · rw [if_neg (fun e => by have := (of_le (b := 0) (by omega) (by omega)).mp e; omega), if_pos g4]
        exact ⟨S, rfl, rS, fS'⟩
      · rw [if_pos (by exact (of_le (b := 0) (by omega) (by omega)).mpr (by omega)), if_neg g4, p1_of]
        have n1 : nU (gStrike (gRe w v u) v u) = nU w := by unfold nU; rw [one_at hW hv hu r (.inl (by omega))]
        obtain ⟨U, eU, rU, fU⟩ := r_react hn d m (v + 1) S (gStrike (gRe w v u) v u) (by rw [n1]; omega) (by omega) fS.1 rS (one_W hW hv hu r) (by rw [n1]; exact hu)
        exact ⟨U, eU, rU, fS'.tr fU⟩
    · rw [if_neg g1]
      exact skip (by unfold rOk; rw [decide_eq_false g1]; rfl)
end
/-! a cell is entered -/
def gEn0 (w : RW) (u c : Nat) : RW := zup w (67 + 11 * u + 2) (Int32.ofNat c)
def gEnter (w : RW) (u c : Nat) : RW := if w (2 + c) = 4 then zup (gEn0 w u c) (67 + 11 * u + 8) 2 else gEn0 w u c
def gIn (w : RW) (u c : Nat) : RW × Bool := gReact (nU w) 0 (gEnter w u c) u
section
variable {w : RW} {u c : Nat}
theorem en0_W (hW : WF w) (hu : u < nU w) (hc : c < nR w * nC w) : WF (gEn0 w u c) := by
  have u8 := hW.u8; have rc := hW.rc
  exact hW.zu (j := 2) (by omega) (by omega) (Nb.of (b := 63) (by omega) (by omega)) (fun _ => by rw [tn_of (by omega)]; exact hc)
theorem en_W (hW : WF w) (hu : u < nU w) (hc : c < nR w * nC w) : WF (gEnter w u c) := by
  have u8 := hW.u8
  unfold gEnter
  by_cases g : w (2 + c) = 4
  · rw [if_pos g]
    exact (en0_W hW hu hc).zu (j := 8) (by omega) (by omega) (Nb.of (k := 2) (b := 2) (by omega) (by omega)) (fun x => by omega)
  · rw [if_neg g]; exact en0_W hW hu hc
theorem en_at {k : Nat} (h : k ≠ 67 + 11 * u + 2) (h2 : k ≠ 67 + 11 * u + 8) : gEnter w u c k = w k := by
  unfold gEnter
  by_cases g : w (2 + c) = 4
  · rw [if_pos g, zup_ne h2]; exact zup_ne h
  · rw [if_neg g]; exact zup_ne h
theorem en_c : gEnter w u c (67 + 11 * u + 2) = Int32.ofNat c := by
  unfold gEnter
  by_cases g : w (2 + c) = 4
  · rw [if_pos g, zup_ne (by omega)]; exact zup_eq
  · rw [if_neg g]; exact zup_eq
theorem en_u (hu : u < 8) : nU (gEnter w u c) = nU w := by unfold nU; rw [en_at (by omega) (by omega)]
theorem in_p (hW : WF w) (hu : u < nU w) (hc : c < nR w * nC w) : WF (gIn w u c).1 ∧ (∀ k, Kp k → k ≠ 67 + 11 * u + 2 → k ≠ 67 + 11 * u + 8 → (gIn w u c).1 k = w k) ∧ (gIn w u c).1 (67 + 11 * u + 2) = Int32.ofNat c ∧ ((gIn w u c).2 = false → ∀ x, x < 8 → dead (gIn w u c).1 x = dead w x) ∧ (∀ x, x < 8 → x ≠ u → dead (gIn w u c).1 x = dead w x) := by
  have u8 := hW.u8
  have nu : nU (gEnter w u c) = nU w := en_u (by omega)
  have dd : ∀ x, dead (gEnter w u c) x = dead w x := fun x => dead_c (en_at (by omega) (by omega))
  obtain ⟨a1, a2, a3, a4⟩ := react_p (u := u) (nU w) 0 (gEnter w u c) (by omega) (en_W hW hu hc) (by rw [nu]; exact hu)
  refine ⟨a1, fun k hk h1 h2 => (a2 k hk).trans (en_at h1 h2), ?_, fun e x hx => (a3 e x hx).trans (dd x), fun x hx hxu => (a4 x hx hxu).trans (dd x)⟩
  exact (a2 _ (by unfold Kp; omega)).trans en_c
end
section
variable {n a : Nat} {V : VS} {w : RW} {u c : Nat}
theorem c_stopped (hn : 64 < n) (hL : zLay V) (ha : a ∈ zB) (hW : WF w) (h : Rp a V w) (hu : u < nU w) (hc : c < nR w * nC w) : ∃ U, ev_X2_isStoppedIn n V a (Int32.ofNat c) (a + 9 + u) = rt (bi (gIn w u c).2) U ∧ Rp a U (gIn w u c).1 ∧ FrC a V U := by
  have u8 := hW.u8; have rc := hW.rc
  have nu : nU (gEnter w u c) = nU w := en_u (by omega)
  have n0 : nU (gEn0 w u c) = nU w := nU_z (by omega)
  unfold ev_X2_isStoppedIn eX2_isStoppedIn_0
  rw [sq_eq]
  have l1 : zLay (wI V (a + 9 + u) 4 (Int32.ofNat c)) := zLay_wI hL
  have r1 : Rp a (wI V (a + 9 + u) 4 (Int32.ofNat c)) (gEn0 w u c) := h.wu hL ha (by omega) (j := 2) (by decide)
  have f1 : FrC a V (wI V (a + 9 + u) 4 (Int32.ofNat c)) := (FrC.rf hL).wu (by omega)
  have w0 := en0_W hW hu hc
  have eg : nR (gEn0 w u c) * nC (gEn0 w u c) = nR w * nC w := by
    rw [show nR (gEn0 w u c) = nR w from nR_z (by omega), show nC (gEn0 w u c) = nC w from nC_z (by omega)]
  rw [zr0 l1 ha, ob_1, c_ground l1 ha w0 r1 (by rw [eg]; exact hc), bd_rt, show gEn0 w u c (2 + c) = w (2 + c) from zup_ne (by omega)]
  have wE := en_W hW hu hc
  by_cases g : w (2 + c) = 4
  · rw [if_pos g, sq_eq]
    have eE : gEnter w u c = zup (gEn0 w u c) (67 + 11 * u + 8) 2 := if_pos g
    have r2 : Rp a (wI (wI V (a + 9 + u) 4 (Int32.ofNat c)) (a + 9 + u) 10 2) (gEnter w u c) := by
      rw [eE]; exact r1.wu l1 ha (by omega) (j := 8) (by decide)
    obtain ⟨U, e, r, f⟩ := c_react (n := n) (u := u) hn ha (nU w) n 0 _ (gEnter w u c) (by omega) (by omega) (zLay_wI l1) r2 wE (by rw [nu]; exact hu)
    exact ⟨U, e, r, (f1.wu (by omega)).tr f⟩
  · rw [if_neg g]
    have eE : gEnter w u c = gEn0 w u c := if_neg g
    obtain ⟨U, e, r, f⟩ := c_react (n := n) (u := u) hn ha (nU w) n 0 _ (gEnter w u c) (by omega) (by omega) l1 (by rw [eE]; exact r1) wE (by rw [nu]; exact hu)
    exact ⟨U, e, r, f1.tr f⟩
end
/-! a move -/
def gWk (w0 : RW) (f : Nat → Nat) (g u : Nat) : Nat → RW → RW
  | 0, w => w
  | k + 1, w => if cellN w u = g then w else match nx w0 f (cellN w u) with
    | none => w
    | some b => if (gIn w u b).2 = true then (gIn w u b).1 else gWk w0 f g u k (gIn w u b).1
theorem PA.fC {a : Nat} {V U : VS} {N : Nat} {e f : Nat → Nat} {dn : Nat → Bool} (h : PA V N e f dn) (ha : a ∈ zB) (fr : FrC a V U) : PA U N e f dn := by
  have l := zB_le a ha
  have c : ∀ i, 197 ≤ i → vI U i = vI V i := fun i hi => vI_C (fr.2 i (by omega))
  exact ⟨by rw [c 197 (by omega)]; exact h.1, fun q hq => by rw [c 198 (by omega)]; exact h.2.1 q hq, fun q hq => by rw [c 199 (by omega)]; exact h.2.2.1 q hq, fun q hq => by rw [c 200 (by omega)]; exact h.2.2.2 q hq⟩
theorem FaR.fR {V U : VS} {N : Nat} {h : Nat → Nat} (hf : FaR V N h) (fr : FrR V U) : FaR U N h := fun c hc => by rw [vI_C (fr.2 217 (by decide))]; exact hf c hc
section
variable {w0 : RW} {f : Nat → Nat} {g u : Nat}
theorem wk_p (hW0 : WF w0) (hE : EqD w0 g f) : ∀ (k : Nat) (w : RW), WF w → (∀ k, k < 67 → w k = w0 k) → u < nU w → WF (gWk w0 f g u k w) ∧ (∀ k', Kp k' → k' ≠ 67 + 11 * u + 2 → k' ≠ 67 + 11 * u + 8 → gWk w0 f g u k w k' = w k') ∧ (∀ x, x < 8 → x ≠ u → dead (gWk w0 f g u k w) x = dead w x)
  | 0, w, hW, _, _ => ⟨hW, fun _ _ _ _ => rfl, fun _ _ _ => rfl⟩
  | k + 1, w, hW, eg, hu => by
    unfold gWk
    have eR : nR w = nR w0 := by unfold nR; rw [eg 0 (by omega)]
    have eC : nC w = nC w0 := by unfold nC; rw [eg 1 (by omega)]
    have u8 := hW.u8
    by_cases c : cellN w u = g
    · rw [if_pos c]; exact ⟨hW, fun _ _ _ _ => rfl, fun _ _ _ => rfl⟩
    rw [if_neg c]
    cases hb : nx w0 f (cellN w u) with
    | none => exact ⟨hW, fun _ _ _ _ => rfl, fun _ _ _ => rfl⟩
    | some b =>
      have bN : b < nR w * nC w := by
        have := adj_in hW0 (by rw [← eR, ← eC]; exact cell_lt hW hu) (nx_ok hb).1
        rw [eR, eC]; exact this
      obtain ⟨a1, a2, a3, a4, a5⟩ := in_p hW hu bN
      show WF (if (gIn w u b).2 = true then (gIn w u b).1 else gWk w0 f g u k (gIn w u b).1) ∧ (∀ k', Kp k' → k' ≠ 67 + 11 * u + 2 → k' ≠ 67 + 11 * u + 8 → (if (gIn w u b).2 = true then (gIn w u b).1 else gWk w0 f g u k (gIn w u b).1) k' = w k') ∧ (∀ x, x < 8 → x ≠ u → dead (if (gIn w u b).2 = true then (gIn w u b).1 else gWk w0 f g u k (gIn w u b).1) x = dead w x)
      by_cases s : (gIn w u b).2 = true
      · rw [if_pos s]; exact ⟨a1, a2, a5⟩
      · rw [if_neg s]
        have eg1 : ∀ k, k < 67 → (gIn w u b).1 k = w0 k := fun q hq => (a2 q (.inl hq) (by omega) (by omega)).trans (eg q hq)
        obtain ⟨b1, b2, b3⟩ := wk_p hW0 hE k (gIn w u b).1 a1 eg1 (by unfold nU; rw [eg1 66 (by omega), ← eg 66 (by omega)]; exact hu)
        exact ⟨b1, fun q h1 h2 h3 => (b2 q h1 h2 h3).trans (a2 q h1 h2 h3), fun x hx hxu => (b3 x hx hxu).trans (a5 x hx hxu)⟩
end
section
variable {n a : Nat} {w0 : RW} {f : Nat → Nat} {g u : Nat}
theorem c_wk {dn : Nat → Bool} (hn : 64 < n) (ha : a ∈ zB) (hW0 : WF w0) (hE : EqD w0 g f) (hg : g < nR w0 * nC w0) : ∀ (k m i : Nat) (V : VS) (w : RW), i + k = 64 → k < m → zLay V → Rp a V w → WF w → (∀ k, k < 67 → w k = w0 k) → u < nU w → f (cellN w u) < 1000000 → PA V (nR w0 * nC w0) (ent w0) f dn → ∃ U, elX2_walk_33 n m V a (Int32.ofNat g) 197 (a + 9 + u) 0 (Int32.ofNat i) = eX2_walk_95 n U a (a + 9 + u) ∧ Rp a U (gWk w0 f g u k w) ∧ FrC a V U
  | 0, m + 1, i, V, w, e, _, hL, h, hW, eg, hu, _, hp => by
    have : i = 64 := by omega
    subst this
    show ∃ U, eX2_walk_33 n (elX2_walk_33 n m) V a (Int32.ofNat g) 197 (a + 9 + u) 0 (Int32.ofNat 64) = _ ∧ _
    unfold eX2_walk_33
    rw [if_pos (by decide)]
    exact ⟨V, rfl, h, FrC.rf hL⟩
  | k + 1, m + 1, i, V, w, e, hm, hL, h, hW, eg, hu, hf, hp => by
    have eR : nR w = nR w0 := by unfold nR; rw [eg 0 (by omega)]
    have eC : nC w = nC w0 := by unfold nC; rw [eg 1 (by omega)]
    have u8 := hW.u8; have rc := hW0.rc
    have cl := cell_lt hW hu
    have cl0 : cellN w u < nR w0 * nC w0 := by rw [← eR, ← eC]; exact cl
    show ∃ U, eX2_walk_33 n (elX2_walk_33 n m) V a (Int32.ofNat g) 197 (a + 9 + u) 0 (Int32.ofNat i) = _ ∧ _
    unfold eX2_walk_33 gWk
    rw [if_neg (fun e => by have := (of_le (a := 64) (by omega) (by omega)).mp e; omega), if_pos rfl]
    rw [show vI V (a + 9 + u) 4 = w (67 + 11 * u + 2) from h.u hu (by omega) (j := 2) (by decide), cell_e hW hu]
    by_cases c : cellN w u = g
    · rw [if_pos (by rw [c]), if_pos c]
      exact ⟨V, rfl, h, FrC.rf hL⟩
    rw [if_neg (fun e => c ((of_inj (by omega) (by omega)).mp e)), if_neg c, zr0 hL ha, ob_1]
    have nxt := c_next (n := n) (by omega) hL ha hW0 h hW eR eC hp (fun b hb => (hE.2.1 b hb).1) cl0
    rw [if_pos hf] at nxt
    rw [nxt, bd_rt, p1_of]
    obtain ⟨b, hb⟩ := hE.nx cl0 c hf
    have bk := nx_ok hb
    have bN0 := adj_in hW0 cl0 bk.1
    have bN : b < nR w * nC w := by rw [eR, eC]; exact bN0
    obtain ⟨a1, a2, a3, a4, a5⟩ := in_p hW hu bN
    rw [hb]
    show ∃ U, (if Int32.ofNat b < 0 then _ else bd (ev_X2_isStoppedIn n V a (Int32.ofNat b) (a + 9 + u)) _ th) = _ ∧ Rp a U (if (gIn w u b).2 = true then (gIn w u b).1 else gWk w0 f g u k (gIn w u b).1) ∧ _
    rw [if_neg (ofn_nn (by omega))]
    obtain ⟨T, eT, rT, fT⟩ := c_stopped (n := n) hn hL ha hW h hu bN
    rw [eT, bd_rt]
    cases s : (gIn w u b).2
    · rw [if_pos (show bi false = 0 from rfl), if_neg (by decide)]
      have eg1 : ∀ k, k < 67 → (gIn w u b).1 k = w0 k := fun q hq => (a2 q (.inl hq) (by omega) (by omega)).trans (eg q hq)
      have c1 : cellN (gIn w u b).1 u = b := by unfold cellN; rw [a3, tn_of (by omega)]
      obtain ⟨U, eU, rU, fU⟩ := c_wk hn ha hW0 hE hg k m (i + 1) T (gIn w u b).1 (by omega) (by omega) fT.1 rT a1 eg1 (by unfold nU; rw [eg1 66 (by omega), ← eg 66 (by omega)]; exact hu) (by rw [c1]; omega) (hp.fC ha fT)
      exact ⟨U, eU, rU, fT.tr fU⟩
    · rw [if_neg (show ¬ bi true = 0 by decide), if_pos rfl]
      obtain ⟨m, rfl⟩ : ∃ q, m = q + 1 := ⟨m - 1, by omega⟩
      unfold eX2_walk_82
      rw [p1_of]
      refine ⟨T, ?_, rT, fT⟩
      show eX2_walk_33 n (elX2_walk_33 n m) T a (Int32.ofNat g) 197 (a + 9 + u) 1 (Int32.ofNat (i + 1)) = _
      unfold eX2_walk_33
      by_cases q : (64 : Int32) ≤ Int32.ofNat (i + 1)
      · rw [if_pos q]
      · rw [if_neg q, if_neg (by decide)]
/-- who stands in the way is the same as when the paths were measured -/
theorem fre_mv {w : RW} (hW0 : WF w0) (hW : WF w) (eg : ∀ k, k < 67 → w k = w0 k) (hu : u < nU w) (hd : ∀ v, v < 8 → dead w v = dead w0 v) (hc : ∀ v, v < 8 → v ≠ u → w (67 + 11 * v + 2) = w0 (67 + 11 * v + 2)) {s : Nat} (hs : s < nR w0 * nC w0) (h1 : s ≠ cellN w u) (h2 : s ≠ cellN w0 u) : fre w s = fre w0 s := by
  have u8 := hW.u8; have rc := hW0.rc
  have eu : nU w = nU w0 := by unfold nU; rw [eg 66 (by omega)]
  have eR : nR w = nR w0 := by unfold nR; rw [eg 0 (by omega)]
  have eC : nC w = nC w0 := by unfold nC; rw [eg 1 (by omega)]
  unfold fre occ
  rw [eg (2 + s) (by omega), eu]
  congr 2
  rw [Bool.eq_iff_iff, List.any_eq_true, List.any_eq_true]
  have ne : ∀ {x : RW} (_ : WF x) (_ : u < nU x) (_ : cellN x u < nR w0 * nC w0), s ≠ cellN x u → ¬ x (67 + 11 * u + 2) = Int32.ofNat s := fun {x} hx hxu hxl q e => by
    rw [cell_e hx hxu] at e
    exact q ((of_inj (by omega) (by omega)).mp e).symm
  constructor
  · rintro ⟨v, hv, e⟩
    refine ⟨v, hv, ?_⟩
    have v8 : v < 8 := by have := List.mem_range.mp hv; omega
    by_cases q : v = u
    · subst q
      have := ne hW hu (by rw [← eR, ← eC]; exact cell_lt hW hu) h1
      rw [decide_eq_false this, Bool.and_false] at e; cases e
    · rwa [hd v v8, hc v v8 q] at e
  · rintro ⟨v, hv, e⟩
    refine ⟨v, hv, ?_⟩
    have v8 : v < 8 := by have := List.mem_range.mp hv; omega
    by_cases q : v = u
    · subst q
      have := ne hW0 (by rw [← eu]; exact hu) (cell_lt hW0 (by rw [← eu]; exact hu)) h2
      rw [decide_eq_false this, Bool.and_false] at e; cases e
    · rwa [hd v v8, hc v v8 q]
theorem r_wk (hn : 120 < n) (hW0 : WF w0) (hE : EqD w0 g f) (hg : g < nR w0 * nC w0) : ∀ (k m : Nat) (V : VS) (w : RW), k + 1 < m → zLay V → Qr V w → WF w → (∀ k, k < 67 → w k = w0 k) → u < nU w → f (cellN w u) ≤ k → k < 1000 → f (cellN w u) ≤ f (cellN w0 u) → (∀ v, v < 8 → dead w v = dead w0 v) → (∀ v, v < 8 → v ≠ u → w (67 + 11 * v + 2) = w0 (67 + 11 * v + 2)) → FaR V (nR w0 * nC w0) (farD f) → ∃ U, elX9_moves_15 n m V 207 (Int32.ofNat u) (Int32.ofNat g) (w (67 + 11 * u + 2)) 0 = eX9_moves_69 n U 207 (Int32.ofNat u) (gWk w0 f g u k w (67 + 11 * u + 2)) ∧ Qr U (gWk w0 f g u k w) ∧ FrR V U := by
  intro k
  induction k with
  | zero =>
    intro m V w hm hL hQ hW eg hu hk _ _ _ _ _
    obtain ⟨m, rfl⟩ : ∃ q, m = q + 1 := ⟨m - 1, by omega⟩
    have eR : nR w = nR w0 := by unfold nR; rw [eg 0 (by omega)]
    have eC : nC w = nC w0 := by unfold nC; rw [eg 1 (by omega)]
    have cl0 : cellN w u < nR w0 * nC w0 := by rw [← eR, ← eC]; exact cell_lt hW hu
    have c : cellN w u = g := by
      by_cases q : cellN w u = g
      · exact q
      · obtain ⟨s, _, _, b, d⟩ := hE.2.2.1 _ cl0 q (by omega)
        omega
    show ∃ U, eX9_moves_15 n (elX9_moves_15 n m) V 207 (Int32.ofNat u) (Int32.ofNat g) (w (67 + 11 * u + 2)) 0 = _ ∧ _
    unfold eX9_moves_15
    rw [if_pos (by rw [cell_e hW hu, c])]
    exact ⟨V, rfl, hQ, FrR.rf hL⟩
  | succ k ih =>
    intro m V w hm hL hQ hW eg hu hk hk2 hf0 hd hcl hF
    obtain ⟨m, rfl⟩ : ∃ q, m = q + 1 := ⟨m - 1, by omega⟩
    have eR : nR w = nR w0 := by unfold nR; rw [eg 0 (by omega)]
    have eC : nC w = nC w0 := by unfold nC; rw [eg 1 (by omega)]
    have u8 := hW.u8; have rc := hW0.rc
    have cl0 : cellN w u < nR w0 * nC w0 := by rw [← eR, ← eC]; exact cell_lt hW hu
    show ∃ U, eX9_moves_15 n (elX9_moves_15 n m) V 207 (Int32.ofNat u) (Int32.ofNat g) (w (67 + 11 * u + 2)) 0 = _ ∧ _
    unfold eX9_moves_15 gWk
    by_cases c : cellN w u = g
    · rw [if_pos (by rw [cell_e hW hu, c]), if_pos c]
      exact ⟨V, rfl, hQ, FrR.rf hL⟩
    rw [if_neg (fun e => by rw [cell_e hW hu] at e; exact c ((of_inj (by omega) (by omega)).mp e)), if_neg c, if_pos rfl]
    obtain ⟨b, hb⟩ := hE.nx cl0 c (by omega)
    have bk := nx_ok hb
    have bN0 := adj_in hW0 cl0 bk.1
    have bN : b < nR w * nC w := by rw [eR, eC]; exact bN0
    have pl := fun s => prc_le w0 s
    have nxt := r_next (n := n) (by omega) hW0 hE hL hQ hW (fun k hk => eg k (by omega)) hF cl0 (by omega) (fun s hs e => fre_mv hW0 hW eg hu hd hcl hs (fun x => by have := pl s; rw [x] at e; rw [x] at this; omega) (fun x => by have := pl s; rw [x] at e; rw [x] at this; omega)) hb
    rw [cell_e hW hu, nxt, bd_rt, r_setj (x := 2) (j := 2) hL (by omega) (by decide) rfl, bd_rt]
    have l1 : zLay (wI V 208 (67 + 11 * u + 2) (Int32.ofNat b)) := zLay_wI hL
    have q1 : Qr (wI V 208 (67 + 11 * u + 2) (Int32.ofNat b)) (gEn0 w u b) := hQ.w hL
    have f1 : FrR V (wI V 208 (67 + 11 * u + 2) (Int32.ofNat b)) := (FrR.rf hL).w
    obtain ⟨a1, a2, a3, a4, a5⟩ := in_p hW hu bN
    obtain ⟨g2, e2⟩ := r_gc l1 q1 (c := b) (by omega)
    have nu : nU (gEnter w u b) = nU w := en_u (by omega)
    have wE := en_W hW hu bN
    rw [r71 l1, ob_1, if_pos g2, e2, show gEn0 w u b (2 + b) = w (2 + b) from zup_ne (by omega), hb]
    show ∃ U, _ = eX9_moves_69 n U 207 (Int32.ofNat u) ((if (gIn w u b).2 = true then (gIn w u b).1 else gWk w0 f g u k (gIn w u b).1) (67 + 11 * u + 2)) ∧ Qr U (if (gIn w u b).2 = true then (gIn w u b).1 else gWk w0 f g u k (gIn w u b).1) ∧ _
    have fin : ∀ T : VS, zLay T → Qr T (gEnter w u b) → FrR V T → ∃ U, eX9_moves_58 n (elX9_moves_15 n m) T 207 (Int32.ofNat u) (Int32.ofNat g) (Int32.ofNat b) = eX9_moves_69 n U 207 (Int32.ofNat u) ((if (gIn w u b).2 = true then (gIn w u b).1 else gWk w0 f g u k (gIn w u b).1) (67 + 11 * u + 2)) ∧ Qr U (if (gIn w u b).2 = true then (gIn w u b).1 else gWk w0 f g u k (gIn w u b).1) ∧ FrR V U := by
      intro T lT qT fT
      unfold eX9_moves_58 ev_X9_isStopped eX9_isStopped_0
      obtain ⟨S, eS, qS, fS⟩ := r_react (n := n) (u := u) hn (nU w) n 0 T (gEnter w u b) (by omega) (by omega) lT qT wE (by rw [nu]; exact hu)
      rw [show (0 : Int32) = Int32.ofNat 0 from rfl, eS, bd_rt]
      have fS' := fT.tr fS
      have c1 : cellN (gIn w u b).1 u = b := by unfold cellN; rw [a3, tn_of (by omega)]
      cases s : (gIn w u b).2
      · rw [if_neg (by decide)]
        have s' : (gReact (nU w) 0 (gEnter w u b) u).2 = false := s
        rw [s']
        have eg1 : ∀ k, k < 67 → (gIn w u b).1 k = w0 k := fun q hq => (a2 q (.inl hq) (by omega) (by omega)).trans (eg q hq)
        have pb := bk.2.1
        obtain ⟨U, eU, rU, fU⟩ := ih m S (gIn w u b).1 (by omega) fS.1 qS a1 eg1 (by unfold nU; rw [eg1 66 (by omega), ← eg 66 (by omega)]; exact hu) (by rw [c1]; omega) (by omega) (by rw [c1]; omega) (fun v hv => (a4 s v hv).trans (hd v hv)) (fun v hv hvu => (a2 _ (by unfold Kp; omega) (by omega) (by omega)).trans (hcl v hv hvu)) (hF.fR fS')
        rw [a3] at eU
        exact ⟨U, eU, rU, fS'.tr fU⟩
      · have s' : (gReact (nU w) 0 (gEnter w u b) u).2 = true := s
        rw [s', if_pos rfl, a3]
        obtain ⟨m, rfl⟩ : ∃ q, m = q + 1 := ⟨m - 1, by omega⟩
        refine ⟨S, ?_, qS, fS'⟩
        show eX9_moves_15 n (elX9_moves_15 n m) S 207 (Int32.ofNat u) (Int32.ofNat g) (Int32.ofNat b) 1 = _
        unfold eX9_moves_15
        by_cases q : Int32.ofNat b = Int32.ofNat g
        · rw [if_pos q]
        · rw [if_neg q, if_neg (by decide)]
    by_cases g4 : w (2 + b) = 4
    · rw [if_pos g4, r_setj (x := 8) (j := 8) l1 (by omega) (by decide) rfl, bd_rt]
      have eE : gEnter w u b = zup (gEn0 w u b) (67 + 11 * u + 8) 2 := if_pos g4
      exact fin _ (zLay_wI l1) (by rw [eE]; exact q1.w l1) f1.w
    · rw [if_neg g4]
      have eE : gEnter w u b = gEn0 w u b := if_neg g4
      exact fin _ l1 (by rw [eE]; exact q1) f1
end
