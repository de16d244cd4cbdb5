/-! a round begins -/
def tbN (q k : Nat) : Nat := (tbI q (Int32.ofNat k)).toNatClampNeg
theorem tb_le : ∀ q, q < 9 → ∀ k, k < 4 → tbI q (Int32.ofNat k) = Int32.ofNat (tbN q k) ∧ tbN q k ≤ 18 := by decide +kernel
theorem tb5_le : ∀ k, k < 4 → tbN 5 k ≤ 8 := by decide +kernel
theorem kd_in {w : RW} (hW : WF w) {u : Nat} (hu : u < nU w) : gvp_in (w (67 + 11 * u + 1)) 4 = true := by
  rw [kind_e hW hu]; exact in_of (kind_lt hW hu) (by decide)
def gRl (w : RW) (u : Nat) : Int32 := rD w 6 + tbI 5 (w (67 + 11 * u + 1))
def gU3 (w : RW) (u : Nat) : RW := zup (zup (zup w (67 + 11 * u + 6) 0) 155 (rZ w)) (67 + 11 * u + 6) (gRl w u)
def gUnit (w : RW) (u : Nat) : RW := if dead w u = true then zup w (67 + 11 * u + 6) 0 else zup (insW u (nO w) (gU3 w u)) 157 (w 157 + 1)
def gRolls : Nat → Nat → RW → RW
  | 0, _, w => w
  | d + 1, u, w => gRolls d (u + 1) (gUnit w u)
def gBeg (w : RW) : RW := gRolls (nU w) 0 (zup (zup (gTell (zup w 156 (w 156 + 1)) 9 (-1) (w 156 + 1)) 157 0) 290 (-1))
theorem gRl_nb {w : RW} (hW : WF w) {u : Nat} (hu : u < nU w) : Nb (gRl w u) 14 := by
  obtain ⟨k, hk, e⟩ := rD_of w (s := 6) (by omega) (by omega)
  have e' : rD w 6 = Int32.ofNat (k + 1) := e
  unfold gRl
  have kl := kind_lt hW hu
  have t5 := tb5_le _ kl
  rw [e', kind_e hW hu, (tb_le 5 (by omega) _ kl).1, of_add]
  exact Nb.of (by omega) (by omega)
theorem gU3_at {w : RW} {u k : Nat} (h : k ≠ 67 + 11 * u + 6) (h2 : k ≠ 155) : gU3 w u k = w k := by
  unfold gU3; rw [zup_ne h, zup_ne h2, zup_ne h]
theorem dead_z {w : RW} {u k : Nat} {x : Int32} (h : k ≠ 67 + 11 * u + 3) : dead (zup w k x) u = dead w u := by
  unfold dead; rw [zup_ne (Ne.symm h)]
theorem dead_c {w w' : RW} {u : Nat} (h : w' (67 + 11 * u + 3) = w (67 + 11 * u + 3)) : dead w' u = dead w u := by
  unfold dead; rw [h]
theorem gUnit_at {w : RW} {u k : Nat} (h : k ≠ 67 + 11 * u + 6) (h2 : k ≠ 155) (h3 : k < 157 ∨ 166 ≤ k) (h8 : nO w < 8) : gUnit w u k = w k := by
  unfold gUnit
  cases dead w u
  · rw [if_neg (by decide), zup_ne (by omega), ins_lo _ _ _ (by omega), gU3_at h h2]
  · rw [if_pos rfl, zup_ne h]
/-- while a round's order is made -/
def BI (w : RW) (u : Nat) : Prop := WF w ∧ nO w ≤ u ∧ (∀ i, i < nO w → (w (158 + i)).toNatClampNeg < u ∧ dead w (w (158 + i)).toNatClampNeg = false) ∧ (∀ v, v < u → v < nU w → dead w v = false → ∃ i, i < nO w ∧ w (158 + i) = Int32.ofNat v)
theorem BI_unit {w : RW} {u : Nat} (h : BI w u) (hu : u < nU w) : BI (gUnit w u) (u + 1) := by
  obtain ⟨hW, h1, h2, h3⟩ := h
  have u8 := hW.u8
  have oe := hW.oe
  by_cases hd : dead w u = true
  · have e : gUnit w u = zup w (67 + 11 * u + 6) 0 := by unfold gUnit; rw [if_pos hd]
    have no : nO (zup w (67 + 11 * u + 6) 0) = nO w := nO_z (by omega)
    have nu : nU (zup w (67 + 11 * u + 6) 0) = nU w := nU_z (by omega)
    have dz : ∀ v, dead (zup w (67 + 11 * u + 6) 0) v = dead w v := fun v => dead_z (by omega)
    rw [e]
    refine ⟨hW.zu (j := 6) (by omega) (by omega) nb_z (fun x => by omega), by rw [no]; omega, fun i hi => ?_, fun v hv hv2 dv => ?_⟩
    · rw [no] at hi; rw [zup_ne (by omega), dz]; have := h2 i hi; exact ⟨by omega, this.2⟩
    · rw [nu] at hv2; rw [dz] at dv
      by_cases q : v = u
      · rw [q, hd] at dv; cases dv
      · obtain ⟨i, hi, ei⟩ := h3 v (by omega) hv2 dv
        exact ⟨i, by rw [no]; exact hi, by rw [zup_ne (by omega)]; exact ei⟩
  · have hd' : dead w u = false := by simpa using hd
    have e : gUnit w u = zup (insW u (nO w) (gU3 w u)) 157 (w 157 + 1) := by unfold gUnit; rw [if_neg hd]
    have at0 : ∀ k, k ≠ 67 + 11 * u + 6 → k ≠ 155 → k < 157 ∨ 166 ≤ k → gUnit w u k = w k := fun k a b c => gUnit_at a b c (by omega)
    have ord : ∀ i, i ≤ nO w → gUnit w u (158 + i) = insW u (nO w) (gU3 w u) (158 + i) := fun i hi => by rw [e, zup_ne (by omega)]
    have o3 : ∀ i, i < nO w → gU3 w u (158 + i) = w (158 + i) := fun i hi => gU3_at (by omega) (by omega)
    have o157 : gUnit w u 157 = Int32.ofNat (nO w + 1) := by rw [e, zup_eq, oe, show Int32.ofNat (nO w) + 1 = Int32.ofNat (nO w + 1) from of_add]
    have no : nO (gUnit w u) = nO w + 1 := by show (gUnit w u 157).toNatClampNeg = _; rw [o157]; exact tn_of (by omega)
    have nu : nU (gUnit w u) = nU w := by unfold nU; rw [at0 66 (by omega) (by omega) (by omega)]
    have dz : ∀ v, v < nU w → dead (gUnit w u) v = dead w v := fun v hv => dead_c (at0 _ (by omega) (by omega) (by omega))
    obtain ⟨a1, a2, a3, a4⟩ := ins_ok (u := u) (N := nO w) (by omega) (by omega) (nO w) (gU3 w u) (Nat.le_refl _) (fun i hi hip => by
      rw [o3 i (by omega)]; exact ⟨(hW.o (by omega)).1, (h2 i (by omega)).1⟩) (fun i j hij hj hip hjp => by
      rw [o3 i (by omega), o3 j (by omega)]; exact hW.od hij (by omega))
    have each : ∀ i, i ≤ nO w → Nb (gUnit w u (158 + i)) 7 ∧ (gUnit w u (158 + i)).toNatClampNeg < u + 1 ∧ dead w (gUnit w u (158 + i)).toNatClampNeg = false := fun i hi => by
      rw [ord i hi]
      rcases a1 i hi with q | ⟨j, hj, hjp, q⟩
      · rw [q, tn_of (by omega)]; exact ⟨Nb.of (by omega) (by omega), by omega, hd'⟩
      · rw [q, o3 j (by omega)]; have := h2 j (by omega); exact ⟨(hW.o (by omega)).1, by omega, this.2⟩
    have wf : WF (gUnit w u) := by
      have hw := hW.f hu (j := 6) (by omega)
      refine hW.up (fun j hj => at0 j (by omega) (by omega) (by omega)) (fun v hv j hj => ?_) (fun v hv => ?_) (by rw [o157]; exact Nb.of (by omega) (by omega)) (by rw [no]; omega) (fun i hi => ?_) (fun i j hij hj => ?_) (by rw [at0 _ (by omega) (by omega) (by omega)]; exact hW.a) (by rw [at0 _ (by omega) (by omega) (by omega)]; exact hW.e)
      · by_cases q : 67 + 11 * v + j = 67 + 11 * u + 6
        · have qj : j = 6 := by omega
          rw [q, e, zup_ne (by omega), ins_lo _ _ _ (by omega), qj]
          unfold gU3; rw [zup_eq]; exact gRl_nb hW hu
        · rw [at0 _ q (by omega) (by omega)]; exact hW.f hv hj
      · rw [at0 _ (by omega) (by omega) (by omega)]; exact hW.cl hv
      · rw [no] at hi; have := each i (by omega); exact ⟨this.1, by omega⟩
      · rw [no] at hj; rw [ord i (by omega), ord j (by omega)]; exact a2 i j hij (by omega)
    refine ⟨wf, by rw [no]; omega, fun i hi => ?_, fun v hv hv2 dv => ?_⟩
    · rw [no] at hi; have := each i (by omega)
      refine ⟨this.2.1, ?_⟩
      rw [dz _ (by omega)]; exact this.2.2
    · rw [nu] at hv2; rw [dz v hv2] at dv
      by_cases q : v = u
      · obtain ⟨i, hi, ei⟩ := a3
        exact ⟨i, by rw [no]; omega, by rw [ord i hi, ei, q]⟩
      · obtain ⟨i, hi, ei⟩ := h3 v (by omega) hv2 dv
        obtain ⟨j, hj, ej⟩ := a4 i (by omega) (by omega)
        exact ⟨j, by rw [no]; omega, by rw [ord j hj, ej, o3 i hi, ei]⟩
theorem gRolls_at : ∀ (d u : Nat) (w : RW) (k : Nat), BI w u → u + d = nU w → (k < 155 → ∀ v, k ≠ 67 + 11 * v + 6) → k ≠ 155 → (k < 157 ∨ 166 ≤ k) → gRolls d u w k = w k
  | 0, u, w, k, _, _, _, _, _ => rfl
  | d + 1, u, w, k, hB, hd, h1, h2, h3 => by
    have u8 := hB.1.u8
    have l := hB.2.1
    have nu : nU (gUnit w u) = nU w := by unfold nU; rw [gUnit_at (by omega) (by omega) (by omega) (by omega)]
    show gRolls d (u + 1) (gUnit w u) k = w k
    rw [gRolls_at d (u + 1) (gUnit w u) k (BI_unit hB (by omega)) (by rw [nu]; omega) h1 h2 h3]
    refine gUnit_at (fun e => ?_) h2 h3 (by omega)
    exact h1 (by omega) u e
theorem BI_rolls : ∀ (d u : Nat) (w : RW), BI w u → u + d = nU w → BI (gRolls d u w) (nU w)
  | 0, u, w, hB, hd => by
    have : u = nU w := by omega
    exact this ▸ hB
  | d + 1, u, w, hB, hd => by
    have u8 := hB.1.u8
    have l := hB.2.1
    have nu : nU (gUnit w u) = nU w := by unfold nU; rw [gUnit_at (by omega) (by omega) (by omega) (by omega)]
    have := BI_rolls d (u + 1) (gUnit w u) (BI_unit hB (by omega)) (by rw [nu]; omega)
    rw [nu] at this; exact this
section
variable {n a : Nat}
theorem c_rolls (hn : 8 < n) (ha : a ∈ zB) : ∀ (d m u : Nat) (V : VS) (w : RW), u + d = nU w → d < m → zLay V → Rp a V w → BI w u → ∃ U, elX2_beginRound_36 n m V a (Int32.ofNat u) = rt () U ∧ Rp a U (gRolls d u w) ∧ FrC a V U
  | 0, m + 1, u, V, w, hd, _, hL, h, hB => by
    have u8 := hB.1.u8
    show ∃ U, eX2_beginRound_36 n (elX2_beginRound_36 n m) V a (Int32.ofNat u) = _ ∧ _
    unfold eX2_beginRound_36
    rw [h.count, hB.1.ue, if_pos (by exact (of_le (by omega) (by omega)).mpr (by omega))]
    exact ⟨V, rfl, h, FrC.rf hL⟩
  | d + 1, m + 1, u, V, w, hd, hm, hL, h, hB => by
    obtain ⟨hW, b1, b2, b3⟩ := id hB
    have u8 := hW.u8
    have hu : u < nU w := by omega
    show ∃ U, eX2_beginRound_36 n (elX2_beginRound_36 n m) V a (Int32.ofNat u) = _ ∧ _
    unfold eX2_beginRound_36
    rw [h.count, hW.ue, if_neg (fun e => by have := (of_le (by omega) (by omega)).mp e; omega), zr1 hL ha, ob_1, znu hL ha, if_pos (in_of (by omega) (by decide)), tn_of (by omega), zru hL ha (by omega), ob_1, sq_eq]
    have l1 : zLay (wI V (a + 9 + u) 8 0) := zLay_wI hL
    have r1 : Rp a (wI V (a + 9 + u) 8 0) (zup w (67 + 11 * u + 6) 0) := h.wu hL ha (by omega) (j := 6) (by decide)
    have nu1 : nU (zup w (67 + 11 * u + 6) 0) = nU w := nU_z (by omega)
    have f1 : FrC a V (wI V (a + 9 + u) 8 0) := (FrC.rf hL).wu (by omega)
    rw [c_lives r1 (by rw [nu1]; exact hu) (by omega), bd_rt, dead_z (by omega), p1_of]
    have nu : nU (gUnit w u) = nU w := by unfold nU; rw [gUnit_at (by omega) (by omega) (by omega) (by omega)]
    have hB' := BI_unit hB hu
    by_cases hd' : dead w u = true
    · have e : gUnit w u = zup w (67 + 11 * u + 6) 0 := by unfold gUnit; rw [if_pos hd']
      rw [if_pos hd', if_pos rfl]
      obtain ⟨U, eU, rU, fU⟩ := c_rolls hn ha d m (u + 1) _ (gUnit w u) (by rw [nu]; omega) (by omega) l1 (by rw [e]; exact r1) hB'
      exact ⟨U, eU, rU, f1.tr fU⟩
    · rw [if_neg hd', if_neg (by decide)]
      have z1 : rZ (zup w (67 + 11 * u + 6) 0) = rZ w := by unfold rZ; rw [zup_ne (by omega)]
      have d1 : rD (zup w (67 + 11 * u + 6) 0) 6 = rD w 6 := by unfold rD; rw [z1]
      rw [c_roll (x := 6) (s := 6) l1 ha r1 (by omega) (by omega) rfl, bd_rt, z1, d1]
      have l2 : zLay (wI (wI V (a + 9 + u) 8 0) a 10 (rZ w)) := zLay_wI l1
      have r2 : Rp a (wI (wI V (a + 9 + u) 8 0) a 10 (rZ w)) (zup (zup w (67 + 11 * u + 6) 0) 155 (rZ w)) := r1.wz l1 ha
      have k2 : vI (wI (wI V (a + 9 + u) 8 0) a 10 (rZ w)) (a + 9 + u) 2 = w (67 + 11 * u + 1) := by
        rw [show vI (wI (wI V (a + 9 + u) 8 0) a 10 (rZ w)) (a + 9 + u) 2 = _ from r2.u (by rw [nU_z (by omega), nu1]; exact hu) (by omega) (j := 1) (by decide), zup_ne (by omega), zup_ne (by omega)]
      rw [k2, if_pos (kd_in hW hu), sq_eq]
      have r3 : Rp a (wI (wI (wI V (a + 9 + u) 8 0) a 10 (rZ w)) (a + 9 + u) 8 (gRl w u)) (gU3 w u) := r2.wu l2 ha (by omega) (j := 6) (by decide)
      have l3 : zLay (wI (wI (wI V (a + 9 + u) 8 0) a 10 (rZ w)) (a + 9 + u) 8 (gRl w u)) := zLay_wI l2
      have no3 : nO (gU3 w u) = nO w := by unfold nO; rw [gU3_at (by omega) (by omega)]
      have nu3 : nU (gU3 w u) = nU w := by unfold nU; rw [gU3_at (by omega) (by omega)]
      have oe3 : gU3 w u 157 = Int32.ofNat (nO (gU3 w u)) := by rw [gU3_at (by omega) (by omega), no3]; exact hW.oe
      have f3 : FrC a V (wI (wI (wI V (a + 9 + u) 8 0) a 10 (rZ w)) (a + 9 + u) 8 (gRl w u)) := (f1.w0).wu (by omega)
      obtain ⟨T, eT, rT, fT⟩ := c_ins (n := n) ha (u := u) (by omega) (nO w) n _ (gU3 w u) (by omega) l3 r3 (by rw [nu3]; exact hu) (by rw [nu3]; exact u8) (by rw [no3]; omega) (by rw [no3]; omega) oe3 (fun i hi => by
        rw [no3] at hi; rw [nu3, gU3_at (by omega) (by omega)]; exact hW.o hi) (fun hlt => by rw [no3] at hlt; omega)
      have eg : zup (insW u (nO w) (gU3 w u)) 157 (gU3 w u 157 + 1) = gUnit w u := by
        unfold gUnit; rw [if_neg hd', gU3_at (by omega) (by omega)]
      rw [eg] at rT
      show ∃ U, bd (ev_X2_insertByRoll n (wI (wI (wI V (a + 9 + u) 8 0) a 10 (rZ w)) (a + 9 + u) 8 (gRl w u)) a (a + 9 + u)) _ _ = _ ∧ _
      unfold ev_X2_insertByRoll eX2_insertByRoll_0
      rw [r3.ocount, oe3, no3, eT, bd_rt]
      obtain ⟨U, eU, rU, fU⟩ := c_rolls hn ha d m (u + 1) T (gUnit w u) (by rw [nu]; omega) (by omega) fT.1 rT hB'
      exact ⟨U, eU, rU, (f3.tr fT).tr fU⟩
theorem r_rolls (hn : 8 < n) : ∀ (d m u : Nat) (V : VS) (w : RW), u + d = nU w → d < m → zLay V → Qr V w → BI w u → ∃ U, elX9_begins_38 n m V 207 (Int32.ofNat u) = rt () (wI U 207 16 (-1)) ∧ Qr U (gRolls d u w) ∧ FrR V U
  | 0, m + 1, u, V, w, hd, _, hL, hQ, hB => by
    have u8 := hB.1.u8
    obtain ⟨g1, e1⟩ := r_v hL hQ (k := 66) (x := 66) (by decide) rfl
    show ∃ U, eX9_begins_38 n (elX9_begins_38 n m) V 207 (Int32.ofNat u) = _ ∧ _
    unfold eX9_begins_38
    rw [r71 hL, ob_1, if_pos g1, e1, hB.1.ue, if_pos (by exact (of_le (by omega) (by omega)).mpr (by omega)), sq_eq]
    exact ⟨V, rfl, hQ, FrR.rf hL⟩
  | d + 1, m + 1, u, V, w, hd, hm, hL, hQ, hB => by
    obtain ⟨hW, b1, b2, b3⟩ := id hB
    have u8 := hW.u8
    have hu : u < nU w := by omega
    obtain ⟨g1, e1⟩ := r_v hL hQ (k := 66) (x := 66) (by decide) rfl
    show ∃ U, eX9_begins_38 n (elX9_begins_38 n m) V 207 (Int32.ofNat u) = _ ∧ _
    unfold eX9_begins_38
    rw [r71 hL, ob_1, if_pos g1, e1, hW.ue, if_neg (fun e => by have := (of_le (by omega) (by omega)).mp e; omega), r_setj (x := 6) (j := 6) hL (by omega) (by decide) rfl, bd_rt]
    have l1 : zLay (wI V 208 (67 + 11 * u + 6) 0) := zLay_wI hL
    have q1 : Qr (wI V 208 (67 + 11 * u + 6) 0) (zup w (67 + 11 * u + 6) 0) := hQ.w hL
    have f1 : FrR V (wI V 208 (67 + 11 * u + 6) 0) := (FrR.rf hL).w
    have nu1 : nU (zup w (67 + 11 * u + 6) 0) = nU w := nU_z (by omega)
    have w1 : WF (zup w (67 + 11 * u + 6) 0) := hW.zu (j := 6) (by omega) (by omega) nb_z (fun x => by omega)
    rw [r_lives l1 q1 (by omega), bd_rt, dead_z (by omega), p1_of]
    have nu : nU (gUnit w u) = nU w := by unfold nU; rw [gUnit_at (by omega) (by omega) (by omega) (by omega)]
    have hB' := BI_unit hB hu
    by_cases hd' : dead w u = true
    · have e : gUnit w u = zup w (67 + 11 * u + 6) 0 := by unfold gUnit; rw [if_pos hd']
      rw [if_pos hd', if_pos rfl]
      obtain ⟨U, eU, rU, fU⟩ := r_rolls hn d m (u + 1) _ (gUnit w u) (by rw [nu]; omega) (by omega) l1 (by rw [e]; exact q1) hB'
      exact ⟨U, eU, rU, f1.tr fU⟩
    · rw [if_neg hd', if_neg (by decide)]
      have z1 : rZ (zup w (67 + 11 * u + 6) 0) = rZ w := by unfold rZ; rw [zup_ne (by omega)]
      have d1 : rD (zup w (67 + 11 * u + 6) 0) 6 = rD w 6 := by unfold rD; rw [z1]
      rw [r_roll (x := 6) (s := 6) l1 q1 (by omega) (by omega) rfl, bd_rt, z1, d1]
      have l2 : zLay (wI (wI V 208 (67 + 11 * u + 6) 0) 208 155 (rZ w)) := zLay_wI l1
      have q2 : Qr (wI (wI V 208 (67 + 11 * u + 6) 0) 208 155 (rZ w)) (zup (zup w (67 + 11 * u + 6) 0) 155 (rZ w)) := q1.w l1
      have w2 : WF (zup (zup w (67 + 11 * u + 6) 0) 155 (rZ w)) := w1.z (.inl rfl)
      have nu2 : nU (zup (zup w (67 + 11 * u + 6) 0) 155 (rZ w)) = nU w := by rw [nU_z (by omega), nu1]
      rw [r_kindly (y := 5) (q := 5) l2 q2 w2 (by rw [nu2]; exact hu) (by decide) rfl, bd_rt, zup_ne (by omega), zup_ne (by omega), show rD w 6 + tbI 5 (w (67 + 11 * u + 1)) = gRl w u from rfl]
      rw [r_setj (x := 6) (j := 6) l2 (by omega) (by decide) rfl, bd_rt]
      have l3 : zLay (wI (wI (wI V 208 (67 + 11 * u + 6) 0) 208 155 (rZ w)) 208 (67 + 11 * u + 6) (gRl w u)) := zLay_wI l2
      have q3 : Qr (wI (wI (wI V 208 (67 + 11 * u + 6) 0) 208 155 (rZ w)) 208 (67 + 11 * u + 6) (gRl w u)) (gU3 w u) := q2.w l2
      have f3 : FrR V (wI (wI (wI V 208 (67 + 11 * u + 6) 0) 208 155 (rZ w)) 208 (67 + 11 * u + 6) (gRl w u)) := (f1.w).w
      have no3 : nO (gU3 w u) = nO w := by unfold nO; rw [gU3_at (by omega) (by omega)]
      have nu3 : nU (gU3 w u) = nU w := by unfold nU; rw [gU3_at (by omega) (by omega)]
      have oe3 : gU3 w u 157 = Int32.ofNat (nO w) := by rw [gU3_at (by omega) (by omega)]; exact hW.oe
      obtain ⟨g7, e7⟩ := r_v l3 q3 (k := 157) (x := 157) (by decide) rfl
      show ∃ U, (vR (wI (wI (wI V 208 (67 + 11 * u + 6) 0) 208 155 (rZ w)) 208 (67 + 11 * u + 6) (gRl w u)) 207 1).bind _ = _ ∧ _
      rw [r71 l3, ob_1, if_pos g7, e7, oe3]
      obtain ⟨T, eT, rT, fT⟩ := r_ins (n := n) (K := elX9_begins_38 n m) (u := u) (by omega) (nO w) n _ (gU3 w u) (by omega) l3 q3 (by rw [nu3]; exact u8) (by rw [no3]; omega) (by rw [no3]; omega) (fun i hi => by
        rw [no3] at hi; rw [nu3, gU3_at (by omega) (by omega)]; exact hW.o hi)
      have eg : zup (insW u (nO w) (gU3 w u)) 157 (gU3 w u 157 + 1) = gUnit w u := by
        unfold gUnit; rw [if_neg hd', gU3_at (by omega) (by omega)]
      rw [eg] at rT
      rw [eT]
      obtain ⟨U, eU, rU, fU⟩ := r_rolls hn d m (u + 1) T (gUnit w u) (by rw [nu]; omega) (by omega) fT.1 rT hB'
      exact ⟨U, eU, rU, (f3.tr fT).tr fU⟩
end
def gB0 (w : RW) : RW := zup (zup (gTell (zup w 156 (w 156 + 1)) 9 (-1) (w 156 + 1)) 157 0) 290 (-1)
theorem gBeg_e {w : RW} : gBeg w = gRolls (nU w) 0 (gB0 w) := rfl
theorem gB0_at {w : RW} (hE : Nb (w 168) 40) {k : Nat} (h : k < 156 ∨ (157 < k ∧ k < 168) ∨ 290 < k ∨ k = 289) : gB0 w k = w k := by
  unfold gB0
  have e : Nb (zup w 156 (w 156 + 1) 168) 40 := by rw [zup_ne (by omega)]; exact hE
  rw [zup_ne (by omega), zup_ne (by omega), gTell_lo e (by omega), zup_ne (by omega)]
theorem gB0_BI {w : RW} (hW : WF w) : BI (gB0 w) 0 := by
  have no : nO (gB0 w) = 0 := by unfold nO gB0; rw [zup_ne (by omega), zup_eq]; decide +kernel
  have h1 : WF (gTell (zup w 156 (w 156 + 1)) 9 (-1) (w 156 + 1)) := (hW.z (.inr (.inl rfl))).tell
  have h2 : WF (zup (gTell (zup w 156 (w 156 + 1)) 9 (-1) (w 156 + 1)) 157 0) := by
    have n2 : nO (zup (gTell (zup w 156 (w 156 + 1)) 9 (-1) (w 156 + 1)) 157 0) = 0 := by unfold nO; rw [zup_eq]; decide +kernel
    have u8 := h1.u8
    refine h1.up (fun j hj => zup_ne (by omega)) (fun u hu j hj => ?_) (fun u hu => ?_) (by rw [zup_eq]; exact nb_z) (by rw [n2]; omega) (fun i hi => by rw [n2] at hi; omega) (fun i j hij hj => by rw [n2] at hj; omega) (by rw [zup_ne (by omega)]; exact h1.a) (by rw [zup_ne (by omega)]; exact h1.e)
    · rw [zup_ne (by omega)]; exact h1.f hu hj
    · rw [zup_ne (by omega)]; exact h1.cl hu
  refine ⟨h2.z (.inr (.inr (.inr (.inr (.inl rfl))))), by rw [no]; omega, fun i hi => by rw [no] at hi; omega, fun v hv => by omega⟩
theorem gB0_u {w : RW} (hW : WF w) : nU (gB0 w) = nU w := by unfold nU; rw [gB0_at hW.e (by omega)]
theorem gBeg_at {w : RW} (hW : WF w) {k : Nat} (h : k < 155 → ∀ v, k ≠ 67 + 11 * v + 6) (h2 : k ≠ 155) (h3 : k < 156 ∨ (166 ≤ k ∧ k < 168) ∨ 290 < k ∨ k = 289) : gBeg w k = w k := by
  rw [gBeg_e, gRolls_at (nU w) 0 (gB0 w) k (gB0_BI hW) (by rw [gB0_u hW]; omega) h h2 (by omega), gB0_at hW.e (by omega)]
theorem gBeg_BI {w : RW} (hW : WF w) : BI (gBeg w) (nU w) := by
  have := BI_rolls (nU w) 0 (gB0 w) (gB0_BI hW) (by rw [gB0_u hW]; omega)
  rw [gB0_u hW] at this; exact this
theorem gBeg_t {w : RW} (hW : WF w) : gBeg w 290 = -1 := by
  rw [gBeg_e, gRolls_at (nU w) 0 (gB0 w) 290 (gB0_BI hW) (by rw [gB0_u hW]; omega) (by omega) (by omega) (by omega)]
  unfold gB0; rw [zup_eq]
theorem gBeg_r {w : RW} (hW : WF w) : gBeg w 156 = w 156 + 1 := by
  rw [gBeg_e, gRolls_at (nU w) 0 (gB0 w) 156 (gB0_BI hW) (by rw [gB0_u hW]; omega) (by omega) (by omega) (by omega)]
  unfold gB0
  have e : Nb (zup w 156 (w 156 + 1) 168) 40 := by rw [zup_ne (by omega)]; exact hW.e
  rw [zup_ne (by omega), zup_ne (by omega), gTell_lo e (by omega), zup_eq]
theorem gBeg_d {w : RW} (hW : WF w) {u : Nat} (h : u < 8) : dead (gBeg w) u = dead w u :=
  dead_c (gBeg_at hW (fun _ v => by omega) (by omega) (by omega))
section
variable {n a : Nat} {V : VS} {w : RW}
theorem c_beginRound (hn : 8 < n) (hL : zLay V) (ha : a ∈ zB) (hW : WF w) (h : Rp a V w) : ∃ U, ev_X2_beginRound n V a = rt () U ∧ Rp a U (gBeg w) ∧ FrC a V U := by
  unfold ev_X2_beginRound eX2_beginRound_0
  have l1 : zLay (wI V a 8 (w 156 + 1)) := zLay_wI hL
  have r1 : Rp a (wI V a 8 (w 156 + 1)) (zup w 156 (w 156 + 1)) := h.wround hL ha
  have e8 : vI (wI V a 8 (w 156 + 1)) a 8 = w 156 + 1 := by rw [r1.round, zup_eq]
  have en : Nb (zup w 156 (w 156 + 1) 168) 40 := by rw [zup_ne (by omega)]; exact hW.e
  rw [h.round, sq_eq, zr11 l1 ha, ob_1, e8]
  obtain ⟨T, eT, rT, fT⟩ := c_note (n := n) l1 ha r1 en (k := 9) (u := -1) (x := w 156 + 1)
  rw [eT, bd_rt]
  simp only [sq_eq]
  have f1 : FrC a V T := ((FrC.rf hL).w0).tr fT
  have nn : nO (zup (gTell (zup w 156 (w 156 + 1)) 9 (-1) (w 156 + 1)) 157 0) = 0 := by unfold nO; rw [zup_eq]; decide +kernel
  have r2 : Rp a (wI T a 4 0) (zup (gTell (zup w 156 (w 156 + 1)) 9 (-1) (w 156 + 1)) 157 0) := rT.wcount (k := 157) (o := 0) fT.1 ha rfl (by decide) (by decide) (fun j hj lv nl => by
    exfalso; apply nl
    unfold Lv at lv ⊢
    rw [nR_z (k := 157) (by omega), nC_z (k := 157) (by omega), nU_z (k := 157) (by omega), nE_z (k := 157) (by omega), nn] at lv
    omega)
  have r3 : Rp a (wI (wI T a 4 0) a 5 (-1)) (gB0 w) := r2.wturn (zLay_wI fT.1) ha
  obtain ⟨U, eU, rU, fU⟩ := c_rolls (n := n) hn ha (nU w) n 0 _ (gB0 w) (by rw [gB0_u hW]; omega) (by have := hW.u8; omega) (zLay_wI (zLay_wI fT.1)) r3 (gB0_BI hW)
  exact ⟨U, eU, rU, ((f1.w0).w0).tr fU⟩
theorem r_begins (hn : 120 < n) (hL : zLay V) (hQ : Qr V w) (hW : WF w) : ∃ U, ev_X9_begins n V 207 = rt () (wI U 207 16 (-1)) ∧ Qr U (gBeg w) ∧ FrR V U := by
  unfold ev_X9_begins eX9_begins_0
  obtain ⟨g1, e1⟩ := r_v hL hQ (k := 156) (x := 156) (by decide) rfl
  have l1 : zLay (wI V 208 156 (w 156 + 1)) := zLay_wI hL
  have q1 : Qr (wI V 208 156 (w 156 + 1)) (zup w 156 (w 156 + 1)) := hQ.w hL
  obtain ⟨g2, e2⟩ := r_v l1 q1 (k := 156) (x := 156) (by decide) rfl
  have en : Nb (zup w 156 (w 156 + 1) 168) 40 := by rw [zup_ne (by omega)]; exact hW.e
  rw [r71 hL, ob_1, if_pos g1, if_pos g1, e1, show (156 : Int32).toNatClampNeg = 156 from by decide +kernel, sq_eq, r71 l1, ob_1, if_pos g2]
  rw [show (156 : Int32).toNatClampNeg = 156 from by decide +kernel] at e2
  rw [e2, zup_eq]
  obtain ⟨T, eT, qT, fT⟩ := r_tells (n := n) hn l1 q1 en (k := 9) (u := -1) (x := w 156 + 1)
  rw [eT, bd_rt]
  obtain ⟨g3, e3⟩ := r_v fT.1 qT (k := 157) (x := 157) (by decide) rfl
  rw [r71 fT.1, ob_1, if_pos g3, sq_eq, show (157 : Int32).toNatClampNeg = 157 from by decide +kernel]
  have q3 : Qr (wI T 208 157 0) (gB0 w) := (qT.w fT.1).g (by omega)
  obtain ⟨U, eU, qU, fU⟩ := r_rolls (n := n) (by omega) (nU w) n 0 _ (gB0 w) (by rw [gB0_u hW]; omega) (by have := hW.u8; omega) (zLay_wI fT.1) q3 (gB0_BI hW)
  exact ⟨U, eU, qU, ((((FrR.rf hL).w).tr fT).w).tr fU⟩
end
