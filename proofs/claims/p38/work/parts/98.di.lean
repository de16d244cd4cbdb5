/-! the replay: made like the fight, and compared -/
section
variable {n a b : Nat} {V : VS} {w w0 : RW}
theorem nU_c {u : Nat} (h : u < 100) : nU (zup w 66 (Int32.ofNat u)) = u := by
  show (zup w 66 (Int32.ofNat u) 66).toNatClampNeg = u
  rw [zup_eq, tn_of (by omega)]
theorem WF_cut {u : Nat} (hW : WF w) (hO : nO w = 0) (hu : u ≤ nU w) : WF (zup w 66 (Int32.ofNat u)) := by
  have u8 := hW.u8
  have rc := hW.rc
  have eU : nU (zup w 66 (Int32.ofNat u)) = u := nU_c (by omega)
  have eR : nR (zup w 66 (Int32.ofNat u)) = nR w := nR_z (by omega)
  have eC : nC (zup w 66 (Int32.ofNat u)) = nC w := nC_z (by omega)
  have eO : nO (zup w 66 (Int32.ofNat u)) = 0 := (nO_z (by omega)).trans hO
  refine ⟨⟨by rw [zup_ne (by omega)]; exact hW.r0, by rw [eR]; exact hW.r3⟩, ⟨by rw [zup_ne (by omega)]; exact hW.c0, by rw [eC]; exact hW.c3⟩, fun c hc => ?_, by rw [zup_eq]; exact Nb.of (by omega) (by omega), fun v hv j hj => ?_, fun v hv => ?_, fun v hv => ?_, by rw [zup_ne (by omega)]; exact hW.2.2.2.2.2.2.2.1, by rw [eO]; omega, fun i hi => ?_, fun i j _ hj => ?_, by rw [zup_ne (by omega)]; exact hW.a, by rw [zup_ne (by omega)]; exact hW.e⟩
  · rw [eR, eC] at hc
    rw [zup_ne (by omega)]; exact hW.g hc
  · rw [eU] at hv
    rw [zup_ne (by omega)]; exact hW.f (by omega) hj
  · rw [eU] at hv
    rw [eR, eC, zup_ne (by omega)]; exact hW.cl (by omega)
  · rw [eU] at hv
    rw [eR, eC, zup_ne (by omega)]; exact hW.fc (by omega)
  · rw [eO] at hi; omega
  · rw [eO] at hj; omega
theorem prep_add {u t k c : Nat} (hW : WF w0) (hF : Fre w0) (hu : u < nU w0) (e0 : w0 (67 + 11 * u) = Int32.ofNat t) (e1 : w0 (67 + 11 * u + 1) = Int32.ofNat k) (e2 : w0 (292 + u) = Int32.ofNat c) : gAdd (zup w0 66 (Int32.ofNat u)) t k c = zup w0 66 (Int32.ofNat (u + 1)) := by
  have u8 := hW.u8
  have eU : nU (zup w0 66 (Int32.ofNat u)) = u := nU_c (by omega)
  obtain ⟨f2, f3, f4, f5, f6⟩ := hF.2.2.2.2.2.2.2.2 u hu
  funext j
  by_cases j6 : j = 66
  · rw [j6, zup_eq]
    show (if (66 : Nat) = 66 then zup w0 66 (Int32.ofNat u) 66 + 1 else _) = _
    rw [if_pos rfl, zup_eq, p1_of]
  rw [zup_ne j6]
  by_cases g : 67 + 11 * u ≤ j ∧ j < 67 + 11 * u + 11
  · obtain ⟨i, hi, rfl⟩ : ∃ i, i < 11 ∧ j = 67 + 11 * u + i := ⟨j - (67 + 11 * u), by omega, by omega⟩
    have := gAdd_u (w := zup w0 66 (Int32.ofNat u)) (t := t) (k := k) (c := c) hi
    rw [eU] at this
    rw [this]
    have : i = 0 ∨ i = 1 ∨ i = 2 ∨ i = 3 ∨ i = 4 ∨ i = 5 ∨ 6 ≤ i := by omega
    rcases this with rfl | rfl | rfl | rfl | rfl | rfl | h
    · exact e0.symm
    · exact e1.symm
    · rw [← f2, e2]; rfl
    · rw [f3, e1]; rfl
    · rw [f4, e1]; rfl
    · rw [f5, e1]; rfl
    · rw [f6 i h hi, List.getD_eq_getElem?_getD, List.getElem?_eq_none (by simpa using h)]; rfl
  · by_cases g2 : j = 292 + u
    · have := gAdd_f (w := zup w0 66 (Int32.ofNat u)) (t := t) (k := k) (c := c) (by rw [eU]; omega)
      rw [eU] at this
      rw [g2, this, e2]
    · rw [gAdd_at j6 (by rw [eU]; exact g) (by rw [eU]; exact g2), zup_ne j6]
theorem c_gcopy2 (hL : zLay V) (ha : a ∈ zB) (hb : b ∈ zB) (hab : a + 17 ≤ b ∨ b + 17 ≤ a) : ∃ T, ev_X3_copyFrom n V (a + 1) (b + 1) = rt () T ∧ zLay T ∧ (∀ i, i ≠ a + 1 → i ≠ a + 2 → vC T i = vC V i) ∧ vI T (a + 1) 1 = vI V (b + 1) 1 ∧ vI T (a + 1) 2 = vI V (b + 1) 2 ∧ ∀ p, p < 64 → vI T (a + 2) p = vI V (b + 2) p := by
  have za := zB_le a ha
  have zb := zB_le b hb
  unfold ev_X3_copyFrom eX3_copyFrom_0
  have l1 : zLay (wI V (a + 1) 1 (vI V (b + 1) 1)) := zLay_wI hL
  rw [sq_eq, vI_wI_ne (by omega), sq_eq]
  have l2 : zLay (wI (wI V (a + 1) 1 (vI V (b + 1) 1)) (a + 1) 2 (vI V (b + 1) 2)) := zLay_wI l1
  have x2 : vI (wI (wI V (a + 1) 1 (vI V (b + 1) 1)) (a + 1) 2 (vI V (b + 1) 2)) (a + 1) = zup (zup (vI V (a + 1)) 1 (vI V (b + 1) 1)) 2 (vI V (b + 1) 2) := by rw [vI_wI (zLen l1 (by omega)), vI_wI (zLen hL (by omega))]
  have f2 : ∀ i, i ≠ a + 1 → vC (wI (wI V (a + 1) 1 (vI V (b + 1) 1)) (a + 1) 2 (vI V (b + 1) 2)) i = vC V i := fun i hi => by rw [vC_wI hi, vC_wI hi]
  generalize wI (wI V (a + 1) 1 (vI V (b + 1) 1)) (a + 1) 2 (vI V (b + 1) 2) = W at l2 x2 f2 ⊢
  rw [zrc l2 hb, ob_1, zrc l2 ha, ob_1, t0n, t64n, znc l2 hb, znc l2 ha, if_pos (by decide), if_pos (by decide), sq_eq]
  refine ⟨_, rfl, zLay_wC l2, fun i h1 h2 => by rw [vC_wC h2, f2 i h1], ?_, ?_, fun p hp => ?_⟩
  · rw [vI_C (vC_wC (by omega)), x2, zup_ne (by omega), zup_eq]
  · rw [vI_C (vC_wC (by omega)), x2, zup_eq]
  · rw [vI_wC (zLen l2 (by omega)), if_pos (by omega), vI_C (f2 _ (by omega))]
    congr 1; omega
theorem c_prepL (ha : a ∈ zB) (hb : b ∈ zB) (hab : a + 17 ≤ b ∨ b + 17 ≤ a) (hW : WF w) (hW0 : WF w0) (hF : Fre w0) (hk : ∀ k, Kc k → w k = w0 k) : ∀ (d m u : Nat) (V : VS), u + d = nU w → d < m → zLay V → Rp b V w → Rp a V (zup w0 66 (Int32.ofNat u)) → ∃ U, elX2_prepareLike_21 n m V a b (Int32.ofNat u) = rt () U ∧ Rp a U (zup w0 66 (Int32.ofNat (nU w))) ∧ FrC a V U
  | 0, m + 1, u, V, e, _, hL, hB, hA => by
    have eu : u = nU w := by omega
    subst eu
    refine ⟨V, ?_, hA, FrC.rf hL⟩
    show eX2_prepareLike_21 n (elX2_prepareLike_21 n m) V a b (Int32.ofNat (nU w)) = _
    unfold eX2_prepareLike_21
    rw [hB.count, hW.ue, tn_of (by have := hW.u8; omega), if_pos (Int32.le_refl _)]
  | d + 1, m + 1, u, V, e, hd, hL, hB, hA => by
    have u8 := hW.u8
    have eU0 : nU w = nU w0 := by unfold nU; rw [hk 66 (.inl (by omega))]
    have hu : u < nU w := by omega
    have nb0 := hW.f hu (j := 0) (by omega)
    have nb1 := hW.f hu (j := 1) (by omega)
    have nf := (hW.fc hu).1
    have e0 := nb0.eq
    have e1 := nb1.eq
    have e2 := nf.eq
    have k4 := nb1.le
    generalize (w (67 + 11 * u + 0)).toNatClampNeg = t at e0
    generalize (w (67 + 11 * u + 1)).toNatClampNeg = k at e1 k4
    generalize (w (292 + u)).toNatClampNeg = c at e2
    obtain ⟨T, eT, rT, fT⟩ := c_enlist (n := n) (t := t) (k := k) (c := c) hL ha (WF_cut hW0 (by unfold nO; rw [hF.2.1]; exact t0n) (u := u) (by omega)) hA (by rw [nU_c (by omega)]; omega) (by show k < 4; have : ub 1 = 3 := rfl; omega)
    rw [prep_add hW0 hF (by omega) (by rw [← hk _ (by unfold Kc; omega)]; exact e0) (by rw [← hk _ (by unfold Kc; omega)]; exact e1) (by rw [← hk _ (by unfold Kc; omega)]; exact e2)] at rT
    obtain ⟨U, eU, rU, fU⟩ := c_prepL ha hb hab hW hW0 hF hk d m (u + 1) T (by omega) (by omega) fT.1 (hB.fr (fun i hi => fT.2 _ (by omega))) rT
    refine ⟨U, ?_, rU, fT.tr fU⟩
    show eX2_prepareLike_21 n (elX2_prepareLike_21 n m) V a b (Int32.ofNat u) = _
    unfold eX2_prepareLike_21
    rw [hB.count, hW.ue, if_neg (fun e => by have := (of_le (by omega) (by omega)).mp e; omega), zr1 hL hb, ob_1, znu hL hb, if_pos (in_of (by omega) (by omega)), tn_of (by omega), zru hL hb (by omega), ob_1, show vI V (b + 9 + u) 1 = Int32.ofNat t from (hB.u hu (by omega) (j := 0) (by omega)).trans e0, show vI V (b + 9 + u) 2 = Int32.ofNat k from (hB.u hu (by omega) (j := 1) (by omega)).trans e1, show vI V (b + 9 + u) 3 = Int32.ofNat c from (hB.first hu (by omega)).trans e2, eT, bd_rt, p1_of]
    exact eU
theorem c_prep (hn : 8 < n) (hL : zLay V) (ha : a ∈ zB) (hb : b ∈ zB) (hab : a + 17 ≤ b ∨ b + 17 ≤ a) (hW : WF w) (hW0 : WF w0) (hF : Fre w0) (hk : ∀ k, Kc k → w k = w0 k) (h : Rp b V w) (hN : ∀ u, u < 8 → vI V (a + 9 + u) 0 = Int32.ofNat u) : ∃ U, ev_X2_prepareLike n V a b = rt () U ∧ Rp a U w0 ∧ FrC a V U := by
  have u8 := hW.u8
  have za := zB_le a ha
  obtain ⟨U1, e1, l1, ⟨k2, k4, k5, k6, k7, k8, k9, k10, kE⟩, f1⟩ := c_reset (n := n) (x := w0 291) hL ha
  have r1 : Rp b U1 w := h.fr (fun i hi => f1 _ (by omega) (by omega))
  obtain ⟨U2, e2, l2, f2, g1, g2, g3⟩ := c_gcopy2 (n := n) l1 ha hb hab
  have r2 : Rp b U2 w := r1.fr (fun i hi => f2 _ (by omega) (by omega))
  have s291 : vI V b 9 = w0 291 := h.seed.trans (hk 291 (.inr (.inl (by omega))))
  have eR : nR w = nR w0 := by unfold nR; rw [hk 0 (.inl (by omega))]
  have eC : nC w = nC w0 := by unfold nC; rw [hk 1 (.inl (by omega))]
  have eU : nU w = nU w0 := by unfold nU; rw [hk 66 (.inl (by omega))]
  have rc := hW.rc
  have rc9 := hW.rc9
  have rA : Rp a U2 (zup w0 66 (Int32.ofNat 0)) := by
    refine ⟨fun k hk' => ?_, fun u hu => by rw [vI_C (f2 _ (by omega) (by omega)), vI_C (f1 _ (by omega) (by omega))]; exact hN u hu⟩
    unfold Lv at hk'
    rw [nR_z (by omega), nC_z (by omega), nU_c (by omega), nO_z (by omega), nE_z (by omega), show nO w0 = 0 from by unfold nO; rw [hF.2.1]; exact t0n, show nE w0 = 0 from by unfold nE; rw [hF.2.2.2.2.1]; exact t0n, ← eR, ← eC] at hk'
    have z : k = 0 ∨ k = 1 ∨ (2 ≤ k ∧ k - 2 < nR w * nC w) ∨ k = 66 ∨ k = 155 ∨ k = 156 ∨ k = 157 ∨ k = 166 ∨ k = 167 ∨ k = 168 ∨ k = 290 ∨ k = 291 := by omega
    have q2 : vI U2 a = vI U1 a := vI_C (f2 a (by omega) (by omega))
    have q5 : vI U2 (a + 5) = vI U1 (a + 5) := vI_C (f2 (a + 5) (by omega) (by omega))
    rcases z with rfl | rfl | ⟨z1, z2⟩ | rfl | rfl | rfl | rfl | rfl | rfl | rfl | rfl | rfl
    · rw [blk_at (o := 1) (p := 1) rfl, g1, zup_ne (by omega), r1.rows]; exact hk 0 (.inl (by omega))
    · rw [blk_at (o := 1) (p := 2) rfl, g2, zup_ne (by omega), r1.cols (by omega)]; exact hk 1 (.inl (by omega))
    · have := loc_g (k - 2) (by omega)
      obtain ⟨c, rfl⟩ : ∃ c, k = 2 + c := ⟨k - 2, by omega⟩
      rw [Nat.add_sub_cancel_left] at this z2
      rw [blk_at this, g3 c (by omega), r1.cell z2 (by omega), zup_ne (by omega)]
      exact hk _ (.inl (by omega))
    · rw [zup_eq]; exact (blk_at (o := 0) (p := 2) rfl).trans ((congrFun q2 2).trans k2)
    · rw [zup_ne (by omega), ← hF.2.2.2.2.2.2.2.1]; exact (blk_at (o := 0) (p := 10) rfl).trans ((congrFun q2 10).trans k10)
    · rw [zup_ne (by omega), hF.1]; exact (blk_at (o := 0) (p := 8) rfl).trans ((congrFun q2 8).trans k8)
    · rw [zup_ne (by omega), hF.2.1]; exact (blk_at (o := 0) (p := 4) rfl).trans ((congrFun q2 4).trans k4)
    · rw [zup_ne (by omega), hF.2.2.1]; exact (blk_at (o := 0) (p := 6) rfl).trans ((congrFun q2 6).trans k6)
    · rw [zup_ne (by omega), hF.2.2.2.1]; exact (blk_at (o := 0) (p := 7) rfl).trans ((congrFun q2 7).trans k7)
    · rw [zup_ne (by omega), hF.2.2.2.2.1]; exact (blk_at (o := 5) (p := 3) rfl).trans ((congrFun q5 3).trans kE)
    · rw [zup_ne (by omega), hF.2.2.2.2.2.2.1]; exact (blk_at (o := 0) (p := 5) rfl).trans ((congrFun q2 5).trans k5)
    · rw [zup_ne (by omega)]; exact (blk_at (o := 0) (p := 9) rfl).trans ((congrFun q2 9).trans k9)
  obtain ⟨U, eU3, rU, fU⟩ := c_prepL (n := n) ha hb hab hW hW0 hF hk (nU w) n 0 U2 (by omega) (by omega) l2 r2 rA
  rw [eU, zup_id (by rw [hW0.ue])] at rU
  refine ⟨U, ?_, rU, FrC.tr (FrC.tr ⟨l1, fun i hi => f1 i (by omega) (by omega)⟩ ⟨l2, fun i hi => f2 i (by omega) (by omega)⟩) fU⟩
  unfold ev_X2_prepareLike eX2_prepareLike_0
  rw [s291, e1, bd_rt, zr0 l1 ha, ob_1, zr0 l1 hb, ob_1, e2, bd_rt]
  exact eU3
/-! the comparison -/
theorem c_sameU {u : Nat} (hL : zLay V) (h : Rp a V w) (g : Rp b V w) (hu : u < nU w) (h8 : u < 8) : ev_X7_isSameAs n V (a + 9 + u) (b + 9 + u) = rt 1 V := by
  have key : ∀ j, j < 11 → vI V (a + 9 + u) (zfm j) = vI V (b + 9 + u) (zfm j) := fun j hj => (h.u hu h8 hj).trans (g.u hu h8 hj).symm
  unfold ev_X7_isSameAs eX7_isSameAs_0
  have k1 : vI V (a + 9 + u) 1 = vI V (b + 9 + u) 1 := key 0 (by omega)
  have k2 : vI V (a + 9 + u) 2 = vI V (b + 9 + u) 2 := key 1 (by omega)
  have k4 : vI V (a + 9 + u) 4 = vI V (b + 9 + u) 4 := key 2 (by omega)
  have k5 : vI V (a + 9 + u) 5 = vI V (b + 9 + u) 5 := key 3 (by omega)
  have k6 : vI V (a + 9 + u) 6 = vI V (b + 9 + u) 6 := key 4 (by omega)
  have k7 : vI V (a + 9 + u) 7 = vI V (b + 9 + u) 7 := key 5 (by omega)
  have k8 : vI V (a + 9 + u) 8 = vI V (b + 9 + u) 8 := key 6 (by omega)
  have k9 : vI V (a + 9 + u) 9 = vI V (b + 9 + u) 9 := key 7 (by omega)
  have k10 : vI V (a + 9 + u) 10 = vI V (b + 9 + u) 10 := key 8 (by omega)
  have k11 : vI V (a + 9 + u) 11 = vI V (b + 9 + u) 11 := key 9 (by omega)
  have k12 : vI V (a + 9 + u) 12 = vI V (b + 9 + u) 12 := key 10 (by omega)
  rw [if_pos k1, if_pos k2, if_pos k4, if_pos k5, if_pos k6, if_pos k7, if_pos k8, if_pos k9, if_pos k10, if_pos k11, if_pos k12]
theorem c_sameE (hL : zLay V) (ha : a ∈ zB) (hb : b ∈ zB) (hW : WF w) (h : Rp a V w) (g : Rp b V w) : ∀ d m i, i + d = nE w → d < m → elX1_isSameAs_15 n m V (a + 5) (b + 5) (Int32.ofNat i) = rt 1 V
  | 0, m + 1, i, e, _ => by
    have ei : i = nE w := by omega
    show eX1_isSameAs_15 n (elX1_isSameAs_15 n m) V (a + 5) (b + 5) (Int32.ofNat i) = _
    unfold eX1_isSameAs_15
    rw [h.ecount, hW.ee, ei, if_pos (Int32.le_refl _)]
  | d + 1, m + 1, i, e, hd => by
    have e40 := hW.e40
    have k0 : vI V (a + 6) i = vI V (b + 6) i := (h.ev (j := 0) (by omega) (by omega) (by omega)).trans (g.ev (j := 0) (by omega) (by omega) (by omega)).symm
    have k1 : vI V (a + 7) i = vI V (b + 7) i := (h.ev (j := 1) (by omega) (by omega) (by omega)).trans (g.ev (j := 1) (by omega) (by omega) (by omega)).symm
    have k2 : vI V (a + 8) i = vI V (b + 8) i := (h.ev (j := 2) (by omega) (by omega) (by omega)).trans (g.ev (j := 2) (by omega) (by omega) (by omega)).symm
    show eX1_isSameAs_15 n (elX1_isSameAs_15 n m) V (a + 5) (b + 5) (Int32.ofNat i) = _
    unfold eX1_isSameAs_15
    rw [h.ecount, hW.ee, if_neg (fun e => by have := (of_le (by omega) (by omega)).mp e; omega), zre0 hL ha, ob_1, zne0 hL ha, if_pos (in_of (by omega) (by omega)), zre0 hL hb, ob_1, zne0 hL hb, if_pos (in_of (by omega) (by omega)), tn_of (by omega), if_pos k0, zre1 hL ha, ob_1, zne1 hL ha, if_pos (in_of (by omega) (by omega)), zre1 hL hb, ob_1, zne1 hL hb, if_pos (in_of (by omega) (by omega)), if_pos k1, zre2 hL ha, ob_1, zne2 hL ha, if_pos (in_of (by omega) (by omega)), zre2 hL hb, ob_1, zne2 hL hb, if_pos (in_of (by omega) (by omega)), if_pos k2, p1_of]
    exact c_sameE hL ha hb hW h g d m (i + 1) (by omega) (by omega)
theorem c_sameO (hn : 40 < n) (hL : zLay V) (ha : a ∈ zB) (hb : b ∈ zB) (hW : WF w) (h : Rp a V w) (g : Rp b V w) : ∀ d m i, i + d = nO w → d < m → elX2_isSameAs_117 n m V a b (Int32.ofNat i) = rt 1 V
  | 0, m + 1, i, e, _ => by
    have ei : i = nO w := by omega
    have e40 := hW.e40
    show eX2_isSameAs_117 n (elX2_isSameAs_117 n m) V a b (Int32.ofNat i) = _
    unfold eX2_isSameAs_117 ev_X1_isSameAs eX1_isSameAs_0
    rw [h.ocount, hW.oe, ei, if_pos (Int32.le_refl _), zr11 hL ha, ob_1, zr11 hL hb, ob_1, h.ecount, g.ecount, if_pos rfl, show (0 : Int32) = Int32.ofNat 0 from rfl, c_sameE hL ha hb hW h g (nE w) n 0 (by omega) (by omega), bd_rt, if_pos (by decide)]
  | d + 1, m + 1, i, e, hd => by
    have o8 := hW.o8
    have u8 := hW.u8
    have k0 : vI V (a + 4) i = vI V (b + 4) i := (h.order (by omega) (by omega)).trans (g.order (by omega) (by omega)).symm
    show eX2_isSameAs_117 n (elX2_isSameAs_117 n m) V a b (Int32.ofNat i) = _
    unfold eX2_isSameAs_117
    rw [h.ocount, hW.oe, if_neg (fun e => by have := (of_le (by omega) (by omega)).mp e; omega), zr3 hL ha, ob_1, zno hL ha, if_pos (in_of (by omega) (by omega)), zr3 hL hb, ob_1, zno hL hb, if_pos (in_of (by omega) (by omega)), tn_of (by omega), if_pos k0, p1_of]
    exact c_sameO hn hL ha hb hW h g d m (i + 1) (by omega) (by omega)
theorem c_sameL (hn : 40 < n) (hL : zLay V) (ha : a ∈ zB) (hb : b ∈ zB) (hW : WF w) (h : Rp a V w) (g : Rp b V w) : ∀ d m i, i + d = nU w → d < m → elX2_isSameAs_81 n m V a b (Int32.ofNat i) = rt 1 V
  | 0, m + 1, i, e, _ => by
    have ei : i = nU w := by omega
    have o8 := hW.o8
    have u8 := hW.u8
    show eX2_isSameAs_81 n (elX2_isSameAs_81 n m) V a b (Int32.ofNat i) = _
    unfold eX2_isSameAs_81
    rw [h.count, hW.ue, ei, if_pos (Int32.le_refl _)]
    exact c_sameO hn hL ha hb hW h g (nO w) n 0 (by omega) (by omega)
  | d + 1, m + 1, i, e, hd => by
    have u8 := hW.u8
    show eX2_isSameAs_81 n (elX2_isSameAs_81 n m) V a b (Int32.ofNat i) = _
    unfold eX2_isSameAs_81
    rw [h.count, hW.ue, if_neg (fun e => by have := (of_le (by omega) (by omega)).mp e; omega), zr1 hL ha, ob_1, znu hL ha, if_pos (in_of (by omega) (by omega)), tn_of (by omega), zru hL ha (by omega), ob_1, zr1 hL hb, ob_1, znu hL hb, if_pos (in_of (by omega) (by omega)), zru hL hb (by omega), ob_1, c_sameU hL h g (by omega) (by omega), bd_rt, if_neg (by decide), p1_of]
    exact c_sameL hn hL ha hb hW h g d m (i + 1) (by omega) (by omega)
theorem c_same (hn : 40 < n) (hL : zLay V) (ha : a ∈ zB) (hb : b ∈ zB) (hW : WF w) (h : Rp a V w) (g : Rp b V w) : ev_X2_isSameAs n V a b = rt 1 V := by
  have u8 := hW.u8
  unfold ev_X2_isSameAs eX2_isSameAs_0
  rw [h.count, g.count, if_pos rfl, h.ocount, g.ocount, if_pos rfl, h.turn, g.turn, if_pos rfl, h.cur, g.cur, if_pos rfl, h.acts, g.acts, if_pos rfl, h.round, g.round, if_pos rfl, h.z, g.z, if_pos rfl]
  exact c_sameL hn hL ha hb hW h g (nU w) n 0 (by omega) (by omega)
end
