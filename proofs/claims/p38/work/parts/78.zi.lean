/-! what keeps a row well -/
theorem WF.up {w w' : RW} (h : WF w) (e : ∀ j, (j < 67 ∨ (292 ≤ j ∧ j < 300)) → w' j = w j)
    (hu : ∀ u, u < nU w → ∀ j, j < 11 → Nb (w' (67 + 11 * u + j)) (ub j)) (hc : ∀ u, u < nU w → (w' (67 + 11 * u + 2)).toNatClampNeg < nR w * nC w)
    (o1 : Nb (w' 157) 8) (o2 : nO w' ≤ nU w) (o3 : ∀ i, i < nO w' → Nb (w' (158 + i)) 7 ∧ (w' (158 + i)).toNatClampNeg < nU w)
    (o4 : ∀ i j, i < j → j < nO w' → w' (158 + i) ≠ w' (158 + j)) (ha : Nb (w' 167) 2) (he : Nb (w' 168) 40) : WF w' := by
  have r : nR w' = nR w := by unfold nR; rw [e 0 (by omega)]
  have c : nC w' = nC w := by unfold nC; rw [e 1 (by omega)]
  have u : nU w' = nU w := by unfold nU; rw [e 66 (by omega)]
  have rc := h.rc
  have u8 := h.u8
  refine ⟨⟨by rw [e 0 (by omega)]; exact h.r0, by rw [r]; exact h.r3⟩, ⟨by rw [e 1 (by omega)]; exact h.c0, by rw [c]; exact h.c3⟩, fun q hq => ?_, by rw [e 66 (by omega)]; exact h.2.2.2.1, fun q hq => ?_, fun q hq => ?_, fun q hq => ?_, o1, by rw [u]; exact o2, fun i hi => ?_, o4, ha, he⟩
  · rw [r, c] at hq; rw [e _ (by omega)]; exact h.g hq
  · rw [u] at hq; exact hu q hq
  · rw [u] at hq; rw [r, c]; exact hc q hq
  · rw [u] at hq; rw [r, c, e _ (by omega)]; exact h.fc hq
  · rw [u]; exact o3 i hi
theorem WF.cg {w w' : RW} (h : WF w) (e : ∀ j, (j < 155 ∨ (157 ≤ j ∧ j < 166) ∨ j = 167 ∨ j = 168 ∨ (292 ≤ j ∧ j < 300)) → w' j = w j) : WF w' := by
  have o : nO w' = nO w := by unfold nO; rw [e 157 (by omega)]
  have u8 := h.u8
  have o8 := h.o8
  refine h.up (fun j hj => e j (by omega)) (fun u hu j hj => ?_) (fun u hu => ?_) (by rw [e 157 (by omega)]; exact h.2.2.2.2.2.2.2.1) (by rw [o]; exact h.o8) (fun i hi => ?_) (fun i j hi hj => ?_) (by rw [e 167 (by omega)]; exact h.a) (by rw [e 168 (by omega)]; exact h.e)
  · rw [e _ (by omega)]; exact h.f hu hj
  · rw [e _ (by omega)]; exact h.cl hu
  · rw [o] at hi; rw [e _ (by omega)]; exact h.o hi
  · rw [o] at hj; rw [e _ (by omega), e _ (by omega)]; exact h.od hi hj
theorem WF.z {w : RW} (h : WF w) {k : Nat} {x : Int32} (hk : k = 155 ∨ k = 156 ∨ k = 166 ∨ k = 289 ∨ k = 290 ∨ k = 291) : WF (zup w k x) := h.cg (fun j hj => zup_ne (by omega))
theorem WF.za {w : RW} (h : WF w) {x : Int32} (hx : Nb x 2) : WF (zup w 167 x) := by
  have o : nO (zup w 167 x) = nO w := nO_z (by omega)
  have u8 := h.u8
  have o8 := h.o8
  refine h.up (fun j hj => zup_ne (by omega)) (fun u hu j hj => ?_) (fun u hu => ?_) (by rw [zup_ne (by omega)]; exact h.2.2.2.2.2.2.2.1) (by rw [o]; exact h.o8) (fun i hi => ?_) (fun i j hi hj => ?_) (by rw [zup_eq]; exact hx) (by rw [zup_ne (by omega)]; exact h.e)
  · rw [zup_ne (by omega)]; exact h.f hu hj
  · rw [zup_ne (by omega)]; exact h.cl hu
  · rw [o] at hi; rw [zup_ne (by omega)]; exact h.o hi
  · rw [o] at hj; rw [zup_ne (by omega), zup_ne (by omega)]; exact h.od hi hj
theorem WF.zu {w : RW} (h : WF w) {u j : Nat} {x : Int32} (h8 : u < 8) (hj : j < 11) (hx : Nb x (ub j)) (hc : j = 2 → x.toNatClampNeg < nR w * nC w) : WF (zup w (67 + 11 * u + j) x) := by
  have o : nO (zup w (67 + 11 * u + j) x) = nO w := nO_z (by omega)
  have u8 := h.u8
  have o8 := h.o8
  refine h.up (fun i hi => zup_ne (by omega)) (fun v hv i hi => ?_) (fun v hv => ?_) (by rw [zup_ne (by omega)]; exact h.2.2.2.2.2.2.2.1) (by rw [o]; exact h.o8) (fun i hi => ?_) (fun i k hi hk => ?_) (by rw [zup_ne (by omega)]; exact h.a) (by rw [zup_ne (by omega)]; exact h.e)
  · by_cases e : 67 + 11 * v + i = 67 + 11 * u + j
    · have : i = j := by omega
      rw [e, zup_eq, this]; exact hx
    · rw [zup_ne e]; exact h.f hv hi
  · by_cases e : 67 + 11 * v + 2 = 67 + 11 * u + j
    · rw [e, zup_eq]; exact hc (by omega)
    · rw [zup_ne e]; exact h.cl hv
  · rw [o] at hi; rw [zup_ne (by omega)]; exact h.o hi
  · rw [o] at hk; rw [zup_ne (by omega), zup_ne (by omega)]; exact h.od hi hk
theorem WF.tell {w : RW} (h : WF w) {k u x : Int32} : WF (gTell w k u x) := by
  have lo : ∀ j, j < 168 ∨ 289 ≤ j → gTell w k u x j = w j := fun j hj => gTell_lo h.e hj
  have o : nO (gTell w k u x) = nO w := by unfold nO; rw [lo 157 (by omega)]
  have u8 := h.u8
  have o8 := h.o8
  refine h.up (fun j hj => lo j (by omega)) (fun v hv j hj => ?_) (fun v hv => ?_) (by rw [lo _ (by omega)]; exact h.2.2.2.2.2.2.2.1) (by rw [o]; exact h.o8) (fun i hi => ?_) (fun i j hi hj => ?_) (by rw [lo _ (by omega)]; exact h.a) (gTell_n h.e)
  · rw [lo _ (by omega)]; exact h.f hv hj
  · rw [lo _ (by omega)]; exact h.cl hv
  · rw [o] at hi; rw [lo _ (by omega)]; exact h.o hi
  · rw [o] at hj; rw [lo _ (by omega), lo _ (by omega)]; exact h.od hi hj
/-! a round's order -/
def insW (u : Nat) : Nat → RW → RW
  | 0, w => zup w 158 (Int32.ofNat u)
  | p + 1, w => if w (67 + 11 * (w (158 + p)).toNatClampNeg + 6) < w (67 + 11 * u + 6) then insW u p (zup w (158 + (p + 1)) (w (158 + p))) else zup w (158 + (p + 1)) (Int32.ofNat u)
theorem ins_lo {u : Nat} : ∀ (p : Nat) (w : RW) (k : Nat), k < 158 ∨ 158 + p < k → insW u p w k = w k
  | 0, w, k, h => by show zup w 158 _ k = w k; exact zup_ne (by omega)
  | p + 1, w, k, h => by
    unfold insW
    by_cases g : w (67 + 11 * (w (158 + p)).toNatClampNeg + 6) < w (67 + 11 * u + 6)
    · rw [if_pos g, ins_lo p _ k (by omega)]; exact zup_ne (by omega)
    · rw [if_neg g]; exact zup_ne (by omega)
/-- the units of the order are the old ones and the new one, each once -/
theorem ins_ok {u N : Nat} (hN : N < 8) (hu : u < 8) : ∀ (p : Nat) (w : RW), p ≤ N → (∀ i, i ≤ N → i ≠ p → Nb (w (158 + i)) 7 ∧ (w (158 + i)).toNatClampNeg < u) → (∀ i j, i < j → j ≤ N → i ≠ p → j ≠ p → w (158 + i) ≠ w (158 + j)) →
    (∀ i, i ≤ N → insW u p w (158 + i) = Int32.ofNat u ∨ ∃ j, j ≤ N ∧ j ≠ p ∧ insW u p w (158 + i) = w (158 + j)) ∧ (∀ i j, i < j → j ≤ N → insW u p w (158 + i) ≠ insW u p w (158 + j)) ∧ (∃ i, i ≤ N ∧ insW u p w (158 + i) = Int32.ofNat u) ∧ (∀ j, j ≤ N → j ≠ p → ∃ i, i ≤ N ∧ insW u p w (158 + i) = w (158 + j)) := by
  have fill : ∀ (p : Nat) (w : RW), p ≤ N → (∀ i, i ≤ N → i ≠ p → Nb (w (158 + i)) 7 ∧ (w (158 + i)).toNatClampNeg < u) → (∀ i j, i < j → j ≤ N → i ≠ p → j ≠ p → w (158 + i) ≠ w (158 + j)) →
    (∀ i, i ≤ N → zup w (158 + p) (Int32.ofNat u) (158 + i) = Int32.ofNat u ∨ ∃ j, j ≤ N ∧ j ≠ p ∧ zup w (158 + p) (Int32.ofNat u) (158 + i) = w (158 + j)) ∧ (∀ i j, i < j → j ≤ N → zup w (158 + p) (Int32.ofNat u) (158 + i) ≠ zup w (158 + p) (Int32.ofNat u) (158 + j)) ∧ (∃ i, i ≤ N ∧ zup w (158 + p) (Int32.ofNat u) (158 + i) = Int32.ofNat u) ∧ (∀ j, j ≤ N → j ≠ p → ∃ i, i ≤ N ∧ zup w (158 + p) (Int32.ofNat u) (158 + i) = w (158 + j)) := by
    intro p w hp h1 h2
    have ne : ∀ i, i ≤ N → i ≠ p → w (158 + i) ≠ Int32.ofNat u := fun i hi hip e => by
      have := (h1 i hi hip).2; rw [e, tn_of (by omega)] at this; omega
    refine ⟨fun i hi => ?_, fun i j hij hj => ?_, ⟨p, hp, zup_eq⟩, fun j hj hjp => ⟨j, hj, zup_ne (by omega)⟩⟩
    · by_cases g : i = p
      · rw [g]; exact .inl zup_eq
      · exact .inr ⟨i, hi, g, zup_ne (by omega)⟩
    · by_cases g : i = p
      · rw [g, zup_eq, zup_ne (by omega)]; exact fun e => ne j hj (by omega) e.symm
      · by_cases g2 : j = p
        · rw [g2, zup_eq, zup_ne (by omega)]; exact ne i (by omega) g
        · rw [zup_ne (by omega), zup_ne (by omega)]; exact h2 i j hij hj g g2
  intro p
  induction p with
  | zero => intro w hp h1 h2; exact fill 0 w hp h1 h2
  | succ p ih =>
    intro w hp h1 h2
    unfold insW
    by_cases g : w (67 + 11 * (w (158 + p)).toNatClampNeg + 6) < w (67 + 11 * u + 6)
    · rw [if_pos g]
      have h1' : ∀ i, i ≤ N → i ≠ p → Nb (zup w (158 + (p + 1)) (w (158 + p)) (158 + i)) 7 ∧ (zup w (158 + (p + 1)) (w (158 + p)) (158 + i)).toNatClampNeg < u := fun i hi hip => by
        by_cases q : i = p + 1
        · rw [q, zup_eq]; exact h1 p (by omega) (by omega)
        · rw [zup_ne (by omega)]; exact h1 i hi q
      have h2' : ∀ i j, i < j → j ≤ N → i ≠ p → j ≠ p → zup w (158 + (p + 1)) (w (158 + p)) (158 + i) ≠ zup w (158 + (p + 1)) (w (158 + p)) (158 + j) := fun i j hij hj hip hjp => by
        by_cases q : i = p + 1
        · rw [q, zup_eq, zup_ne (by omega)]; exact h2 p j (by omega) hj (by omega) (by omega)
        · by_cases q2 : j = p + 1
          · rw [q2, zup_eq, zup_ne (by omega)]; exact h2 i p (by omega) (by omega) q (by omega)
          · rw [zup_ne (by omega), zup_ne (by omega)]; exact h2 i j hij hj q q2
      obtain ⟨a1, a2, a3, a4⟩ := ih (zup w (158 + (p + 1)) (w (158 + p))) (by omega) h1' h2'
      refine ⟨fun i hi => ?_, a2, a3, fun j hj hjp => ?_⟩
      · rcases a1 i hi with e | ⟨j, hj, hjp, e⟩
        · exact .inl e
        · by_cases q : j = p + 1
          · rw [q, zup_eq] at e; exact .inr ⟨p, by omega, by omega, e⟩
          · rw [zup_ne (by omega)] at e; exact .inr ⟨j, hj, q, e⟩
      · by_cases q : j = p
        · obtain ⟨i, hi, e⟩ := a4 (p + 1) hp (by omega)
          rw [zup_eq] at e; rw [q]; exact ⟨i, hi, e⟩
        · obtain ⟨i, hi, e⟩ := a4 j hj q
          rw [zup_ne (by omega)] at e; exact ⟨i, hi, e⟩
    · rw [if_neg g]; exact fill (p + 1) w hp h1 h2
section
variable {n a : Nat} {V : VS} {w : RW}
theorem c_ins52 (hL : zLay V) (ha : a ∈ zB) (h : Rp a V w) {u p : Nat} (hu : u < 8) (hp : p ≤ nO w) (h8 : nO w < 8) (oe : w 157 = Int32.ofNat (nO w)) (hE : p < nO w → zblk V a (158 + nO w) = w (158 + nO w)) : ∃ U, eX2_insertByRoll_52 n V a (a + 9 + u) (Int32.ofNat p) = rt () U ∧ Rp a U (zup (zup w (158 + p) (Int32.ofNat u)) 157 (w 157 + 1)) ∧ FrC a V U := by
  unfold eX2_insertByRoll_52
  simp only [sq_eq]
  have l1 := zLay_wI (i := a + 4) (k := p) (v := Int32.ofNat u) hL
  have c1 : vI (wI V (a + 4) p (Int32.ofNat u)) a 4 = w 157 := by rw [vI_wI_ne (by omega)]; exact h.ocount
  rw [zr3 hL ha, ob_1, zno hL ha, if_pos (in_of (by omega) (by decide)), tn_of (by omega), h.num hu, c1]
  have r1 : Rp a (wI V (a + 4) p (Int32.ofNat u)) (zup w (158 + p) (Int32.ofNat u)) := h.worder hL ha (by omega)
  have b1 : zblk (wI V (a + 4) p (Int32.ofNat u)) a = zup (zblk V a) (158 + p) (Int32.ofNat u) := blk_w (loc_r p (by omega)) (zlt hL ha (by omega))
  have no : nO (zup w (158 + p) (Int32.ofNat u)) = nO w := nO_z (by omega)
  refine ⟨_, rfl, ?_, ((FrC.rf hL).w (o := 4) (by omega)).w0⟩
  refine r1.wcount (k := 157) (o := 0) l1 ha rfl (by decide) (by decide) (fun j hj lv nl => ?_)
  have nn : nO (zup (zup w (158 + p) (Int32.ofNat u)) 157 (w 157 + 1)) = nO w + 1 := by
    unfold nO; rw [zup_eq, oe, show Int32.ofNat (nO w) + 1 = Int32.ofNat (nO w + 1) from of_add, tn_of (by omega), tn_of (by omega)]
  have ej : j = 158 + nO w := by
    unfold Lv at lv nl
    rw [nR_z (k := 157) (by omega), nC_z (k := 157) (by omega), nU_z (k := 157) (by omega), nE_z (k := 157) (by omega), nn] at lv
    rw [no] at nl
    omega
  rw [ej, b1]
  by_cases q : p = nO w
  · rw [q, zup_eq, zup_eq]
  · rw [zup_ne (by omega), zup_ne (by omega)]; exact hE (by omega)
theorem c_ins (ha : a ∈ zB) {u : Nat} (hu : u < 8) : ∀ (p m : Nat) (V : VS) (w : RW), p < m → zLay V → Rp a V w → u < nU w → nU w ≤ 8 → p ≤ nO w → nO w < 8 → w 157 = Int32.ofNat (nO w) → (∀ i, i < nO w → Nb (w (158 + i)) 7 ∧ (w (158 + i)).toNatClampNeg < nU w) → (p < nO w → zblk V a (158 + nO w) = w (158 + nO w)) →
    ∃ U, elX2_insertByRoll_5 n m V a (a + 9 + u) (Int32.ofNat p) = rt () U ∧ Rp a U (zup (insW u p w) 157 (w 157 + 1)) ∧ FrC a V U
  | 0, m + 1, V, w, _, hL, h, hun, u8, hp, h8, oe, ho, hE => by
    show ∃ U, eX2_insertByRoll_5 n (elX2_insertByRoll_5 n m) V a (a + 9 + u) (Int32.ofNat 0) = _ ∧ _
    unfold eX2_insertByRoll_5
    rw [if_pos (by decide)]
    exact c_ins52 hL ha h hu hp h8 oe hE
  | p + 1, m + 1, V, w, hm, hL, h, hun, u8, hp, h8, oe, ho, hE => by
    show ∃ U, eX2_insertByRoll_5 n (elX2_insertByRoll_5 n m) V a (a + 9 + u) (Int32.ofNat (p + 1)) = _ ∧ _
    have ⟨o1, o2⟩ := ho p (by omega)
    have e1 : Int32.ofNat (p + 1) - 1 = Int32.ofNat p := of_sub (b := 1) (by omega)
    unfold eX2_insertByRoll_5 insW
    generalize hq : (w (158 + p)).toNatClampNeg = q at o2
    have o1' : w (158 + p) = Int32.ofNat q := by rw [o1.eq, hq]
    rw [if_neg (fun e => by have := (of_le (b := 0) (by omega) (by omega)).mp e; omega), zr1 hL ha, ob_1, zr3 hL ha, ob_1, e1, zno hL ha, if_pos (in_of (by omega) (by decide)), tn_of (by omega), h.order (by omega) (by omega), znu hL ha, o1', if_pos (in_of (by omega) (by decide)), tn_of (by omega), zru hL ha (by omega), ob_1]
    rw [show vI V (a + 9 + u) 8 = w (67 + 11 * u + 6) from h.u hun hu (j := 6) (by decide), show vI V (a + 9 + q) 8 = w (67 + 11 * q + 6) from h.u o2 (by omega) (j := 6) (by decide)]
    by_cases g : w (67 + 11 * q + 6) < w (67 + 11 * u + 6)
    · rw [if_neg (Int32.not_le.mpr g), if_pos g, ob_1, ob_1, zno hL ha, if_pos (in_of (by omega) (by decide)), if_pos (in_of (by omega) (by decide)), tn_of (by omega), sq_eq]
      rw [show Int32.ofNat (p + 1) + (-1) = Int32.ofNat p from m1_of (by omega), h.order (by omega) (by omega), o1']
      have r1 : Rp a (wI V (a + 4) (p + 1) (Int32.ofNat q)) (zup w (158 + (p + 1)) (Int32.ofNat q)) := h.worder hL ha (by omega)
      have b1 : zblk (wI V (a + 4) (p + 1) (Int32.ofNat q)) a = zup (zblk V a) (158 + (p + 1)) (Int32.ofNat q) := blk_w (loc_r (p + 1) (by omega)) (zlt hL ha (by omega))
      have no : nO (zup w (158 + (p + 1)) (Int32.ofNat q)) = nO w := nO_z (by omega)
      have nu : nU (zup w (158 + (p + 1)) (Int32.ofNat q)) = nU w := nU_z (by omega)
      obtain ⟨U, e, r, f⟩ := c_ins ha hu p m (wI V (a + 4) (p + 1) (Int32.ofNat q)) (zup w (158 + (p + 1)) (Int32.ofNat q)) (by omega) (zLay_wI hL) r1 (by rw [nu]; exact hun) (by rw [nu]; exact u8) (by rw [no]; omega) (by rw [no]; exact h8) (by rw [no, zup_ne (by omega)]; exact oe) (fun i hi => by
        rw [no] at hi; rw [nu]
        by_cases t : i = p + 1
        · rw [t, zup_eq, tn_of (by omega)]; exact ⟨Nb.of (by omega) (by omega), o2⟩
        · rw [zup_ne (by omega)]; exact ho i hi) (fun hlt => by
        rw [no] at hlt ⊢; rw [b1]
        by_cases t : nO w = p + 1
        · rw [t, zup_eq, zup_eq]
        · rw [zup_ne (by omega), zup_ne (by omega)]; exact hE (by omega))
      rw [zup_ne (by omega)] at r
      exact ⟨U, e, r, ((FrC.rf hL).w (o := 4) (by omega)).tr f⟩
    · rw [if_pos (Int32.not_lt.mp g), if_neg g]
      exact c_ins52 hL ha h hu hp h8 oe hE
theorem r_ins157 (hL : zLay V) (hQ : Qr V w) {K : VS → Nat → Int32 → Rs Unit} {u p : Nat} (hp : p < 8) : ∃ U, eX9_begins_157 n K V 207 (Int32.ofNat u) (Int32.ofNat p) = K U 207 (Int32.ofNat (u + 1)) ∧ Qr U (zup (zup w (158 + p) (Int32.ofNat u)) 157 (w 157 + 1)) ∧ FrR V U := by
  unfold eX9_begins_157
  simp only [sq_eq]
  have i0 : (158 : Int32) + Int32.ofNat p = Int32.ofNat (158 + p) := of_add (a := 158)
  have l1 := zLay_wI (i := 208) (k := 158 + p) (v := Int32.ofNat u) hL
  have q1 := hQ.w (k := 158 + p) (x := Int32.ofNat u) hL
  obtain ⟨g1, e1⟩ := r_v l1 q1 (k := 157) (x := 157) (by decide) rfl
  rw [r71 hL, ob_1, i0, m208 hL, if_pos (in_of (by omega) (by decide)), tn_of (by omega), r71 l1, ob_1, if_pos g1, if_pos g1, e1, zup_ne (by omega), p1_of, show (157 : Int32).toNatClampNeg = 157 from by decide +kernel]
  exact ⟨_, rfl, q1.w l1, ((FrR.rf hL).w).w⟩
theorem r_ins {K : VS → Nat → Int32 → Rs Unit} {u : Nat} (hu : u < 8) : ∀ (p m : Nat) (V : VS) (w : RW), p < m → zLay V → Qr V w → nU w ≤ 8 → p ≤ nO w → nO w < 8 → (∀ i, i < nO w → Nb (w (158 + i)) 7 ∧ (w (158 + i)).toNatClampNeg < nU w) →
    ∃ U, elX9_begins_97 n K m V 207 (Int32.ofNat u) (Int32.ofNat p) = K U 207 (Int32.ofNat (u + 1)) ∧ Qr U (zup (insW u p w) 157 (w 157 + 1)) ∧ FrR V U
  | 0, m + 1, V, w, _, hL, hQ, u8, hp, h8, ho => by
    show ∃ U, eX9_begins_97 n K (elX9_begins_97 n K m) V 207 (Int32.ofNat u) (Int32.ofNat 0) = _ ∧ _
    unfold eX9_begins_97
    rw [if_pos (by decide)]
    exact r_ins157 hL hQ (by omega)
  | p + 1, m + 1, V, w, hm, hL, hQ, u8, hp, h8, ho => by
    show ∃ U, eX9_begins_97 n K (elX9_begins_97 n K m) V 207 (Int32.ofNat u) (Int32.ofNat (p + 1)) = _ ∧ _
    have ⟨o1, o2⟩ := ho p (by omega)
    have i0 : (158 : Int32) + Int32.ofNat (p + 1) = Int32.ofNat (158 + (p + 1)) := of_add (a := 158)
    have i1 : Int32.ofNat (158 + (p + 1)) - 1 = Int32.ofNat (158 + p) := of_sub (b := 1) (by omega)
    unfold eX9_begins_97 insW
    generalize hq : (w (158 + p)).toNatClampNeg = q at o2
    have o1' : w (158 + p) = Int32.ofNat q := by rw [o1.eq, hq]
    rw [if_neg (fun e => by have := (of_le (b := 0) (by omega) (by omega)).mp e; omega), r71 hL, ob_1, i0, i1, m208 hL, if_pos (in_of (by omega) (by decide)), tn_of (by omega), hQ _ (by omega), o1', r_of6 hL hQ (by omega), bd_rt, r_of6 hL hQ hu, bd_rt]
    by_cases g : w (67 + 11 * q + 6) < w (67 + 11 * u + 6)
    · rw [if_neg (Int32.not_le.mpr g), if_pos g, r71 hL, ob_1, ob_1, m208 hL, if_pos (in_of (by omega) (by decide)), if_pos (in_of (by omega) (by decide)), tn_of (by omega), hQ _ (by omega), o1', sq_eq]
      rw [show Int32.ofNat (p + 1) + (-1) = Int32.ofNat p from m1_of (by omega)]
      have no : nO (zup w (158 + (p + 1)) (Int32.ofNat q)) = nO w := nO_z (by omega)
      have nu : nU (zup w (158 + (p + 1)) (Int32.ofNat q)) = nU w := nU_z (by omega)
      obtain ⟨U, e, r, f⟩ := r_ins (K := K) hu p m (wI V 208 (158 + (p + 1)) (Int32.ofNat q)) (zup w (158 + (p + 1)) (Int32.ofNat q)) (by omega) (zLay_wI hL) (hQ.w hL) (by rw [nu]; exact u8) (by rw [no]; omega) (by rw [no]; exact h8) (fun i hi => by
        rw [no] at hi; rw [nu]
        by_cases t : i = p + 1
        · rw [t, zup_eq, tn_of (by omega)]; exact ⟨Nb.of (by omega) (by omega), o2⟩
        · rw [zup_ne (by omega)]; exact ho i hi)
      rw [zup_ne (by omega)] at r
      exact ⟨U, e, r, ((FrR.rf hL).w).tr f⟩
    · rw [if_pos (Int32.not_lt.mp g), if_neg g]
      exact r_ins157 hL hQ (by omega)
end
