/-! dice, events, health -/
def rZ (w : RW) : Int32 := w 155 * 1103515245 + 12345
def rH (z : Int32) : Int32 := (z.toUInt32 >>> ((16 : Int32).toUInt32 &&& Int32.toUInt32 31)).toInt32
def rD (w : RW) (s : Int32) : Int32 := (rH (rZ w) - rH (rZ w) / s * s) + 1
def rW (w : RW) : RW := zup w 155 (rZ w)
theorem rH_of (z : Int32) : ∃ k, k < 65536 ∧ rH z = Int32.ofNat k := by
  refine ⟨z.toUInt32.toNat / 65536, ?_, ?_⟩
  · have := z.toUInt32.toNat_lt; omega
  · unfold rH
    rw [show ((16 : Int32).toUInt32 &&& Int32.toUInt32 31) = 16 from by decide +kernel]
    rw [← UInt32.toInt32_ofNat' (n := z.toUInt32.toNat / 65536)]
    congr 1
    apply UInt32.toNat_inj.mp
    rw [UInt32.toNat_shiftRight, UInt32.toNat_ofNat_of_lt' (by have := z.toUInt32.toNat_lt; show _ < 4294967296; omega), Nat.shiftRight_eq_div_pow]
    rfl
theorem rD_of (w : RW) {s : Nat} (hs : 0 < s) (h : s < 1000) : ∃ k, k < s ∧ rD w (Int32.ofNat s) = Int32.ofNat (k + 1) := by
  obtain ⟨k, hk, e⟩ := rH_of (rZ w)
  refine ⟨k % s, Nat.mod_lt _ hs, ?_⟩
  unfold rD
  rw [e, of_mod (by omega) (by omega), show Int32.ofNat (k % s) + 1 = Int32.ofNat (k % s + 1) from of_add]
section
variable {n a : Nat} {V : VS} {w : RW}
theorem c_roll (hL : zLay V) (ha : a ∈ zB) (h : Rp a V w) {s : Nat} {x : Int32} (hs : 0 < s) (h1 : s < 1000) (e : x = Int32.ofNat s) : ev_X2_rollDie n V a x = rt (rD w x) (wI V a 10 (rZ w)) := by
  subst e
  have hl : a < V.length := zlt (i := 0) hL ha (by omega)
  unfold ev_X2_rollDie eX2_rollDie_0
  simp only [sq_eq]
  rw [h.z, if_pos (by exact (of_le (a := 1) (by omega) (by omega)).mpr hs), if_pos (fun e => by have := (of_inj (b := 0) (by omega) (by omega)).mp e; omega), vI_wI hl, zup_eq]
  rfl
theorem r_roll (hL : zLay V) (hQ : Qr V w) {s : Nat} {x : Int32} (hs : 0 < s) (h1 : s < 1000) (e : x = Int32.ofNat s) : ev_X9_roll n V 207 x = rt (rD w x) (wI V 208 155 (rZ w)) := by
  subst e
  obtain ⟨g1, e1⟩ := r_v hL hQ (k := 155) (x := 155) (by decide) rfl
  have hl := zLay_wI (i := 208) (k := 155) (v := rZ w) hL
  obtain ⟨g2, e2⟩ := r_v hl (hQ.w (k := 155) (x := rZ w) hL) (k := 155) (x := 155) (by decide) rfl
  unfold ev_X9_roll eX9_roll_0
  simp only [sq_eq]
  rw [r71 hL, ob_1, ob_1, if_pos g1, if_pos g1, e1, show w 155 * 1103515245 + 12345 = rZ w from rfl, show (155 : Int32).toNatClampNeg = 155 from by decide +kernel]
  rw [show (155 : Int32).toNatClampNeg = 155 from by decide +kernel] at e2
  show ((vR (wI V 208 155 (rZ w)) 207 1).bind _) = _
  rw [r71 hl, ob_1, if_pos g2, e2, zup_eq, if_pos (fun e => by have := (of_inj (b := 0) (by omega) (by omega)).mp e; omega)]
  rfl
end
/-- a new event -/
def gSh (w : RW) : RW := fun j => if 169 ≤ j ∧ j < 286 then w (j + 3) else if j = 168 then 39 else w j
def gPut (w : RW) (k u x : Int32) : RW := zup (zup (zup (zup w (169 + 3 * nE w) k) (169 + 3 * nE w + 1) u) (169 + 3 * nE w + 2) x) 168 (w 168 + 1)
def gTell (w : RW) (k u x : Int32) : RW := gPut (if w 168 < 40 then w else gSh w) k u x
theorem gPut_lo {w : RW} {k u x : Int32} {j : Nat} (h : j < 168 ∨ 289 ≤ j) (he : nE w < 40) : gPut w k u x j = w j := by
  unfold gPut
  rw [zup_ne (by omega), zup_ne (by omega), zup_ne (by omega), zup_ne (by omega)]
theorem gSh_lo {w : RW} {j : Nat} (h : j < 168 ∨ 289 ≤ j) : gSh w j = w j := by
  unfold gSh; rw [if_neg (by omega), if_neg (by omega)]
theorem gSh_e {w : RW} : nE (gSh w) = 39 := by unfold nE gSh; rw [if_neg (by omega), if_pos rfl]; decide +kernel
theorem gTell_e {w : RW} (hE : Nb (w 168) 40) : nE (if w 168 < 40 then w else gSh w) < 40 ∧ (if w 168 < 40 then w else gSh w) 168 = Int32.ofNat (nE (if w 168 < 40 then w else gSh w)) := by
  by_cases g : w 168 < 40
  · rw [if_pos g]
    have := hE.eq
    have l : nE w ≤ 40 := hE.le
    refine ⟨?_, this⟩
    rw [this] at g
    exact (of_lt (b := 40) (by omega) (by omega)).mp g
  · rw [if_neg g, gSh_e]
    refine ⟨by omega, ?_⟩
    unfold gSh; rw [if_neg (by omega), if_pos rfl]; rfl
theorem gTell_lo {w : RW} {k u x : Int32} {j : Nat} (hE : Nb (w 168) 40) (h : j < 168 ∨ 289 ≤ j) : gTell w k u x j = w j := by
  unfold gTell
  rw [gPut_lo h (gTell_e hE).1]
  by_cases g : w 168 < 40
  · rw [if_pos g]
  · rw [if_neg g, gSh_lo h]
theorem gTell_n {w : RW} {k u x : Int32} (hE : Nb (w 168) 40) : Nb (gTell w k u x 168) 40 := by
  have := gTell_e hE
  unfold gTell gPut
  rw [zup_eq, this.2, show ∀ q, Int32.ofNat q + 1 = Int32.ofNat (q + 1) from fun q => of_add]
  exact Nb.of (by omega) (by omega)
section
variable {n a : Nat} {V : VS} {w : RW}
theorem c_put (hL : zLay V) (ha : a ∈ zB) (h : Rp a V w) {k u x : Int32} (he : nE w < 40) (ee : w 168 = Int32.ofNat (nE w)) : ∃ U, eX1_note_66 n V (a + 5) k u x = rt () U ∧ Rp a U (gPut w k u x) ∧ FrC a V U := by
  unfold eX1_note_66
  simp only [sq_eq]
  generalize hm : nE w = m at he ee
  have l1 := zLay_wI (i := a + 6) (k := m) (v := k) hL
  have l2 := zLay_wI (i := a + 7) (k := m) (v := u) l1
  have l3 := zLay_wI (i := a + 8) (k := m) (v := x) l2
  have c0 : vI V (a + 5) 3 = Int32.ofNat m := h.ecount.trans ee
  have c1 : vI (wI V (a + 6) m k) (a + 5) 3 = Int32.ofNat m := by rw [vI_wI_ne (by omega)]; exact c0
  have c2 : vI (wI (wI V (a + 6) m k) (a + 7) m u) (a + 5) 3 = Int32.ofNat m := by rw [vI_wI_ne (by omega)]; exact c1
  have c3 : vI (wI (wI (wI V (a + 6) m k) (a + 7) m u) (a + 8) m x) (a + 5) 3 = Int32.ofNat m := by rw [vI_wI_ne (by omega)]; exact c2
  rw [zre0 hL ha, ob_1, zne0 hL ha, c0, if_pos (in_of he (by decide)), tn_of (by omega)]
  rw [zre1 l1 ha, ob_1, zne1 l1 ha, c1, if_pos (in_of he (by decide)), tn_of (by omega)]
  rw [zre2 l2 ha, ob_1, zne2 l2 ha, c2, if_pos (in_of he (by decide)), tn_of (by omega), c3]
  refine ⟨_, rfl, ⟨fun j hj => ?_, fun q hq => ?_⟩, ((((FrC.rf hL).w (o := 6) (by omega)).w (o := 7) (by omega)).w (o := 8) (by omega)).w (o := 5) (by omega)⟩
  · have b : zblk (wI (wI (wI (wI V (a + 6) m k) (a + 7) m u) (a + 8) m x) (a + 5) 3 (Int32.ofNat m + 1)) a = zup (zup (zup (zup (zblk V a) (169 + 3 * m) k) (169 + 3 * m + 1) u) (169 + 3 * m + 2) x) 168 (Int32.ofNat m + 1) := by
      rw [blk_w (k := 168) rfl (zlt l3 ha (by omega)), blk_w (loc_e m he 2 (by omega)) (zlt l2 ha (by omega)), blk_w (loc_e m he 1 (by omega)) (zlt l1 ha (by omega)), blk_w (loc_e m he 0 (by omega)) (zlt hL ha (by omega))]
      rfl
    rw [b]
    unfold gPut
    rw [hm, ee]
    by_cases g : j = 168
    · rw [g, zup_eq, zup_eq]
    rw [zup_ne g, zup_ne g]
    by_cases g2 : j = 169 + 3 * m + 2
    · rw [g2, zup_eq, zup_eq]
    rw [zup_ne g2, zup_ne g2]
    by_cases g1 : j = 169 + 3 * m + 1
    · rw [g1, zup_eq, zup_eq]
    rw [zup_ne g1, zup_ne g1]
    by_cases g0 : j = 169 + 3 * m
    · rw [g0, zup_eq, zup_eq]
    rw [zup_ne g0, zup_ne g0]
    apply h.1
    have ne : nE (gPut w k u x) = m + 1 := by
      unfold nE gPut; rw [zup_eq, ee, show Int32.ofNat m + 1 = Int32.ofNat (m + 1) from of_add, tn_of (by omega)]
    unfold Lv at hj ⊢
    rw [ne] at hj
    rw [hm]
    have e0 : gPut w k u x 0 = w 0 := gPut_lo (by omega) (by omega)
    have e1 : gPut w k u x 1 = w 1 := gPut_lo (by omega) (by omega)
    have e2 : gPut w k u x 66 = w 66 := gPut_lo (by omega) (by omega)
    have e3 : gPut w k u x 157 = w 157 := gPut_lo (by omega) (by omega)
    unfold nR nC nU nO at hj ⊢
    rw [e0, e1, e2, e3] at hj
    omega
  · rw [vI_wI_ne (by omega), vI_wI_ne (by omega), vI_wI_ne (by omega), vI_wI_ne (by omega), h.2 q hq]
theorem c_note (hL : zLay V) (ha : a ∈ zB) (h : Rp a V w) (hE : Nb (w 168) 40) {k u x : Int32} : ∃ U, ev_X1_note n V (a + 5) k u x = rt () U ∧ Rp a U (gTell w k u x) ∧ FrC a V U := by
  have ge := gTell_e hE
  unfold ev_X1_note eX1_note_0 gTell
  rw [h.ecount]
  by_cases g : w 168 < 40
  · rw [if_pos g] at ge ⊢
    rw [if_pos g]
    exact c_put hL ha h ge.1 ge.2
  · rw [if_neg g] at ge ⊢
    rw [if_neg g]
    simp only [sq_eq]
    have l0 := zLay_wI (i := a + 5) (k := 3) (v := 39) hL
    have q0 : ∀ V, zLay V → vI V (a + 5) 3 = 39 → vI V (a + 5) 3 = Int32.ofNat 39 := fun _ _ e => e
    have d0 : vI (wI V (a + 5) 3 39) (a + 5) 3 = 39 := by rw [vI_wI (zlt hL ha (by omega)), zup_eq]
    have c39 : (39 : Int32).toNatClampNeg = 39 := by decide +kernel
    have c1 : (1 : Int32).toNatClampNeg = 1 := by decide +kernel
    have cz : (0 : Int32).toNatClampNeg = 0 := by decide +kernel
    have nl : ¬ (39 : Int32) < 0 := by decide
    have l1 := zLay_wC (a := a + 6) (b := a + 6) (sp := 1) (dp := 0) (n := 39) l0
    have l2 := zLay_wC (a := a + 7) (b := a + 7) (sp := 1) (dp := 0) (n := 39) l1
    have l3 := zLay_wC (a := a + 8) (b := a + 8) (sp := 1) (dp := 0) (n := 39) l2
    have d1 : vI (wC (wI V (a + 5) 3 39) (a + 6) (a + 6) 1 0 39) (a + 5) 3 = 39 := by rw [vI_C (vC_wC (by omega))]; exact d0
    have d2 : vI (wC (wC (wI V (a + 5) 3 39) (a + 6) (a + 6) 1 0 39) (a + 7) (a + 7) 1 0 39) (a + 5) 3 = 39 := by rw [vI_C (vC_wC (by omega))]; exact d1
    rw [zre0 l0 ha, ob_1, ob_1, d0, if_pos nl, c39, c1, cz, zne0 l0 ha, if_pos (by decide), if_pos (by decide)]
    rw [zre1 l1 ha, ob_1, ob_1, d1, if_pos nl, c39, zne1 l1 ha, if_pos (by decide), if_pos (by decide)]
    rw [zre2 l2 ha, ob_1, ob_1, d2, if_pos nl, c39, zne2 l2 ha, if_pos (by decide), if_pos (by decide)]
    generalize hX : wC (wC (wC (wI V (a + 5) 3 39) (a + 6) (a + 6) 1 0 39) (a + 7) (a + 7) 1 0 39) (a + 8) (a + 8) 1 0 39 = X at l3
    have fr : FrC a V X := by
      refine ⟨l3, fun i hi => ?_⟩
      rw [← hX, vC_wC (by omega), vC_wC (by omega), vC_wC (by omega), vC_wI (by omega)]
    have e40 : 39 < nE w := by
      have l : nE w ≤ 40 := hE.le
      refine Nat.lt_of_not_le (fun y => g ?_)
      rw [hE.eq]
      exact (of_lt (b := 40) (by show nE w < _; omega) (by omega)).mpr (show nE w < 40 by omega)
    have hR : Rp a X (gSh w) := by
      refine ⟨fun j hj => ?_, fun q hq => ?_⟩
      · by_cases j8 : j = 168
        · rw [j8]
          show zblk X a 168 = gSh w 168
          rw [blk_at (k := 168) rfl, ← hX, vI_C (vC_wC (by omega)), d2]; rfl
        by_cases j3 : 169 ≤ j ∧ j < 289
        · have jlt : j < 286 := by
            unfold Lv at hj; rw [gSh_e] at hj
            have e1 : gSh w 66 = w 66 := gSh_lo (by omega)
            have e2 : gSh w 157 = w 157 := gSh_lo (by omega)
            unfold nU nO at hj; rw [e1, e2] at hj; omega
          have es : gSh w j = w (j + 3) := by unfold gSh; rw [if_pos ⟨j3.1, jlt⟩]
          have lv : Lv w (j + 3) := .inr (.inr (.inr (.inr (.inl (by omega)))))
          rw [es, ← h.1 _ lv]
          have ej : j = 169 + 3 * ((j - 169) / 3) + (j - 169) % 3 := by omega
          generalize hi : (j - 169) / 3 = i at ej
          generalize hr : (j - 169) % 3 = r at ej
          have hr3 : r < 3 := by omega
          have hi39 : i < 39 := by omega
          subst ej
          rw [show 169 + 3 * i + r + 3 = 169 + 3 * (i + 1) + r from by omega, blk_at (loc_e i (by omega) r hr3), blk_at (loc_e (i + 1) (by omega) r hr3), ← hX]
          have hr' : r = 0 ∨ r = 1 ∨ r = 2 := by omega
          rcases hr' with rfl | rfl | rfl
          · rw [vI_C (vC_wC (show a + (6 + 0) ≠ a + 8 by omega)), vI_C (vC_wC (show a + (6 + 0) ≠ a + 7 by omega)), vI_wC (zlt l0 ha (by omega)), if_pos (by omega), vI_wI_ne (by omega), show 1 + (i - 0) = i + 1 from by omega]
          · rw [vI_C (vC_wC (show a + (6 + 1) ≠ a + 8 by omega)), vI_wC (zlt l1 ha (by omega)), if_pos (by omega), vI_C (vC_wC (by omega)), vI_wI_ne (by omega), show 1 + (i - 0) = i + 1 from by omega]
          · rw [vI_wC (zlt l2 ha (by omega)), if_pos (by omega), vI_C (vC_wC (by omega)), vI_C (vC_wC (by omega)), vI_wI_ne (by omega), show 1 + (i - 0) = i + 1 from by omega]
        · have lo : j < 168 ∨ 289 ≤ j := by omega
          rw [gSh_lo lo]
          have lv : Lv w j := by
            have e0 : gSh w 0 = w 0 := gSh_lo (by omega)
            have e1 : gSh w 1 = w 1 := gSh_lo (by omega)
            have e2 : gSh w 66 = w 66 := gSh_lo (by omega)
            have e3 : gSh w 157 = w 157 := gSh_lo (by omega)
            unfold Lv at hj ⊢
            unfold nR nC nU nO at hj ⊢
            rw [e0, e1, e2, e3] at hj; omega
          rw [← h.1 j lv]
          have j9 : j ≠ 289 := by unfold Lv at lv; omega
          have j308 : j < 308 := by unfold Lv at lv; omega
          have key : ∀ q, q < 308 → (q < 168 ∨ 290 ≤ q) → (zloc q).1 ≠ 6 ∧ (zloc q).1 ≠ 7 ∧ (zloc q).1 ≠ 8 ∧ (zloc q).1 ≠ 5 := by decide +kernel
          obtain ⟨k6, k7, k8, k5⟩ := key j j308 (by omega)
          unfold zblk
          rw [← hX, vI_C (vC_wC (by omega)), vI_C (vC_wC (by omega)), vI_C (vC_wC (by omega)), vI_wI_ne (by omega)]
      · rw [← hX, vI_C (vC_wC (by omega)), vI_C (vC_wC (by omega)), vI_C (vC_wC (by omega)), vI_wI_ne (by omega), h.2 q hq]
    obtain ⟨U, e, r, f⟩ := c_put (n := n) (k := k) (u := u) (x := x) l3 ha hR ge.1 ge.2
    exact ⟨U, e, r, fr.tr f⟩
theorem r_put (hL : zLay V) (hQ : Qr V w) {k u x : Int32} (he : nE w < 40) (ee : w 168 = Int32.ofNat (nE w)) : ∃ U, eX9_tells_65 n V 207 k u x = rt () U ∧ Qr U (gPut w k u x) ∧ FrR V U := by
  unfold eX9_tells_65
  simp only [sq_eq]
  generalize hm : nE w = m at he ee
  have i0 : (169 : Int32) + 3 * Int32.ofNat m = Int32.ofNat (169 + 3 * m) := by
    show Int32.ofNat 169 + Int32.ofNat 3 * Int32.ofNat m = _
    rw [of_mul, of_add]
  have i1 : Int32.ofNat (169 + 3 * m) + 1 = Int32.ofNat (169 + 3 * m + 1) := of_add
  have i2 : Int32.ofNat (169 + 3 * m) + 2 = Int32.ofNat (169 + 3 * m + 2) := of_add
  obtain ⟨g1, e1⟩ := r_v hL hQ (k := 168) (x := 168) (by decide) rfl
  have l1 := zLay_wI (i := 208) (k := 169 + 3 * m) (v := k) hL
  have l2 := zLay_wI (i := 208) (k := 169 + 3 * m + 1) (v := u) l1
  have l3 := zLay_wI (i := 208) (k := 169 + 3 * m + 2) (v := x) l2
  have q3 := ((hQ.w (k := 169 + 3 * m) (x := k) hL).w (k := 169 + 3 * m + 1) (x := u) l1).w (k := 169 + 3 * m + 2) (x := x) l2
  obtain ⟨g4, e4⟩ := r_v l3 q3 (k := 168) (x := 168) (by decide) rfl
  rw [r71 hL, ob_1, if_pos g1, ob_1, e1, ee, i0, m208 hL, if_pos (in_of (by omega) (by decide)), tn_of (by omega)]
  rw [r71 l1, ob_1, i1, m208 l1, if_pos (in_of (by omega) (by decide)), tn_of (by omega)]
  rw [r71 l2, ob_1, i2, m208 l2, if_pos (in_of (by omega) (by decide)), tn_of (by omega)]
  rw [r71 l3, ob_1, if_pos g4, if_pos g4, e4, zup_ne (by omega), zup_ne (by omega), zup_ne (by omega), show (168 : Int32).toNatClampNeg = 168 from by decide +kernel]
  refine ⟨_, rfl, ?_, ((((FrR.rf hL).w).w).w).w⟩
  unfold gPut
  rw [hm]
  exact q3.w l3
end
/-- the reference moves all events one place down, one number at a time -/
def gMv (d : Nat) (w : RW) : RW := fun j => if 169 ≤ j ∧ j < 169 + d then w (j + 3) else w j
section
variable {n a : Nat} {V : VS} {w : RW}
theorem r_mv {k u x : Int32} : ∀ (d m p : Nat) (V : VS), p + d = 117 → d < m → zLay V → Qr V (gMv p w) → w 168 = 40 → ∃ U, elX9_tells_16 n m V 207 k u x (Int32.ofNat p) = eX9_tells_65 n U 207 k u x ∧ zLay U ∧ Qr U (gSh w) ∧ FrR V U
  | 0, m + 1, p, V, e, _, hL, hQ, h8 => by
    have : p = 117 := by omega
    subst this
    show ∃ U, eX9_tells_16 n (elX9_tells_16 n m) V 207 k u x (Int32.ofNat 117) = _ ∧ _
    unfold eX9_tells_16
    simp only [sq_eq]
    obtain ⟨g1, e1⟩ := r_v hL hQ (k := 168) (x := 168) (by decide) rfl
    rw [if_pos (by decide), r71 hL, ob_1, if_pos g1, if_pos g1, e1]
    have e2 : gMv 117 w 168 = 40 := by unfold gMv; rw [if_neg (by omega)]; exact h8
    rw [e2, show (168 : Int32).toNatClampNeg = 168 from by decide +kernel]
    refine ⟨_, rfl, zLay_wI hL, fun j hj => ?_, (FrR.rf hL).w⟩
    rw [vI_wI (zLen hL (by decide))]
    by_cases g : j = 168
    · rw [g, zup_eq]; unfold gSh; rw [if_neg (by omega), if_pos rfl]; decide
    · rw [zup_ne g, hQ j hj]; unfold gMv gSh
      by_cases g2 : 169 ≤ j ∧ j < 286
      · rw [if_pos (by omega), if_pos g2]
      · rw [if_neg (by omega), if_neg g2, if_neg g]
  | d + 1, m + 1, p, V, e, hm, hL, hQ, h8 => by
    show ∃ U, eX9_tells_16 n (elX9_tells_16 n m) V 207 k u x (Int32.ofNat p) = _ ∧ _
    unfold eX9_tells_16
    simp only [sq_eq]
    have i0 : (169 : Int32) + Int32.ofNat p = Int32.ofNat (169 + p) := of_add (a := 169)
    have i3 : Int32.ofNat (169 + p) + 3 = Int32.ofNat (169 + p + 3) := of_add
    rw [if_neg (fun e => by have := (of_le (a := 117) (by omega) (by omega)).mp e; omega), r71 hL, ob_1, ob_1, i0, i3, m208 hL, if_pos (in_of (by omega) (by decide)), if_pos (in_of (by omega) (by decide)), tn_of (by omega), tn_of (by omega), p1_of, hQ _ (by omega)]
    have hq : Qr (wI V 208 (169 + p) (gMv p w (169 + p + 3))) (gMv (p + 1) w) := fun j hj => by
      rw [vI_wI (zLen hL (by decide))]
      by_cases g : j = 169 + p
      · rw [g, zup_eq]; unfold gMv
        rw [if_neg (by omega), if_pos (by omega)]
      · rw [zup_ne g, hQ j hj]; unfold gMv
        by_cases g2 : 169 ≤ j ∧ j < 169 + p
        · rw [if_pos g2, if_pos (by omega)]
        · rw [if_neg g2, if_neg (by omega)]
    obtain ⟨U, e1, l1, q1, f1⟩ := r_mv d m (p + 1) _ (by omega) (by omega) (zLay_wI hL) hq h8
    exact ⟨U, e1, l1, q1, ((FrR.rf hL).w).tr f1⟩
theorem r_tells (hn : 120 < n) (hL : zLay V) (hQ : Qr V w) (hE : Nb (w 168) 40) {k u x : Int32} : ∃ U, ev_X9_tells n V 207 k u x = rt () U ∧ Qr U (gTell w k u x) ∧ FrR V U := by
  have ge := gTell_e hE
  obtain ⟨g1, e1⟩ := r_v hL hQ (k := 168) (x := 168) (by decide) rfl
  unfold ev_X9_tells eX9_tells_0 gTell
  rw [r71 hL, ob_1, if_pos g1, e1]
  by_cases g : w 168 < 40
  · rw [if_pos g] at ge ⊢
    rw [if_neg (fun e => by rw [e] at g; exact absurd g (by decide))]
    exact r_put hL hQ ge.1 ge.2
  · rw [if_neg g] at ge ⊢
    have e40 : w 168 = 40 := by
      have l : nE w ≤ 40 := hE.le
      have k : ¬ nE w < 40 := fun y => g (by rw [hE.eq]; exact (of_lt (b := 40) (by show nE w < _; omega) (by omega)).mpr y)
      rw [hE.eq]
      show Int32.ofNat (nE w) = Int32.ofNat 40
      congr 1; omega
    rw [if_pos e40]
    have hq0 : Qr V (gMv 0 w) := fun j hj => by rw [hQ j hj]; unfold gMv; rw [if_neg (by omega)]
    obtain ⟨U, e1, l1, q1, f1⟩ := r_mv (n := n) (k := k) (u := u) (x := x) 117 n 0 V (by omega) (by omega) hL hq0 e40
    rw [show (0 : Int32) = Int32.ofNat 0 from rfl, e1]
    obtain ⟨T, e2, q2, f2⟩ := r_put (n := n) (k := k) (u := u) (x := x) l1 q1 ge.1 ge.2
    exact ⟨T, e2, q2, f1.tr f2⟩
end
/-- health that is lost -/
def gHp (w : RW) (u : Nat) (x : Int32) : Int32 := if w (67 + 11 * u + 3) ≤ x then 0 else w (67 + 11 * u + 3) - x
def gLose (w : RW) (u : Nat) (x : Int32) : RW := zup w (67 + 11 * u + 3) (gHp w u x)
theorem gHp_nb {w : RW} {u b m : Nat} (h : Nb (w (67 + 11 * u + 3)) b) (hb : b < 1000) (hm : m < 1000) : Nb (gHp w u (Int32.ofNat m)) b ∧ gHp w u (Int32.ofNat m) = if 0 ≤ w (67 + 11 * u + 3) - Int32.ofNat m then w (67 + 11 * u + 3) - Int32.ofNat m else 0 := by
  have e := h.eq; have l := h.le
  unfold gHp
  generalize w (67 + 11 * u + 3) = y at e l
  generalize y.toNatClampNeg = q at e l
  subst e
  by_cases g : q ≤ m
  · rw [if_pos (by exact (of_le (by omega) (by omega)).mpr g)]
    refine ⟨Nb.of (k := 0) (by omega) (by omega), ?_⟩
    by_cases g2 : q = m
    · rw [g2, of_sub (Nat.le_refl _), Nat.sub_self, if_pos (by decide)]; rfl
    · rw [if_neg]
      rw [ji_nat, ji_nat, ← Int32.ofInt_sub]
      intro x
      have := (ji_le (a := 0) (by omega) (by omega) (by omega) (by omega)).mp x
      omega
  · rw [if_neg (fun x => g ((of_le (by omega) (by omega)).mp x)), of_sub (by omega), if_pos (Int32.not_lt.mp (ofn_nn (by omega)))]
    exact ⟨Nb.of (by omega) (by omega), rfl⟩
section
variable {n a : Nat} {V : VS} {w : RW}
theorem c_lose (h : Rp a V w) {u : Nat} (hu : u < nU w) (h8 : u < 8) {x : Int32} : ev_X7_lose n V (a + 9 + u) x = rt () (wI V (a + 9 + u) 5 (gHp w u x)) := by
  unfold ev_X7_lose eX7_lose_0 gHp
  simp only [sq_eq]
  rw [show vI V (a + 9 + u) 5 = w (67 + 11 * u + 3) from h.u hu h8 (j := 3) (by decide)]
  by_cases g : w (67 + 11 * u + 3) ≤ x
  · rw [if_pos g, if_pos g]
  · rw [if_neg g, if_neg g]
theorem r_loses (hL : zLay V) (hQ : Qr V w) {u b m : Nat} (h8 : u < 8) (hb : Nb (w (67 + 11 * u + 3)) b) (hb' : b < 1000) (hm : m < 1000) {x : Int32} (ex : x = Int32.ofNat m) : ev_X9_loses n V 207 (Int32.ofNat u) x = rt () (wI V 208 (67 + 11 * u + 3) (gHp w u x)) := by
  subst ex
  unfold ev_X9_loses eX9_loses_0 eX9_loses_21
  rw [r_of3 hL hQ h8, bd_rt, (gHp_nb hb hb' hm).2]
  by_cases g : 0 ≤ w (67 + 11 * u + 3) - Int32.ofNat m
  · rw [if_pos g, if_pos g, r_setj (x := 3) (j := 3) hL h8 (by decide) rfl, bd_rt]
  · rw [if_neg g, if_neg g, r_setj (x := 3) (j := 3) hL h8 (by decide) rfl, bd_rt]
theorem r_dies (hn : 120 < n) (hL : zLay V) (hQ : Qr V w) (hE : Nb (w 168) 40) {u : Nat} (h8 : u < 8) : ∃ U, ev_X9_dies n V 207 (Int32.ofNat u) = rt () U ∧ Qr U (if dead w u = true then gTell w 4 (Int32.ofNat u) 0 else w) ∧ FrR V U := by
  unfold ev_X9_dies eX9_dies_0
  rw [r_lives hL hQ h8, bd_rt]
  cases dead w u
  · exact ⟨V, rfl, hQ, FrR.rf hL⟩
  · rw [if_pos rfl, if_pos rfl, if_pos rfl]
    obtain ⟨U, e, q, f⟩ := r_tells (k := 4) (u := Int32.ofNat u) (x := 0) hn hL hQ hE
    rw [e, bd_rt]
    exact ⟨U, rfl, q, f⟩
end
