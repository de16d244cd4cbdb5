/-! a fight's cells as a row, and the rows that it stands for -/
def zfm (j : Nat) : Nat := if j < 2 then j + 1 else j + 2
def zloc (k : Nat) : Nat × Nat :=
  if k < 1 then (1, 1) else if k < 2 then (1, 2) else if k < 66 then (2, k - 2) else if k < 67 then (0, 2)
  else if k < 155 then (9 + (k - 67) / 11, zfm ((k - 67) % 11))
  else if k < 156 then (0, 10) else if k < 157 then (0, 8) else if k < 158 then (0, 4) else if k < 166 then (4, k - 158)
  else if k < 167 then (0, 6) else if k < 168 then (0, 7) else if k < 169 then (5, 3)
  else if k < 289 then (6 + (k - 169) % 3, (k - 169) / 3)
  else if k < 290 then (20, 289) else if k < 291 then (0, 5) else if k < 292 then (0, 9)
  else if k < 300 then (9 + (k - 292), 3) else if k < 308 then (9 + (k - 300), 0) else (20, k)
def zinv (x : Nat × Nat) : Nat :=
  if x.1 = 1 then x.2 - 1 else if x.1 = 2 then x.2 + 2
  else if x.1 = 0 then (if x.2 = 2 then 66 else if x.2 = 10 then 155 else if x.2 = 8 then 156 else if x.2 = 4 then 157 else if x.2 = 6 then 166 else if x.2 = 7 then 167 else if x.2 = 5 then 290 else 291)
  else if x.1 = 4 then x.2 + 158 else if x.1 = 5 then 168 else if x.1 < 9 then 169 + 3 * x.2 + (x.1 - 6)
  else if x.1 = 20 then x.2
  else if x.2 = 0 then 300 + (x.1 - 9) else if x.2 = 3 then 292 + (x.1 - 9) else 67 + 11 * (x.1 - 9) + (if x.2 < 3 then x.2 - 1 else x.2 - 2)
theorem inv_loc_lt : ∀ k, k < 308 → zinv (zloc k) = k := by decide +kernel
theorem loc_ge {k : Nat} (h : 308 ≤ k) : zloc k = (20, k) := by
  unfold zloc
  rw [if_neg (by omega), if_neg (by omega), if_neg (by omega), if_neg (by omega), if_neg (by omega), if_neg (by omega), if_neg (by omega), if_neg (by omega), if_neg (by omega), if_neg (by omega), if_neg (by omega), if_neg (by omega), if_neg (by omega), if_neg (by omega), if_neg (by omega), if_neg (by omega), if_neg (by omega), if_neg (by omega)]
theorem inv_loc (k : Nat) : zinv (zloc k) = k := by
  by_cases h : k < 308
  · exact inv_loc_lt k h
  · rw [loc_ge (by omega)]; rfl
theorem loc_inj {j k : Nat} (h : zloc j = zloc k) : j = k := by rw [← inv_loc j, h, inv_loc]
theorem loc_o : ∀ k, k < 308 → k ≠ 289 → (zloc k).1 < 17 := by decide +kernel
theorem loc_u : ∀ u, u < 8 → ∀ j, j < 11 → zloc (67 + 11 * u + j) = (9 + u, zfm j) := by decide +kernel
theorem loc_e : ∀ i, i < 40 → ∀ j, j < 3 → zloc (169 + 3 * i + j) = (6 + j, i) := by decide +kernel
theorem loc_f : ∀ u, u < 8 → zloc (292 + u) = (9 + u, 3) := by decide +kernel
theorem loc_m : ∀ u, u < 8 → zloc (300 + u) = (9 + u, 0) := by decide +kernel
theorem loc_g : ∀ c, c < 64 → zloc (2 + c) = (2, c) := by decide +kernel
theorem loc_r : ∀ i, i < 8 → zloc (158 + i) = (4, i) := by decide +kernel
def zblk (V : VS) (a : Nat) : RW := fun k => vI V (a + (zloc k).1) (zloc k).2
theorem blk_at {V : VS} {a k o p : Nat} (e : zloc k = (o, p)) : zblk V a k = vI V (a + o) p := by unfold zblk; rw [e]
theorem blk_w {V : VS} {a k o p : Nat} {x : Int32} (e : zloc k = (o, p)) (h : a + o < V.length) : zblk (wI V (a + o) p x) a = zup (zblk V a) k x := funext fun j => by
  unfold zblk
  rw [vI_wI_at h]; unfold zup
  by_cases g : j = k
  · rw [if_pos g, g, e, if_pos ⟨rfl, rfl⟩]
  · rw [if_neg g, if_neg]
    intro x
    apply g; apply loc_inj
    rw [e]
    exact Prod.ext (Nat.add_left_cancel x.1) x.2
theorem blk_f {V U : VS} {a : Nat} (h : ∀ i, i < 17 → vC U (a + i) = vC V (a + i)) {k : Nat} (hk : k < 308) (h9 : k ≠ 289) : zblk U a k = zblk V a k := by
  unfold zblk; rw [vI_C (h _ (loc_o k hk h9))]
/-! rows -/
def nR (w : RW) : Nat := (w 0).toNatClampNeg
def nC (w : RW) : Nat := (w 1).toNatClampNeg
def nU (w : RW) : Nat := (w 66).toNatClampNeg
def nO (w : RW) : Nat := (w 157).toNatClampNeg
def nE (w : RW) : Nat := (w 168).toNatClampNeg
/-- the places of a row that count -/
def Lv (w : RW) (k : Nat) : Prop := (k < 2 + nR w * nC w ∧ k < 66) ∨ k = 66 ∨ (67 ≤ k ∧ k < 67 + 11 * nU w ∧ k < 155) ∨ (155 ≤ k ∧ k < 158 + nO w ∧ k < 166) ∨ (166 ≤ k ∧ k < 169 + 3 * nE w ∧ k < 289) ∨ k = 290 ∨ k = 291 ∨ (292 ≤ k ∧ k < 292 + nU w ∧ k < 300)
def Sim (b w : RW) : Prop := ∀ k, Lv w k → b k = w k
theorem nR_z {w : RW} {k : Nat} {x : Int32} (h : k ≠ 0) : nR (zup w k x) = nR w := by unfold nR; rw [zup_ne (Ne.symm h)]
theorem nC_z {w : RW} {k : Nat} {x : Int32} (h : k ≠ 1) : nC (zup w k x) = nC w := by unfold nC; rw [zup_ne (Ne.symm h)]
theorem nU_z {w : RW} {k : Nat} {x : Int32} (h : k ≠ 66) : nU (zup w k x) = nU w := by unfold nU; rw [zup_ne (Ne.symm h)]
theorem nO_z {w : RW} {k : Nat} {x : Int32} (h : k ≠ 157) : nO (zup w k x) = nO w := by unfold nO; rw [zup_ne (Ne.symm h)]
theorem nE_z {w : RW} {k : Nat} {x : Int32} (h : k ≠ 168) : nE (zup w k x) = nE w := by unfold nE; rw [zup_ne (Ne.symm h)]
theorem Lv_z {w : RW} {k j : Nat} {x : Int32} (h0 : k ≠ 0) (h1 : k ≠ 1) (h2 : k ≠ 66) (h3 : k ≠ 157) (h4 : k ≠ 168) : Lv (zup w k x) j ↔ Lv w j := by
  unfold Lv; rw [nR_z h0, nC_z h1, nU_z h2, nO_z h3, nE_z h4]
theorem Sim.z {b w : RW} {k : Nat} {x : Int32} (h : Sim b w) (h0 : k ≠ 0) (h1 : k ≠ 1) (h2 : k ≠ 66) (h3 : k ≠ 157) (h4 : k ≠ 168) : Sim (zup b k x) (zup w k x) := fun j hj => by
  have hj' := (Lv_z h0 h1 h2 h3 h4).mp hj
  unfold zup; by_cases e : j = k
  · rw [if_pos e, if_pos e]
  · rw [if_neg e, if_neg e]; exact h j hj'
theorem Sim.zc {b w : RW} {k : Nat} {x : Int32} (h : Sim b w) (g : ∀ j, j ≠ k → Lv (zup w k x) j → ¬ Lv w j → b j = w j) : Sim (zup b k x) (zup w k x) := fun j hj => by
  by_cases e : j = k
  · rw [e, zup_eq, zup_eq]
  · rw [zup_ne e, zup_ne e]
    by_cases l : Lv w j
    · exact h j l
    · exact g j e hj l
def Rp (a : Nat) (V : VS) (w : RW) : Prop := Sim (zblk V a) w ∧ ∀ u, u < 8 → vI V (a + 9 + u) 0 = Int32.ofNat u
theorem Rp.at {a k o p : Nat} {V : VS} {w : RW} (h : Rp a V w) (l : Lv w k) (e : zloc k = (o, p)) : vI V (a + o) p = w k := by rw [← h.1 k l, blk_at e]
theorem Rp.rows {a : Nat} {V : VS} {w : RW} (h : Rp a V w) : vI V (a + 1) 1 = w 0 := h.at (k := 0) (.inl (by omega)) rfl
theorem Rp.cols {a : Nat} {V : VS} {w : RW} (h : Rp a V w) (h1 : 0 < nR w * nC w) : vI V (a + 1) 2 = w 1 := h.at (k := 1) (.inl (by omega)) rfl
theorem Rp.cell {a c : Nat} {V : VS} {w : RW} (h : Rp a V w) (hc : c < nR w * nC w) (h6 : c < 64) : vI V (a + 2) c = w (2 + c) := h.at (.inl (by omega)) (loc_g c h6)
theorem Rp.num {a u : Nat} {V : VS} {w : RW} (h : Rp a V w) (hu : u < 8) : vI V (a + 9 + u) 0 = Int32.ofNat u := h.2 u hu
theorem Rp.count {a : Nat} {V : VS} {w : RW} (h : Rp a V w) : vI V a 2 = w 66 := h.at (k := 66) (.inr (.inl rfl)) rfl
theorem Rp.u {a u j : Nat} {V : VS} {w : RW} (h : Rp a V w) (hu : u < nU w) (h8 : u < 8) (hj : j < 11) : vI V (a + 9 + u) (zfm j) = w (67 + 11 * u + j) := by
  have := h.at (k := 67 + 11 * u + j) (.inr (.inr (.inl (by omega)))) (loc_u u h8 j hj)
  rwa [← Nat.add_assoc] at this
theorem Rp.z {a : Nat} {V : VS} {w : RW} (h : Rp a V w) : vI V a 10 = w 155 := h.at (k := 155) (.inr (.inr (.inr (.inl (by omega))))) rfl
theorem Rp.round {a : Nat} {V : VS} {w : RW} (h : Rp a V w) : vI V a 8 = w 156 := h.at (k := 156) (.inr (.inr (.inr (.inl (by omega))))) rfl
theorem Rp.ocount {a : Nat} {V : VS} {w : RW} (h : Rp a V w) : vI V a 4 = w 157 := h.at (k := 157) (.inr (.inr (.inr (.inl (by omega))))) rfl
theorem Rp.order {a i : Nat} {V : VS} {w : RW} (h : Rp a V w) (hi : i < nO w) (h8 : i < 8) : vI V (a + 4) i = w (158 + i) := h.at (.inr (.inr (.inr (.inl (by omega))))) (loc_r i h8)
theorem Rp.cur {a : Nat} {V : VS} {w : RW} (h : Rp a V w) : vI V a 6 = w 166 := h.at (k := 166) (.inr (.inr (.inr (.inr (.inl (by omega)))))) rfl
theorem Rp.acts {a : Nat} {V : VS} {w : RW} (h : Rp a V w) : vI V a 7 = w 167 := h.at (k := 167) (.inr (.inr (.inr (.inr (.inl (by omega)))))) rfl
theorem Rp.ecount {a : Nat} {V : VS} {w : RW} (h : Rp a V w) : vI V (a + 5) 3 = w 168 := h.at (k := 168) (.inr (.inr (.inr (.inr (.inl (by omega)))))) rfl
theorem Rp.ev {a i j : Nat} {V : VS} {w : RW} (h : Rp a V w) (hi : i < nE w) (h4 : i < 40) (hj : j < 3) : vI V (a + (6 + j)) i = w (169 + 3 * i + j) := h.at (.inr (.inr (.inr (.inr (.inl (by omega)))))) (loc_e i h4 j hj)
theorem Rp.turn {a : Nat} {V : VS} {w : RW} (h : Rp a V w) : vI V a 5 = w 290 := h.at (k := 290) (.inr (.inr (.inr (.inr (.inr (.inl rfl)))))) rfl
theorem Rp.seed {a : Nat} {V : VS} {w : RW} (h : Rp a V w) : vI V a 9 = w 291 := h.at (k := 291) (.inr (.inr (.inr (.inr (.inr (.inr (.inl rfl))))))) rfl
theorem Rp.first {a u : Nat} {V : VS} {w : RW} (h : Rp a V w) (hu : u < nU w) (h8 : u < 8) : vI V (a + 9 + u) 3 = w (292 + u) := by
  have := h.at (k := 292 + u) (.inr (.inr (.inr (.inr (.inr (.inr (.inr (by omega)))))))) (loc_f u h8)
  rwa [← Nat.add_assoc] at this
/-- what a fight's methods leave -/
def FrC (a : Nat) (V U : VS) : Prop := zLay U ∧ ∀ i, ¬ (a ≤ i ∧ i < a + 17) → vC U i = vC V i
theorem FrC.rf {a : Nat} {V : VS} (h : zLay V) : FrC a V V := ⟨h, fun _ _ => rfl⟩
theorem FrC.tr {a : Nat} {V U T : VS} (h : FrC a V U) (g : FrC a U T) : FrC a V T := ⟨g.1, fun i hi => (g.2 i hi).trans (h.2 i hi)⟩
theorem FrC.w {a o p : Nat} {V U : VS} {x : Int32} (h : FrC a V U) (ho : o < 17) : FrC a V (wI U (a + o) p x) := ⟨zLay_wI h.1, fun i hi => (vC_wI (by omega)).trans (h.2 i hi)⟩
theorem FrC.w0 {a p : Nat} {V U : VS} {x : Int32} (h : FrC a V U) : FrC a V (wI U a p x) := h.w (o := 0) (by omega)
theorem FrC.wu {a u p : Nat} {V U : VS} {x : Int32} (h : FrC a V U) (ho : u < 8) : FrC a V (wI U (a + 9 + u) p x) := by
  rw [Nat.add_assoc]; exact h.w (by omega)
/-- writes -/
theorem Rp.wk {a k o p : Nat} {V : VS} {w : RW} {x : Int32} (h : Rp a V w) (hL : zLay V) (ha : a ∈ zB) (e : zloc k = (o, p)) (hk : k < 300) (h9 : k ≠ 289) (h0 : k ≠ 0) (h1 : k ≠ 1) (h2 : k ≠ 66) (h3 : k ≠ 157) (h4 : k ≠ 168) : Rp a (wI V (a + o) p x) (zup w k x) := by
  have ho : o < 17 := by have := loc_o k (by omega) h9; rw [e] at this; exact this
  refine ⟨?_, fun u hu => ?_⟩
  · rw [blk_w e (zlt hL ha ho)]; exact h.1.z h0 h1 h2 h3 h4
  · rw [vI_wI_at (zlt hL ha ho), if_neg, h.2 u hu]
    intro x
    have : zloc k = zloc (300 + u) := by
      rw [e, loc_m u hu]; exact Prod.ext (by have := x.1; show o = 9 + u; omega) x.2.symm
    have := loc_inj this
    omega
theorem Rp.wu {a u j : Nat} {V : VS} {w : RW} {x : Int32} (h : Rp a V w) (hL : zLay V) (ha : a ∈ zB) (hu : u < 8) (hj : j < 11) : Rp a (wI V (a + 9 + u) (zfm j) x) (zup w (67 + 11 * u + j) x) := by
  rw [Nat.add_assoc]; exact h.wk hL ha (loc_u u hu j hj) (by omega) (by omega) (by omega) (by omega) (by omega) (by omega) (by omega)
theorem Rp.wz {a : Nat} {V : VS} {w : RW} {x : Int32} (h : Rp a V w) (hL : zLay V) (ha : a ∈ zB) : Rp a (wI V a 10 x) (zup w 155 x) := h.wk (o := 0) hL ha rfl (by decide) (by decide) (by decide) (by decide) (by decide) (by decide) (by decide)
theorem Rp.wround {a : Nat} {V : VS} {w : RW} {x : Int32} (h : Rp a V w) (hL : zLay V) (ha : a ∈ zB) : Rp a (wI V a 8 x) (zup w 156 x) := h.wk (o := 0) hL ha rfl (by decide) (by decide) (by decide) (by decide) (by decide) (by decide) (by decide)
theorem Rp.wcur {a : Nat} {V : VS} {w : RW} {x : Int32} (h : Rp a V w) (hL : zLay V) (ha : a ∈ zB) : Rp a (wI V a 6 x) (zup w 166 x) := h.wk (o := 0) hL ha rfl (by decide) (by decide) (by decide) (by decide) (by decide) (by decide) (by decide)
theorem Rp.wacts {a : Nat} {V : VS} {w : RW} {x : Int32} (h : Rp a V w) (hL : zLay V) (ha : a ∈ zB) : Rp a (wI V a 7 x) (zup w 167 x) := h.wk (o := 0) hL ha rfl (by decide) (by decide) (by decide) (by decide) (by decide) (by decide) (by decide)
theorem Rp.wturn {a : Nat} {V : VS} {w : RW} {x : Int32} (h : Rp a V w) (hL : zLay V) (ha : a ∈ zB) : Rp a (wI V a 5 x) (zup w 290 x) := h.wk (o := 0) hL ha rfl (by decide) (by decide) (by decide) (by decide) (by decide) (by decide) (by decide)
theorem Rp.wseed {a : Nat} {V : VS} {w : RW} {x : Int32} (h : Rp a V w) (hL : zLay V) (ha : a ∈ zB) : Rp a (wI V a 9 x) (zup w 291 x) := h.wk (o := 0) hL ha rfl (by decide) (by decide) (by decide) (by decide) (by decide) (by decide) (by decide)
theorem Rp.worder {a i : Nat} {V : VS} {w : RW} {x : Int32} (h : Rp a V w) (hL : zLay V) (ha : a ∈ zB) (hi : i < 8) : Rp a (wI V (a + 4) i x) (zup w (158 + i) x) := h.wk hL ha (loc_r i hi) (by omega) (by omega) (by omega) (by omega) (by omega) (by omega) (by omega)
/-- a count goes down, or up to what is written already -/
theorem Rp.wcount {a k o p : Nat} {V : VS} {w : RW} {x : Int32} (h : Rp a V w) (hL : zLay V) (ha : a ∈ zB) (e : zloc k = (o, p)) (hk : k < 300) (h9 : k ≠ 289) (g : ∀ j, j ≠ k → Lv (zup w k x) j → ¬ Lv w j → zblk V a j = w j) : Rp a (wI V (a + o) p x) (zup w k x) := by
  have ho : o < 17 := by have := loc_o k (by omega) h9; rw [e] at this; exact this
  refine ⟨?_, fun u hu => ?_⟩
  · rw [blk_w e (zlt hL ha ho)]; exact h.1.zc g
  · rw [vI_wI_at (zlt hL ha ho), if_neg, h.2 u hu]
    intro x
    have : zloc k = zloc (300 + u) := by
      rw [e, loc_m u hu]; exact Prod.ext (by have := x.1; show o = 9 + u; omega) x.2.symm
    have := loc_inj this
    omega
/-- another block of cells that says the same -/
theorem Rp.fr {a : Nat} {V U : VS} {w : RW} (h : Rp a V w) (f : ∀ i, i < 17 → vC U (a + i) = vC V (a + i)) : Rp a U w := by
  refine ⟨fun k l => ?_, fun u hu => ?_⟩
  · rw [blk_f f (by unfold Lv at l; omega) (by unfold Lv at l; omega)]; exact h.1 k l
  · rw [← h.2 u hu, Nat.add_assoc, vI_C (f (9 + u) (by omega))]
/-! the reference's row -/
def Qr (V : VS) (w : RW) : Prop := ∀ k, k < 290 → vI V 208 k = w k
def FrR (V U : VS) : Prop := zLay U ∧ ∀ i, i ≠ 208 → vC U i = vC V i
theorem FrR.rf {V : VS} (h : zLay V) : FrR V V := ⟨h, fun _ _ => rfl⟩
theorem FrR.tr {V U T : VS} (h : FrR V U) (g : FrR U T) : FrR V T := ⟨g.1, fun i b => (g.2 i b).trans (h.2 i b)⟩
theorem FrR.w {V U : VS} {k : Nat} {x : Int32} (h : FrR V U) : FrR V (wI U 208 k x) := ⟨zLay_wI h.1, fun i b => (vC_wI b).trans (h.2 i b)⟩
/-- the row of distances alone -/
def FrF (V U : VS) : Prop := zLay U ∧ ∀ i, i ≠ 217 → vC U i = vC V i
theorem FrF.rf {V : VS} (h : zLay V) : FrF V V := ⟨h, fun _ _ => rfl⟩
theorem FrF.tr {V U T : VS} (h : FrF V U) (g : FrF U T) : FrF V T := ⟨g.1, fun i b => (g.2 i b).trans (h.2 i b)⟩
theorem FrF.w {V U : VS} {k : Nat} {x : Int32} (h : FrF V U) : FrF V (wI U 217 k x) := ⟨zLay_wI h.1, fun i b => (vC_wI b).trans (h.2 i b)⟩
/-- as FrR, but the reference's place in the order may change -/
def FrP (V U : VS) : Prop := zLay U ∧ (∀ i, i ≠ 207 → i ≠ 208 → i ≠ 217 → vC U i = vC V i) ∧ ∀ k, k ≠ 16 → vI U 207 k = vI V 207 k
theorem FrR.p {V U : VS} (h : FrR V U) : FrP V U := ⟨h.1, fun i _ b _ => h.2 i b, fun k _ => by rw [vI_C (h.2 207 (by decide))]⟩
theorem FrF.p {V U : VS} (h : FrF V U) : FrP V U := ⟨h.1, fun i _ _ c => h.2 i c, fun k _ => by rw [vI_C (h.2 207 (by decide))]⟩
theorem FrP.tr {V U T : VS} (h : FrP V U) (g : FrP U T) : FrP V T := ⟨g.1, fun i a b c => (g.2.1 i a b c).trans (h.2.1 i a b c), fun k hk => (g.2.2 k hk).trans (h.2.2 k hk)⟩
theorem FrP.wp {V U : VS} {x : Int32} (h : FrP V U) : FrP V (wI U 207 16 x) := ⟨zLay_wI h.1, fun i a b c => (vC_wI a).trans (h.2.1 i a b c), fun q hq => by rw [vI_wI (zLen h.1 (by decide)), zup_ne hq]; exact h.2.2 q hq⟩
theorem FrP.w {V U : VS} {k : Nat} {x : Int32} (h : FrP V U) : FrP V (wI U 208 k x) := ⟨zLay_wI h.1, fun i a b c => (vC_wI b).trans (h.2.1 i a b c), fun q hq => by rw [vI_wI_ne (by decide)]; exact h.2.2 q hq⟩
theorem Qr.w {V : VS} {w : RW} {k : Nat} {x : Int32} (h : Qr V w) (hL : zLay V) : Qr (wI V 208 k x) (zup w k x) := fun j hj => by
  rw [vI_wI (zLen hL (by decide))]; unfold zup
  by_cases e : j = k
  · rw [if_pos e, if_pos e]
  · rw [if_neg e, if_neg e]; exact h j hj
theorem Qr.g {V : VS} {w : RW} {x : Int32} {k : Nat} (h : Qr V w) (hk : 290 ≤ k) : Qr V (zup w k x) := fun j hj => by rw [zup_ne (by omega)]; exact h j hj
theorem Qr.wo {V : VS} {w : RW} {i k : Nat} {x : Int32} (h : Qr V w) (hi : 208 ≠ i) : Qr (wI V i k x) w := fun j hj => by rw [vI_wI_ne hi]; exact h j hj
theorem r71 {V : VS} (h : zLay V) : vR V 207 1 = some 208 := zR h (by decide +kernel)
theorem r717 {V : VS} (h : zLay V) : vR V 207 17 = some 217 := zR h (by decide +kernel)
theorem m208 {V : VS} (h : zLay V) : vN V 208 = 290 := zN h (by decide +kernel)
theorem m217 {V : VS} (h : zLay V) : vN V 217 = 64 := zN h (by decide +kernel)
