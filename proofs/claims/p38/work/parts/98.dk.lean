/-! floats of the rows -/
def b67 (y1 : UInt32) (y2 : Int32) : Option Int32 := if gvf_n32 (FP.fsub y1 FP.fconst1) = true then (if gvf_n32 (FP.fmul (FP.fsub y1 FP.fconst1) (1258291200 : UInt32)) = true then some ((y2 <<< (23 &&& 31)) ||| (FP.f2i (FP.fmul (FP.fsub y1 FP.fconst1) (1258291200 : UInt32)))) else none) else none
def b42 : Nat → UInt32 → Int32 → Int32 → Option Int32
  | 0 => fun _ _ _ => none
  | m + 1 => fun y1 y2 y3 => if 126 ≤ y3 then b67 y1 y2 else if 0 ≤ (Op.cmpValue (FP.fcmp y1 FP.fconst1) CmpOp.g) then b67 y1 y2 else if gvf_n32 (FP.fmul y1 FP.fconst2) = true then b42 m (FP.fmul y1 FP.fconst2) (y2 + (-1)) (y3 + 1) else none
def b15 : Nat → UInt32 → Int32 → Int32 → Option Int32
  | 0 => fun _ _ _ => none
  | m + 1 => fun y1 y2 y3 => if 127 ≤ y3 then b42 8 y1 y2 0 else if (Op.cmpValue (FP.fcmp y1 FP.fconst2) CmpOp.l) < 0 then b42 8 y1 y2 0 else if gvf_n32 (FP.fdiv y1 FP.fconst2) = true then b15 m (FP.fdiv y1 FP.fconst2) (y2 + 1) (y3 + 1) else none
def bP (x : UInt32) : Option Int32 := if (Op.cmpValue (FP.fcmp x FP.fconst0) CmpOp.l) = 0 then some 0 else b15 8 x 127 0
def okB (x : UInt32) : Bool := decide (bP x = some x.toInt32) && decide ((Op.cmpValue (FP.fcmp x x) CmpOp.l) = 0)
theorem okB_i : ∀ h, h < 19 → okB (FP.i2f (Int32.ofNat h)) = true := by decide +kernel
theorem okB_f : ∀ k, k < 4 → ∀ h, h < 19 → okB (FP.fdiv (FP.i2f (Int32.ofNat h)) (FP.i2f (tbI 0 (Int32.ofNat k)))) = true ∧ gvf_n32 (FP.fdiv (FP.i2f (Int32.ofNat h)) (FP.i2f (tbI 0 (Int32.ofNat k)))) = true := by decide +kernel
theorem okF_s : ∀ k, k < 4 → ∀ l, l < 4 → ∀ h, h < 19 → ∀ g, g < 19 → decide ((Op.cmpValue (FP.fcmp (FP.fdiv (FP.i2f (Int32.ofNat h)) (FP.i2f (tbI 0 (Int32.ofNat k)))) (FP.fdiv (FP.i2f (Int32.ofNat g)) (FP.i2f (tbI 0 (Int32.ofNat l))))) CmpOp.l) = 0) = decide ((Op.cmpValue (FP.fcmp (FP.fdiv (FP.i2f (Int32.ofNat g)) (FP.i2f (tbI 0 (Int32.ofNat l)))) (FP.fdiv (FP.i2f (Int32.ofNat h)) (FP.i2f (tbI 0 (Int32.ofNat k))))) CmpOp.l) = 0) := by decide +kernel
theorem okF.sym {x y : UInt32} (hx : okF x) (hy : okF y) : (Op.cmpValue (FP.fcmp x y) CmpOp.l) = 0 ↔ (Op.cmpValue (FP.fcmp y x) CmpOp.l) = 0 := by
  obtain ⟨h, k, h1, h2, rfl⟩ := hx
  obtain ⟨g, l, g1, g2, rfl⟩ := hy
  exact decide_eq_decide.mp (okF_s k h2 l g2 h (by omega) g (by omega))
theorem okF.B {x : UInt32} (hx : okF x) : okB x = true := by
  obtain ⟨h, k, h1, h2, rfl⟩ := hx
  exact (okB_f k h2 h (by omega)).1
theorem okF_0 : okF 0 := ⟨0, 0, by omega, by omega, by decide +kernel⟩
section
variable {n : Nat} {V : VS}
theorem b67_c {y1 : UInt32} {y2 r : Int32} (h : b67 y1 y2 = some r) : eX8_bitsOf_67 n V y1 y2 = rt r V := by
  unfold b67 at h
  unfold eX8_bitsOf_67
  by_cases g1 : gvf_n32 (FP.fsub y1 FP.fconst1) = true
  · rw [if_pos g1] at h ⊢
    by_cases g2 : gvf_n32 (FP.fmul (FP.fsub y1 FP.fconst1) (1258291200 : UInt32)) = true
    · rw [if_pos g2] at h ⊢
      rw [Option.some.inj h]
    · rw [if_neg g2] at h; cases h
  · rw [if_neg g1] at h; cases h
theorem b42_c {j : Nat} : ∀ (m : Nat) (y1 : UInt32) (y2 y3 r : Int32), b42 m y1 y2 y3 = some r → elX8_bitsOf_42 n (m + j) V y1 y2 y3 = rt r V
  | 0, _, _, _, _, h => by cases h
  | m + 1, y1, y2, y3, r, h => by
    rw [show m + 1 + j = (m + j) + 1 from by omega]
    show eX8_bitsOf_42 n (elX8_bitsOf_42 n (m + j)) V y1 y2 y3 = _
    unfold eX8_bitsOf_42
    change (if 126 ≤ y3 then b67 y1 y2 else if 0 ≤ (Op.cmpValue (FP.fcmp y1 FP.fconst1) CmpOp.g) then b67 y1 y2 else if gvf_n32 (FP.fmul y1 FP.fconst2) = true then b42 m (FP.fmul y1 FP.fconst2) (y2 + (-1)) (y3 + 1) else none) = some r at h
    by_cases g1 : 126 ≤ y3
    · rw [if_pos g1] at h ⊢; exact b67_c h
    rw [if_neg g1] at h ⊢
    by_cases g2 : 0 ≤ (Op.cmpValue (FP.fcmp y1 FP.fconst1) CmpOp.g)
    · rw [if_pos g2] at h ⊢; exact b67_c h
    rw [if_neg g2] at h ⊢
    by_cases g3 : gvf_n32 (FP.fmul y1 FP.fconst2) = true
    · rw [if_pos g3] at h ⊢; exact b42_c m _ _ _ r h
    · rw [if_neg g3] at h; cases h
theorem b15_c {j : Nat} (hn : 8 ≤ n) : ∀ (m : Nat) (y1 : UInt32) (y2 y3 r : Int32), b15 m y1 y2 y3 = some r → elX8_bitsOf_15 n (m + j) V y1 y2 y3 = rt r V
  | 0, _, _, _, _, h => by cases h
  | m + 1, y1, y2, y3, r, h => by
    rw [show m + 1 + j = (m + j) + 1 from by omega]
    show eX8_bitsOf_15 n (elX8_bitsOf_15 n (m + j)) V y1 y2 y3 = _
    unfold eX8_bitsOf_15
    change (if 127 ≤ y3 then b42 8 y1 y2 0 else if (Op.cmpValue (FP.fcmp y1 FP.fconst2) CmpOp.l) < 0 then b42 8 y1 y2 0 else if gvf_n32 (FP.fdiv y1 FP.fconst2) = true then b15 m (FP.fdiv y1 FP.fconst2) (y2 + 1) (y3 + 1) else none) = some r at h
    obtain ⟨q, hq⟩ : ∃ q, n = 8 + q := ⟨n - 8, by omega⟩
    have e42 : ∀ z1 z2 z3 z, b42 8 z1 z2 z3 = some z → elX8_bitsOf_42 n n V z1 z2 z3 = rt z V := fun z1 z2 z3 z hz => by
      have := b42_c (n := n) (V := V) (j := q) 8 z1 z2 z3 z hz
      rw [← hq] at this; exact this
    by_cases g1 : 127 ≤ y3
    · rw [if_pos g1] at h ⊢; exact e42 _ _ _ _ h
    rw [if_neg g1] at h ⊢
    by_cases g2 : (Op.cmpValue (FP.fcmp y1 FP.fconst2) CmpOp.l) < 0
    · rw [if_pos g2] at h ⊢; exact e42 _ _ _ _ h
    rw [if_neg g2] at h ⊢
    by_cases g3 : gvf_n32 (FP.fdiv y1 FP.fconst2) = true
    · rw [if_pos g3] at h ⊢; exact b15_c hn m _ _ _ r h
    · rw [if_neg g3] at h; cases h
theorem c_bits {x : UInt32} (hn : 8 ≤ n) (h : okB x = true) : ev_X8_bitsOf n V x = rt x.toInt32 V := by
  unfold okB at h
  have h1 : bP x = some x.toInt32 := by
    rw [Bool.and_eq_true] at h
    exact of_decide_eq_true h.1
  unfold ev_X8_bitsOf eX8_bitsOf_0
  unfold bP at h1
  by_cases g : (Op.cmpValue (FP.fcmp x FP.fconst0) CmpOp.l) = 0
  · rw [if_pos g] at h1 ⊢
    rw [← Option.some.inj h1]
  · rw [if_neg g] at h1 ⊢
    obtain ⟨q, hq⟩ : ∃ q, n = 8 + q := ⟨n - 8, by omega⟩
    have := b15_c (n := n) (V := V) (j := q) hn 8 x 127 0 _ h1
    rw [← hq] at this; exact this
theorem r_bits {x : UInt32} (h : okB x = true) : ev_Jxf58ca_floatToIntBits_5c35a n V x = rt x.toInt32 V := by
  unfold okB at h
  rw [Bool.and_eq_true] at h
  unfold ev_Jxf58ca_floatToIntBits_5c35a eJxf58ca_floatToIntBits_5c35a_0 ev_Jxf58ca_isNaN_12338 eJxf58ca_isNaN_12338_0
  rw [if_pos (of_decide_eq_true h.2), bd_rt, if_pos rfl]
end
