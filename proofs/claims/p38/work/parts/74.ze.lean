/-! the reference's steps from cell to cell -/
theorem m1_of {p : Nat} (h : 0 < p) : Int32.ofNat p + (-1) = Int32.ofNat (p - 1) := by
  rw [← Int32.sub_eq_add_neg]; exact of_sub (b := 1) h
theorem p0_of {p : Nat} : Int32.ofNat p + 0 = Int32.ofNat p := of_add (b := 0)
theorem p1_of {p : Nat} : Int32.ofNat p + 1 = Int32.ofNat (p + 1) := of_add (b := 1)
theorem ofn_nn {p : Nat} (h : p < 2147483648) : ¬ Int32.ofNat p < 0 := fun e => by have := (of_lt (b := 0) h (by omega)).mp e; omega
section
variable {n : Nat} {V : VS} {w : RW}
theorem r_st (hL : zLay V) (hQ : Qr V w) (hW : WF w) {p q : Nat} {y z0 z1 : Int32} (ey : y = Int32.ofNat p) (eq : z1 + z0 = Int32.ofNat q) (hp : p ≤ 9) (hq : q ≤ 9) : eX9_step_49 n V 207 y z0 z1 = if p < nR w ∧ q < nC w then rt (Int32.ofNat (p * nC w + q)) V else rt (-1) V := by
  have r3 := hW.r3; have r8 := hW.r8; have c3 := hW.c3; have c8 := hW.c8
  rw [r_step49 hL hQ, ey, eq, hW.re, hW.ce, show Int32.ofNat (nR w) - 1 = Int32.ofNat (nR w - 1) from of_sub (b := 1) (by omega), show Int32.ofNat (nC w) - 1 = Int32.ofNat (nC w - 1) from of_sub (b := 1) (by omega), of_mul, of_add]
  by_cases g : p < nR w ∧ q < nC w
  · rw [if_pos g, if_neg]
    intro x
    rcases x with x | x | x | x
    · exact ofn_nn (by omega) x
    · have := (of_lt (by omega) (by omega)).mp x; omega
    · exact ofn_nn (by omega) x
    · have := (of_lt (by omega) (by omega)).mp x; omega
  · rw [if_neg g, if_pos]
    by_cases g1 : p < nR w
    · exact .inr (.inr (.inr ((of_lt (by omega) (by omega)).mpr (by omega))))
    · exact .inr (.inl ((of_lt (by omega) (by omega)).mpr (by omega)))
theorem r_stn (hL : zLay V) (hQ : Qr V w) {y z0 z1 : Int32} (h : y < 0 ∨ z1 + z0 < 0) : eX9_step_49 n V 207 y z0 z1 = rt (-1) V := by
  rw [r_step49 hL hQ, if_pos]
  exact h.elim .inl (fun x => .inr (.inr (.inl x)))
theorem r_step (hL : zLay V) (hQ : Qr V w) (hW : WF w) {c d : Nat} (hc : c < nR w * nC w) (hd : d < 4) : ev_X9_step n V 207 (Int32.ofNat c) (Int32.ofNat d) = rt (oi (nbr w c d)) V := by
  have rc := hW.rc; have r8 := hW.r8; have c8 := hW.c8
  have hp := row_lt hW hc; have hq := col_lt hW c
  have e := c_split (w := w) c
  unfold ev_X9_step eX9_step_0 eX9_step_23 nbr
  rw [r_row hL hQ hW (by omega), bd_rt]
  have hd' : d = 0 ∨ d = 1 ∨ d = 2 ∨ d = 3 := by omega
  rcases hd' with rfl | rfl | rfl | rfl
  · rw [if_pos (by decide), r_column hL hQ hW (by omega), bd_rt, if_neg (by decide), if_neg (by decide), if_pos rfl]
    by_cases g : 0 < c / nC w
    · rw [r_st hL hQ hW (m1_of g) p0_of (by omega) (by omega), if_pos ⟨by omega, hq⟩, if_pos g]
      show rt (Int32.ofNat _) V = rt (Int32.ofNat _) V
      congr 2
      have e2 : nC w * (c / nC w) = nC w * (c / nC w - 1) + nC w := by
        rw [← Nat.mul_succ]; congr 1; omega
      rw [Nat.mul_comm]; omega
    · rw [if_neg g, show c / nC w = 0 from Nat.eq_zero_of_not_pos g, r_stn hL hQ (.inl (by decide))]; rfl
  · rw [if_neg (by decide), if_neg (by decide), r_column hL hQ hW (by omega), bd_rt, if_pos (by decide), if_neg (by decide), if_pos rfl]
    rw [r_st hL hQ hW p0_of p1_of (by omega) (by omega)]
    by_cases g : c % nC w + 1 < nC w
    · rw [if_pos ⟨hp, g⟩, if_pos g]
      show rt (Int32.ofNat _) V = rt (Int32.ofNat _) V
      congr 2; rw [Nat.mul_comm]; omega
    · rw [if_neg (fun x => g x.2), if_neg g]; rfl
  · rw [if_neg (by decide), if_pos (by decide), r_column hL hQ hW (by omega), bd_rt, if_neg (by decide), if_neg (by decide), if_neg (by decide), if_neg (by decide), if_pos rfl]
    rw [r_st hL hQ hW p1_of p0_of (by omega) (by omega)]
    by_cases g : c / nC w + 1 < nR w
    · rw [if_pos ⟨g, hq⟩, if_pos g]
      show rt (Int32.ofNat _) V = rt (Int32.ofNat _) V
      congr 2; rw [Nat.add_mul, Nat.mul_comm]; omega
    · rw [if_neg (fun x => g x.1), if_neg g]; rfl
  · rw [if_neg (by decide), if_neg (by decide), r_column hL hQ hW (by omega), bd_rt, if_neg (by decide), if_pos (by decide), if_neg (by decide), if_neg (by decide), if_neg (by decide)]
    by_cases g : 0 < c % nC w
    · rw [r_st hL hQ hW p0_of (m1_of g) (by omega) (by omega), if_pos ⟨hp, by omega⟩, if_pos g]
      show rt (Int32.ofNat _) V = rt (Int32.ofNat _) V
      congr 2; rw [Nat.mul_comm]; omega
    · rw [if_neg g, show c % nC w = 0 from Nat.eq_zero_of_not_pos g, r_stn hL hQ (.inr (by decide))]; rfl
/-- what it costs to enter a cell, and whether that can be -/
def prc (w : RW) (c : Nat) : Nat := if w (2 + c) = 3 ∨ w (2 + c) = 2 then 2 else 1
def fre (w : RW) (c : Nat) : Bool := !decide (w (2 + c) = 1) && !occ w (Int32.ofNat c)
theorem r_gc (hL : zLay V) (hQ : Qr V w) {c : Nat} (hc : c < 64) : gvp_in (2 + Int32.ofNat c) (vN V 208) = true ∧ vI V 208 (2 + Int32.ofNat c).toNatClampNeg = w (2 + c) := r_v hL hQ (by omega) (of_add (a := 2))
theorem r_price (hL : zLay V) (hQ : Qr V w) {c : Nat} (hc : c < 64) : ev_X9_price n V 207 (Int32.ofNat c) = rt (Int32.ofNat (prc w c)) V := by
  obtain ⟨g1, e1⟩ := r_gc hL hQ hc
  unfold ev_X9_price eX9_price_0 prc
  rw [r71 hL, ob_1, if_pos g1, e1]
  by_cases a : w (2 + c) = 3
  · rw [if_pos a, if_pos (.inl a)]; rfl
  rw [if_neg a, ob_1, if_pos g1, e1]
  by_cases b : w (2 + c) = 2
  · rw [if_pos b, if_pos (.inr b)]; rfl
  rw [if_neg b, if_neg (show ¬ (w (2 + c) = 3 ∨ w (2 + c) = 2) from fun x => x.elim a b)]; rfl
theorem r_isFree (hn : 8 < n) (hL : zLay V) (hQ : Qr V w) (hW : WF w) {c : Nat} (hc : c < 64) : ev_X9_isFree n V 207 (Int32.ofNat c) = rt (if fre w c = true then 1 else 0) V := by
  have u8 := hW.u8
  obtain ⟨g1, e1⟩ := r_gc hL hQ hc
  unfold ev_X9_isFree eX9_isFree_0 fre
  rw [r71 hL, ob_1, if_pos g1, e1]
  by_cases a : w (2 + c) = 1
  · rw [if_pos a, decide_eq_true a]; rfl
  rw [if_neg a, decide_eq_false a]
  rcases r_unitOn (n := n) hn hL hQ hW (t := Int32.ofNat c) with ⟨x, y⟩ | ⟨x, u, hu, _, _, y⟩
  · rw [y, bd_rt, x, if_neg (by decide)]; rfl
  · rw [y, bd_rt, x, if_pos (Int32.not_lt.mp (ofn_nn (by omega)))]; rfl
end
