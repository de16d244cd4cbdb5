/-! attacks -/
def cellN (w : RW) (u : Nat) : Nat := (w (67 + 11 * u + 2)).toNatClampNeg
def kindN (w : RW) (u : Nat) : Nat := (w (67 + 11 * u + 1)).toNatClampNeg
theorem cell_e {w : RW} (hW : WF w) {u : Nat} (hu : u < nU w) : w (67 + 11 * u + 2) = Int32.ofNat (cellN w u) := (hW.f hu (j := 2) (by decide)).eq
theorem cell_lt {w : RW} (hW : WF w) {u : Nat} (hu : u < nU w) : cellN w u < nR w * nC w := hW.cl hu
theorem kindN_e {w : RW} (hW : WF w) {u : Nat} (hu : u < nU w) : w (67 + 11 * u + 1) = Int32.ofNat (kindN w u) := kind_e hW hu
theorem kindN_lt {w : RW} (hW : WF w) {u : Nat} (hu : u < nU w) : kindN w u < 4 := kind_lt hW hu
theorem tb_u {w : RW} (hW : WF w) {u : Nat} (hu : u < nU w) {q : Nat} (hq : q < 9) : tbI q (w (67 + 11 * u + 1)) = Int32.ofNat (tbN q (kindN w u)) ∧ tbN q (kindN w u) ≤ 18 := by
  rw [kindN_e hW hu]; exact tb_le q hq _ (kindN_lt hW hu)
def canA (w : RW) (u t : Nat) : Bool := !dead w u && (!dead w t && (!decide (w (67 + 11 * u) = w (67 + 11 * t)) && (!decide (tbN 3 (kindN w u) < dst w (cellN w u) (cellN w t)) && see w (cellN w u) (cellN w t))))
def gNeed (w : RW) (u t : Nat) : Nat := 8 + dst w (cellN w u) (cellN w t) + 3 * cov w (cellN w t) (cellN w u) + 2 * (w (67 + 11 * t + 9)).toNatClampNeg
def hitB (w : RW) (u t die : Nat) : Bool := decide (die = 20) || (decide (1 < die) && !decide (die + tbN 2 (kindN w u) < gNeed w u t))
def dmg (w : RW) (u t die ex : Nat) : Nat := if die = 20 then 2 * max 1 (ex + tbN 6 (kindN w u) - tbN 1 (kindN w t)) else max 1 (ex + tbN 6 (kindN w u) - tbN 1 (kindN w t))
theorem dst_le {w : RW} (hW : WF w) {x y : Nat} (hx : x < nR w * nC w) (hy : y < nR w * nC w) : dst w x y ≤ 8 := by
  have r8 := hW.r8; have c8 := hW.c8
  have a1 := row_lt hW hx; have a2 := row_lt hW hy; have a3 := col_lt hW x; have a4 := col_lt hW y
  have b1 := dif_lt a1 a2; have b2 := dif_lt a3 a4
  unfold dst; omega
theorem cov_le (w : RW) (x y : Nat) : cov w x y ≤ 2 := by
  unfold cov
  by_cases a : vrt w x y = 1 ∨ hrz w x y = 1
  · rw [if_pos a]; omega
  rw [if_neg a]
  by_cases b : vrt w x y = 2 ∨ hrz w x y = 2
  · rw [if_pos b]; omega
  · rw [if_neg b]; omega
theorem guard_le {w : RW} (hW : WF w) {t : Nat} (ht : t < nU w) : (w (67 + 11 * t + 9)).toNatClampNeg ≤ 1 ∧ w (67 + 11 * t + 9) = Int32.ofNat (w (67 + 11 * t + 9)).toNatClampNeg := ⟨(hW.f ht (j := 9) (by decide)).le, (hW.f ht (j := 9) (by decide)).eq⟩
theorem need_le {w : RW} (hW : WF w) {u t : Nat} (hu : u < nU w) (ht : t < nU w) : gNeed w u t ≤ 24 := by
  have := dst_le hW (cell_lt hW hu) (cell_lt hW ht)
  have := cov_le w (cellN w t) (cellN w u)
  have := (guard_le hW ht).1
  unfold gNeed; omega
theorem tb6_ge : ∀ k, k < 4 → 2 ≤ tbN 6 k := by decide +kernel
theorem tb1_le : ∀ k, k < 4 → tbN 1 k ≤ 3 := by decide +kernel
theorem dmg_le {w : RW} (hW : WF w) {u t die ex : Nat} (hu : u < nU w) (ht : t < nU w) (he : ex ≤ 4) : dmg w u t die ex ≤ 44 ∧ 0 < dmg w u t die ex := by
  have a := (tb_le 6 (by omega) _ (kindN_lt hW hu)).2
  unfold dmg
  by_cases g : die = 20
  · rw [if_pos g]; omega
  · rw [if_neg g]; omega
theorem oi3 {x : Nat} : (3 : Int32) * Int32.ofNat x = Int32.ofNat (3 * x) := of_mul (a := 3)
section
variable {n a : Nat} {V : VS} {w : RW}
theorem c_canStrike (hn : 64 < n) (hL : zLay V) (ha : a ∈ zB) (hW : WF w) (h : Rp a V w) {u t : Nat} (hu : u < nU w) (ht : t < nU w) : ev_X2_canStrike n V a (a + 9 + u) (a + 9 + t) = rt (bi (canA w u t)) V := by
  have u8 := hW.u8
  have tb := tb_u hW hu (q := 3) (by decide)
  have dl := dst_le hW (cell_lt hW hu) (cell_lt hW ht)
  unfold ev_X2_canStrike eX2_canStrike_0 canA bi
  rw [c_lives h hu (by omega), bd_rt]
  cases dead w u
  rotate_left
  · rfl
  rw [if_neg (by decide), c_lives h ht (by omega), bd_rt]
  cases dead w t
  rotate_left
  · rfl
  rw [if_neg (by decide)]
  rw [show vI V (a + 9 + u) 1 = w (67 + 11 * u) from h.u hu (by omega) (j := 0) (by decide), show vI V (a + 9 + t) 1 = w (67 + 11 * t) from h.u ht (by omega) (j := 0) (by decide)]
  by_cases g : w (67 + 11 * u) = w (67 + 11 * t)
  · rw [if_pos g, decide_eq_true g]; rfl
  rw [if_neg g, decide_eq_false g, zr0 hL ha, ob_1]
  rw [show vI V (a + 9 + u) 4 = w (67 + 11 * u + 2) from h.u hu (by omega) (j := 2) (by decide), show vI V (a + 9 + t) 4 = w (67 + 11 * t + 2) from h.u ht (by omega) (j := 2) (by decide), cell_e hW hu, cell_e hW ht]
  rw [c_distance hW h (cell_lt hW hu) (cell_lt hW ht), bd_rt]
  rw [show vI V (a + 9 + u) 2 = w (67 + 11 * u + 1) from h.u hu (by omega) (j := 1) (by decide), if_pos (kd_in hW hu), tb.1]
  by_cases g2 : tbN 3 (kindN w u) < dst w (cellN w u) (cellN w t)
  · rw [if_pos (by exact (of_lt (by omega) (by omega)).mpr g2), decide_eq_true g2]; rfl
  rw [if_neg (fun e => g2 ((of_lt (by omega) (by omega)).mp e)), decide_eq_false g2, zr0 hL ha, ob_1]
  rw [show vI V (a + 9 + u) 4 = w (67 + 11 * u + 2) from h.u hu (by omega) (j := 2) (by decide), show vI V (a + 9 + t) 4 = w (67 + 11 * t + 2) from h.u ht (by omega) (j := 2) (by decide), cell_e hW hu, cell_e hW ht]
  rw [c_isClear hn hL ha hW h (cell_lt hW hu) (cell_lt hW ht), bd_rt]
  unfold bi
  cases see w (cellN w u) (cellN w t) <;> rfl
theorem r_canAttack (hn : 64 < n) (hL : zLay V) (hQ : Qr V w) (hW : WF w) {u t : Nat} (hu : u < nU w) (ht : t < nU w) : ev_X9_canAttack n V 207 (Int32.ofNat u) (Int32.ofNat t) = rt (bi (canA w u t)) V := by
  have u8 := hW.u8
  have tb := tb_u hW hu (q := 3) (by decide)
  have dl := dst_le hW (cell_lt hW hu) (cell_lt hW ht)
  unfold ev_X9_canAttack eX9_canAttack_0 canA bi
  rw [r_lives hL hQ (by omega), bd_rt]
  cases dead w u
  rotate_left
  · rfl
  rw [if_neg (by decide), r_lives hL hQ (by omega), bd_rt]
  cases dead w t
  rotate_left
  · rfl
  rw [if_neg (by decide), r_of0 hL hQ (by omega), bd_rt, r_of0 hL hQ (by omega), bd_rt]
  by_cases g : w (67 + 11 * u) = w (67 + 11 * t)
  · rw [if_pos g, decide_eq_true g]; rfl
  rw [if_neg g, decide_eq_false g, r_of2 hL hQ (by omega), bd_rt, r_of2 hL hQ (by omega), bd_rt, cell_e hW hu, cell_e hW ht]
  rw [r_apart hL hQ hW (cell_lt hW hu) (cell_lt hW ht), bd_rt, r_kindly (y := 3) (q := 3) hL hQ hW hu (by decide) rfl, bd_rt, tb.1]
  by_cases g2 : tbN 3 (kindN w u) < dst w (cellN w u) (cellN w t)
  · rw [if_pos (by exact (of_lt (by omega) (by omega)).mpr g2), decide_eq_true g2]; rfl
  rw [if_neg (fun e => g2 ((of_lt (by omega) (by omega)).mp e)), decide_eq_false g2, r_of2 hL hQ (by omega), bd_rt, r_of2 hL hQ (by omega), bd_rt, cell_e hW hu, cell_e hW ht]
  rw [r_sees hn hL hQ hW (cell_lt hW hu) (cell_lt hW ht), bd_rt]
  unfold bi
  cases see w (cellN w u) (cellN w t) <;> rfl
theorem c_needed (hL : zLay V) (ha : a ∈ zB) (hW : WF w) (h : Rp a V w) {u t : Nat} (hu : u < nU w) (ht : t < nU w) : ev_X2_neededResult n V a (a + 9 + u) (a + 9 + t) = rt (Int32.ofNat (gNeed w u t) - Int32.ofNat (tbN 2 (kindN w u))) V := by
  have u8 := hW.u8
  have tb := tb_u hW hu (q := 2) (by decide)
  have gl := guard_le hW ht
  unfold ev_X2_neededResult eX2_neededResult_0
  rw [zr0 hL ha, ob_1]
  rw [show vI V (a + 9 + u) 4 = w (67 + 11 * u + 2) from h.u hu (by omega) (j := 2) (by decide), show vI V (a + 9 + t) 4 = w (67 + 11 * t + 2) from h.u ht (by omega) (j := 2) (by decide), cell_e hW hu, cell_e hW ht]
  rw [c_distance hW h (cell_lt hW hu) (cell_lt hW ht), bd_rt, zr0 hL ha, ob_1]
  rw [show vI V (a + 9 + u) 4 = w (67 + 11 * u + 2) from h.u hu (by omega) (j := 2) (by decide), show vI V (a + 9 + t) 4 = w (67 + 11 * t + 2) from h.u ht (by omega) (j := 2) (by decide), cell_e hW hu, cell_e hW ht]
  rw [c_coverOf hL ha hW h (cell_lt hW ht) (cell_lt hW hu), bd_rt]
  rw [show vI V (a + 9 + t) 11 = w (67 + 11 * t + 9) from h.u ht (by omega) (j := 9) (by decide)]
  have e8 : (8 : Int32) + Int32.ofNat (dst w (cellN w u) (cellN w t)) + 3 * Int32.ofNat (cov w (cellN w t) (cellN w u)) = Int32.ofNat (8 + dst w (cellN w u) (cellN w t) + 3 * cov w (cellN w t) (cellN w u)) := by
    rw [oi3]
    show Int32.ofNat 8 + _ + _ = _
    rw [of_add, of_add]
  rw [e8]
  unfold eX2_neededResult_48 gNeed
  rw [show vI V (a + 9 + u) 2 = w (67 + 11 * u + 1) from h.u hu (by omega) (j := 1) (by decide), if_pos (kd_in hW hu), tb.1]
  generalize hg : (w (67 + 11 * t + 9)).toNatClampNeg = g at gl
  rw [gl.2]
  have g01 : g = 0 ∨ g = 1 := by omega
  rcases g01 with rfl | rfl
  · rw [if_pos (by decide), p0_of]; rfl
  · rw [if_neg (by decide), if_pos (kd_in hW hu), show ∀ q, Int32.ofNat q + 2 = Int32.ofNat (q + 2) from fun q => of_add]
theorem c_isHit {die need aim : Nat} (h1 : die < 1000) (h2 : need < 1000) (h3 : aim < 1000) : ev_X2_isHit n V (Int32.ofNat die) (Int32.ofNat need - Int32.ofNat aim) = rt (bi (decide (die = 20) || (decide (1 < die) && !decide (die + aim < need)))) V := by
  unfold ev_X2_isHit eX2_isHit_0 bi
  by_cases a : die = 20
  · rw [if_pos (by rw [a]; rfl), decide_eq_true a]; rfl
  rw [if_neg (fun e => by exact a ((of_inj (b := 20) (by omega) (by omega)).mp e)), decide_eq_false a]
  by_cases b : 1 < die
  · rw [if_neg (fun e => by have := (of_le (b := 1) (by omega) (by omega)).mp e; omega), decide_eq_true b]
    have q : Int32.ofNat die < Int32.ofNat need - Int32.ofNat aim ↔ die + aim < need := by
      rw [ji_nat, ji_nat, ji_nat, ← Int32.ofInt_sub, ji_lt (by omega) (by omega) (by omega) (by omega)]; omega
    by_cases c : die + aim < need
    · rw [if_pos (q.mpr c), decide_eq_true c]; rfl
    · rw [if_neg (fun x => c (q.mp x)), decide_eq_false c]; rfl
  · rw [if_pos (by exact (of_le (b := 1) (by omega) (by omega)).mpr (by omega)), decide_eq_false b]; rfl
theorem r_hits (hL : zLay V) (hQ : Qr V w) (hW : WF w) {u t die : Nat} (hu : u < nU w) (ht : t < nU w) (hd : die < 1000) : ev_X9_hits n V 207 (Int32.ofNat u) (Int32.ofNat t) (Int32.ofNat die) = rt (bi (hitB w u t die)) V := by
  have u8 := hW.u8
  have tb := tb_u hW hu (q := 2) (by decide)
  have gl := guard_le hW ht
  have nl := need_le hW hu ht
  unfold ev_X9_hits eX9_hits_0 hitB bi
  rw [r_of2 hL hQ (by omega), bd_rt, r_of2 hL hQ (by omega), bd_rt, cell_e hW hu, cell_e hW ht, r_apart hL hQ hW (cell_lt hW hu) (cell_lt hW ht), bd_rt]
  rw [r_of2 hL hQ (by omega), bd_rt, r_of2 hL hQ (by omega), bd_rt, cell_e hW hu, cell_e hW ht, r_covers hL hQ hW (cell_lt hW ht) (cell_lt hW hu), bd_rt, r_of9 hL hQ (by omega), bd_rt, gl.2]
  by_cases a : die = 20
  · rw [if_pos (by rw [a]; rfl), decide_eq_true a]; rfl
  rw [if_neg (fun e => by exact a ((of_inj (b := 20) (by omega) (by omega)).mp e)), decide_eq_false a]
  by_cases b : 1 < die
  · rw [if_neg (fun e => by have := (of_le (b := 1) (by omega) (by omega)).mp e; omega), decide_eq_true b, r_kindly (y := 2) (q := 2) hL hQ hW hu (by decide) rfl, bd_rt, tb.1]
    have e8 : (8 : Int32) + Int32.ofNat (dst w (cellN w u) (cellN w t)) + 3 * Int32.ofNat (cov w (cellN w t) (cellN w u)) + 2 * Int32.ofNat (w (67 + 11 * t + 9)).toNatClampNeg = Int32.ofNat (gNeed w u t) := by
      rw [oi3, show (2 : Int32) * Int32.ofNat (w (67 + 11 * t + 9)).toNatClampNeg = Int32.ofNat (2 * (w (67 + 11 * t + 9)).toNatClampNeg) from of_mul (a := 2)]
      show Int32.ofNat 8 + _ + _ + _ = _
      rw [of_add, of_add, of_add]; rfl
    rw [e8, of_add]
    by_cases c : die + tbN 2 (kindN w u) < gNeed w u t
    · rw [if_pos (by exact (of_lt (by omega) (by omega)).mpr c), decide_eq_true c]; rfl
    · rw [if_neg (fun x => c ((of_lt (by omega) (by omega)).mp x)), decide_eq_false c]; rfl
  · rw [if_pos (by exact (of_le (b := 1) (by omega) (by omega)).mpr (by omega)), decide_eq_false b]; rfl
theorem dmg_x (hW : WF w) {u t ex : Nat} (hu : u < nU w) (ht : t < nU w) (h1 : 0 < ex) (h4 : ex ≤ 4) : (Int32.ofNat ex + tbI 6 (w (67 + 11 * u + 1))) - tbI 1 (w (67 + 11 * t + 1)) = Int32.ofNat (ex + tbN 6 (kindN w u) - tbN 1 (kindN w t)) := by
  have a := tb6_ge _ (kindN_lt hW hu); have b := tb1_le _ (kindN_lt hW ht)
  rw [(tb_u hW hu (q := 6) (by decide)).1, (tb_u hW ht (q := 1) (by decide)).1, of_add, of_sub (by omega)]
theorem c_damageOf (hW : WF w) (h : Rp a V w) {u t die ex : Nat} (hu : u < nU w) (ht : t < nU w) (hd : die < 1000) (h1 : 0 < ex) (h4 : ex ≤ 4) : ev_X2_damageOf n V (a + 9 + u) (a + 9 + t) (Int32.ofNat die) (Int32.ofNat ex) = rt (Int32.ofNat (dmg w u t die ex)) V := by
  have u8 := hW.u8
  have a6 := (tb_le 6 (by omega) _ (kindN_lt hW hu)).2
  unfold ev_X2_damageOf eX2_damageOf_0 dmg
  rw [show vI V (a + 9 + u) 2 = w (67 + 11 * u + 1) from h.u hu (by omega) (j := 1) (by decide), show vI V (a + 9 + t) 2 = w (67 + 11 * t + 1) from h.u ht (by omega) (j := 1) (by decide), if_pos (kd_in hW hu), if_pos (kd_in hW ht), dmg_x hW hu ht h1 h4]
  generalize hq : ex + tbN 6 (kindN w u) - tbN 1 (kindN w t) = q
  have q22 : q ≤ 22 := by omega
  have mx : (if 1 < Int32.ofNat q then Int32.ofNat q else 1) = Int32.ofNat (max 1 q) := by
    by_cases g : 1 < q
    · rw [if_pos (by exact (of_lt (a := 1) (by omega) (by omega)).mpr g), Nat.max_eq_right (by omega)]
    · rw [if_neg (fun x => by exact g ((of_lt (a := 1) (by omega) (by omega)).mp x)), Nat.max_eq_left (by omega)]; rfl
  rw [mx]
  by_cases g : die = 20
  · rw [if_pos (by rw [g]; rfl), if_pos g, show (2 : Int32) * Int32.ofNat (max 1 q) = Int32.ofNat (2 * max 1 q) from of_mul (a := 2)]
  · rw [if_neg (fun e => by exact g ((of_inj (b := 20) (by omega) (by omega)).mp e)), if_neg g]
theorem r_damage (hL : zLay V) (hQ : Qr V w) (hW : WF w) {u t die ex : Nat} (hu : u < nU w) (ht : t < nU w) (hd : die < 1000) (h1 : 0 < ex) (h4 : ex ≤ 4) : ev_X9_damage n V 207 (Int32.ofNat u) (Int32.ofNat t) (Int32.ofNat die) (Int32.ofNat ex) = rt (Int32.ofNat (dmg w u t die ex)) V := by
  have a6 := (tb_le 6 (by omega) _ (kindN_lt hW hu)).2
  unfold ev_X9_damage eX9_damage_0 dmg
  rw [r_kindly (y := 6) (q := 6) hL hQ hW hu (by decide) rfl, bd_rt, r_kindly (y := 1) (q := 1) hL hQ hW ht (by decide) rfl, bd_rt, dmg_x hW hu ht h1 h4]
  generalize hq : ex + tbN 6 (kindN w u) - tbN 1 (kindN w t) = q
  have q22 : q ≤ 22 := by omega
  have fin : ∀ z : Nat, z < 1000 → eX9_damage_31 n V (Int32.ofNat die) (Int32.ofNat z) = rt (Int32.ofNat (if die = 20 then 2 * z else z)) V := fun z hz => by
    unfold eX9_damage_31
    by_cases g : die = 20
    · rw [if_pos (by rw [g]; rfl), if_pos g, show (2 : Int32) * Int32.ofNat z = Int32.ofNat (2 * z) from of_mul (a := 2)]
    · rw [if_neg (fun e => by exact g ((of_inj (b := 20) (by omega) (by omega)).mp e)), if_neg g]
  by_cases g : 1 ≤ q
  · rw [if_pos (by exact (of_le (a := 1) (by omega) (by omega)).mpr g), fin q (by omega), Nat.max_eq_right g]
  · rw [if_neg (fun x => by exact g ((of_le (a := 1) (by omega) (by omega)).mp x)), show (1 : Int32) = Int32.ofNat 1 from rfl, fin 1 (by omega), Nat.max_eq_left (by omega)]
end
