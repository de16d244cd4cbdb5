/-! the reference's readings -/
theorem ix_u {u j : Nat} : (67 + 11 * Int32.ofNat u) + Int32.ofNat j = Int32.ofNat (67 + 11 * u + j) := by
  show Int32.ofNat 67 + Int32.ofNat 11 * Int32.ofNat u + Int32.ofNat j = _
  rw [of_mul, of_add, of_add]
section
variable {n : Nat} {V : VS} {w : RW}
theorem r_ofj (hL : zLay V) (hQ : Qr V w) {u j : Nat} {x : Int32} (hu : u < 8) (hj : j < 11) (e : x = Int32.ofNat j) : ev_X9_of n V 207 (Int32.ofNat u) x = rt (w (67 + 11 * u + j)) V := by
  subst e
  unfold ev_X9_of eX9_of_0
  rw [r71 hL, ob_1, m208 hL, ix_u, if_pos (in_of (by omega) (by decide)), tn_of (by omega), hQ _ (by omega)]
theorem r_of0 (hL : zLay V) (hQ : Qr V w) {u : Nat} (hu : u < 8) : ev_X9_of n V 207 (Int32.ofNat u) 0 = rt (w (67 + 11 * u)) V := r_ofj (j := 0) hL hQ hu (by decide) rfl
theorem r_of1 (hL : zLay V) (hQ : Qr V w) {u : Nat} (hu : u < 8) : ev_X9_of n V 207 (Int32.ofNat u) 1 = rt (w (67 + 11 * u + 1)) V := r_ofj (j := 1) hL hQ hu (by decide) rfl
theorem r_of2 (hL : zLay V) (hQ : Qr V w) {u : Nat} (hu : u < 8) : ev_X9_of n V 207 (Int32.ofNat u) 2 = rt (w (67 + 11 * u + 2)) V := r_ofj (j := 2) hL hQ hu (by decide) rfl
theorem r_of3 (hL : zLay V) (hQ : Qr V w) {u : Nat} (hu : u < 8) : ev_X9_of n V 207 (Int32.ofNat u) 3 = rt (w (67 + 11 * u + 3)) V := r_ofj (j := 3) hL hQ hu (by decide) rfl
theorem r_of4 (hL : zLay V) (hQ : Qr V w) {u : Nat} (hu : u < 8) : ev_X9_of n V 207 (Int32.ofNat u) 4 = rt (w (67 + 11 * u + 4)) V := r_ofj (j := 4) hL hQ hu (by decide) rfl
theorem r_of5 (hL : zLay V) (hQ : Qr V w) {u : Nat} (hu : u < 8) : ev_X9_of n V 207 (Int32.ofNat u) 5 = rt (w (67 + 11 * u + 5)) V := r_ofj (j := 5) hL hQ hu (by decide) rfl
theorem r_of6 (hL : zLay V) (hQ : Qr V w) {u : Nat} (hu : u < 8) : ev_X9_of n V 207 (Int32.ofNat u) 6 = rt (w (67 + 11 * u + 6)) V := r_ofj (j := 6) hL hQ hu (by decide) rfl
theorem r_of7 (hL : zLay V) (hQ : Qr V w) {u : Nat} (hu : u < 8) : ev_X9_of n V 207 (Int32.ofNat u) 7 = rt (w (67 + 11 * u + 7)) V := r_ofj (j := 7) hL hQ hu (by decide) rfl
theorem r_of8 (hL : zLay V) (hQ : Qr V w) {u : Nat} (hu : u < 8) : ev_X9_of n V 207 (Int32.ofNat u) 8 = rt (w (67 + 11 * u + 8)) V := r_ofj (j := 8) hL hQ hu (by decide) rfl
theorem r_of9 (hL : zLay V) (hQ : Qr V w) {u : Nat} (hu : u < 8) : ev_X9_of n V 207 (Int32.ofNat u) 9 = rt (w (67 + 11 * u + 9)) V := r_ofj (j := 9) hL hQ hu (by decide) rfl
theorem r_of10 (hL : zLay V) (hQ : Qr V w) {u : Nat} (hu : u < 8) : ev_X9_of n V 207 (Int32.ofNat u) 10 = rt (w (67 + 11 * u + 10)) V := r_ofj (j := 10) hL hQ hu (by decide) rfl
theorem r_setj (hL : zLay V) {u j : Nat} {x y : Int32} (hu : u < 8) (hj : j < 11) (e : x = Int32.ofNat j) : ev_X9_sets n V 207 (Int32.ofNat u) x y = rt () (wI V 208 (67 + 11 * u + j) y) := by
  subst e
  unfold ev_X9_sets eX9_sets_0 sq
  rw [r71 hL, ob_1, m208 hL, ix_u, if_pos (in_of (by omega) (by decide)), tn_of (by omega)]
theorem r_number {k q : Nat} {x y : Int32} (hk : k < 4) (hq : q < 9) (ex : x = Int32.ofNat k) (ey : y = Int32.ofNat q) : ev_X9_number n V x y = rt (tbI q x) V := by
  subst ex ey
  have hk' : k = 0 ∨ k = 1 ∨ k = 2 ∨ k = 3 := by omega
  have hq' : q = 0 ∨ q = 1 ∨ q = 2 ∨ q = 3 ∨ q = 4 ∨ q = 5 ∨ q = 6 ∨ q = 7 ∨ q = 8 := by omega
  rcases hk' with rfl | rfl | rfl | rfl <;> rcases hq' with rfl | rfl | rfl | rfl | rfl | rfl | rfl | rfl | rfl <;> rfl
theorem kind_lt (hW : WF w) {u : Nat} (hu : u < nU w) : (w (67 + 11 * u + 1)).toNatClampNeg < 4 := Nat.lt_succ_of_le (hW.f hu (j := 1) (by decide)).le
theorem kind_e (hW : WF w) {u : Nat} (hu : u < nU w) : w (67 + 11 * u + 1) = Int32.ofNat (w (67 + 11 * u + 1)).toNatClampNeg := (hW.f hu (j := 1) (by decide)).eq
theorem r_kindly (hL : zLay V) (hQ : Qr V w) (hW : WF w) {u q : Nat} {y : Int32} (hu : u < nU w) (hq : q < 9) (ey : y = Int32.ofNat q) : ev_X9_kindly n V 207 (Int32.ofNat u) y = rt (tbI q (w (67 + 11 * u + 1))) V := by
  have u8 := hW.u8
  unfold ev_X9_kindly eX9_kindly_0
  rw [r_of1 hL hQ (by omega), bd_rt, r_number (kind_lt hW hu) hq (kind_e hW hu) ey, bd_rt]
theorem r_lives (hL : zLay V) (hQ : Qr V w) {u : Nat} (hu : u < 8) : ev_X9_lives n V 207 (Int32.ofNat u) = rt (if dead w u = true then 0 else 1) V := by
  unfold ev_X9_lives eX9_lives_0 dead
  rw [r_of3 hL hQ hu, bd_rt]
  by_cases g : w (67 + 11 * u + 3) ≤ 0
  · rw [if_pos g, decide_eq_true g]; rfl
  · rw [if_neg g, decide_eq_false g]; rfl
theorem r_v (hL : zLay V) (hQ : Qr V w) {k : Nat} {x : Int32} (hk : k < 290) (e : x = Int32.ofNat k) : gvp_in x (vN V 208) = true ∧ vI V 208 x.toNatClampNeg = w k := by
  subst e
  rw [m208 hL, tn_of (by omega)]
  exact ⟨in_of hk (by decide), hQ k hk⟩
theorem r_isUnit (hL : zLay V) (hQ : Qr V w) (hW : WF w) {x : Int32} : (x < 0 ∨ w 66 ≤ x) ∧ ev_X9_isUnit n V 207 x = rt 0 V ∨ ∃ u, u < nU w ∧ x = Int32.ofNat u ∧ ev_X9_isUnit n V 207 x = rt 1 V := by
  have u8 := hW.u8
  unfold ev_X9_isUnit eX9_isUnit_0
  obtain ⟨g1, e1⟩ := r_v hL hQ (k := 66) (x := 66) (by decide) rfl
  rw [r71 hL, ob_1, if_pos g1, e1]
  by_cases g : x < 0
  · exact .inl ⟨.inl g, by rw [isIn_no (.inl g), bd_rt, if_pos (by decide +kernel)]⟩
  by_cases g2 : w 66 ≤ x
  · refine .inl ⟨.inr g2, ?_⟩
    have : w 66 - 1 < x := by
      rw [hW.ue] at g2 ⊢
      rw [Int32.lt_iff_toInt_lt]; rw [Int32.le_iff_toInt_le, ti_of (by omega)] at g2
      by_cases z : nU w = 0
      · rw [z]; have : (Int32.ofNat 0 - 1).toInt = -1 := by decide +kernel
        omega
      · rw [show Int32.ofNat (nU w) - 1 = Int32.ofNat (nU w - 1) from of_sub (b := 1) (by omega), ti_of (by omega)]; omega
    rw [isIn_no (.inr this), bd_rt, if_pos (by decide +kernel)]
  · refine .inr ?_
    rw [hW.ue] at g2
    obtain ⟨u, hu, rfl⟩ := rng (by omega) g (Int32.not_le.mp g2)
    refine ⟨u, hu, rfl, ?_⟩
    have : ¬ w 66 - 1 < Int32.ofNat u := by
      rw [hW.ue, show Int32.ofNat (nU w) - 1 = Int32.ofNat (nU w - 1) from of_sub (b := 1) (by omega), of_lt (by omega) (by omega)]; omega
    rw [isIn_yes g this, bd_rt, if_pos (by decide +kernel)]
theorem r_isCell (hL : zLay V) (hQ : Qr V w) (hW : WF w) {x : Int32} : (x < 0 ∨ Int32.ofNat (nR w * nC w) ≤ x) ∧ ev_X9_isCell n V 207 x = rt 0 V ∨ ∃ c, c < nR w * nC w ∧ x = Int32.ofNat c ∧ ev_X9_isCell n V 207 x = rt 1 V := by
  have rc := hW.rc; have r9 := hW.rc9
  unfold ev_X9_isCell eX9_isCell_0
  obtain ⟨g0, e0⟩ := r_v hL hQ (k := 0) (x := 0) (by decide) rfl
  obtain ⟨g1, e1⟩ := r_v hL hQ (k := 1) (x := 1) (by decide) rfl
  rw [r71 hL, ob_1, if_pos g0, ob_1, if_pos g1, e0, e1, hW.re, hW.ce, of_mul, show Int32.ofNat (nR w * nC w) - 1 = Int32.ofNat (nR w * nC w - 1) from of_sub (b := 1) (by omega)]
  by_cases g : x < 0
  · exact .inl ⟨.inl g, by rw [isIn_no (.inl g), bd_rt, if_pos (by decide +kernel)]⟩
  by_cases g2 : Int32.ofNat (nR w * nC w) ≤ x
  · refine .inl ⟨.inr g2, ?_⟩
    have : Int32.ofNat (nR w * nC w - 1) < x := by
      rw [Int32.lt_iff_toInt_lt]; rw [Int32.le_iff_toInt_le, ti_of (by omega)] at g2
      rw [ti_of (by omega)]; omega
    rw [isIn_no (.inr this), bd_rt, if_pos (by decide +kernel)]
  · refine .inr ?_
    obtain ⟨c, hc, rfl⟩ := rng (by omega) g (Int32.not_le.mp g2)
    refine ⟨c, hc, rfl, ?_⟩
    rw [isIn_yes g (by rw [of_lt (by omega) (by omega)]; omega), bd_rt, if_pos (by decide +kernel)]
theorem r_row (hL : zLay V) (hQ : Qr V w) (hW : WF w) {x : Nat} (hx : x < 2147483648) : ev_X9_row n V 207 (Int32.ofNat x) = rt (Int32.ofNat (x / nC w)) V := by
  have h3 := hW.c3; have h8 := hW.c8
  unfold ev_X9_row eX9_row_0
  obtain ⟨g1, e1⟩ := r_v hL hQ (k := 1) (x := 1) (by decide) rfl
  rw [r71 hL, ob_1, if_pos g1, e1, hW.ce, if_pos (fun e => by have := (of_inj (b := 0) (by omega) (by omega)).mp e; omega), of_div hx (by omega)]
theorem r_column (hL : zLay V) (hQ : Qr V w) (hW : WF w) {x : Nat} (hx : x < 2147483648) : ev_X9_column n V 207 (Int32.ofNat x) = rt (Int32.ofNat (x % nC w)) V := by
  have h3 := hW.c3; have h8 := hW.c8
  unfold ev_X9_column eX9_column_0
  obtain ⟨g1, e1⟩ := r_v hL hQ (k := 1) (x := 1) (by decide) rfl
  rw [r71 hL, ob_1, if_pos g1, e1, hW.ce, if_pos (fun e => by have := (of_inj (b := 0) (by omega) (by omega)).mp e; omega), of_mod hx (by omega)]
theorem r_apart77 {x y : Nat} (hx : x < 8) (hy : y < 8) : eX9_apart_77 n V (Int32.ofNat x) (Int32.ofNat y) = rt (Int32.ofNat (max x y)) V := by
  unfold eX9_apart_77
  by_cases h : x ≤ y
  · rw [if_pos (by exact (of_le (by omega) (by omega)).mpr h), Nat.max_eq_right h]
  · rw [if_neg (fun e => h ((of_le (by omega) (by omega)).mp e)), Nat.max_eq_left (by omega)]
theorem r_apart38 (hL : zLay V) (hQ : Qr V w) (hW : WF w) {x y z : Nat} (hx : x < nR w * nC w) (hy : y < nR w * nC w) (hz : z < 8) : eX9_apart_38 n V 207 (Int32.ofNat x) (Int32.ofNat y) (Int32.ofNat z) = rt (Int32.ofNat (max z (dif (x % nC w) (y % nC w)))) V := by
  have rc := hW.rc; have h8 := hW.c8; have a3 := col_lt hW x; have a4 := col_lt hW y
  unfold eX9_apart_38
  rw [r_column hL hQ hW (by omega), bd_rt, r_column hL hQ hW (by omega), bd_rt]
  have t : ∀ q, q < 8 → eX9_apart_77 n V (Int32.ofNat z) (Int32.ofNat q) = rt (Int32.ofNat (max z q)) V := fun q hq => r_apart77 hz hq
  by_cases g : x % nC w ≤ y % nC w
  · rw [if_pos (by exact (of_le (by omega) (by omega)).mpr g), r_column hL hQ hW (by omega), bd_rt, r_column hL hQ hW (by omega), bd_rt, of_sub g, t _ (by omega)]
    congr 3; unfold dif; omega
  · rw [if_neg (fun e => g ((of_le (by omega) (by omega)).mp e)), r_column hL hQ hW (by omega), bd_rt, r_column hL hQ hW (by omega), bd_rt, of_sub (by omega), t _ (by omega)]
    congr 3; unfold dif; omega
theorem r_apart (hL : zLay V) (hQ : Qr V w) (hW : WF w) {x y : Nat} (hx : x < nR w * nC w) (hy : y < nR w * nC w) : ev_X9_apart n V 207 (Int32.ofNat x) (Int32.ofNat y) = rt (Int32.ofNat (dst w x y)) V := by
  have rc := hW.rc; have h8 := hW.r8; have a3 := row_lt hW hx; have a4 := row_lt hW hy; have z1 := Nat.zero_le (x / nC w); have z2 := Nat.zero_le (y / nC w)
  unfold ev_X9_apart eX9_apart_0 dst
  rw [r_row hL hQ hW (by omega), bd_rt, r_row hL hQ hW (by omega), bd_rt]
  by_cases g : x / nC w ≤ y / nC w
  · rw [if_pos (by exact (of_le (by omega) (by omega)).mpr g), r_row hL hQ hW (by omega), bd_rt, r_row hL hQ hW (by omega), bd_rt, of_sub g, r_apart38 hL hQ hW hx hy (by omega)]
    congr 3; unfold dif; omega
  · rw [if_neg (fun e => g ((of_le (by omega) (by omega)).mp e)), r_row hL hQ hW (by omega), bd_rt, r_row hL hQ hW (by omega), bd_rt, of_sub (by omega), r_apart38 hL hQ hW hx hy (by omega)]
    congr 3; unfold dif; omega
theorem r_cov115 {x y : Int32} : eX9_covers_115 n V x y = rt (Int32.ofNat (if x = 1 ∨ y = 1 then 2 else if x = 2 ∨ y = 2 then 1 else 0)) V := by
  unfold eX9_covers_115
  by_cases h1 : x = 1
  · rw [if_pos h1, if_pos (.inl h1)]; rfl
  rw [if_neg h1]
  by_cases h2 : y = 1
  · rw [if_pos h2, if_pos (.inr h2)]; rfl
  rw [if_neg h2, if_neg (show ¬ (x = 1 ∨ y = 1) from fun e => e.elim h1 h2)]
  by_cases h3 : x = 2
  · rw [if_pos h3, if_pos (.inl h3)]; rfl
  rw [if_neg h3]
  by_cases h4 : y = 2
  · rw [if_pos h4, if_pos (.inr h4)]; rfl
  rw [if_neg h4, if_neg (show ¬ (x = 2 ∨ y = 2) from fun e => e.elim h3 h4)]; rfl
theorem r_cov60 (hL : zLay V) (hQ : Qr V w) (hW : WF w) {x y : Nat} {z : Int32} (hx : x < nR w * nC w) (hy : y < nR w * nC w) : eX9_covers_60 n V 207 (Int32.ofNat x) (Int32.ofNat y) z = rt (Int32.ofNat (if z = 1 ∨ hrz w x y = 1 then 2 else if z = 2 ∨ hrz w x y = 2 then 1 else 0)) V := by
  have rc := hW.rc; have h8 := hW.c8; have a3 := col_lt hW x; have a4 := col_lt hW y
  unfold eX9_covers_60
  rw [r_column hL hQ hW (by omega), bd_rt, r_column hL hQ hW (by omega), bd_rt]
  by_cases g : x % nC w ≤ y % nC w
  · rw [if_pos (by exact (of_le (by omega) (by omega)).mpr g), r_column hL hQ hW (by omega), bd_rt, r_column hL hQ hW (by omega), bd_rt]
    by_cases g2 : y % nC w ≤ x % nC w
    · rw [if_pos (by exact (of_le (by omega) (by omega)).mpr g2), r_cov115, hrz_0 (by omega)]
    · rw [if_neg (fun e => g2 ((of_le (by omega) (by omega)).mp e)), hrz_p (show x % nC w < y % nC w by omega), r71 hL, ob_1]
      have hi := rt_in hx (show x % nC w + 1 < nC w by omega)
      obtain ⟨i1, e1⟩ := r_v hL hQ (k := 2 + (x + 1)) (x := 2 + Int32.ofNat x + 1) (by omega) (by
        show Int32.ofNat 2 + Int32.ofNat x + Int32.ofNat 1 = _
        rw [of_add, of_add]; rfl)
      rw [if_pos i1, e1, r_cov115]
  · rw [if_neg (fun e => g ((of_le (by omega) (by omega)).mp e)), hrz_m (show y % nC w < x % nC w by omega), r71 hL, ob_1]
    have hm := Nat.mod_le x (nC w)
    obtain ⟨i1, e1⟩ := r_v hL hQ (k := 2 + (x - 1)) (x := 2 + Int32.ofNat x - 1) (by omega) (by
      show Int32.ofNat 2 + Int32.ofNat x - Int32.ofNat 1 = _
      rw [of_add, of_sub (by omega)]; congr 1; omega)
    rw [if_pos i1, e1, r_cov115]
theorem r_covers (hL : zLay V) (hQ : Qr V w) (hW : WF w) {x y : Nat} (hx : x < nR w * nC w) (hy : y < nR w * nC w) : ev_X9_covers n V 207 (Int32.ofNat x) (Int32.ofNat y) = rt (Int32.ofNat (cov w x y)) V := by
  have rc := hW.rc; have h8 := hW.r8; have c8 := hW.c8; have a3 := row_lt hW hx; have a4 := row_lt hW hy
  unfold ev_X9_covers eX9_covers_0 cov
  obtain ⟨g1, e1⟩ := r_v hL hQ (k := 1) (x := 1) (by decide) rfl
  rw [r71 hL, ob_1, if_pos g1, r_row hL hQ hW (by omega), bd_rt, r_row hL hQ hW (by omega), bd_rt, e1, hW.ce]
  by_cases g : x / nC w ≤ y / nC w
  · rw [if_pos (by exact (of_le (by omega) (by omega)).mpr g), r_row hL hQ hW (by omega), bd_rt, r_row hL hQ hW (by omega), bd_rt]
    by_cases g2 : y / nC w ≤ x / nC w
    · rw [if_pos (by exact (of_le (by omega) (by omega)).mpr g2), r_cov60 hL hQ hW hx hy, vrt_0 (by omega)]
    · rw [if_neg (fun e => g2 ((of_le (by omega) (by omega)).mp e)), vrt_p (show x / nC w < y / nC w by omega), r71 hL, ob_1]
      have hi := dn_in hW (show x / nC w + 1 < nR w by omega)
      obtain ⟨i1, e1⟩ := r_v hL hQ (k := 2 + (x + nC w)) (x := 2 + Int32.ofNat x + Int32.ofNat (nC w)) (by omega) (by
        show Int32.ofNat 2 + Int32.ofNat x + Int32.ofNat (nC w) = _
        rw [of_add, of_add, Nat.add_assoc])
      rw [if_pos i1, e1, r_cov60 hL hQ hW hx hy]
  · rw [if_neg (fun e => g ((of_le (by omega) (by omega)).mp e)), vrt_m (show y / nC w < x / nC w by omega), r71 hL, ob_1]
    have hm := up_in (w := w) (c := x) (Nat.lt_of_le_of_lt (Nat.zero_le _) (Nat.lt_of_not_le g))
    obtain ⟨i1, e1⟩ := r_v hL hQ (k := 2 + (x - nC w)) (x := 2 + Int32.ofNat x - Int32.ofNat (nC w)) (by omega) (by
      show Int32.ofNat 2 + Int32.ofNat x - Int32.ofNat (nC w) = _
      rw [of_add, of_sub (by omega)]; congr 1; omega)
    rw [if_pos i1, e1, r_cov60 hL hQ hW hx hy]
theorem r_unitOn (hn : 8 < n) (hL : zLay V) (hQ : Qr V w) (hW : WF w) {t : Int32} : (occ w t = false ∧ ev_X9_unitOn n V 207 t = rt (-1) V) ∨ (occ w t = true ∧ ∃ u, u < nU w ∧ dead w u = false ∧ w (67 + 11 * u + 2) = t ∧ ev_X9_unitOn n V 207 t = rt (Int32.ofNat u) V) := by
  have u8 := hW.u8
  obtain ⟨g1, e1⟩ := r_v hL hQ (k := 66) (x := 66) (by decide) rfl
  have key := loop_find (V := V) (F := fun m k => elX9_unitOn_2 n m V 207 t (Int32.ofNat k)) (p := fun u => !dead w u && decide (w (67 + 11 * u + 2) = t)) (N := nU w) (fun m k hk => by
    show eX9_unitOn_2 n (elX9_unitOn_2 n m) V 207 t (Int32.ofNat k) = _
    unfold eX9_unitOn_2
    rw [r71 hL, ob_1, if_pos g1, e1, hW.ue, if_neg (fun e => by have := (of_le (by omega) (by omega)).mp e; omega), r_lives hL hQ (by omega), bd_rt]
    rw [show Int32.ofNat k + 1 = Int32.ofNat (k + 1) from of_add]
    cases dead w k
    · rw [if_neg (by decide), r_of2 hL hQ (by omega), bd_rt]
      by_cases g : w (67 + 11 * k + 2) = t
      · rw [if_pos g, decide_eq_true g]; rfl
      · rw [if_neg g, decide_eq_false g]; rfl
    · rfl) (fun m => by
    show eX9_unitOn_2 n (elX9_unitOn_2 n m) V 207 t (Int32.ofNat (nU w)) = _
    unfold eX9_unitOn_2
    rw [r71 hL, ob_1, if_pos g1, e1, hW.ue, if_pos (by exact (of_le (by omega) (by omega)).mpr (Nat.le_refl _))]) (nU w) n 0 (by omega) (by omega)
  unfold ev_X9_unitOn eX9_unitOn_0 occ
  rw [List.range_eq_range']
  rcases key with ⟨a, b⟩ | ⟨j, a, b, c, q, f⟩
  · exact .inl ⟨a, b⟩
  · have c' : dead w j = false ∧ w (67 + 11 * j + 2) = t := by simpa using c
    exact .inr ⟨List.any_eq_true.mpr ⟨j, by simpa using b, c⟩, j, b, c'.1, c'.2, f⟩
theorem r_hasBegun (hL : zLay V) (hQ : Qr V w) : ev_X9_hasBegun n V 207 = rt (if w 156 ≤ 0 then 0 else 1) V := by
  unfold ev_X9_hasBegun eX9_hasBegun_0
  obtain ⟨g1, e1⟩ := r_v hL hQ (k := 156) (x := 156) (by decide) rfl
  rw [r71 hL, ob_1, if_pos g1, e1]
  by_cases g : w 156 ≤ 0
  · rw [if_pos g, if_pos g]
  · rw [if_neg g, if_neg g]
def lvn (w : RW) (t : Int32) : Nat := (List.range (nU w)).countP fun u => decide (w (67 + 11 * u) = t) && !dead w u
theorem lvn_le {w : RW} {t : Int32} : lvn w t ≤ nU w := by
  have := List.countP_le_length (p := fun u => decide (w (67 + 11 * u) = t) && !dead w u) (l := List.range (nU w))
  rw [List.length_range] at this; exact this
theorem lvn_hl {w : RW} {t : Int32} : 0 < lvn w t ↔ hl w t = true := by
  unfold lvn hl
  rw [List.countP_pos_iff, List.any_eq_true]
theorem r_living (hn : 8 < n) (hL : zLay V) (hQ : Qr V w) (hW : WF w) {t : Int32} : ev_X9_living n V 207 t = rt (Int32.ofNat (lvn w t)) V := by
  have u8 := hW.u8
  obtain ⟨g1, e1⟩ := r_v hL hQ (k := 66) (x := 66) (by decide) rfl
  have key := loop_count (V := V) (F := fun m k c => elX9_living_4 n m V 207 t (Int32.ofNat c) (Int32.ofNat k)) (p := fun u => decide (w (67 + 11 * u) = t) && !dead w u) (N := nU w) (fun m k c hk => by
    show eX9_living_4 n (elX9_living_4 n m) V 207 t (Int32.ofNat c) (Int32.ofNat k) = _
    unfold eX9_living_4 eX9_living_38 eX9_living_39
    rw [r71 hL, ob_1, if_pos g1, e1, hW.ue, if_neg (fun e => by have := (of_le (by omega) (by omega)).mp e; omega), r_lives hL hQ (by omega), bd_rt]
    rw [show Int32.ofNat k + 1 = Int32.ofNat (k + 1) from of_add, show Int32.ofNat c + 0 = Int32.ofNat (c + 0) from of_add]
    cases dead w k
    · rw [if_neg (by decide), r_of0 hL hQ (by omega), bd_rt, show Int32.ofNat c + 1 = Int32.ofNat (c + 1) from of_add]
      by_cases g : w (67 + 11 * k) = t
      · rw [if_pos g, decide_eq_true g]; rfl
      · rw [if_neg g, decide_eq_false g]; rfl
    · rw [Bool.not_true, Bool.and_false]; rfl) (fun m c => by
    show eX9_living_4 n (elX9_living_4 n m) V 207 t (Int32.ofNat c) (Int32.ofNat (nU w)) = _
    unfold eX9_living_4
    rw [r71 hL, ob_1, if_pos g1, e1, hW.ue, if_pos (by exact (of_le (by omega) (by omega)).mpr (Nat.le_refl _))]) (nU w) n 0 0 (by omega) (by omega)
  unfold ev_X9_living eX9_living_0 lvn
  rw [List.range_eq_range', ← Nat.zero_add (List.countP _ _)]
  exact key
theorem r_conditions (hn : 8 < n) (hL : zLay V) (hQ : Qr V w) (hW : WF w) : ∃ r, ev_X9_conditions n V 207 = rt r V ∧ (r = 1 ↔ cnd w = true) ∧ r = (if w 156 ≤ 0 then 0 else if goB w = true then 1 else if hl w 0 = true then 2 else if hl w 1 = true then 3 else 4) := by
  have u8 := hW.u8
  have l0 : lvn w 0 ≤ nU w := lvn_le
  have l1 : lvn w 1 ≤ nU w := lvn_le
  refine ⟨_, ?_, ?_, rfl⟩
  · unfold ev_X9_conditions eX9_conditions_0
    rw [r_hasBegun hL hQ, bd_rt]
    by_cases g : w 156 ≤ 0
    · rw [if_pos g, if_pos g, if_pos rfl]
    rw [if_neg g, if_neg g, if_neg (by decide), r_living hn hL hQ hW, bd_rt, r_living hn hL hQ hW, bd_rt]
    have z0 : Int32.ofNat (lvn w 0) ≤ 0 ↔ hl w 0 = false := by
      rw [show (Int32.ofNat (lvn w 0) ≤ 0 ↔ lvn w 0 ≤ 0) from of_le (b := 0) (by omega) (by omega), Bool.eq_false_iff]
      have := lvn_hl (w := w) (t := 0)
      constructor
      · intro a b; have := this.mpr b; omega
      · intro a; exact Nat.le_of_not_lt (fun b => a (this.mp b))
    have z1 : Int32.ofNat (lvn w 1) ≤ 0 ↔ hl w 1 = false := by
      rw [show (Int32.ofNat (lvn w 1) ≤ 0 ↔ lvn w 1 ≤ 0) from of_le (b := 0) (by omega) (by omega), Bool.eq_false_iff]
      have := lvn_hl (w := w) (t := 1)
      constructor
      · intro a b; have := this.mpr b; omega
      · intro a; exact Nat.le_of_not_lt (fun b => a (this.mp b))
    unfold goB eX9_conditions_33
    simp only [z0, z1]
    cases hl w 0 <;> cases hl w 1 <;> rfl
  · unfold cnd
    by_cases g : w 156 ≤ 0
    · rw [if_pos g, decide_eq_true g]; simp
    · rw [if_neg g, decide_eq_false g]
      cases goB w
      · rw [if_neg (by decide)]; cases hl w 0 <;> cases hl w 1 <;> decide
      · simp
theorem r_step49 (hL : zLay V) (hQ : Qr V w) {y z0 z1 : Int32} : eX9_step_49 n V 207 y z0 z1 = if y < 0 ∨ w 0 - 1 < y ∨ z1 + z0 < 0 ∨ w 1 - 1 < z1 + z0 then rt (-1) V else rt (y * w 1 + (z1 + z0)) V := by
  obtain ⟨g0, e0⟩ := r_v hL hQ (k := 0) (x := 0) (by decide) rfl
  obtain ⟨g1, e1⟩ := r_v hL hQ (k := 1) (x := 1) (by decide) rfl
  unfold eX9_step_49
  rw [r71 hL, ob_1, if_pos g0, e0]
  by_cases a : y < 0 ∨ w 0 - 1 < y
  · rw [isIn_no a, bd_rt, if_pos rfl, if_pos (a.elim .inl (fun q => .inr (.inl q)))]
  rw [isIn_yes (fun q => a (.inl q)) (fun q => a (.inr q)), bd_rt, if_neg (by decide), r71 hL, ob_1, if_pos g1, e1]
  by_cases b : z1 + z0 < 0 ∨ w 1 - 1 < z1 + z0
  · rw [isIn_no b, bd_rt, if_pos rfl, if_pos (.inr (.inr b))]
  rw [isIn_yes (fun q => b (.inl q)) (fun q => b (.inr q)), bd_rt, if_neg (by decide), r71 hL, ob_1, if_pos g1, e1, if_neg (fun q => q.elim (fun x => a (.inl x)) (fun x => x.elim (fun x => a (.inr x)) b))]
end
