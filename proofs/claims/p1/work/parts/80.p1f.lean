/-! p1: the calls that were left: closed over their arguments' range, refused beyond it -/
def xs3 (a b c : Int32) : Nat → Int32 := fun k => if k = 1 then a else if k = 2 then b else c
theorem xs3_1 {a b c : Int32} : xs3 a b c 1 = a := rfl
theorem xs3_2 {a b c : Int32} : xs3 a b c 2 = b := rfl
theorem xs3_3 {a b c : Int32} : xs3 a b c 3 = c := rfl
theorem y01 : ((0 : Int32) + 1).toNatClampNeg = 1 := by decide +kernel
theorem y02 : ((0 : Int32) + 2).toNatClampNeg = 2 := by decide +kernel
theorem y03 : ((0 : Int32) + 3).toNatClampNeg = 3 := by decide +kernel
theorem g01 : gvp_in ((0 : Int32) + 1) 4 = true := by decide +kernel
theorem g02 : gvp_in ((0 : Int32) + 2) 4 = true := by decide +kernel
theorem g03 : gvp_in ((0 : Int32) + 3) 4 = true := by decide +kernel
def WT : VS := wI W0 207 0 1
theorem f03 : vR W0 0 3 = some 2 := by decide +kernel
theorem f20 : vR W0 2 0 = some 3 := by decide +kernel
theorem f2b : vR W0 2 11 = some 7 := by decide +kernel
theorem f71 : vR W0 207 1 = some 208 := by decide +kernel
theorem n208 : vN W0 208 = 290 := by decide +kernel
theorem i31 : vI W0 3 1 = 5 := by decide +kernel
theorem i32 : vI W0 3 2 = 5 := by decide +kernel
theorem i73 : vI W0 7 3 = 0 := by decide +kernel
theorem i22 : vI W0 2 2 = 0 := by decide +kernel
theorem j0 : vI W0 208 (0 : Int32).toNatClampNeg = 5 := by decide +kernel
theorem j1 : vI W0 208 (1 : Int32).toNatClampNeg = 5 := by decide +kernel
theorem j66 : vI W0 208 (66 : Int32).toNatClampNeg = 0 := by decide +kernel
theorem j168 : vI W0 208 (168 : Int32).toNatClampNeg = 0 := by decide +kernel
theorem h0 : gvp_in 0 290 = true := by decide +kernel
theorem h1 : gvp_in 1 290 = true := by decide +kernel
theorem h66 : gvp_in 66 290 = true := by decide +kernel
theorem h168 : gvp_in 168 290 = true := by decide +kernel
/-- append -/
theorem b_208 (xs : Nat → Int32) : eL_law_208 400 4 xs KR W0 0 207 222 223 0 = eL_law_208 400 4 (xs3 (xs 1) 0 0) KR W0 0 207 222 223 0 := by
  unfold eL_law_208
  simp only [y01, xs3_1]
theorem apC {x : Int32} (h : x < 32 ∨ ¬ x ≤ 126) : ev_L_append 400 W0 0 x 222 = rt 1 W0 := by
  unfold ev_L_append eL_append_0 ev_X8_append eX8_append_0 eX8_append_12
  by_cases g : x < 32
  · rw [if_pos g, bd_th]; exact if_pos rfl
  · rw [if_neg g, if_neg (h.resolve_left g), bd_th]; exact if_pos rfl
theorem apR {x : Int32} (h : x < 32 ∨ ¬ x ≤ 126) : ev_X9_append 400 W0 207 x = rt 0 (wI (wI W0 207 0 0) 207 0 1) := by
  unfold ev_X9_append eX9_append_0
  rw [sq_eq, isIn_no (h.imp id Int32.not_le.mp), bd_rt, if_pos rfl]
  rfl
theorem ok_208 (xs : Nat → Int32) : gd (eL_law_208 400 4 xs KR W0 0 207 222 223 0) AT BT := by
  rw [b_208]; unfold eL_law_208
  simp only [y01, xs3_1, g01]
  generalize (((xs 1 : Int32).toUInt32 % 65536).toInt32) = x
  by_cases h : x < 32 ∨ ¬ x ≤ 126
  · simp only [if_true, apC h, bd_rt, apR h]
    exact gd_ok (by decide +kernel)
  · have ha : ¬ x < 32 := fun g => h (.inl g)
    have hb : x ≤ 126 := Decidable.not_not.mp (fun g => h (.inr g))
    obtain ⟨i, hi, rfl⟩ := rng (x := x) (k := 127) (by decide) (fun g => ha (Int32.lt_trans g (by decide))) (Int32.lt_of_le_of_lt hb (by decide))
    refine gd_ok ?_
    revert hi; clear ha hb h; revert i
    decide +kernel
/-- load -/
def WL : VS := wI (wI W0 0 1 0) 0 2 0
def WM : VS := wI (wI (wI WL 207 0 0) 207 14 1) 207 15 0
theorem fe0 : ev_X8_findError 400 (wI W0 0 1 0) 1 (vI W0 0 1) = rt 0 (wI W0 0 1 0) := by
  rw [show vI W0 0 1 = 0 from by decide +kernel]
  show eX8_findError_7 400 (elX8_findError_7 400 399) (wI W0 0 1 0) 1 0 (-1) 0 0 = _
  unfold eX8_findError_7 eX8_findError_81
  rw [if_pos (by decide), if_pos rfl]
theorem loC {x : Int32} : ev_L_load 400 W0 0 x 222 = rt 1 WL := by
  unfold ev_L_load eL_load_0 ev_X8_load eX8_load_0
  rw [sq_eq, show vR (wI W0 0 1 0) 0 0 = some 1 from by decide +kernel, ob_1, fe0, bd_rt, if_neg (by decide), sq_eq, bd_th]
  exact if_pos rfl
theorem wr0 : ev_X9_wrong 400 (wI WL 207 0 0) 207 = rt 0 WM := by
  show eX9_wrong_9 400 (elX9_wrong_9 400 399) (wI WL 207 0 0) 207 (-1) 0 1 0 = _
  unfold eX9_wrong_9
  rw [if_pos (by decide +kernel), sq_eq, sq_eq, if_pos rfl]
  rw [show vI (wI (wI (wI WL 207 0 0) 207 14 1) 207 15 0) 207 12 = 0 from by decide +kernel]
  rfl
theorem loR {x : Int32} : ev_X9_load 400 WL 207 x = rt 0 (wI (wI (wI WM 207 12 0) 207 13 0) 207 0 1) := by
  unfold ev_X9_load eX9_load_0
  rw [sq_eq, wr0, bd_rt, sq_eq, if_neg (by decide), sq_eq]
  rfl
theorem ok_266 (xs : Nat → Int32) : gd (eL_law_266 400 4 xs KR W0 0 207 222 223 0) AT BT := by
  unfold eL_law_266
  simp only [y01, g01, if_true, loC, bd_rt, loR]
  exact gd_ok (by decide +kernel)
/-- terrain -/
theorem terC {x y : Int32} (h : x < 0 ∨ 4 < x ∨ y < 0 ∨ 4 < y) : ev_L_terrain 400 W0 0 x y 222 = rt 1 W0 := by
  unfold ev_L_terrain eL_terrain_0 ev_X8_terrain eX8_terrain_0 eX8_terrain_32
  simp only [f03, ob_1, f20, i31, i32]
  by_cases a : x < 0
  · rw [if_pos a, bd_th]; exact if_pos rfl
  rw [if_neg a]
  by_cases b : 4 < x
  · rw [if_pos (le_of_gt (by decide +kernel) b), bd_th]; exact if_pos rfl
  rw [if_neg (nle_of_ng (by decide +kernel) b)]
  by_cases c : y < 0
  · rw [if_pos c, bd_th]; exact if_pos rfl
  rw [if_neg c]
  rw [if_neg (Int32.not_lt.mpr (le_of_gt (a := 4) (by decide +kernel) (((h.resolve_left a).resolve_left b).resolve_left c))), bd_th]
  exact if_pos rfl
theorem t38 {x y : Int32} : eX9_terrain_38 400 W0 207 x y 1 207 = rt 0 WT := by
  unfold eX9_terrain_38; rw [sq_eq]; exact if_pos (by decide +kernel)
theorem terR {x y : Int32} (h : x < 0 ∨ 4 < x ∨ y < 0 ∨ 4 < y) : ev_X9_terrain 400 W0 207 x y = rt 0 WT := by
  unfold ev_X9_terrain eX9_terrain_0
  simp only [f71, ob_1, n208, h0, if_true, j0]
  rw [show (5 : Int32) - 1 = 4 from by decide +kernel]
  by_cases a : x < 0 ∨ 4 < x
  · rw [isIn_no a, bd_rt, if_pos rfl]; exact t38
  · rw [isIn_yes (fun g => a (.inl g)) (fun g => a (.inr g)), bd_rt, if_neg (by decide)]
    simp only [f71, ob_1, n208, h1, if_true, j1]
    rw [show (5 : Int32) - 1 = 4 from by decide +kernel]
    have b : y < 0 ∨ 4 < y := (h.resolve_left (fun g => a (.inl g))).resolve_left (fun g => a (.inr g))
    rw [isIn_no b, bd_rt, if_pos rfl]; exact t38
theorem b_366 (xs : Nat → Int32) : eL_law_366 400 4 xs KR W0 0 207 222 223 0 = eL_law_366 400 4 (xs3 (xs 1) (xs 2) 0) KR W0 0 207 222 223 0 := by
  unfold eL_law_366
  simp only [y01, y02, xs3_1, xs3_2]
theorem inr {x y : Int32} {m : Int32} (h : ¬ (x < 0 ∨ m < x ∨ y < 0 ∨ m < y)) : (¬ x < 0 ∧ ¬ m < x) ∧ ¬ y < 0 ∧ ¬ m < y :=
  ⟨⟨fun g => h (.inl g), fun g => h (.inr (.inl g))⟩, fun g => h (.inr (.inr (.inl g))), fun g => h (.inr (.inr (.inr g)))⟩
theorem ok_366 (xs : Nat → Int32) : gd (eL_law_366 400 4 xs KR W0 0 207 222 223 0) AT BT := by
  rw [b_366]; generalize xs 1 = x; generalize xs 2 = y
  by_cases h : x < 0 ∨ 4 < x ∨ y < 0 ∨ 4 < y
  · unfold eL_law_366
    simp only [y01, y02, xs3_1, xs3_2, g01, g02, if_true, terC h, bd_rt, terR h]
    exact gd_ok (by decide +kernel)
  · obtain ⟨⟨a, b⟩, c, d⟩ := inr h
    obtain ⟨i, hi, rfl⟩ := rng (x := x) (k := 5) (by decide) a (lt_of_ng (a := 4) (by decide +kernel) b)
    obtain ⟨j, hj, rfl⟩ := rng (x := y) (k := 5) (by decide) c (lt_of_ng (a := 4) (by decide +kernel) d)
    refine gd_ok ?_
    clear a b c d h
    revert hj; revert j; revert hi; revert i
    decide +kernel
/-- cells -/
theorem rc_no {x : Int32} (h : x < 0 ∨ 24 < x) : ev_X8_requireCell 400 W0 0 x = th "java/lang/IndexOutOfBoundsException" W0 := by
  unfold ev_X8_requireCell eX8_requireCell_0 ev_X3_hasCell eX3_hasCell_0
  simp only [f03, ob_1, f20, i31, i32]
  by_cases a : x < 0
  · rw [if_pos a, bd_rt]; exact if_pos rfl
  · rw [if_neg a, if_pos (le_of_gt (a := 24) (by decide +kernel) (h.resolve_left a)), bd_rt]; exact if_pos rfl
theorem rc_yes {x : Int32} (a : ¬ x < 0) (b : ¬ 24 < x) : ev_X8_requireCell 400 W0 0 x = rt () W0 := by
  unfold ev_X8_requireCell eX8_requireCell_0 ev_X3_hasCell eX3_hasCell_0
  simp only [f03, ob_1, f20, i31, i32]
  rw [if_neg a, if_neg (nle_of_ng (a := 24) (by decide +kernel) b), bd_rt]; exact if_neg (by decide)
theorem ic_no {x : Int32} {V : VS} (e1 : vR V 207 1 = some 208) (e2 : vN V 208 = 290) (e3 : vI V 208 (0 : Int32).toNatClampNeg = 5) (e4 : vI V 208 (1 : Int32).toNatClampNeg = 5) (h : x < 0 ∨ 24 < x) : ev_X9_isCell 400 V 207 x = rt 0 V := by
  unfold ev_X9_isCell eX9_isCell_0
  simp only [e1, ob_1, e2, h0, h1, if_true, e3, e4]
  rw [show (5 : Int32) * 5 - 1 = 24 from by decide +kernel, isIn_no h, bd_rt]
  exact if_pos (by decide +kernel)
theorem ic_yes {x : Int32} {V : VS} (e1 : vR V 207 1 = some 208) (e2 : vN V 208 = 290) (e3 : vI V 208 (0 : Int32).toNatClampNeg = 5) (e4 : vI V 208 (1 : Int32).toNatClampNeg = 5) (a : ¬ x < 0) (b : ¬ 24 < x) : ev_X9_isCell 400 V 207 x = rt 1 V := by
  unfold ev_X9_isCell eX9_isCell_0
  simp only [e1, ob_1, e2, h0, h1, if_true, e3, e4]
  rw [show (5 : Int32) * 5 - 1 = 24 from by decide +kernel, isIn_yes a b, bd_rt]
  exact if_pos (by decide +kernel)
theorem ip_no {x y : Int32} (h : x < 0 ∨ 24 < x ∨ y < 0 ∨ 24 < y) : ev_X9_isPair 400 W0 207 x y = rt 0 WT := by
  unfold ev_X9_isPair eX9_isPair_0
  have z : eX9_isPair_21 400 W0 207 207 = rt 0 WT := by
    unfold eX9_isPair_21 eX9_isPair_22; rw [sq_eq]; exact if_neg (by decide +kernel)
  by_cases a : x < 0 ∨ 24 < x
  · rw [ic_no f71 n208 j0 j1 a, bd_rt, if_pos rfl]; exact z
  · rw [ic_yes f71 n208 j0 j1 (fun g => a (.inl g)) (fun g => a (.inr g)), bd_rt, if_neg (by decide)]
    rw [ic_no f71 n208 j0 j1 ((h.resolve_left (fun g => a (.inl g))).resolve_left (fun g => a (.inr g))), bd_rt, if_pos rfl]; exact z
/-- isSeen, cover -/
theorem isCn {x y : Int32} (h : x < 0 ∨ 24 < x ∨ y < 0 ∨ 24 < y) : ev_L_isSeen 400 W0 0 x y 222 = rt 1 W0 := by
  unfold ev_L_isSeen eL_isSeen_0 ev_X8_isSeen eX8_isSeen_0
  by_cases a : x < 0 ∨ 24 < x
  · rw [rc_no a, bd_th, bd_th]; exact if_pos rfl
  · rw [rc_yes (fun g => a (.inl g)) (fun g => a (.inr g)), bd_rt, rc_no ((h.resolve_left (fun g => a (.inl g))).resolve_left (fun g => a (.inr g))), bd_th, bd_th]; exact if_pos rfl
theorem isR {x y : Int32} (h : x < 0 ∨ 24 < x ∨ y < 0 ∨ 24 < y) : ev_X9_isSeen 400 W0 207 x y = rt 0 WT := by
  unfold ev_X9_isSeen eX9_isSeen_0
  rw [ip_no h, bd_rt]; exact if_pos rfl
theorem coC {x y : Int32} (h : x < 0 ∨ 24 < x ∨ y < 0 ∨ 24 < y) : ev_L_cover 400 W0 0 x y 222 = rt 1 W0 := by
  unfold ev_L_cover eL_cover_0 ev_X8_cover eX8_cover_0
  by_cases a : x < 0 ∨ 24 < x
  · rw [rc_no a, bd_th, bd_th]; exact if_pos rfl
  · rw [rc_yes (fun g => a (.inl g)) (fun g => a (.inr g)), bd_rt, rc_no ((h.resolve_left (fun g => a (.inl g))).resolve_left (fun g => a (.inr g))), bd_th, bd_th]; exact if_pos rfl
theorem coR {x y : Int32} (h : x < 0 ∨ 24 < x ∨ y < 0 ∨ 24 < y) : ev_X9_cover 400 W0 207 x y = rt 0 WT := by
  unfold ev_X9_cover eX9_cover_0
  rw [ip_no h, bd_rt]; exact if_pos rfl
theorem s0_cell {i : Nat} (h : i < 25) : i < nR wF0 * nC wF0 := by rw [f0_R, f0_C]; omega
theorem s0_R : vI W0 207 0 = 0 := by decide +kernel
theorem isCy {i j : Nat} (hi : i < 25) (hj : j < 25) : ev_L_isSeen 400 W0 0 (Int32.ofNat i) (Int32.ofNat j) 222 = rt 0 (wJ W0 222 (0 : Int32).toNatClampNeg (if see wF0 i j = true then 1 else 0)) := by
  have a1 : ∀ k, k < 25 → ¬ Int32.ofNat k < 0 ∧ ¬ 24 < Int32.ofNat k := by decide +kernel
  unfold ev_L_isSeen eL_isSeen_0 ev_X8_isSeen eX8_isSeen_0
  rw [rc_yes (a1 i hi).1 (a1 i hi).2, bd_rt, rc_yes (a1 j hj).1 (a1 j hj).2, bd_rt, f03, ob_1, f20, ob_1, c_isClear (a := 2) (w := wF0) (by decide) zLay_0 (by decide) f0_WF f0_Rp (s0_cell hi) (s0_cell hj), bd_rt]
  have g : gvp_in 0 (vN W0 222) = true := by decide +kernel
  cases see wF0 i j
  · rw [if_pos (by decide), bd_rt, if_pos (by decide), if_pos g]; rfl
  · rw [if_pos (by decide), bd_rt, if_neg (by decide), if_pos g]; rfl
theorem ipY {V : VS} {i j : Nat} (e1 : vR V 207 1 = some 208) (e2 : vN V 208 = 290) (e3 : vI V 208 (0 : Int32).toNatClampNeg = 5) (e4 : vI V 208 (1 : Int32).toNatClampNeg = 5) (hl : 207 < V.length) (hi : i < 25) (hj : j < 25) : ev_X9_isPair 400 V 207 (Int32.ofNat i) (Int32.ofNat j) = rt 1 (wI V 207 0 0) := by
  have a1 : ∀ k, k < 25 → ¬ Int32.ofNat k < 0 ∧ ¬ 24 < Int32.ofNat k := by decide +kernel
  unfold ev_X9_isPair eX9_isPair_0
  rw [ic_yes e1 e2 e3 e4 (a1 i hi).1 (a1 i hi).2, bd_rt, if_neg (by decide), ic_yes e1 e2 e3 e4 (a1 j hj).1 (a1 j hj).2, bd_rt, if_neg (by decide)]
  unfold eX9_isPair_22
  rw [sq_eq, vI_wI hl, zup_eq]; rfl
theorem isRy {V : VS} {i j : Nat} (hL : zLay V) (hQ : Qr V wF0) (hi : i < 25) (hj : j < 25) : ev_X9_isSeen 400 V 207 (Int32.ofNat i) (Int32.ofNat j) = rt (if see wF0 i j = true then 1 else 0) (wI V 207 0 0) := by
  have q0 : vI V 208 (0 : Int32).toNatClampNeg = 5 := (hQ 0 (by decide)).trans (by decide +kernel)
  have q1 : vI V 208 (1 : Int32).toNatClampNeg = 5 := (hQ 1 (by decide)).trans (by decide +kernel)
  unfold ev_X9_isSeen eX9_isSeen_0
  rw [ipY (r71 hL) (m208 hL) q0 q1 (zLen hL (by decide)) hi hj, bd_rt, if_neg (by decide), r_sees (by decide) (zLay_wI hL) (hQ.wo (by decide)) f0_WF (s0_cell hi) (s0_cell hj), bd_rt]
  cases see wF0 i j <;> rfl
theorem ok_434 (xs : Nat → Int32) : gd (eL_law_434 400 4 xs KR W0 0 207 222 223 0) AT BT := by
  unfold eL_law_434 eL_law_500
  simp only [y01, y02, g01, g02, if_true]
  generalize xs 1 = x; generalize xs 2 = y
  by_cases h : x < 0 ∨ 24 < x ∨ y < 0 ∨ 24 < y
  · simp only [isCn h, bd_rt, isR h]
    exact gd_ok (by decide +kernel)
  · obtain ⟨⟨a, b⟩, c, d⟩ := inr h
    obtain ⟨i, hi, rfl⟩ := rng (x := x) (k := 25) (by decide) a (lt_of_ng (a := 24) (by decide +kernel) b)
    obtain ⟨j, hj, rfl⟩ := rng (x := y) (k := 25) (by decide) c (lt_of_ng (a := 24) (by decide +kernel) d)
    rw [isCy hi hj, bd_rt, isRy (zLay_wJ zLay_0) (fun k hk => by rw [vI_C (vC_wJ (by decide))]; exact f0_Qr k hk) hi hj, bd_rt]
    cases see wF0 i j <;> exact gd_ok (by decide +kernel)
theorem coCy {i j : Nat} (hi : i < 25) (hj : j < 25) : ev_L_cover 400 W0 0 (Int32.ofNat i) (Int32.ofNat j) 222 = rt 0 (wJ W0 222 (0 : Int32).toNatClampNeg (Int32.ofNat (cov wF0 i j)).toInt64) := by
  have a1 : ∀ k, k < 25 → ¬ Int32.ofNat k < 0 ∧ ¬ 24 < Int32.ofNat k := by decide +kernel
  unfold ev_L_cover eL_cover_0 ev_X8_cover eX8_cover_0
  rw [rc_yes (a1 i hi).1 (a1 i hi).2, bd_rt, rc_yes (a1 j hj).1 (a1 j hj).2, bd_rt, f03, ob_1, f20, ob_1, c_coverOf (a := 2) (w := wF0) zLay_0 (by decide) f0_WF f0_Rp (s0_cell hi) (s0_cell hj), bd_rt, bd_rt, if_pos (by decide +kernel)]
  rfl
theorem coRy {V : VS} {i j : Nat} (hL : zLay V) (hQ : Qr V wF0) (hi : i < 25) (hj : j < 25) : ev_X9_cover 400 V 207 (Int32.ofNat i) (Int32.ofNat j) = rt (Int32.ofNat (cov wF0 i j)) (wI V 207 0 0) := by
  have q0 : vI V 208 (0 : Int32).toNatClampNeg = 5 := (hQ 0 (by decide)).trans (by decide +kernel)
  have q1 : vI V 208 (1 : Int32).toNatClampNeg = 5 := (hQ 1 (by decide)).trans (by decide +kernel)
  unfold ev_X9_cover eX9_cover_0
  rw [ipY (r71 hL) (m208 hL) q0 q1 (zLen hL (by decide)) hi hj, bd_rt, if_neg (by decide), r_covers (zLay_wI hL) (hQ.wo (by decide)) f0_WF (s0_cell hi) (s0_cell hj), bd_rt]
theorem cov3 (w : RW) (x y : Nat) : cov w x y = 0 ∨ cov w x y = 1 ∨ cov w x y = 2 := by
  unfold cov
  by_cases a : vrt w x y = 1 ∨ hrz w x y = 1
  · rw [if_pos a]; exact .inr (.inr rfl)
  rw [if_neg a]
  by_cases b : vrt w x y = 2 ∨ hrz w x y = 2
  · rw [if_pos b]; exact .inr (.inl rfl)
  · rw [if_neg b]; exact .inl rfl
theorem ok_509 (xs : Nat → Int32) : gd (eL_law_509 400 4 xs KR W0 0 207 222 223 0) AT BT := by
  unfold eL_law_509
  simp only [y01, y02, g01, g02, if_true]
  generalize xs 1 = x; generalize xs 2 = y
  by_cases h : x < 0 ∨ 24 < x ∨ y < 0 ∨ 24 < y
  · simp only [coC h, bd_rt, coR h]
    exact gd_ok (by decide +kernel)
  · obtain ⟨⟨a, b⟩, c, d⟩ := inr h
    obtain ⟨i, hi, rfl⟩ := rng (x := x) (k := 25) (by decide) a (lt_of_ng (a := 24) (by decide +kernel) b)
    obtain ⟨j, hj, rfl⟩ := rng (x := y) (k := 25) (by decide) c (lt_of_ng (a := 24) (by decide +kernel) d)
    rw [coCy hi hj, bd_rt, coRy (zLay_wJ zLay_0) (fun k hk => by rw [vI_C (vC_wJ (by decide))]; exact f0_Qr k hk) hi hj, bd_rt]
    rcases cov3 wF0 i j with e | e | e <;> rw [e] <;> exact gd_ok (by decide +kernel)
/-- addUnit -/
theorem teC {x : Int32} (h : x < 0 ∨ 1 < x) : ev_X8_requireTeam 400 W0 x = th "java/lang/IndexOutOfBoundsException" W0 := by
  unfold ev_X8_requireTeam eX8_requireTeam_0
  rw [if_neg (fun e => by subst e; rcases h with h | h <;> exact absurd h (by decide)), if_neg (fun e => by subst e; rcases h with h | h <;> exact absurd h (by decide))]
theorem teY {x : Int32} (a : ¬ x < 0) (b : ¬ 1 < x) : ev_X8_requireTeam 400 W0 x = rt () W0 := by
  obtain ⟨i, hi, rfl⟩ := rng (x := x) (k := 2) (by decide) a (lt_of_ng (a := 1) (by decide +kernel) b)
  unfold ev_X8_requireTeam eX8_requireTeam_0
  rcases i with _ | _ | i
  · exact if_pos rfl
  · rw [if_neg (by decide)]; exact if_pos rfl
  · omega
theorem adC {x y z : Int32} (h : (x < 0 ∨ 1 < x) ∨ (y < 0 ∨ 3 < y) ∨ (z < 0 ∨ 24 < z)) : ev_L_addUnit 400 W0 0 x y z 222 = rt 1 W0 := by
  unfold ev_L_addUnit eL_addUnit_0 ev_X8_addUnit eX8_addUnit_0 eX8_addUnit_13
  by_cases a : x < 0 ∨ 1 < x
  · rw [teC a, bd_th, bd_th]; exact if_pos rfl
  rw [teY (fun g => a (.inl g)) (fun g => a (.inr g)), bd_rt]
  have h := h.resolve_left a
  by_cases b : y < 0
  · rw [if_pos b, bd_th]; exact if_pos rfl
  rw [if_neg b]
  by_cases c : 3 < y
  · rw [if_neg (Int32.not_lt.mpr (le_of_gt (a := 3) (by decide +kernel) c)), bd_th]; exact if_pos rfl
  rw [if_pos (lt_of_ng (a := 3) (by decide +kernel) c), rc_no (h.resolve_left (fun g => g.elim b c)), bd_th, bd_th]
  exact if_pos rfl
def WU : VS := wI W0 207 0 0
theorem adR {x y z : Int32} (h : (x < 0 ∨ 1 < x) ∨ (y < 0 ∨ 3 < y) ∨ (z < 0 ∨ 24 < z)) : ev_X9_addUnit 400 W0 207 x y z = rt 0 (wI WU 207 0 1) := by
  unfold ev_X9_addUnit eX9_addUnit_0
  rw [sq_eq, show wI W0 207 0 0 = WU from rfl]
  by_cases a : x < 0 ∨ 1 < x
  · rw [isIn_no a, bd_rt, if_pos rfl]; rfl
  rw [isIn_yes (fun g => a (.inl g)) (fun g => a (.inr g)), bd_rt, if_neg (by decide)]
  have h := h.resolve_left a
  by_cases b : y < 0 ∨ 3 < y
  · rw [isIn_no b, bd_rt, if_pos rfl]; rfl
  rw [isIn_yes (fun g => b (.inl g)) (fun g => b (.inr g)), bd_rt, if_neg (by decide)]
  rw [ic_no (by decide +kernel) (by decide +kernel) (by decide +kernel) (by decide +kernel) (h.resolve_left b), bd_rt, if_pos rfl]
  rfl
theorem b_577 (xs : Nat → Int32) : eL_law_577 400 4 xs KR W0 0 207 222 223 0 = eL_law_577 400 4 (xs3 (xs 1) (xs 2) (xs 3)) KR W0 0 207 222 223 0 := by
  unfold eL_law_577
  simp only [y01, y02, y03, xs3_1, xs3_2, xs3_3]
set_option maxRecDepth 100000 in
theorem k577_00 : ∀ k, k < 25 → okR (eL_law_577 400 4 (xs3 (Int32.ofNat 0) (Int32.ofNat 0) (Int32.ofNat k)) KR W0 0 207 222 223 0) = true := by decide +kernel
set_option maxRecDepth 100000 in
theorem k577_01 : ∀ k, k < 25 → okR (eL_law_577 400 4 (xs3 (Int32.ofNat 0) (Int32.ofNat 1) (Int32.ofNat k)) KR W0 0 207 222 223 0) = true := by decide +kernel
set_option maxRecDepth 100000 in
theorem k577_02 : ∀ k, k < 25 → okR (eL_law_577 400 4 (xs3 (Int32.ofNat 0) (Int32.ofNat 2) (Int32.ofNat k)) KR W0 0 207 222 223 0) = true := by decide +kernel
set_option maxRecDepth 100000 in
theorem k577_03 : ∀ k, k < 25 → okR (eL_law_577 400 4 (xs3 (Int32.ofNat 0) (Int32.ofNat 3) (Int32.ofNat k)) KR W0 0 207 222 223 0) = true := by decide +kernel
set_option maxRecDepth 100000 in
theorem k577_10 : ∀ k, k < 25 → okR (eL_law_577 400 4 (xs3 (Int32.ofNat 1) (Int32.ofNat 0) (Int32.ofNat k)) KR W0 0 207 222 223 0) = true := by decide +kernel
set_option maxRecDepth 100000 in
theorem k577_11 : ∀ k, k < 25 → okR (eL_law_577 400 4 (xs3 (Int32.ofNat 1) (Int32.ofNat 1) (Int32.ofNat k)) KR W0 0 207 222 223 0) = true := by decide +kernel
set_option maxRecDepth 100000 in
theorem k577_12 : ∀ k, k < 25 → okR (eL_law_577 400 4 (xs3 (Int32.ofNat 1) (Int32.ofNat 2) (Int32.ofNat k)) KR W0 0 207 222 223 0) = true := by decide +kernel
set_option maxRecDepth 100000 in
theorem k577_13 : ∀ k, k < 25 → okR (eL_law_577 400 4 (xs3 (Int32.ofNat 1) (Int32.ofNat 3) (Int32.ofNat k)) KR W0 0 207 222 223 0) = true := by decide +kernel
theorem k577 : ∀ i, i < 2 → ∀ j, j < 4 → ∀ k, k < 25 → okR (eL_law_577 400 4 (xs3 (Int32.ofNat i) (Int32.ofNat j) (Int32.ofNat k)) KR W0 0 207 222 223 0) = true := by
  intro i hi j hj
  have hi' : i = 0 ∨ i = 1 := by omega
  have hj' : j = 0 ∨ j = 1 ∨ j = 2 ∨ j = 3 := by omega
  rcases hi' with rfl | rfl <;> rcases hj' with rfl | rfl | rfl | rfl
  · exact k577_00
  · exact k577_01
  · exact k577_02
  · exact k577_03
  · exact k577_10
  · exact k577_11
  · exact k577_12
  · exact k577_13
theorem ok_577 (xs : Nat → Int32) : gd (eL_law_577 400 4 xs KR W0 0 207 222 223 0) AT BT := by
  rw [b_577]; generalize xs 1 = x; generalize xs 2 = y; generalize xs 3 = z
  by_cases h : (x < 0 ∨ 1 < x) ∨ (y < 0 ∨ 3 < y) ∨ (z < 0 ∨ 24 < z)
  · unfold eL_law_577
    simp only [y01, y02, y03, xs3_1, xs3_2, xs3_3, g01, g02, g03, if_true, adC h, bd_rt, adR h]
    exact gd_ok (by decide +kernel)
  · obtain ⟨i, hi, rfl⟩ := rng (x := x) (k := 2) (by decide) (fun g => h (.inl (.inl g))) (lt_of_ng (a := 1) (by decide +kernel) (fun g => h (.inl (.inr g))))
    obtain ⟨j, hj, rfl⟩ := rng (x := y) (k := 4) (by decide) (fun g => h (.inr (.inl (.inl g)))) (lt_of_ng (a := 3) (by decide +kernel) (fun g => h (.inr (.inl (.inr g)))))
    obtain ⟨k, hk, rfl⟩ := rng (x := z) (k := 25) (by decide) (fun g => h (.inr (.inr (.inl g)))) (lt_of_ng (a := 24) (by decide +kernel) (fun g => h (.inr (.inr (.inr g)))))
    exact gd_ok (k577 i hi j hj k hk)
/-- chance, meanDamage: there is no unit -/
theorem ru_no {x : Int32} : ev_X8_requireUnit 400 W0 0 x = th "java/lang/IndexOutOfBoundsException" W0 := by
  unfold ev_X8_requireUnit eX8_requireUnit_0 ev_X2_find eX2_find_0
  simp only [f03, ob_1, i22]
  by_cases a : x < 0
  · rw [if_pos a]; rfl
  · rw [if_neg a, if_pos (Int32.not_lt.mp a)]; rfl
theorem iu_no {x : Int32} : ev_X9_isUnit 400 W0 207 x = rt 0 W0 := by
  unfold ev_X9_isUnit eX9_isUnit_0
  simp only [f71, ob_1, n208, h66, if_true, j66]
  rw [show (0 : Int32) - 1 = -1 from by decide +kernel, isIn_no, bd_rt]
  · exact if_pos (by decide +kernel)
  · by_cases a : x < 0
    · exact .inl a
    · refine .inr (Int32.lt_iff_toInt_lt.mpr ?_)
      have f := Int32.le_iff_toInt_le.mp (Int32.not_lt.mp a)
      have e1 : (0 : Int32).toInt = 0 := by decide +kernel
      have e2 : (-1 : Int32).toInt = -1 := by decide +kernel
      omega
theorem ml_no {x y : Int32} : ev_X9_mayLook 400 W0 207 x y = rt 0 WT := by
  unfold ev_X9_mayLook eX9_mayLook_0
  rw [iu_no, bd_rt, if_pos rfl]
  unfold eX9_mayLook_17 eX9_mayLook_35
  rw [sq_eq]; exact if_neg (by decide +kernel)
theorem chC {x y : Int32} : ev_L_chance 400 W0 0 x y 223 = rt 1 W0 := by
  unfold ev_L_chance eL_chance_0 ev_X8_chance eX8_chance_0
  rw [ru_no, bd_th, bd_th]; exact if_pos rfl
theorem chR {x y : Int32} : ev_X9_chance 400 W0 207 x y = rt FP.dconst0 WT := by
  unfold ev_X9_chance eX9_chance_0
  rw [ml_no, bd_rt]; exact if_pos rfl
theorem mdC {x y : Int32} : ev_L_meanDamage 400 W0 0 x y 223 = rt 1 W0 := by
  unfold ev_L_meanDamage eL_meanDamage_0 ev_X8_meanDamage eX8_meanDamage_0
  rw [ru_no, bd_th, bd_th]; exact if_pos rfl
theorem mdR {x y : Int32} : ev_X9_meanDamage 400 W0 207 x y = rt FP.dconst0 WT := by
  unfold ev_X9_meanDamage eX9_meanDamage_0
  rw [ml_no, bd_rt]; exact if_pos rfl
theorem ok_1032 (xs : Nat → Int32) : gd (eL_law_1032 400 4 xs KR W0 0 207 222 223 0) AT BT := by
  unfold eL_law_1032
  simp only [y01, y02, g01, g02, if_true, chC, bd_rt, chR]
  exact gd_ok (by decide +kernel)
theorem ok_1121 (xs : Nat → Int32) : gd (eL_law_1121 400 4 xs KR W0 0 207 222 223 0) AT BT := by
  unfold eL_law_1121
  simp only [y01, y02, g01, g02, if_true, mdC, bd_rt, mdR]
  exact gd_ok (by decide +kernel)
/-- event: there is none -/
theorem evC {x y : Int32} : ev_L_event 400 W0 0 x y 222 = rt 1 W0 := by
  unfold ev_L_event eL_event_0 ev_X8_event eX8_event_0 eX8_event_27
  simp only [f03, ob_1, f2b, i73]
  by_cases a : x < 0
  · rw [if_pos a, bd_th]; exact if_pos rfl
  · rw [if_neg a, if_pos (Int32.not_lt.mp a), bd_th]; exact if_pos rfl
theorem evR {x y : Int32} : ev_X9_event 400 W0 207 x y = rt 0 WT := by
  unfold ev_X9_event eX9_event_0
  simp only [f71, ob_1, n208, h168, if_true, j168]
  rw [show (0 : Int32) - 1 = -1 from by decide +kernel, isIn_no, bd_rt, if_pos rfl]
  · unfold eX9_event_32 eX9_event_33
    rw [sq_eq]; exact if_neg (by decide +kernel)
  · by_cases a : x < 0
    · exact .inl a
    · refine .inr (Int32.lt_iff_toInt_lt.mpr ?_)
      have f := Int32.le_iff_toInt_le.mp (Int32.not_lt.mp a)
      have e1 : (0 : Int32).toInt = 0 := by decide +kernel
      have e2 : (-1 : Int32).toInt = -1 := by decide +kernel
      omega
theorem ok_1611 (xs : Nat → Int32) : gd (eL_law_1611 400 4 xs KR W0 0 207 222 223 0) AT BT := by
  unfold eL_law_1611
  simp only [y01, y02, g01, g02, if_true, evC, bd_rt, evR]
  exact gd_ok (by decide +kernel)
/-- attack: there is no unit -/
theorem atC {x : Int32} : ev_L_attack 400 W0 0 x 222 = rt 1 W0 := by
  unfold ev_L_attack eL_attack_0 ev_X8_attack eX8_attack_0
  rw [ru_no, bd_th, bd_th]; exact if_pos rfl
theorem atR {x : Int32} : ev_X9_attack 400 W0 207 x = rt 0 WT := by
  unfold ev_X9_attack eX9_attack_0
  rw [iu_no, bd_rt]
  unfold ev_X9_mayAsk eX9_mayAsk_0
  rw [if_pos rfl]
  unfold eX9_mayAsk_22
  rw [sq_eq, if_neg (by decide +kernel), bd_rt, if_pos rfl]; rfl
theorem ok_1310 (xs : Nat → Int32) : gd (eL_law_1310 400 4 xs KR W0 0 207 222 223 0) AT BT := by
  unfold eL_law_1310
  simp only [y01, g01, if_true, atC, bd_rt, atR]
  exact gd_ok (by decide +kernel)
/-- meanHealth: there is no unit -/
theorem mhC {x : Int32} (h : x < 0 ∨ 1 < x) : ev_L_meanHealth 400 W0 0 x 223 = rt 1 W0 := by
  unfold ev_L_meanHealth eL_meanHealth_0 ev_X8_meanHealth eX8_meanHealth_0
  rw [teC h, bd_th, bd_th]; exact if_pos rfl
theorem mhR {x : Int32} (h : x < 0 ∨ 1 < x) : ev_X9_meanHealth 400 W0 207 x = rt FP.fconst0 WT := by
  unfold ev_X9_meanHealth eX9_meanHealth_0
  rw [isIn_no h, bd_rt, if_pos rfl]
  unfold eX9_meanHealth_15
  rw [sq_eq]
  show eX9_meanHealth_25 400 (elX9_meanHealth_25 400 399) WT 207 x 0 0 0 = _
  unfold eX9_meanHealth_25
  rw [show vR WT 207 1 = some 208 from by decide +kernel, ob_1, if_pos (by decide +kernel), if_pos (by decide +kernel), if_neg (by decide +kernel)]
  unfold eX9_meanHealth_86
  exact if_neg (by decide +kernel)
theorem b_1787 (xs : Nat → Int32) : eL_law_1787 400 4 xs KR W0 0 207 222 223 0 = eL_law_1787 400 4 (xs3 (xs 1) 0 0) KR W0 0 207 222 223 0 := by
  unfold eL_law_1787
  simp only [y01, xs3_1]
theorem ok_1787 (xs : Nat → Int32) : gd (eL_law_1787 400 4 xs KR W0 0 207 222 223 0) AT BT := by
  rw [b_1787]; generalize xs 1 = x
  by_cases a : x = 0
  · subst a; exact gd_ok (by decide +kernel)
  by_cases b : x = 1
  · subst b; exact gd_ok (by decide +kernel)
  unfold eL_law_1787
  simp only [y01, xs3_1, g01, if_true, mhC (out01 a b), bd_rt, mhR (out01 a b)]
  exact gd_ok (by decide +kernel)
/-- the rows of healths: none is stored -/
theorem rr_no {x : Int32} (a : ¬ x = 0) (b : ¬ x = 1) : ev_X8_requireRow 400 W0 0 x = th "java/lang/IndexOutOfBoundsException" W0 := by
  unfold ev_X8_requireRow eX8_requireRow_0
  rw [if_neg a, if_neg b]
theorem chC2 {x y : Int32} (a : ¬ x = 0) (b : ¬ x = 1) : ev_L_copyHealths 400 W0 0 x y 222 = rt 1 W0 := by
  unfold ev_L_copyHealths eL_copyHealths_0 ev_X8_copyHealths eX8_copyHealths_0
  rw [rr_no a b, bd_th, bd_th]; exact if_pos rfl
theorem chR2 {x y : Int32} (h : x < 0 ∨ 1 < x) : ev_X9_copyHealths 400 W0 207 x y = rt 0 WT := by
  unfold ev_X9_copyHealths eX9_copyHealths_0
  rw [isIn_no h, bd_rt, if_pos rfl]
  unfold eX9_copyHealths_84
  rw [sq_eq]; exact if_neg (by decide +kernel)
theorem chC3 {x y : Int32} (h : x = 0 ∨ x = 1) : ev_L_copyHealths 400 W0 0 x y 222 = rt 2 W0 := by
  unfold ev_L_copyHealths eL_copyHealths_0 ev_X8_copyHealths eX8_copyHealths_0 eX8_copyHealths_30
  rcases h with rfl | rfl
  · rw [show ev_X8_requireRow 400 W0 0 0 = rt (some 201) W0 from rfl, bd_rt, ob_1, show ev_X8_requireRow 400 W0 0 (1 - 0) = rt (some 204) W0 from rfl, bd_rt, ob_1, if_pos (by decide +kernel), bd_th]
    exact (if_neg (by decide)).trans (if_pos rfl)
  · rw [show ev_X8_requireRow 400 W0 0 1 = rt (some 204) W0 from rfl, bd_rt, ob_1, show ev_X8_requireRow 400 W0 0 (1 - 1) = rt (some 201) W0 from rfl, bd_rt, ob_1, if_pos (by decide +kernel), bd_th]
    exact (if_neg (by decide)).trans (if_pos rfl)
theorem chR3 {x y : Int32} (h : x = 0 ∨ x = 1) : ev_X9_copyHealths 400 W0 207 x y = rt 0 (wI W0 207 0 2) := by
  unfold ev_X9_copyHealths eX9_copyHealths_0
  rw [isIn_yes (by rcases h with rfl | rfl <;> decide) (by rcases h with rfl | rfl <;> decide), bd_rt, if_neg (by decide), show vR W0 207 21 = some 220 from by decide +kernel, ob_1, if_pos (by decide +kernel), if_pos (by decide +kernel)]
  unfold eX9_copyHealths_32 eX9_copyHealths_84
  rw [sq_eq]; exact if_neg (by decide +kernel)
theorem ok_1949 (xs : Nat → Int32) : gd (eL_law_1949 400 4 xs KR W0 0 207 222 223 0) AT BT := by
  unfold eL_law_1949 eL_law_2015
  simp only [y01, y02, g01, g02, if_true]
  generalize xs 1 = x; generalize xs 2 = y
  by_cases a : x = 0 ∨ x = 1
  · simp only [chC3 a, bd_rt, chR3 a]
    exact gd_ok (by decide +kernel)
  · have a0 : ¬ x = 0 := fun e => a (.inl e)
    have a1 : ¬ x = 1 := fun e => a (.inr e)
    simp only [chC2 a0 a1, bd_rt, chR2 (out01 a0 a1)]
    exact gd_ok (by decide +kernel)
theorem sbC {x y : Int32} (a : ¬ x = 0) (b : ¬ x = 1) : ev_L_storedBits 400 W0 0 x y 222 = rt 1 W0 := by
  unfold ev_L_storedBits eL_storedBits_0 ev_X8_storedBits eX8_storedBits_0
  rw [rr_no a b, bd_th, bd_th]; exact if_pos rfl
theorem sbR {x y : Int32} (h : x < 0 ∨ 1 < x) : ev_X9_storedBits 400 W0 207 x y = rt 0 WT := by
  unfold ev_X9_storedBits eX9_storedBits_0
  rw [isIn_no h, bd_rt, if_pos rfl]
  unfold eX9_storedBits_44
  rw [sq_eq]; exact if_neg (by decide +kernel)
theorem sbC3 {x y : Int32} (h : x = 0 ∨ x = 1) : ev_L_storedBits 400 W0 0 x y 222 = rt 2 W0 := by
  unfold ev_L_storedBits eL_storedBits_0 ev_X8_storedBits eX8_storedBits_0 eX8_storedBits_25
  rcases h with rfl | rfl
  · rw [show ev_X8_requireRow 400 W0 0 0 = rt (some 201) W0 from rfl, bd_rt, ob_1, if_pos (by decide +kernel), bd_th]
    exact (if_neg (by decide)).trans (if_pos rfl)
  · rw [show ev_X8_requireRow 400 W0 0 1 = rt (some 204) W0 from rfl, bd_rt, ob_1, if_pos (by decide +kernel), bd_th]
    exact (if_neg (by decide)).trans (if_pos rfl)
theorem sbR3 {x y : Int32} (h : x = 0 ∨ x = 1) : ev_X9_storedBits 400 W0 207 x y = rt 0 (wI W0 207 0 2) := by
  unfold ev_X9_storedBits eX9_storedBits_0
  rw [isIn_yes (by rcases h with rfl | rfl <;> decide) (by rcases h with rfl | rfl <;> decide), bd_rt, if_neg (by decide), show vR W0 207 21 = some 220 from by decide +kernel, ob_1, if_pos (by rcases h with rfl | rfl <;> decide +kernel), if_pos (by rcases h with rfl | rfl <;> decide +kernel)]
  unfold eX9_storedBits_39 eX9_storedBits_44
  rw [sq_eq]; exact if_neg (by decide +kernel)
theorem ok_2024 (xs : Nat → Int32) : gd (eL_law_2024 400 4 xs KR W0 0 207 222 223 0) AT BT := by
  unfold eL_law_2024
  simp only [y01, y02, g01, g02, if_true]
  generalize xs 1 = x; generalize xs 2 = y
  by_cases a : x = 0 ∨ x = 1
  · simp only [sbC3 a, bd_rt, sbR3 a]
    exact gd_ok (by decide +kernel)
  · have a0 : ¬ x = 0 := fun e => a (.inl e)
    have a1 : ¬ x = 1 := fun e => a (.inr e)
    simp only [sbC a0 a1, bd_rt, sbR (out01 a0 a1)]
    exact gd_ok (by decide +kernel)
theorem shC {x z : Int32} (a : ¬ x = 0) (b : ¬ x = 1) : ev_L_storeHealths 400 W0 0 x z 222 = rt 1 W0 := by
  unfold ev_L_storeHealths eL_storeHealths_0 ev_X8_storeHealths eX8_storeHealths_0
  rw [rr_no a b, bd_th, bd_th]; exact if_pos rfl
theorem shR {x z : Int32} (h : x < 0 ∨ 1 < x) : ev_X9_storeHealths 400 W0 207 x z = rt 0 WT := by
  unfold ev_X9_storeHealths eX9_storeHealths_0
  rw [isIn_no h, bd_rt, if_pos rfl]
  unfold eX9_storeHealths_15
  rw [sq_eq]; exact if_pos (by decide +kernel)
theorem ok_1865 (xs : Nat → Int32) : gd (eL_law_1865 400 4 xs KR W0 0 207 222 223 0) AT BT := by
  unfold eL_law_1865 eL_law_1886 eL_law_1913
  simp only [y01, y02, g01, g02, if_true]
  generalize xs 1 = x; generalize xs 2 = y
  by_cases hy : y = 0
  · simp only [hy, if_true]
    by_cases a : x = 0
    · subst a; exact gd_ok (by decide +kernel)
    by_cases b : x = 1
    · subst b; exact gd_ok (by decide +kernel)
    simp only [shC a b, bd_rt, shR (out01 a b)]
    exact gd_ok (by decide +kernel)
  · simp only [hy, if_false]
    by_cases a : x = 0
    · subst a; exact gd_ok (by decide +kernel)
    by_cases b : x = 1
    · subst b; exact gd_ok (by decide +kernel)
    simp only [shC a b, bd_rt, shR (out01 a b)]
    exact gd_ok (by decide +kernel)
