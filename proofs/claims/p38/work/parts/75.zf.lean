/-! sight: both ways of asking whether a wall is in the way are one -/
theorem ji_nat (k : Nat) : Int32.ofNat k = Int32.ofInt (k : Int) := Int32.ofInt_eq_ofNat.symm
theorem ji_lt {a b : Int} (h1 : -10000 ≤ a) (h2 : a ≤ 10000) (h3 : -10000 ≤ b) (h4 : b ≤ 10000) : Int32.ofInt a < Int32.ofInt b ↔ a < b := by
  rw [Int32.lt_iff_toInt_lt, Int32.toInt_ofInt_of_le (by omega) (by omega), Int32.toInt_ofInt_of_le (by omega) (by omega)]
theorem ji_le {a b : Int} (h1 : -10000 ≤ a) (h2 : a ≤ 10000) (h3 : -10000 ≤ b) (h4 : b ≤ 10000) : Int32.ofInt a ≤ Int32.ofInt b ↔ a ≤ b := by
  rw [Int32.le_iff_toInt_le, Int32.toInt_ofInt_of_le (by omega) (by omega), Int32.toInt_ofInt_of_le (by omega) (by omega)]
theorem ji_abs {a : Int} (h1 : -10000 ≤ a) (h2 : a ≤ 10000) : (if 0 ≤ Int32.ofInt a then Int32.ofInt a else 0 - Int32.ofInt a) = Int32.ofInt (a.natAbs : Int) := by
  by_cases h : 0 ≤ a
  · rw [if_pos (by exact (ji_le (a := 0) (by omega) (by omega) h1 h2).mpr h)]; congr 1; omega
  · rw [if_neg (show ¬ 0 ≤ Int32.ofInt a from fun e => h ((ji_le (a := 0) (by omega) (by omega) h1 h2).mp e)), Int32.zero_sub, ← Int32.ofInt_neg]; congr 1; omega
theorem mul_bd {x y : Int} {a b : Nat} (h : x.natAbs ≤ a) (g : y.natAbs ≤ b) : (x * y).natAbs ≤ a * b := by
  rw [Int.natAbs_mul]; exact Nat.mul_le_mul h g
def inwI (fd fr td tr : Int) : Bool := decide (¬ (1 ≤ fd ∧ 1 ≤ td) ∧ ¬ (fd ≤ -1 ∧ td ≤ -1) ∧ ¬ (1 ≤ fr ∧ 1 ≤ tr) ∧ ¬ (fr ≤ -1 ∧ tr ≤ -1) ∧ ((td - fd) * fr - (tr - fr) * fd).natAbs < (td - fd).natAbs + (tr - fr).natAbs)
def inw (C c a b : Nat) : Bool := inwI (2 * (((a / C : Nat) : Int) - ((c / C : Nat) : Int))) (2 * (((a % C : Nat) : Int) - ((c % C : Nat) : Int))) (2 * (((b / C : Nat) : Int) - ((c / C : Nat) : Int))) (2 * (((b % C : Nat) : Int) - ((c % C : Nat) : Int)))
def see (w : RW) (a b : Nat) : Bool := (List.range (nR w * nC w)).all fun c => !(decide (w (2 + c) = 1) && !decide (c = a) && !decide (c = b) && inw (nC w) c a b)
def bi (b : Bool) : Int32 := if b = true then 1 else 0
section
variable {n a : Nat} {V : VS} {w : RW}
theorem c_way112 {fd fr td tr : Int} (h1 : fd.natAbs ≤ 14) (h2 : fr.natAbs ≤ 14) (h3 : td.natAbs ≤ 14) (h4 : tr.natAbs ≤ 14) : eX3_isInWay_112 n V (Int32.ofInt fd) (Int32.ofInt fr) (Int32.ofInt td) (Int32.ofInt tr) = rt (if ((td - fd) * fr - (tr - fr) * fd).natAbs < (td - fd).natAbs + (tr - fr).natAbs then 1 else 0) V := by
  have b1 : ((td - fd) * fr).natAbs ≤ 28 * 14 := mul_bd (by omega) h2
  have b2 : ((tr - fr) * fd).natAbs ≤ 28 * 14 := mul_bd (by omega) h1
  unfold eX3_isInWay_112
  rw [← Int32.ofInt_sub, ← Int32.ofInt_sub, ← Int32.ofInt_mul, ← Int32.ofInt_mul, ← Int32.ofInt_sub, ji_abs (by omega) (by omega), ji_abs (by omega) (by omega), ji_abs (by omega) (by omega), ← Int32.ofInt_add]
  by_cases g : ((td - fd) * fr - (tr - fr) * fd).natAbs < (td - fd).natAbs + (tr - fr).natAbs
  · rw [if_neg (fun e => by have := (ji_le (by omega) (by omega) (by omega) (by omega)).mp e; omega), if_pos g]
  · rw [if_pos (by exact (ji_le (by omega) (by omega) (by omega) (by omega)).mpr (by omega)), if_neg g]
theorem ji_1 : (1 : Int32) = Int32.ofInt 1 := by decide +kernel
theorem ji_m1 : (-1 : Int32) = Int32.ofInt (-1) := by decide +kernel
theorem ji_0 : (0 : Int32) = Int32.ofInt 0 := by decide +kernel
theorem skip1 {α : Type} {p q : Prop} {_ : Decidable p} {_ : Decidable q} {A B : α} (h : ¬ (¬ p ∧ q)) : (if p then A else if q then B else A) = A := by
  by_cases g : p
  · rw [if_pos g]
  · rw [if_neg g, if_neg (fun x => h ⟨g, x⟩)]
theorem skip2 {α : Type} {p q : Prop} {_ : Decidable p} {_ : Decidable q} {A B : α} (h : ¬ (¬ p ∧ ¬ q)) : (if p then A else if q then A else B) = A := by
  by_cases g : p
  · rw [if_pos g]
  · rw [if_neg g, if_pos (Classical.not_not.mp (fun x => h ⟨g, x⟩))]
theorem hit1 {α : Type} {p q : Prop} {_ : Decidable p} {_ : Decidable q} {A B : α} (g : ¬ p) (h : q) : (if p then A else if q then B else A) = B := by
  rw [if_neg g, if_pos h]
theorem hit2 {α : Type} {p q : Prop} {_ : Decidable p} {_ : Decidable q} {A B : α} (g : ¬ p) (h : ¬ q) : (if p then A else if q then A else B) = B := by
  rw [if_neg g, if_neg h]
theorem c_way {fd fr td tr : Int} (h1 : fd.natAbs ≤ 14) (h2 : fr.natAbs ≤ 14) (h3 : td.natAbs ≤ 14) (h4 : tr.natAbs ≤ 14) : (if Int32.ofInt fd < 1 then eX3_isInWay_72 n V (Int32.ofInt fd) (Int32.ofInt fr) (Int32.ofInt td) (Int32.ofInt tr) else (if 1 ≤ Int32.ofInt td then rt 0 V else eX3_isInWay_72 n V (Int32.ofInt fd) (Int32.ofInt fr) (Int32.ofInt td) (Int32.ofInt tr))) = rt (bi (inwI fd fr td tr)) V := by
  have l1 : ∀ z : Int, z.natAbs ≤ 14 → (Int32.ofInt z < 1 ↔ z < 1) := fun z hz => by rw [ji_1]; exact ji_lt (by omega) (by omega) (by omega) (by omega)
  have l2 : ∀ z : Int, z.natAbs ≤ 14 → (1 ≤ Int32.ofInt z ↔ 1 ≤ z) := fun z hz => by rw [ji_1]; exact ji_le (by omega) (by omega) (by omega) (by omega)
  have l3 : ∀ z : Int, z.natAbs ≤ 14 → (-1 < Int32.ofInt z ↔ -1 < z) := fun z hz => by rw [ji_m1]; exact ji_lt (by omega) (by omega) (by omega) (by omega)
  by_cases P1 : 1 ≤ fd ∧ 1 ≤ td
  · rw [show inwI fd fr td tr = false from decide_eq_false (fun x => x.1 P1)]; exact hit1 (fun x => by have := (l1 fd h1).mp x; omega) ((l2 td h3).mpr P1.2)
  refine (skip1 (fun x => P1 ⟨by have := Int.not_lt.mp (fun y => x.1 ((l1 fd h1).mpr y)); omega, (l2 td h3).mp x.2⟩)).trans ?_
  unfold eX3_isInWay_72
  by_cases P2 : fd ≤ -1 ∧ td ≤ -1
  · rw [show inwI fd fr td tr = false from decide_eq_false (fun x => x.2.1 P2)]; exact hit2 (fun x => by have := (l3 fd h1).mp x; omega) (fun x => by have := (l3 td h3).mp x; omega)
  refine (skip2 (fun x => P2 ⟨by have := Int.not_lt.mp (fun y => x.1 ((l3 fd h1).mpr y)); omega, by have := Int.not_lt.mp (fun y => x.2 ((l3 td h3).mpr y)); omega⟩)).trans ?_
  unfold eX3_isInWay_86
  by_cases P3 : 1 ≤ fr ∧ 1 ≤ tr
  · rw [show inwI fd fr td tr = false from decide_eq_false (fun x => x.2.2.1 P3)]; exact hit1 (fun x => by have := (l1 fr h2).mp x; omega) ((l2 tr h4).mpr P3.2)
  refine (skip1 (fun x => P3 ⟨by have := Int.not_lt.mp (fun y => x.1 ((l1 fr h2).mpr y)); omega, (l2 tr h4).mp x.2⟩)).trans ?_
  unfold eX3_isInWay_98
  by_cases P4 : fr ≤ -1 ∧ tr ≤ -1
  · rw [show inwI fd fr td tr = false from decide_eq_false (fun x => x.2.2.2.1 P4)]; exact hit2 (fun x => by have := (l3 fr h2).mp x; omega) (fun x => by have := (l3 tr h4).mp x; omega)
  refine (skip2 (fun x => P4 ⟨by have := Int.not_lt.mp (fun y => x.1 ((l3 fr h2).mpr y)); omega, by have := Int.not_lt.mp (fun y => x.2 ((l3 tr h4).mpr y)); omega⟩)).trans ?_
  rw [c_way112 h1 h2 h3 h4]
  by_cases g : ((td - fd) * fr - (tr - fr) * fd).natAbs < (td - fd).natAbs + (tr - fr).natAbs
  · rw [if_pos g, show inwI fd fr td tr = true from decide_eq_true ⟨P1, P2, P3, P4, g⟩]; rfl
  · rw [if_neg g, show inwI fd fr td tr = false from decide_eq_false (fun x => g x.2.2.2.2)]; rfl
theorem c_isInWay (hW : WF w) (h : Rp a V w) {c x y : Nat} (hc : c < nR w * nC w) (hx : x < nR w * nC w) (hy : y < nR w * nC w) : ev_X3_isInWay n V (a + 1) (Int32.ofNat c) (Int32.ofNat x) (Int32.ofNat y) = rt (bi (inw (nC w) c x y)) V := by
  have rc := hW.rc; have r8 := hW.r8; have c8 := hW.c8
  have c1 := row_lt hW hc; have c2 := col_lt hW c; have x1 := row_lt hW hx; have x2 := col_lt hW x; have y1 := row_lt hW hy; have y2 := col_lt hW y
  have z1 := Nat.zero_le (c / nC w); have z2 := Nat.zero_le (x / nC w); have z3 := Nat.zero_le (y / nC w)
  unfold ev_X3_isInWay eX3_isInWay_0
  rw [c_rowOf hW h (by omega), bd_rt, c_rowOf hW h (by omega), bd_rt, c_columnOf hW h (by omega), bd_rt, c_columnOf hW h (by omega), bd_rt, c_rowOf hW h (by omega), bd_rt, c_rowOf hW h (by omega), bd_rt, c_columnOf hW h (by omega), bd_rt, c_columnOf hW h (by omega), bd_rt]
  have t : ∀ p q : Nat, 2 * (Int32.ofNat p - Int32.ofNat q) = Int32.ofInt (2 * ((p : Int) - (q : Int))) := fun p q => by
    rw [ji_nat, ji_nat, Int32.ofInt_mul, Int32.ofInt_sub]; rfl
  rw [t, t, t, t]
  exact c_way (by omega) (by omega) (by omega) (by omega)
theorem c_isClear (hn : 64 < n) (hL : zLay V) (ha : a ∈ zB) (hW : WF w) (h : Rp a V w) {x y : Nat} (hx : x < nR w * nC w) (hy : y < nR w * nC w) : ev_X3_isClear n V (a + 1) (Int32.ofNat x) (Int32.ofNat y) = rt (bi (see w x y)) V := by
  have rc := hW.rc; have r9 := hW.rc9
  unfold ev_X3_isClear eX3_isClear_0
  rw [zrc hL ha, ob_1, znc hL ha, h.rows, h.cols (by omega), hW.re, hW.ce, of_mul, if_neg (fun e => by have := (of_lt (by omega) (by omega)).mp e; omega)]
  have key := loop_any0 (V := V) (F := fun m k => elX3_isClear_21 n m V (a + 1) (Int32.ofNat x) (Int32.ofNat y) (Int32.ofNat (nR w * nC w)) (Int32.ofNat k)) (p := fun c => decide (w (2 + c) = 1) && !decide (c = x) && !decide (c = y) && inw (nC w) c x y) (N := nR w * nC w) (m := n) (y := 0) (z := 1) (fun m k hk => by
    show eX3_isClear_21 n (elX3_isClear_21 n m) V (a + 1) (Int32.ofNat x) (Int32.ofNat y) (Int32.ofNat (nR w * nC w)) (Int32.ofNat k) = _
    unfold eX3_isClear_21
    rw [if_neg (fun e => by have := (of_le (by omega) (by omega)).mp e; omega), zrc hL ha, ob_1, znc hL ha, if_pos (in_of (by omega) (by decide)), tn_of (by omega), h.cell hk (by omega), p1_of]
    by_cases g : w (2 + k) = 1
    · rw [if_pos g, decide_eq_true g]
      by_cases g1 : k = x
      · rw [if_pos (by rw [g1]), decide_eq_true g1]; rfl
      rw [if_neg (fun e => g1 ((of_inj (by omega) (by omega)).mp e)), decide_eq_false g1]
      by_cases g2 : k = y
      · rw [if_pos (by rw [g2]), decide_eq_true g2]; rfl
      rw [if_neg (fun e => g2 ((of_inj (by omega) (by omega)).mp e)), decide_eq_false g2, c_isInWay hW h hk hx hy, bd_rt]
      cases inw (nC w) k x y <;> rfl
    · rw [if_neg g, decide_eq_false g]; rfl) (fun m => by
    show eX3_isClear_21 n (elX3_isClear_21 n m) V (a + 1) (Int32.ofNat x) (Int32.ofNat y) (Int32.ofNat (nR w * nC w)) (Int32.ofNat (nR w * nC w)) = _
    unfold eX3_isClear_21
    rw [if_pos (Int32.le_refl _)]) (by omega)
  refine key.trans ?_
  unfold see bi
  rw [List.all_eq_not_any_not]
  simp only [Bool.not_not]
  cases (List.range (nR w * nC w)).any fun c => decide (w (2 + c) = 1) && !decide (c = x) && !decide (c = y) && inw (nC w) c x y <;> rfl
/-! the reference's way -/
theorem met_it {K : VS → Int32 → Int32 → Int32 → Int32 → Int32 → Int32 → Int32 → Int32 → Int32 → Rs Int32} {y4 y5 y6 y7 y8 y9 : Int32} {k p q : Nat} {z : Int} (hk : k < 4) (h1 : -10000 ≤ z) (h2 : z ≤ 10000) (e : (((y6 - y4) * ((y9 + ((Int32.ofNat k / 2) * 2)) - y5)) - ((y7 - y5) * ((y8 + ((Int32.ofNat k - Int32.ofNat k / 2 * 2) * 2)) - y4))) = Int32.ofInt z) : eX9_isMet_137 n K V y4 y5 y6 y7 y8 y9 (Int32.ofNat p) (Int32.ofNat q) (Int32.ofNat k) = K V y4 y5 y6 y7 y8 y9 (Int32.ofNat (p + if 0 < z then 1 else 0)) (Int32.ofNat (q + if z < 0 then 1 else 0)) (Int32.ofNat (k + 1)) := by
  unfold eX9_isMet_137
  rw [if_neg (fun x => by have := (of_le (a := 4) (by omega) (by omega)).mp x; omega), e]
  unfold eX9_isMet_194 eX9_isMet_209
  rw [p1_of, p1_of, p1_of, p0_of, p0_of]
  by_cases g : 0 < z
  · rw [if_neg (fun x => by have := (ji_le (b := 0) h1 h2 (by omega) (by omega)).mp x; omega), if_pos (by exact (ji_le (a := 0) (by omega) (by omega) h1 h2).mpr (by omega)), if_pos g, if_neg (by omega)]; rfl
  · rw [if_pos (by exact (ji_le (b := 0) h1 h2 (by omega) (by omega)).mpr (by omega)), if_neg g]
    by_cases g2 : z < 0
    · rw [if_neg (fun x => by have := (ji_le (a := 0) (by omega) (by omega) h1 h2).mp x; omega), if_pos g2]; rfl
    · rw [if_pos (by exact (ji_le (a := 0) (by omega) (by omega) h1 h2).mpr (by omega)), if_neg g2]; rfl
theorem sides {X Y c : Int} (p q : Nat) (hp : p = (if 0 < c - X + Y then 1 else 0) + (if 0 < c + X + Y then 1 else 0) + (if 0 < c - X - Y then 1 else 0) + (if 0 < c + X - Y then 1 else 0)) (hq : q = (if c - X + Y < 0 then 1 else 0) + (if c + X + Y < 0 then 1 else 0) + (if c - X - Y < 0 then 1 else 0) + (if c + X - Y < 0 then 1 else 0)) : (0 < p ∧ 0 < q) ↔ c.natAbs < Y.natAbs + X.natAbs := by
  have a : ∀ z : Int, (if 0 < z then 1 else 0 : Nat) ≤ 1 := fun z => by split <;> omega
  have b : ∀ z : Int, (if z < 0 then 1 else 0 : Nat) ≤ 1 := fun z => by split <;> omega
  have a1 : ∀ z : Int, 0 < z → (if 0 < z then 1 else 0 : Nat) = 1 := fun z h => if_pos h
  have a0 : ∀ z : Int, ¬ 0 < z → (if 0 < z then 1 else 0 : Nat) = 0 := fun z h => if_neg h
  have b1 : ∀ z : Int, z < 0 → (if z < 0 then 1 else 0 : Nat) = 1 := fun z h => if_pos h
  have b0 : ∀ z : Int, ¬ z < 0 → (if z < 0 then 1 else 0 : Nat) = 0 := fun z h => if_neg h
  have P : 0 < p ↔ (0 < c - X + Y ∨ 0 < c + X + Y ∨ 0 < c - X - Y ∨ 0 < c + X - Y) := by
    rw [hp]
    by_cases g1 : 0 < c - X + Y
    · rw [a1 _ g1]; omega
    by_cases g2 : 0 < c + X + Y
    · rw [a1 _ g2]; omega
    by_cases g3 : 0 < c - X - Y
    · rw [a1 _ g3]; omega
    by_cases g4 : 0 < c + X - Y
    · rw [a1 _ g4]; omega
    rw [a0 _ g1, a0 _ g2, a0 _ g3, a0 _ g4]; omega
  have Q : 0 < q ↔ (c - X + Y < 0 ∨ c + X + Y < 0 ∨ c - X - Y < 0 ∨ c + X - Y < 0) := by
    rw [hq]
    by_cases g1 : c - X + Y < 0
    · rw [b1 _ g1]; omega
    by_cases g2 : c + X + Y < 0
    · rw [b1 _ g2]; omega
    by_cases g3 : c - X - Y < 0
    · rw [b1 _ g3]; omega
    by_cases g4 : c + X - Y < 0
    · rw [b1 _ g4]; omega
    rw [b0 _ g1, b0 _ g2, b0 _ g3, b0 _ g4]; omega
  rw [P, Q]; omega
theorem r_met128 (hn : 5 ≤ n) {fd fr td tr ax ay bx by' lf tp : Int} (h1 : fd.natAbs ≤ 14) (h2 : fr.natAbs ≤ 14) (h3 : td.natAbs ≤ 14) (h4 : tr.natAbs ≤ 14) (e1 : bx - ax = tr - fr) (e2 : by' - ay = td - fd) (e3 : tp - ay = -fd - 1) (e4 : lf - ax = -fr - 1) : eX9_isMet_128 n V (Int32.ofInt ax) (Int32.ofInt ay) (Int32.ofInt bx) (Int32.ofInt by') (Int32.ofInt lf) (Int32.ofInt tp) = rt (if ((td - fd) * fr - (tr - fr) * fd).natAbs < (td - fd).natAbs + (tr - fr).natAbs then 1 else 0) V := by
  obtain ⟨m, rfl⟩ : ∃ m, n = m + 5 := ⟨n - 5, by omega⟩
  generalize hX : tr - fr = X at e1
  generalize hY : td - fd = Y at e2
  generalize hc : Y * fr - X * fd = c
  have bX : X.natAbs ≤ 28 := by omega
  have bY : Y.natAbs ≤ 28 := by omega
  have bc1 : (Y * fr).natAbs ≤ 28 * 14 := mul_bd bY h2
  have bc2 : (X * fd).natAbs ≤ 28 * 14 := mul_bd bX h1
  have sd : ∀ (k : Nat) (s t : Int), (Int32.ofNat k / 2) * 2 = Int32.ofInt s → (Int32.ofNat k - Int32.ofNat k / 2 * 2) * 2 = Int32.ofInt t → (((Int32.ofInt bx - Int32.ofInt ax) * ((Int32.ofInt tp + ((Int32.ofNat k / 2) * 2)) - Int32.ofInt ay)) - ((Int32.ofInt by' - Int32.ofInt ay) * ((Int32.ofInt lf + ((Int32.ofNat k - Int32.ofNat k / 2 * 2) * 2)) - Int32.ofInt ax))) = Int32.ofInt (X * (-fd - 1 + s) - Y * (-fr - 1 + t)) := fun k s t a b => by
    rw [b, a]
    simp only [← Int32.ofInt_add, ← Int32.ofInt_sub, ← Int32.ofInt_mul]
    rw [e1, e2, show tp + s - ay = -fd - 1 + s by omega, show lf + t - ax = -fr - 1 + t by omega]
  have v0 : X * (-fd - 1 + 0) - Y * (-fr - 1 + 0) = c - X + Y := by rw [← hc]; simp only [Int.mul_add, Int.mul_sub, Int.mul_neg, Int.mul_one, Int.mul_zero]; omega
  have v1 : X * (-fd - 1 + 0) - Y * (-fr - 1 + 2) = c - X - Y := by
    rw [← hc, show -fr - 1 + 2 = -fr + 1 by omega]; simp only [Int.mul_add, Int.mul_sub, Int.mul_neg, Int.mul_one, Int.mul_zero]; omega
  have v2 : X * (-fd - 1 + 2) - Y * (-fr - 1 + 0) = c + X + Y := by
    rw [← hc, show -fd - 1 + 2 = -fd + 1 by omega]; simp only [Int.mul_add, Int.mul_sub, Int.mul_neg, Int.mul_one, Int.mul_zero]; omega
  have v3 : X * (-fd - 1 + 2) - Y * (-fr - 1 + 2) = c + X - Y := by
    rw [← hc, show -fd - 1 + 2 = -fd + 1 by omega, show -fr - 1 + 2 = -fr + 1 by omega]; simp only [Int.mul_add, Int.mul_sub, Int.mul_neg, Int.mul_one, Int.mul_zero]; omega
  have s0 := sd 0 0 0 (by decide +kernel) (by decide +kernel); rw [v0] at s0
  have s1 := sd 1 0 2 (by decide +kernel) (by decide +kernel); rw [v1] at s1
  have s2 := sd 2 2 0 (by decide +kernel) (by decide +kernel); rw [v2] at s2
  have s3 := sd 3 2 2 (by decide +kernel) (by decide +kernel); rw [v3] at s3
  unfold eX9_isMet_128
  show eX9_isMet_137 (m + 5) (elX9_isMet_137 (m + 5) (m + 4)) V _ _ _ _ _ _ (Int32.ofNat 0) (Int32.ofNat 0) (Int32.ofNat 0) = _
  rw [met_it (by omega) (by omega) (by omega) s0]
  show eX9_isMet_137 (m + 5) (elX9_isMet_137 (m + 5) (m + 3)) V _ _ _ _ _ _ _ _ (Int32.ofNat 1) = _
  rw [met_it (by omega) (by omega) (by omega) s1]
  show eX9_isMet_137 (m + 5) (elX9_isMet_137 (m + 5) (m + 2)) V _ _ _ _ _ _ _ _ (Int32.ofNat 2) = _
  rw [met_it (by omega) (by omega) (by omega) s2]
  show eX9_isMet_137 (m + 5) (elX9_isMet_137 (m + 5) (m + 1)) V _ _ _ _ _ _ _ _ (Int32.ofNat 3) = _
  rw [met_it (by omega) (by omega) (by omega) s3]
  show eX9_isMet_137 (m + 5) (elX9_isMet_137 (m + 5) m) V _ _ _ _ _ _ _ _ (Int32.ofNat 4) = _
  have key := sides (X := X) (Y := Y) (c := c) _ _ rfl rfl
  generalize hp : (0 + (if 0 < c - X + Y then 1 else 0) + (if 0 < c - X - Y then 1 else 0) + (if 0 < c + X + Y then 1 else 0) + (if 0 < c + X - Y then 1 else 0) : Nat) = p
  generalize hq : (0 + (if c - X + Y < 0 then 1 else 0) + (if c - X - Y < 0 then 1 else 0) + (if c + X + Y < 0 then 1 else 0) + (if c + X - Y < 0 then 1 else 0) : Nat) = q
  have ep : p = (if 0 < c - X + Y then 1 else 0) + (if 0 < c + X + Y then 1 else 0) + (if 0 < c - X - Y then 1 else 0) + (if 0 < c + X - Y then 1 else 0) := by omega
  have eq : q = (if c - X + Y < 0 then 1 else 0) + (if c + X + Y < 0 then 1 else 0) + (if c - X - Y < 0 then 1 else 0) + (if c + X - Y < 0 then 1 else 0) := by omega
  rw [← ep, ← eq] at key
  have hp4 : p ≤ 4 := by rw [ep]; split <;> split <;> split <;> split <;> omega
  have hq4 : q ≤ 4 := by rw [eq]; split <;> split <;> split <;> split <;> omega
  unfold eX9_isMet_137
  rw [if_pos (by decide)]
  by_cases g : 0 < p
  · rw [if_neg (fun x => by have := (of_le (b := 0) (by omega) (by omega)).mp x; omega)]
    by_cases g2 : 0 < q
    · rw [if_neg (fun x => by have := (of_le (b := 0) (by omega) (by omega)).mp x; omega), if_pos (key.mp ⟨g, g2⟩)]
    · rw [if_pos (by exact (of_le (b := 0) (by omega) (by omega)).mpr (by omega)), if_neg (fun x => g2 (key.mpr x).2)]
  · rw [if_pos (by exact (of_le (b := 0) (by omega) (by omega)).mpr (by omega)), if_neg (fun x => g (key.mpr x).1)]
theorem ji_2 : (2 : Int32) = Int32.ofInt 2 := by decide +kernel
theorem r_met76 (hn : 5 ≤ n) {fd fr td tr ax ay bx by' lf tp : Int} (h1 : fd.natAbs ≤ 14) (h2 : fr.natAbs ≤ 14) (h3 : td.natAbs ≤ 14) (h4 : tr.natAbs ≤ 14) (e1 : bx - ax = tr - fr) (e2 : by' - ay = td - fd) (e3 : tp - ay = -fd - 1) (e4 : lf - ax = -fr - 1) (b1 : ax.natAbs ≤ 100) (b2 : ay.natAbs ≤ 100) (b3 : bx.natAbs ≤ 100) (b4 : by'.natAbs ≤ 100) (b5 : lf.natAbs ≤ 100) (b6 : tp.natAbs ≤ 100) : (if Int32.ofInt lf < Int32.ofInt ax then eX9_isMet_76 n V (Int32.ofInt ax) (Int32.ofInt ay) (Int32.ofInt bx) (Int32.ofInt by') (Int32.ofInt lf) (Int32.ofInt tp) else (if Int32.ofInt bx ≤ Int32.ofInt lf then rt 0 V else eX9_isMet_76 n V (Int32.ofInt ax) (Int32.ofInt ay) (Int32.ofInt bx) (Int32.ofInt by') (Int32.ofInt lf) (Int32.ofInt tp))) = rt (bi (inwI fd fr td tr)) V := by
  have lt : ∀ y z : Int, y.natAbs ≤ 1000 → z.natAbs ≤ 1000 → (Int32.ofInt y < Int32.ofInt z ↔ y < z) := fun y z hy hz => ji_lt (by omega) (by omega) (by omega) (by omega)
  have le : ∀ y z : Int, y.natAbs ≤ 1000 → z.natAbs ≤ 1000 → (Int32.ofInt y ≤ Int32.ofInt z ↔ y ≤ z) := fun y z hy hz => ji_le (by omega) (by omega) (by omega) (by omega)
  by_cases P4 : fr ≤ -1 ∧ tr ≤ -1
  · rw [show inwI fd fr td tr = false from decide_eq_false (fun x => x.2.2.2.1 P4)]; exact hit1 (fun x => by have := (lt lf ax (by omega) (by omega)).mp x; omega) ((le bx lf (by omega) (by omega)).mpr (by omega))
  refine (skip1 (fun x => P4 ⟨by have := Int.not_lt.mp (fun y => x.1 ((lt lf ax (by omega) (by omega)).mpr y)); omega, by have := (le bx lf (by omega) (by omega)).mp x.2; omega⟩)).trans ?_
  unfold eX9_isMet_76
  rw [ji_2, ← Int32.ofInt_add]
  by_cases P3 : 1 ≤ fr ∧ 1 ≤ tr
  · rw [show inwI fd fr td tr = false from decide_eq_false (fun x => x.2.2.1 P3)]; exact hit1 (fun x => by have := (lt ax (lf + 2) (by omega) (by omega)).mp x; omega) ((le (lf + 2) bx (by omega) (by omega)).mpr (by omega))
  refine (skip1 (fun x => P3 ⟨by have := Int.not_lt.mp (fun y => x.1 ((lt ax (lf + 2) (by omega) (by omega)).mpr y)); omega, by have := (le (lf + 2) bx (by omega) (by omega)).mp x.2; omega⟩)).trans ?_
  unfold eX9_isMet_94
  by_cases P2 : fd ≤ -1 ∧ td ≤ -1
  · rw [show inwI fd fr td tr = false from decide_eq_false (fun x => x.2.1 P2)]; exact hit1 (fun x => by have := (lt tp ay (by omega) (by omega)).mp x; omega) ((le by' tp (by omega) (by omega)).mpr (by omega))
  refine (skip1 (fun x => P2 ⟨by have := Int.not_lt.mp (fun y => x.1 ((lt tp ay (by omega) (by omega)).mpr y)); omega, by have := (le by' tp (by omega) (by omega)).mp x.2; omega⟩)).trans ?_
  unfold eX9_isMet_108
  rw [ji_2, ← Int32.ofInt_add]
  by_cases P1 : 1 ≤ fd ∧ 1 ≤ td
  · rw [show inwI fd fr td tr = false from decide_eq_false (fun x => x.1 P1)]; exact hit2 (fun x => by have := (lt ay (tp + 2) (by omega) (by omega)).mp x; omega) (fun x => by have := (lt by' (tp + 2) (by omega) (by omega)).mp x; omega)
  refine (skip2 (fun x => P1 ⟨by have := Int.not_lt.mp (fun y => x.1 ((lt ay (tp + 2) (by omega) (by omega)).mpr y)); omega, by have := Int.not_lt.mp (fun y => x.2 ((lt by' (tp + 2) (by omega) (by omega)).mpr y)); omega⟩)).trans ?_
  rw [r_met128 hn h1 h2 h3 h4 e1 e2 e3 e4]
  by_cases g : ((td - fd) * fr - (tr - fr) * fd).natAbs < (td - fd).natAbs + (tr - fr).natAbs
  · rw [if_pos g, show inwI fd fr td tr = true from decide_eq_true ⟨P1, P2, P3, P4, g⟩]; rfl
  · rw [if_neg g, show inwI fd fr td tr = false from decide_eq_false (fun x => g x.2.2.2.2)]; rfl
theorem r_isMet (hn : 5 ≤ n) (hL : zLay V) (hQ : Qr V w) (hW : WF w) {c x y : Nat} (hc : c < nR w * nC w) (hx : x < nR w * nC w) (hy : y < nR w * nC w) : ev_X9_isMet n V 207 (Int32.ofNat c) (Int32.ofNat x) (Int32.ofNat y) = rt (bi (inw (nC w) c x y)) V := by
  have rc := hW.rc; have r8 := hW.r8; have c8 := hW.c8
  have c1 := row_lt hW hc; have c2 := col_lt hW c; have x1 := row_lt hW hx; have x2 := col_lt hW x; have y1 := row_lt hW hy; have y2 := col_lt hW y
  have z1 := Nat.zero_le (c / nC w); have z2 := Nat.zero_le (x / nC w); have z3 := Nat.zero_le (y / nC w)
  unfold ev_X9_isMet eX9_isMet_0
  rw [r_column hL hQ hW (by omega), bd_rt, r_row hL hQ hW (by omega), bd_rt, r_column hL hQ hW (by omega), bd_rt, r_row hL hQ hW (by omega), bd_rt, r_column hL hQ hW (by omega), bd_rt, r_row hL hQ hW (by omega), bd_rt]
  have t0 : ∀ p : Nat, 2 * Int32.ofNat p = Int32.ofInt (2 * (p : Int)) := fun p => by rw [ji_nat, Int32.ofInt_mul]; rfl
  have t1 : ∀ z : Int, Int32.ofInt z + 1 = Int32.ofInt (z + 1) := fun z => by rw [Int32.ofInt_add]; rfl
  rw [t0, t0, t0, t0, t0, t0, t1, t1, t1, t1]
  exact r_met76 hn (by omega) (by omega) (by omega) (by omega) (by omega) (by omega) (by omega) (by omega) (by omega) (by omega) (by omega) (by omega) (by omega) (by omega)
theorem r_sees (hn : 64 < n) (hL : zLay V) (hQ : Qr V w) (hW : WF w) {x y : Nat} (hx : x < nR w * nC w) (hy : y < nR w * nC w) : ev_X9_sees n V 207 (Int32.ofNat x) (Int32.ofNat y) = rt (bi (see w x y)) V := by
  have rc := hW.rc; have r9 := hW.rc9
  obtain ⟨g0, e0⟩ := r_v hL hQ (k := 0) (x := 0) (by decide) rfl
  obtain ⟨g1, e1⟩ := r_v hL hQ (k := 1) (x := 1) (by decide) rfl
  unfold ev_X9_sees eX9_sees_0
  rw [r71 hL, ob_1, if_pos g0, ob_1, if_pos g1, e0, e1, hW.re, hW.ce, of_mul]
  have key := loop_any0 (V := V) (F := fun m k => elX9_sees_17 n m V 207 (Int32.ofNat x) (Int32.ofNat y) (Int32.ofNat (nR w * nC w)) (Int32.ofNat k)) (p := fun c => decide (w (2 + c) = 1) && !decide (c = x) && !decide (c = y) && inw (nC w) c x y) (N := nR w * nC w) (m := n) (y := 0) (z := 1) (fun m k hk => by
    show eX9_sees_17 n (elX9_sees_17 n m) V 207 (Int32.ofNat x) (Int32.ofNat y) (Int32.ofNat (nR w * nC w)) (Int32.ofNat k) = _
    unfold eX9_sees_17
    obtain ⟨gk, ek⟩ := r_gc hL hQ (c := k) (by omega)
    rw [if_neg (fun e => by have := (of_le (by omega) (by omega)).mp e; omega), r71 hL, ob_1, if_pos gk, ek, p1_of]
    by_cases g : w (2 + k) = 1
    · rw [if_pos g, decide_eq_true g]
      by_cases g1 : k = x
      · rw [if_pos (by rw [g1]), decide_eq_true g1]; rfl
      rw [if_neg (fun e => g1 ((of_inj (by omega) (by omega)).mp e)), decide_eq_false g1]
      by_cases g2 : k = y
      · rw [if_pos (by rw [g2]), decide_eq_true g2]; rfl
      rw [if_neg (fun e => g2 ((of_inj (by omega) (by omega)).mp e)), decide_eq_false g2, r_isMet (by omega) hL hQ hW hk hx hy, bd_rt]
      cases inw (nC w) k x y <;> rfl
    · rw [if_neg g, decide_eq_false g]; rfl) (fun m => by
    show eX9_sees_17 n (elX9_sees_17 n m) V 207 (Int32.ofNat x) (Int32.ofNat y) (Int32.ofNat (nR w * nC w)) (Int32.ofNat (nR w * nC w)) = _
    unfold eX9_sees_17
    rw [if_pos (Int32.le_refl _)]) (by omega)
  refine key.trans ?_
  unfold see bi
  rw [List.all_eq_not_any_not]
  simp only [Bool.not_not]
  cases (List.range (nR w * nC w)).any fun c => decide (w (2 + c) = 1) && !decide (c = x) && !decide (c = y) && inw (nC w) c x y <;> rfl
end
