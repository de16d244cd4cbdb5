/-! what holds of a row, and what it answers -/
def ub (j : Nat) : Nat := [1, 3, 63, 18, 6, 1, 14, 1, 2, 1, 1].getD j 0
def WF (w : RW) : Prop :=
  (Nb (w 0) 8 ∧ 3 ≤ nR w) ∧ (Nb (w 1) 8 ∧ 3 ≤ nC w) ∧ (∀ c, c < nR w * nC w → Nb (w (2 + c)) 4) ∧ Nb (w 66) 8
  ∧ (∀ u, u < nU w → ∀ j, j < 11 → Nb (w (67 + 11 * u + j)) (ub j))
  ∧ (∀ u, u < nU w → (w (67 + 11 * u + 2)).toNatClampNeg < nR w * nC w)
  ∧ (∀ u, u < nU w → Nb (w (292 + u)) 63 ∧ (w (292 + u)).toNatClampNeg < nR w * nC w)
  ∧ Nb (w 157) 8 ∧ nO w ≤ nU w ∧ (∀ i, i < nO w → Nb (w (158 + i)) 7 ∧ (w (158 + i)).toNatClampNeg < nU w)
  ∧ (∀ i j, i < j → j < nO w → w (158 + i) ≠ w (158 + j))
  ∧ Nb (w 167) 2 ∧ Nb (w 168) 40
theorem WF.r0 {w : RW} (h : WF w) : Nb (w 0) 8 := h.1.1
theorem WF.r3 {w : RW} (h : WF w) : 3 ≤ nR w := h.1.2
theorem WF.r8 {w : RW} (h : WF w) : nR w ≤ 8 := h.r0.le
theorem WF.c0 {w : RW} (h : WF w) : Nb (w 1) 8 := h.2.1.1
theorem WF.c3 {w : RW} (h : WF w) : 3 ≤ nC w := h.2.1.2
theorem WF.c8 {w : RW} (h : WF w) : nC w ≤ 8 := h.c0.le
theorem WF.re {w : RW} (h : WF w) : w 0 = Int32.ofNat (nR w) := h.r0.eq
theorem WF.ce {w : RW} (h : WF w) : w 1 = Int32.ofNat (nC w) := h.c0.eq
theorem WF.ue {w : RW} (h : WF w) : w 66 = Int32.ofNat (nU w) := h.2.2.2.1.eq
theorem WF.u8 {w : RW} (h : WF w) : nU w ≤ 8 := h.2.2.2.1.le
theorem WF.g {w : RW} (h : WF w) {c : Nat} (hc : c < nR w * nC w) : Nb (w (2 + c)) 4 := h.2.2.1 c hc
theorem WF.f {w : RW} (h : WF w) {u j : Nat} (hu : u < nU w) (hj : j < 11) : Nb (w (67 + 11 * u + j)) (ub j) := h.2.2.2.2.1 u hu j hj
theorem WF.cl {w : RW} (h : WF w) {u : Nat} (hu : u < nU w) : (w (67 + 11 * u + 2)).toNatClampNeg < nR w * nC w := h.2.2.2.2.2.1 u hu
theorem WF.fc {w : RW} (h : WF w) {u : Nat} (hu : u < nU w) : Nb (w (292 + u)) 63 ∧ (w (292 + u)).toNatClampNeg < nR w * nC w := h.2.2.2.2.2.2.1 u hu
theorem WF.oe {w : RW} (h : WF w) : w 157 = Int32.ofNat (nO w) := h.2.2.2.2.2.2.2.1.eq
theorem WF.o8 {w : RW} (h : WF w) : nO w ≤ nU w := h.2.2.2.2.2.2.2.2.1
theorem WF.o {w : RW} (h : WF w) {i : Nat} (hi : i < nO w) : Nb (w (158 + i)) 7 ∧ (w (158 + i)).toNatClampNeg < nU w := h.2.2.2.2.2.2.2.2.2.1 i hi
theorem WF.od {w : RW} (h : WF w) {i j : Nat} (hi : i < j) (hj : j < nO w) : w (158 + i) ≠ w (158 + j) := h.2.2.2.2.2.2.2.2.2.2.1 i j hi hj
theorem WF.a {w : RW} (h : WF w) : Nb (w 167) 2 := h.2.2.2.2.2.2.2.2.2.2.2.1
theorem WF.e {w : RW} (h : WF w) : Nb (w 168) 40 := h.2.2.2.2.2.2.2.2.2.2.2.2
theorem WF.ee {w : RW} (h : WF w) : w 168 = Int32.ofNat (nE w) := h.e.eq
theorem WF.e40 {w : RW} (h : WF w) : nE w ≤ 40 := h.e.le
theorem WF.rc {w : RW} (h : WF w) : nR w * nC w ≤ 64 := Nat.mul_le_mul h.r8 h.c8
theorem WF.rc9 {w : RW} (h : WF w) : 9 ≤ nR w * nC w := Nat.mul_le_mul h.r3 h.c3
/-- loops over small ranges -/
theorem loop_any {V : VS} {F : Nat → Nat → Rs Int32} {p : Nat → Bool} {N : Nat} {y z : Int32} (hs : ∀ m k, k < N → F (m + 1) k = if p k = true then rt y V else F m (k + 1)) (he : ∀ m, F (m + 1) N = rt z V) : ∀ d m k, k + d = N → d < m → F m k = rt (if (List.range' k d).any p = true then y else z) V
  | 0, m + 1, k, e, _ => by
    have : k = N := by omega
    subst this
    rw [he m]; rfl
  | d + 1, m + 1, k, e, h => by
    rw [hs m k (by omega), List.range'_succ, List.any_cons]
    by_cases g : p k = true
    · rw [if_pos g, g, Bool.true_or, if_pos rfl]
    · have g' : p k = false := by simpa using g
      rw [if_neg g, loop_any hs he d m (k + 1) (by omega) (by omega), g', Bool.false_or]
theorem loop_any0 {V : VS} {F : Nat → Nat → Rs Int32} {p : Nat → Bool} {N m : Nat} {y z : Int32} (hs : ∀ m k, k < N → F (m + 1) k = if p k = true then rt y V else F m (k + 1)) (he : ∀ m, F (m + 1) N = rt z V) (hm : N < m) : F m 0 = rt (if (List.range N).any p = true then y else z) V := by
  rw [List.range_eq_range']; exact loop_any hs he N m 0 (by omega) hm
theorem loop_find {V : VS} {F : Nat → Nat → Rs Int32} {p : Nat → Bool} {N : Nat} (hs : ∀ m k, k < N → F (m + 1) k = if p k = true then rt (Int32.ofNat k) V else F m (k + 1)) (he : ∀ m, F (m + 1) N = rt (-1) V) : ∀ d m k, k + d = N → d < m → ((List.range' k d).any p = false ∧ F m k = rt (-1) V) ∨ ∃ j, k ≤ j ∧ j < N ∧ p j = true ∧ (∀ i, k ≤ i → i < j → p i = false) ∧ F m k = rt (Int32.ofNat j) V
  | 0, m + 1, k, e, _ => by
    have : k = N := by omega
    subst this
    exact .inl ⟨rfl, he m⟩
  | d + 1, m + 1, k, e, h => by
    rw [hs m k (by omega)]
    by_cases g : p k = true
    · exact .inr ⟨k, Nat.le_refl k, by omega, g, fun i a b => by omega, by rw [if_pos g]⟩
    · rw [if_neg g, List.range'_succ, List.any_cons]
      have g' : p k = false := by simpa using g
      rcases loop_find hs he d m (k + 1) (by omega) (by omega) with ⟨a, b⟩ | ⟨j, a, b, c, q, f⟩
      · exact .inl ⟨by rw [g', Bool.false_or]; exact a, b⟩
      · exact .inr ⟨j, by omega, b, c, fun i x y => by
          by_cases t : i = k
          · rw [t]; exact g'
          · exact q i (by omega) y, f⟩
theorem loop_count {V : VS} {F : Nat → Nat → Nat → Rs Int32} {p : Nat → Bool} {N : Nat} (hs : ∀ m k c, k < N → F (m + 1) k c = F m (k + 1) (c + if p k = true then 1 else 0)) (he : ∀ m c, F (m + 1) N c = rt (Int32.ofNat c) V) : ∀ d m k c, k + d = N → d < m → F m k c = rt (Int32.ofNat (c + (List.range' k d).countP p)) V
  | 0, m + 1, k, c, e, _ => by
    have : k = N := by omega
    subst this
    rw [he m]; rfl
  | d + 1, m + 1, k, c, e, h => by
    rw [hs m k c (by omega), loop_count hs he d m (k + 1) _ (by omega) (by omega), List.range'_succ, List.countP_cons]
    congr 2; omega
/-! answers of a row -/
def dead (w : RW) (u : Nat) : Bool := decide (w (67 + 11 * u + 3) ≤ 0)
def hl (w : RW) (t : Int32) : Bool := (List.range (nU w)).any fun u => decide (w (67 + 11 * u) = t) && !dead w u
def goB (w : RW) : Bool := hl w 0 && hl w 1
def cnd (w : RW) : Bool := !decide (w 156 ≤ 0) && goB w
def occ (w : RW) (c : Int32) : Bool := (List.range (nU w)).any fun u => !dead w u && decide (w (67 + 11 * u + 2) = c)
def onc (w : RW) (c : Int32) : Bool := (List.range (nU w)).any fun u => decide (w (67 + 11 * u + 2) = c)
def dif (p q : Nat) : Nat := (p - q) + (q - p)
def dst (w : RW) (a b : Nat) : Nat := max (dif (a / nC w) (b / nC w)) (dif (a % nC w) (b % nC w))
def vrt (w : RW) (c o : Nat) : Int32 := if o / nC w < c / nC w then w (2 + (c - nC w)) else if c / nC w < o / nC w then w (2 + (c + nC w)) else 0
def hrz (w : RW) (c o : Nat) : Int32 := if o % nC w < c % nC w then w (2 + (c - 1)) else if c % nC w < o % nC w then w (2 + (c + 1)) else 0
def cov (w : RW) (c o : Nat) : Nat := if vrt w c o = 1 ∨ hrz w c o = 1 then 2 else if vrt w c o = 2 ∨ hrz w c o = 2 then 1 else 0
/-- the neighbor in a direction -/
def nbr (w : RW) (c d : Nat) : Option Nat :=
  if d = 0 then (if 0 < c / nC w then some (c - nC w) else none)
  else if d = 1 then (if c % nC w + 1 < nC w then some (c + 1) else none)
  else if d = 2 then (if c / nC w + 1 < nR w then some (c + nC w) else none)
  else (if 0 < c % nC w then some (c - 1) else none)
def oi (r : Option Nat) : Int32 := match r with
  | none => -1
  | some c => Int32.ofNat c
theorem row_lt {w : RW} (h : WF w) {c : Nat} (hc : c < nR w * nC w) : c / nC w < nR w := Nat.div_lt_of_lt_mul (by rw [Nat.mul_comm]; exact hc)
theorem col_lt {w : RW} (h : WF w) (c : Nat) : c % nC w < nC w := Nat.mod_lt _ (by have := h.c3; omega)
theorem c_split {w : RW} (c : Nat) : c = nC w * (c / nC w) + c % nC w := (Nat.div_add_mod c (nC w)).symm
theorem up_in {w : RW} {c : Nat} (h : 0 < c / nC w) : nC w ≤ c := by
  have e := c_split (w := w) c
  have : nC w * 1 ≤ nC w * (c / nC w) := Nat.mul_le_mul_left _ h
  omega
theorem dn_in {w : RW} (hW : WF w) {c : Nat} (h : c / nC w + 1 < nR w) : c + nC w < nR w * nC w := by
  have e := c_split (w := w) c
  have l := col_lt hW c
  have : nC w * (c / nC w + 2) ≤ nC w * nR w := Nat.mul_le_mul_left _ h
  rw [Nat.mul_add] at this
  rw [Nat.mul_comm (nR w)]; omega
theorem rt_in {w : RW} {c : Nat} (hc : c < nR w * nC w) (h : c % nC w + 1 < nC w) : c + 1 < nR w * nC w := by
  have e := c_split (w := w) c
  by_cases g : c + 1 < nR w * nC w
  · exact g
  · exfalso
    have e2 : c + 1 = nC w * nR w := by rw [Nat.mul_comm]; omega
    have e3 : (c + 1) % nC w = 0 := by rw [e2]; exact Nat.mul_mod_right _ _
    have e4 : (c + 1) % nC w = c % nC w + 1 := by
      rw [Nat.add_mod, Nat.mod_eq_of_lt (by omega : 1 < nC w)]; exact Nat.mod_eq_of_lt h
    omega
theorem nbr_in {w : RW} (hW : WF w) {c d m : Nat} (hc : c < nR w * nC w) (h : nbr w c d = some m) : m < nR w * nC w := by
  unfold nbr at h
  split at h
  · split at h
    · cases h; omega
    · cases h
  split at h
  · split at h
    · rename_i g; cases h; exact rt_in hc g
    · cases h
  split at h
  · split at h
    · rename_i g; cases h; exact dn_in hW g
    · cases h
  · split at h
    · cases h; omega
    · cases h
theorem s8_0 : ∀ p, p < 8 → ∀ q, q < 8 → (Int32.ofNat p - Int32.ofNat q = 0 ↔ p = q) := by decide +kernel
theorem s8_1 : ∀ p, p < 8 → ∀ q, q < 8 → (0 ≤ Int32.ofNat p - Int32.ofNat q ↔ q ≤ p) := by decide +kernel
theorem s8_2 : ∀ p, p < 8 → ∀ q, q < 8 → (if 0 ≤ Int32.ofNat p - Int32.ofNat q then Int32.ofNat p - Int32.ofNat q else 0 - (Int32.ofNat p - Int32.ofNat q)) = Int32.ofNat (dif p q) := by decide +kernel
theorem dif_lt {p q m : Nat} (hp : p < m) (hq : q < m) : dif p q < m := by unfold dif; omega
theorem dif_cm (p q : Nat) : dif p q = dif q p := by unfold dif; omega
theorem max_of {a b : Nat} (ha : a < 8) (hb : b < 8) : (if Int32.ofNat a < Int32.ofNat b then Int32.ofNat b else Int32.ofNat a) = Int32.ofNat (max a b) := by
  by_cases h : a < b
  · rw [if_pos (by exact (of_lt (by omega) (by omega)).mpr h), Nat.max_eq_right (by omega)]
  · rw [if_neg (fun x => h ((of_lt (by omega) (by omega)).mp x)), Nat.max_eq_left (by omega)]
/-! the class's grid -/
section
variable {n a : Nat} {V : VS} {w : RW}
theorem c_rowOf (hW : WF w) (h : Rp a V w) {x : Nat} (hx : x < 2147483648) : ev_X3_rowOf n V (a + 1) (Int32.ofNat x) = rt (Int32.ofNat (x / nC w)) V := by
  unfold ev_X3_rowOf eX3_rowOf_0
  have h1 := hW.rc9; have h3 := hW.c3; have h8 := hW.c8
  rw [h.cols (by omega), hW.ce, if_pos (by exact (of_le (a := 1) (by omega) (by omega)).mpr (by omega)), if_pos (fun e => by have := (of_inj (b := 0) (by omega) (by omega)).mp e; omega), of_div hx (by omega)]
theorem c_columnOf (hW : WF w) (h : Rp a V w) {x : Nat} (hx : x < 2147483648) : ev_X3_columnOf n V (a + 1) (Int32.ofNat x) = rt (Int32.ofNat (x % nC w)) V := by
  unfold ev_X3_columnOf eX3_columnOf_0
  have h1 := hW.rc9; have h3 := hW.c3; have h8 := hW.c8
  rw [h.cols (by omega), hW.ce, if_pos (by exact (of_le (a := 1) (by omega) (by omega)).mpr (by omega)), if_pos (fun e => by have := (of_inj (b := 0) (by omega) (by omega)).mp e; omega), of_mod hx (by omega)]
theorem c_distance (hW : WF w) (h : Rp a V w) {x y : Nat} (hx : x < nR w * nC w) (hy : y < nR w * nC w) : ev_X3_distance n V (a + 1) (Int32.ofNat x) (Int32.ofNat y) = rt (Int32.ofNat (dst w x y)) V := by
  have h1 := hW.rc; have h8 := hW.c8; have r8 := hW.r8
  have a1 := row_lt hW hx; have a2 := row_lt hW hy; have a3 := col_lt hW x; have a4 := col_lt hW y
  unfold ev_X3_distance eX3_distance_0
  rw [c_rowOf hW h (by omega), bd_rt, c_rowOf hW h (by omega), bd_rt, c_columnOf hW h (by omega), bd_rt, c_columnOf hW h (by omega), bd_rt]
  rw [s8_2 _ (by omega) _ (by omega), s8_2 _ (by omega) _ (by omega), max_of (dif_lt (by omega) (by omega)) (dif_lt (by omega) (by omega))]
  unfold dst
  rw [dif_cm (y / nC w), dif_cm (y % nC w)]
theorem c_hasCell (hW : WF w) (h : Rp a V w) {x : Int32} : ev_X3_hasCell n V (a + 1) x = if x < 0 then rt 0 V else if Int32.ofNat (nR w * nC w) ≤ x then rt 0 V else rt 1 V := by
  unfold ev_X3_hasCell eX3_hasCell_0
  rw [h.rows, h.cols (by have := hW.rc9; omega), hW.re, hW.ce, of_mul]
theorem c_ground (hL : zLay V) (ha : a ∈ zB) (hW : WF w) (h : Rp a V w) {x : Nat} (hx : x < nR w * nC w) : ev_X3_ground n V (a + 1) (Int32.ofNat x) = rt (w (2 + x)) V := by
  have h1 := hW.rc
  unfold ev_X3_ground eX3_ground_0
  rw [if_neg (fun e => by have := (of_lt (b := 0) (by omega) (by omega)).mp e; omega), zrc hL ha, ob_1, znc hL ha, if_neg (fun e => by have := (of_le (by omega) (by omega)).mp e; omega), ob_1, znc hL ha, if_pos (in_of (by omega) (by decide)), tn_of (by omega), h.cell hx (by omega)]
theorem c_neighbor (hW : WF w) (h : Rp a V w) {x d : Nat} (hx : x < nR w * nC w) (hd : d < 4) : ev_X3_neighbor n V (a + 1) (Int32.ofNat x) (Int32.ofNat d) = rt (oi (nbr w x d)) V := by
  have h1 := hW.rc; have h8 := hW.c8; have r8 := hW.r8
  have a1 := row_lt hW hx; have a3 := col_lt hW x
  unfold ev_X3_neighbor eX3_neighbor_0
  rw [c_rowOf hW h (by omega), bd_rt, c_columnOf hW h (by omega), bd_rt, h.rows, h.cols (by have := hW.rc9; omega), hW.re, hW.ce, ti_of (by omega)]
  rw [if_neg (by omega)]
  unfold nbr
  by_cases d0 : d = 0
  · subst d0
    rw [if_pos (by decide), if_pos rfl]
    by_cases g : 0 < x / nC w
    · rw [if_neg (fun e => by have := (of_le (b := 0) (by omega) (by omega)).mp e; omega), if_pos g, of_sub (up_in g)]; rfl
    · rw [if_pos (by exact (of_le (b := 0) (by omega) (by omega)).mpr (by omega)), if_neg g]; rfl
  rw [if_neg (by omega), if_neg d0]
  by_cases d1 : d = 1
  · subst d1
    rw [if_pos (by decide), if_pos rfl]
    have e1 : Int32.ofNat (x % nC w) + 1 = Int32.ofNat (x % nC w + 1) := of_add
    rw [e1]
    by_cases g : x % nC w + 1 < nC w
    · rw [if_neg (fun e => by have := (of_le (by omega) (by omega)).mp e; omega), if_pos g]
      show rt (Int32.ofNat x + Int32.ofNat 1) V = _
      rw [of_add]; rfl
    · rw [if_pos (by exact (of_le (by omega) (by omega)).mpr (by omega)), if_neg g]; rfl
  rw [if_neg (by omega), if_neg d1]
  by_cases d2 : d = 2
  · subst d2
    rw [if_pos (by decide), if_pos rfl]
    have e1 : Int32.ofNat (x / nC w) + 1 = Int32.ofNat (x / nC w + 1) := of_add
    rw [e1]
    by_cases g : x / nC w + 1 < nR w
    · rw [if_neg (fun e => by have := (of_le (by omega) (by omega)).mp e; omega), if_pos g, of_add]; rfl
    · rw [if_pos (by exact (of_le (by omega) (by omega)).mpr (by omega)), if_neg g]; rfl
  rw [if_neg (by omega), if_neg d2, if_pos (by omega)]
  by_cases g : 0 < x % nC w
  · rw [if_neg (fun e => by have := (of_le (b := 0) (by omega) (by omega)).mp e; omega), if_pos g]
    show rt (Int32.ofNat x - Int32.ofNat 1) V = _
    rw [of_sub (by have := Nat.mod_le x (nC w); omega)]; rfl
  · rw [if_pos (by exact (of_le (b := 0) (by omega) (by omega)).mpr (by omega)), if_neg g]; rfl
theorem c_cov85 {x y : Int32} : eX3_coverOf_85 n V x y = rt (Int32.ofNat (if x = 1 ∨ y = 1 then 2 else if x = 2 ∨ y = 2 then 1 else 0)) V := by
  unfold eX3_coverOf_85
  by_cases h1 : x = 1
  · rw [if_pos h1, if_pos (.inl h1)]; rfl
  rw [if_neg h1]
  by_cases h2 : y = 1
  · rw [if_pos h2, if_pos (.inr h2)]; rfl
  rw [if_neg h2, if_neg (show ¬ (x = 1 ∨ y = 1) from fun e => e.elim h1 h2)]
  by_cases h3 : x = 2
  · rw [if_pos h3, if_pos (.inl h3)]; rfl
  rw [if_neg h3]
  by_cases h4 : y = 2
  · rw [if_pos h4, if_pos (.inr h4)]; rfl
  rw [if_neg h4, if_neg (show ¬ (x = 2 ∨ y = 2) from fun e => e.elim h3 h4)]; rfl
theorem hrz_0 {x y : Nat} (e : y % nC w = x % nC w) : hrz w x y = 0 := by unfold hrz; rw [if_neg (by omega), if_neg (by omega)]
theorem hrz_p {x y : Nat} (e : x % nC w < y % nC w) : hrz w x y = w (2 + (x + 1)) := by unfold hrz; rw [if_neg (by omega), if_pos (by omega)]
theorem hrz_m {x y : Nat} (e : y % nC w < x % nC w) : hrz w x y = w (2 + (x - 1)) := by unfold hrz; rw [if_pos (by omega)]
theorem vrt_0 {x y : Nat} (e : y / nC w = x / nC w) : vrt w x y = 0 := by unfold vrt; rw [if_neg (by omega), if_neg (by omega)]
theorem vrt_p {x y : Nat} (e : x / nC w < y / nC w) : vrt w x y = w (2 + (x + nC w)) := by unfold vrt; rw [if_neg (by omega), if_pos (by omega)]
theorem vrt_m {x y : Nat} (e : y / nC w < x / nC w) : vrt w x y = w (2 + (x - nC w)) := by unfold vrt; rw [if_pos (by omega)]
theorem c_cov57 (hL : zLay V) (ha : a ∈ zB) (hW : WF w) (h : Rp a V w) {x y : Nat} {z : Int32} (hx : x < nR w * nC w) : eX3_coverOf_57 n V (a + 1) (Int32.ofNat x) (Int32.ofNat (y % nC w) - Int32.ofNat (x % nC w)) z = rt (Int32.ofNat (if z = 1 ∨ hrz w x y = 1 then 2 else if z = 2 ∨ hrz w x y = 2 then 1 else 0)) V := by
  have h8 := hW.c8
  have a3 := col_lt hW x; have a4 := col_lt hW y
  unfold eX3_coverOf_57
  by_cases e : y % nC w = x % nC w
  · rw [if_pos (by exact (s8_0 _ (by omega) _ (by omega)).mpr e), c_cov85, hrz_0 e]
  rw [if_neg (fun q => e ((s8_0 _ (by omega) _ (by omega)).mp q))]
  by_cases g : x % nC w ≤ y % nC w
  · rw [if_pos (by exact (s8_1 _ (by omega) _ (by omega)).mpr g), hrz_p (by omega)]
    unfold eX3_coverOf_80
    rw [show Int32.ofNat x + 1 = Int32.ofNat (x + 1) from of_add, c_ground hL ha hW h (rt_in hx (by omega)), bd_rt, c_cov85]
  · rw [if_neg (fun q => g ((s8_1 _ (by omega) _ (by omega)).mp q)), hrz_m (by omega)]
    unfold eX3_coverOf_80
    rw [show Int32.ofNat x - 1 = Int32.ofNat (x - 1) from of_sub (b := 1) (by have := Nat.mod_le x (nC w); omega), c_ground hL ha hW h (by omega), bd_rt, c_cov85]
theorem c_coverOf (hL : zLay V) (ha : a ∈ zB) (hW : WF w) (h : Rp a V w) {x y : Nat} (hx : x < nR w * nC w) (hy : y < nR w * nC w) : ev_X3_coverOf n V (a + 1) (Int32.ofNat x) (Int32.ofNat y) = rt (Int32.ofNat (cov w x y)) V := by
  have h1 := hW.rc; have h8 := hW.c8; have r8 := hW.r8; have h9 := hW.rc9
  have a1 := row_lt hW hx; have a2 := row_lt hW hy
  unfold ev_X3_coverOf eX3_coverOf_0 cov
  rw [c_rowOf hW h (by omega), bd_rt, c_rowOf hW h (by omega), bd_rt, c_columnOf hW h (by omega), bd_rt, c_columnOf hW h (by omega), bd_rt]
  by_cases e : y / nC w = x / nC w
  · rw [if_pos (by exact (s8_0 _ (by omega) _ (by omega)).mpr e), c_cov57 hL ha hW h hx, vrt_0 e]
  rw [if_neg (fun q => e ((s8_0 _ (by omega) _ (by omega)).mp q))]
  by_cases g : x / nC w ≤ y / nC w
  · rw [if_pos (by exact (s8_1 _ (by omega) _ (by omega)).mpr g), vrt_p (by omega)]
    unfold eX3_coverOf_52
    rw [h.cols (by omega), hW.ce, of_add, c_ground hL ha hW h (dn_in hW (by omega)), bd_rt, c_cov57 hL ha hW h hx]
  · rw [if_neg (fun q => g ((s8_1 _ (by omega) _ (by omega)).mp q)), vrt_m (by omega)]
    unfold eX3_coverOf_52
    rw [h.cols (by omega), hW.ce, of_sub (up_in (Nat.lt_of_le_of_lt (Nat.zero_le _) (Nat.lt_of_not_le g))), c_ground hL ha hW h (by omega), bd_rt, c_cov57 hL ha hW h hx]
/-! the class's units -/
theorem c_lives (h : Rp a V w) {u : Nat} (hu : u < nU w) (h8 : u < 8) : ev_X7_lives n V (a + 9 + u) = rt (if dead w u = true then 0 else 1) V := by
  unfold ev_X7_lives eX7_lives_0 dead
  rw [show vI V (a + 9 + u) 5 = w (67 + 11 * u + 3) from h.u hu h8 (j := 3) (by decide)]
  by_cases g : w (67 + 11 * u + 3) ≤ 0
  · rw [if_pos g, decide_eq_true g]; rfl
  · rw [if_neg g, decide_eq_false g]; rfl
theorem c_hasLiving (hn : 8 < n) (hL : zLay V) (ha : a ∈ zB) (hW : WF w) (h : Rp a V w) {t : Int32} : ev_X2_hasLiving n V a t = rt (if hl w t = true then 1 else 0) V := by
  have u8 := hW.u8
  unfold ev_X2_hasLiving eX2_hasLiving_0 hl
  refine loop_any0 (F := fun m k => elX2_hasLiving_2 n m V a t (Int32.ofNat k)) (fun m k hk => ?_) (fun m => ?_) (by omega)
  · show eX2_hasLiving_2 n (elX2_hasLiving_2 n m) V a t (Int32.ofNat k) = _
    unfold eX2_hasLiving_2
    rw [h.count, hW.ue, if_neg (fun e => by have := (of_le (by omega) (by omega)).mp e; omega), zr1 hL ha, ob_1, znu hL ha, if_pos (in_of (by omega) (by decide)), tn_of (by omega), zru hL ha (by omega), ob_1]
    rw [show vI V (a + 9 + k) 1 = w (67 + 11 * k) from h.u hk (by omega) (j := 0) (by decide)]
    rw [ob_1, znu hL ha, if_pos (in_of (by omega) (by decide)), zru hL ha (by omega), ob_1, c_lives h hk (by omega), bd_rt]
    rw [show Int32.ofNat k + 1 = Int32.ofNat (k + 1) from of_add]
    by_cases g : w (67 + 11 * k) = t
    · rw [if_pos g, decide_eq_true g, Bool.true_and]
      cases dead w k <;> rfl
    · rw [if_neg g, decide_eq_false g, Bool.false_and]; rfl
  · show eX2_hasLiving_2 n (elX2_hasLiving_2 n m) V a t (Int32.ofNat (nU w)) = _
    unfold eX2_hasLiving_2
    rw [h.count, hW.ue, if_pos (by exact (of_le (by omega) (by omega)).mpr (Nat.le_refl _))]
theorem c_goesOn (hn : 8 < n) (hL : zLay V) (ha : a ∈ zB) (hW : WF w) (h : Rp a V w) : ev_X2_goesOn n V a = rt (if goB w = true then 1 else 0) V := by
  unfold ev_X2_goesOn eX2_goesOn_0 goB
  rw [c_hasLiving hn hL ha hW h, bd_rt]
  cases hl w 0
  · rfl
  · rw [if_neg (by decide), c_hasLiving hn hL ha hW h, bd_rt]
    cases hl w 1 <;> rfl
theorem c_hasBegun (h : Rp a V w) : ev_X2_hasBegun n V a = rt (if w 156 ≤ 0 then 0 else 1) V := by
  unfold ev_X2_hasBegun eX2_hasBegun_0
  rw [h.round]
  by_cases g : w 156 ≤ 0
  · rw [if_pos g, if_pos g]
  · rw [if_neg g, if_neg g]
theorem c_hasUnitOn (hn : 8 < n) (hL : zLay V) (ha : a ∈ zB) (hW : WF w) (h : Rp a V w) {t : Int32} : ev_X2_hasUnitOn n V a t = rt (if onc w t = true then 1 else 0) V := by
  have u8 := hW.u8
  unfold ev_X2_hasUnitOn eX2_hasUnitOn_0 onc
  refine loop_any0 (F := fun m k => elX2_hasUnitOn_2 n m V a t (Int32.ofNat k)) (fun m k hk => ?_) (fun m => ?_) (by omega)
  · show eX2_hasUnitOn_2 n (elX2_hasUnitOn_2 n m) V a t (Int32.ofNat k) = _
    unfold eX2_hasUnitOn_2
    rw [h.count, hW.ue, if_neg (fun e => by have := (of_le (by omega) (by omega)).mp e; omega), zr1 hL ha, ob_1, znu hL ha, if_pos (in_of (by omega) (by decide)), tn_of (by omega), zru hL ha (by omega), ob_1]
    rw [show vI V (a + 9 + k) 4 = w (67 + 11 * k + 2) from h.u hk (by omega) (j := 2) (by decide)]
    rw [show Int32.ofNat k + 1 = Int32.ofNat (k + 1) from of_add]
    by_cases g : w (67 + 11 * k + 2) = t
    · rw [if_pos g, decide_eq_true g]; rfl
    · rw [if_neg g, decide_eq_false g]; rfl
  · show eX2_hasUnitOn_2 n (elX2_hasUnitOn_2 n m) V a t (Int32.ofNat (nU w)) = _
    unfold eX2_hasUnitOn_2
    rw [h.count, hW.ue, if_pos (by exact (of_le (by omega) (by omega)).mpr (Nat.le_refl _))]
theorem c_find (hL : zLay V) (ha : a ∈ zB) (hW : WF w) (h : Rp a V w) {x : Int32} : (x < 0 ∨ w 66 ≤ x) ∧ ev_X2_find n V a x = rt none V ∨ ∃ u, u < nU w ∧ x = Int32.ofNat u ∧ ev_X2_find n V a x = rt (some (a + 9 + u)) V := by
  have u8 := hW.u8
  unfold ev_X2_find eX2_find_0
  rw [h.count]
  by_cases g : x < 0
  · exact .inl ⟨.inl g, by rw [if_pos g]⟩
  by_cases g2 : w 66 ≤ x
  · exact .inl ⟨.inr g2, by rw [if_neg g, if_pos g2]⟩
  · refine .inr ?_
    rw [hW.ue] at g2
    obtain ⟨u, hu, rfl⟩ := rng (by omega) g (Int32.not_le.mp g2)
    refine ⟨u, hu, rfl, ?_⟩
    rw [if_neg g, hW.ue, if_neg g2, zr1 hL ha, ob_1, znu hL ha, if_pos (in_of (by omega) (by decide)), tn_of (by omega), zru hL ha (by omega), ob_1]
theorem c_onTurn (hL : zLay V) (ha : a ∈ zB) (hW : WF w) (h : Rp a V w) : (w 166 < 0 ∨ w 66 ≤ w 166) ∧ ev_X2_onTurn n V a = rt none V ∨ ∃ u, u < nU w ∧ w 166 = Int32.ofNat u ∧ ev_X2_onTurn n V a = rt (some (a + 9 + u)) V := by
  have u8 := hW.u8
  unfold ev_X2_onTurn eX2_onTurn_0
  rw [h.count, h.cur]
  by_cases g : w 166 < 0
  · exact .inl ⟨.inl g, by rw [if_pos g]⟩
  by_cases g2 : w 66 ≤ w 166
  · exact .inl ⟨.inr g2, by rw [if_neg g, if_pos g2]⟩
  · refine .inr ?_
    rw [hW.ue] at g2
    obtain ⟨u, hu, e⟩ := rng (by omega) g (Int32.not_le.mp g2)
    refine ⟨u, hu, e, ?_⟩
    rw [if_neg g, hW.ue, if_neg g2, zr1 hL ha, ob_1, znu hL ha, e, if_pos (in_of (by omega) (by decide)), tn_of (by omega), zru hL ha (by omega), ob_1]
end
