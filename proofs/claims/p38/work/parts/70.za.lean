/-! the whole system on virtual memory: what is fixed, reads behind writes -/
abbrev RW : Type := Nat → Int32
def zup (w : RW) (k : Nat) (v : Int32) : RW := fun j => if j = k then v else w j
theorem zup_eq {w : RW} {k : Nat} {v : Int32} : zup w k v k = v := if_pos rfl
theorem zup_ne {w : RW} {k j : Nat} {v : Int32} (h : j ≠ k) : zup w k v j = w j := if_neg h
theorem zup_at {w : RW} {k j : Nat} {v : Int32} : zup w k v j = if j = k then v else w j := rfl
theorem upC_ge : ∀ (V : VS) (i : Nat) (f : CV → CV), V.length ≤ i → upC V i f = V
  | [], _, _, _ => rfl
  | _ :: _, 0, _, h => absurd h (by simp)
  | c :: r, i + 1, f, h => by
    have h' : r.length ≤ i := Nat.le_of_succ_le_succ h
    show c :: upC r i f = c :: r
    rw [upC_ge r i f h']
theorem vC_up {V : VS} {i j : Nat} {f : CV → CV} : vC (upC V i f) j = if j = i ∧ i < V.length then f (vC V i) else vC V j := by
  by_cases h : i < V.length
  · by_cases e : j = i
    · subst e; rw [if_pos ⟨rfl, h⟩]; exact upC_eq V j f h
    · rw [if_neg (fun x => e x.1)]; exact upC_ne V i j f e
  · rw [if_neg (fun x => h x.2), upC_ge V i f (Nat.le_of_not_lt h)]
theorem vI_C {V U : VS} {i : Nat} (h : vC V i = vC U i) : vI V i = vI U i := funext fun k => by unfold vI; rw [h]
theorem vF_C {V U : VS} {i : Nat} (h : vC V i = vC U i) : vF V i = vF U i := funext fun k => by unfold vF; rw [h]
theorem vJ_C {V U : VS} {i : Nat} (h : vC V i = vC U i) : vJ V i = vJ U i := funext fun k => by unfold vJ; rw [h]
theorem vD_C {V U : VS} {i : Nat} (h : vC V i = vC U i) : vD V i = vD U i := funext fun k => by unfold vD; rw [h]
/-- the parts of a cell that a change of its ints keeps -/
theorem vN_wI {V : VS} {i k j : Nat} {v : Int32} : vN (wI V i k v) j = vN V j := by
  unfold vN wI; rw [vC_up]; by_cases h : j = i ∧ i < V.length
  · rw [if_pos h, h.1]
  · rw [if_neg h]
theorem vR_wI {V : VS} {i k j q : Nat} {v : Int32} : vR (wI V i k v) j q = vR V j q := by
  unfold vR wI; rw [vC_up]; by_cases h : j = i ∧ i < V.length
  · rw [if_pos h, h.1]
  · rw [if_neg h]
theorem vF_wI {V : VS} {i k j q : Nat} {v : Int32} : vF (wI V i k v) j q = vF V j q := by
  unfold vF wI; rw [vC_up]; by_cases h : j = i ∧ i < V.length
  · rw [if_pos h, h.1]
  · rw [if_neg h]
theorem vI_wI {V : VS} {i k : Nat} {v : Int32} (h : i < V.length) : vI (wI V i k v) i = zup (vI V i) k v := funext fun q => by
  unfold vI wI; rw [vC_up, if_pos ⟨rfl, h⟩]; exact putL_get 0 _ k v q
theorem vC_wI {V : VS} {i j k : Nat} {v : Int32} (h : j ≠ i) : vC (wI V i k v) j = vC V j := by
  unfold wI; rw [vC_up, if_neg (fun x => h x.1)]
theorem vI_wI_ne {V : VS} {i j k : Nat} {v : Int32} (h : j ≠ i) : vI (wI V i k v) j = vI V j := vI_C (vC_wI h)
theorem vI_wI_at {V : VS} {i j k q : Nat} {v : Int32} (h : i < V.length) : vI (wI V i k v) j q = if j = i ∧ q = k then v else vI V j q := by
  by_cases e : j = i
  · subst e; rw [vI_wI h]; by_cases g : q = k
    · rw [if_pos ⟨rfl, g⟩, g]; exact zup_eq
    · rw [if_neg (fun x => g x.2)]; exact zup_ne g
  · rw [if_neg (fun x => e x.1), vI_wI_ne e]
theorem vN_wC {V : VS} {a b sp dp n j : Nat} : vN (wC V a b sp dp n) j = vN V j := by
  unfold vN wC; rw [vC_up]; by_cases h : j = a ∧ a < V.length
  · rw [if_pos h, h.1]
  · rw [if_neg h]
theorem vR_wC {V : VS} {a b sp dp n j q : Nat} : vR (wC V a b sp dp n) j q = vR V j q := by
  unfold vR wC; rw [vC_up]; by_cases h : j = a ∧ a < V.length
  · rw [if_pos h, h.1]
  · rw [if_neg h]
theorem vF_wC {V : VS} {a b sp dp n j q : Nat} : vF (wC V a b sp dp n) j q = vF V j q := by
  unfold vF wC; rw [vC_up]; by_cases h : j = a ∧ a < V.length
  · rw [if_pos h, h.1]
  · rw [if_neg h]
theorem vC_wC {V : VS} {a b sp dp n j : Nat} (h : j ≠ a) : vC (wC V a b sp dp n) j = vC V j := by
  unfold wC; rw [vC_up, if_neg (fun x => h x.1)]
theorem vI_wC {V : VS} {a b sp dp n q : Nat} (h : a < V.length) : vI (wC V a b sp dp n) a q = if dp ≤ q ∧ q < dp + n then vI V b (sp + (q - dp)) else vI V a q := by
  unfold vI wC; rw [vC_up, if_pos ⟨rfl, h⟩]
  show (cpyL _ _ sp dp n).getD q 0 = _
  rw [cpyL_get]; unfold va_cpy
  by_cases g : dp ≤ q ∧ q < dp + n
  · rw [if_pos g]
  · rw [if_neg g]
theorem vN_wF {V : VS} {i k j : Nat} {v : UInt32} : vN (wF V i k v) j = vN V j := by
  unfold vN wF; rw [vC_up]; by_cases h : j = i ∧ i < V.length
  · rw [if_pos h, h.1]
  · rw [if_neg h]
theorem vR_wF {V : VS} {i k j q : Nat} {v : UInt32} : vR (wF V i k v) j q = vR V j q := by
  unfold vR wF; rw [vC_up]; by_cases h : j = i ∧ i < V.length
  · rw [if_pos h, h.1]
  · rw [if_neg h]
theorem vI_wF {V : VS} {i k j q : Nat} {v : UInt32} : vI (wF V i k v) j q = vI V j q := by
  unfold vI wF; rw [vC_up]; by_cases h : j = i ∧ i < V.length
  · rw [if_pos h, h.1]
  · rw [if_neg h]
theorem vC_wF {V : VS} {i j k : Nat} {v : UInt32} (h : j ≠ i) : vC (wF V i k v) j = vC V j := by
  unfold wF; rw [vC_up, if_neg (fun x => h x.1)]
theorem vF_wF_at {V : VS} {i j k q : Nat} {v : UInt32} (h : i < V.length) : vF (wF V i k v) j q = if j = i ∧ q = k then v else vF V j q := by
  by_cases e : j = i
  · subst e
    unfold vF wF; rw [vC_up, if_pos ⟨rfl, h⟩]
    show (putL 0 _ k v).getD q 0 = _
    rw [putL_get]
    by_cases g : q = k
    · rw [if_pos g, if_pos ⟨rfl, g⟩]
    · rw [if_neg g, if_neg (fun x => g x.2)]
  · rw [if_neg (fun x => e x.1)]; exact congrFun (vF_C (vC_wF e)) q
theorem vN_wJ {V : VS} {i k j : Nat} {v : Int64} : vN (wJ V i k v) j = vN V j := by
  unfold vN wJ; rw [vC_up]; by_cases h : j = i ∧ i < V.length
  · rw [if_pos h, h.1]
  · rw [if_neg h]
theorem vR_wJ {V : VS} {i k j q : Nat} {v : Int64} : vR (wJ V i k v) j q = vR V j q := by
  unfold vR wJ; rw [vC_up]; by_cases h : j = i ∧ i < V.length
  · rw [if_pos h, h.1]
  · rw [if_neg h]
theorem vC_wJ {V : VS} {i j k : Nat} {v : Int64} (h : j ≠ i) : vC (wJ V i k v) j = vC V j := by
  unfold wJ; rw [vC_up, if_neg (fun x => h x.1)]
theorem vJ_wJ {V : VS} {i k : Nat} {v : Int64} (h : i < V.length) : vJ (wJ V i k v) i k = v := by
  unfold vJ wJ; rw [vC_up, if_pos ⟨rfl, h⟩]
  show (putL 0 _ k v).getD k 0 = _
  rw [putL_get, if_pos rfl]
theorem vN_wD {V : VS} {i k j : Nat} {v : UInt64} : vN (wD V i k v) j = vN V j := by
  unfold vN wD; rw [vC_up]; by_cases h : j = i ∧ i < V.length
  · rw [if_pos h, h.1]
  · rw [if_neg h]
theorem vR_wD {V : VS} {i k j q : Nat} {v : UInt64} : vR (wD V i k v) j q = vR V j q := by
  unfold vR wD; rw [vC_up]; by_cases h : j = i ∧ i < V.length
  · rw [if_pos h, h.1]
  · rw [if_neg h]
theorem vC_wD {V : VS} {i j k : Nat} {v : UInt64} (h : j ≠ i) : vC (wD V i k v) j = vC V j := by
  unfold wD; rw [vC_up, if_neg (fun x => h x.1)]
theorem vD_wD {V : VS} {i k : Nat} {v : UInt64} (h : i < V.length) : vD (wD V i k v) i k = v := by
  unfold vD wD; rw [vC_up, if_pos ⟨rfl, h⟩]
  show (putL 0 _ k v).getD k 0 = _
  rw [putL_get, if_pos rfl]
/-! the layout -/
def zLay (V : VS) : Prop := V.length = 224 ∧ (∀ i, vN V i = vN W0 i) ∧ ∀ i k, vR V i k = vR W0 i k
theorem zLen {V : VS} (h : zLay V) {i : Nat} (hi : i < 224) : i < V.length := by rw [h.1]; exact hi
theorem zN {V : VS} (h : zLay V) {i m : Nat} (e : vN W0 i = m) : vN V i = m := (h.2.1 i).trans e
theorem zR {V : VS} (h : zLay V) {i k : Nat} {m : Option Nat} (e : vR W0 i k = m) : vR V i k = m := (h.2.2 i k).trans e
theorem zLay_wI {V : VS} {i k : Nat} {v : Int32} (h : zLay V) : zLay (wI V i k v) := ⟨(upC_len _ _ _).trans h.1, fun j => vN_wI.trans (h.2.1 j), fun j q => vR_wI.trans (h.2.2 j q)⟩
theorem zLay_wF {V : VS} {i k : Nat} {v : UInt32} (h : zLay V) : zLay (wF V i k v) := ⟨(upC_len _ _ _).trans h.1, fun j => vN_wF.trans (h.2.1 j), fun j q => vR_wF.trans (h.2.2 j q)⟩
theorem zLay_wJ {V : VS} {i k : Nat} {v : Int64} (h : zLay V) : zLay (wJ V i k v) := ⟨(upC_len _ _ _).trans h.1, fun j => vN_wJ.trans (h.2.1 j), fun j q => vR_wJ.trans (h.2.2 j q)⟩
theorem zLay_wD {V : VS} {i k : Nat} {v : UInt64} (h : zLay V) : zLay (wD V i k v) := ⟨(upC_len _ _ _).trans h.1, fun j => vN_wD.trans (h.2.1 j), fun j q => vR_wD.trans (h.2.2 j q)⟩
theorem zLay_wC {V : VS} {a b sp dp n : Nat} (h : zLay V) : zLay (wC V a b sp dp n) := ⟨(upC_len _ _ _).trans h.1, fun j => vN_wC.trans (h.2.1 j), fun j q => vR_wC.trans (h.2.2 j q)⟩
theorem zLay_0 : zLay W0 := ⟨by decide +kernel, fun _ => rfl, fun _ _ => rfl⟩
/-- the places of the fights -/
def zB : List Nat := [2, 24, 41, 58, 75, 92, 109, 126, 143, 160, 180]
theorem zB_le : ∀ a ∈ zB, 2 ≤ a ∧ a + 17 ≤ 197 := by decide +kernel
theorem zB_r : ∀ a ∈ zB, vR W0 a 0 = some (a + 1) ∧ vR W0 a 1 = some (a + 3) ∧ vR W0 a 3 = some (a + 4) ∧ vR W0 a 11 = some (a + 5) ∧ vR W0 (a + 1) 0 = some (a + 2) ∧ vR W0 (a + 5) 0 = some (a + 6) ∧ vR W0 (a + 5) 1 = some (a + 7) ∧ vR W0 (a + 5) 2 = some (a + 8) := by decide +kernel
theorem zB_u : ∀ a ∈ zB, ∀ u, u < 8 → vR W0 (a + 3) u = some (a + 9 + u) := by decide +kernel
theorem zB_n : ∀ a ∈ zB, vN W0 (a + 2) = 64 ∧ vN W0 (a + 3) = 8 ∧ vN W0 (a + 4) = 8 ∧ vN W0 (a + 6) = 40 ∧ vN W0 (a + 7) = 40 ∧ vN W0 (a + 8) = 40 := by decide +kernel
theorem zr0 {V : VS} {a : Nat} (h : zLay V) (ha : a ∈ zB) : vR V a 0 = some (a + 1) := zR h (zB_r a ha).1
theorem zr1 {V : VS} {a : Nat} (h : zLay V) (ha : a ∈ zB) : vR V a 1 = some (a + 3) := zR h (zB_r a ha).2.1
theorem zr3 {V : VS} {a : Nat} (h : zLay V) (ha : a ∈ zB) : vR V a 3 = some (a + 4) := zR h (zB_r a ha).2.2.1
theorem zr11 {V : VS} {a : Nat} (h : zLay V) (ha : a ∈ zB) : vR V a 11 = some (a + 5) := zR h (zB_r a ha).2.2.2.1
theorem zrc {V : VS} {a : Nat} (h : zLay V) (ha : a ∈ zB) : vR V (a + 1) 0 = some (a + 2) := zR h (zB_r a ha).2.2.2.2.1
theorem zre0 {V : VS} {a : Nat} (h : zLay V) (ha : a ∈ zB) : vR V (a + 5) 0 = some (a + 6) := zR h (zB_r a ha).2.2.2.2.2.1
theorem zre1 {V : VS} {a : Nat} (h : zLay V) (ha : a ∈ zB) : vR V (a + 5) 1 = some (a + 7) := zR h (zB_r a ha).2.2.2.2.2.2.1
theorem zre2 {V : VS} {a : Nat} (h : zLay V) (ha : a ∈ zB) : vR V (a + 5) 2 = some (a + 8) := zR h (zB_r a ha).2.2.2.2.2.2.2
theorem zru {V : VS} {a u : Nat} (h : zLay V) (ha : a ∈ zB) (hu : u < 8) : vR V (a + 3) u = some (a + 9 + u) := zR h (zB_u a ha u hu)
theorem znc {V : VS} {a : Nat} (h : zLay V) (ha : a ∈ zB) : vN V (a + 2) = 64 := zN h (zB_n a ha).1
theorem znu {V : VS} {a : Nat} (h : zLay V) (ha : a ∈ zB) : vN V (a + 3) = 8 := zN h (zB_n a ha).2.1
theorem zno {V : VS} {a : Nat} (h : zLay V) (ha : a ∈ zB) : vN V (a + 4) = 8 := zN h (zB_n a ha).2.2.1
theorem zne0 {V : VS} {a : Nat} (h : zLay V) (ha : a ∈ zB) : vN V (a + 6) = 40 := zN h (zB_n a ha).2.2.2.1
theorem zne1 {V : VS} {a : Nat} (h : zLay V) (ha : a ∈ zB) : vN V (a + 7) = 40 := zN h (zB_n a ha).2.2.2.2.1
theorem zne2 {V : VS} {a : Nat} (h : zLay V) (ha : a ∈ zB) : vN V (a + 8) = 40 := zN h (zB_n a ha).2.2.2.2.2
theorem zlt {V : VS} {a i : Nat} (h : zLay V) (ha : a ∈ zB) (hi : i < 17) : a + i < V.length := by
  have := zB_le a ha; rw [h.1]; omega
/-! small numbers -/
/-- an int that is a natural number of at most b -/
def Nb (x : Int32) (b : Nat) : Prop := 0 ≤ x.toInt ∧ x.toInt ≤ b
theorem Nb.eq {x : Int32} {b : Nat} (h : Nb x b) : x = Int32.ofNat x.toNatClampNeg := (Int32.ofNat_toNatClampNeg x (Int32.le_iff_toInt_le.mpr (by have := h.1; have e : (0 : Int32).toInt = 0 := rfl; omega))).symm
theorem Nb.le {x : Int32} {b : Nat} (h : Nb x b) : x.toNatClampNeg ≤ b := by
  show x.toInt.toNat ≤ b
  have := h.1; have := h.2; omega
theorem Nb.mono {x : Int32} {b c : Nat} (h : Nb x b) (g : b ≤ c) : Nb x c := ⟨h.1, by have := h.2; omega⟩
theorem Nb.of {k b : Nat} (h : k ≤ b) (hb : b < 2147483648) : Nb (Int32.ofNat k) b := by
  unfold Nb; rw [Int32.toInt_ofNat_of_lt (by omega)]; omega
theorem tn_of {k : Nat} (h : k < 2147483648) : (Int32.ofNat k).toNatClampNeg = k := Int32.toNatClampNeg_ofNat_of_lt h
theorem ti_of {k : Nat} (h : k < 2147483648) : (Int32.ofNat k).toInt = k := Int32.toInt_ofNat_of_lt h
theorem in_of {k m : Nat} (h : k < m) (hm : m ≤ 2147483648) : gvp_in (Int32.ofNat k) m = true := by
  unfold gvp_in
  rw [tn_of (by omega)]
  have h1 : ¬ Int32.ofNat k < 0 := by
    rw [Int32.lt_iff_toInt_lt, ti_of (by omega)]; have e : (0 : Int32).toInt = 0 := rfl; omega
  have h2 : ¬ m ≤ k := by omega
  simp only [h1, h2, decide_false, Bool.or_self, Bool.not_false]
theorem of_lt {a b : Nat} (ha : a < 2147483648) (hb : b < 2147483648) : Int32.ofNat a < Int32.ofNat b ↔ a < b := Int32.ofNat_lt_iff_lt ha hb
theorem of_le {a b : Nat} (ha : a < 2147483648) (hb : b < 2147483648) : Int32.ofNat a ≤ Int32.ofNat b ↔ a ≤ b := Int32.ofNat_le_iff_le ha hb
theorem of_inj {a b : Nat} (ha : a < 2147483648) (hb : b < 2147483648) : Int32.ofNat a = Int32.ofNat b ↔ a = b := ⟨fun h => by have := congrArg Int32.toNatClampNeg h; rwa [tn_of ha, tn_of hb] at this, fun h => by rw [h]⟩
theorem of_add {a b : Nat} : Int32.ofNat a + Int32.ofNat b = Int32.ofNat (a + b) := (Int32.ofNat_add a b).symm
theorem of_mul {a b : Nat} : Int32.ofNat a * Int32.ofNat b = Int32.ofNat (a * b) := (Int32.ofNat_mul a b).symm
theorem of_sub {a b : Nat} (h : b ≤ a) : Int32.ofNat a - Int32.ofNat b = Int32.ofNat (a - b) := (Int32.ofNat_sub a b h).symm
theorem of_div {a b : Nat} (ha : a < 2147483648) (hb : b < 2147483648) : Int32.ofNat a / Int32.ofNat b = Int32.ofNat (a / b) := (Int32.ofNat_div ha hb).symm
theorem of_mod {a b : Nat} (ha : a < 2147483648) (hb : b < 2147483648) : Int32.ofNat a - Int32.ofNat a / Int32.ofNat b * Int32.ofNat b = Int32.ofNat (a % b) := by
  rw [of_div ha hb, of_mul, of_sub (Nat.div_mul_le_self a b)]
  congr 1
  have := Nat.div_add_mod a b
  rw [Nat.mul_comm] at this; omega
