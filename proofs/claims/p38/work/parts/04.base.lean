/-! the words that all methods share: one list -/
def GW : List Cond := lw_tbl.filter goodWord
theorem gw_t (i : Nat) {w : Cond} (h : tables_1[i]? = some w) (g : goodWord w = true) : w ∈ GW := List.mem_filter.mpr ⟨List.mem_append_right _ (List.mem_of_getElem? h), g⟩
theorem gw_p (i : Nat) {w : Cond} (h : (k2_sels lw_privs)[i]? = some w) (g : goodWord w = true) : w ∈ GW := List.mem_filter.mpr ⟨List.mem_append_left _ (List.mem_of_getElem? h), g⟩
theorem gw_l {w : Cond} (h : w ∈ lw_tbl) (g : goodWord w = true) : w ∈ GW := List.mem_filter.mpr ⟨h, g⟩
theorem gw_good {w : Cond} (h : w ∈ GW) : goodWord w = true := (List.mem_filter.mp h).2
theorem gw_in0 {ws : List Cond} (h : ∀ w ∈ ws, w ∈ GW) : GoodIn GW ws := fun w hw => ⟨h w hw, good_of_word (gw_good (h w hw))⟩
theorem gw_in (x : Cond) {ws : List Cond} (h : ∀ w ∈ ws, w ∈ GW) : GoodIn (x :: GW) ws := fun w hw => ⟨List.mem_cons_of_mem _ (h w hw), good_of_word (gw_good (h w hw))⟩
theorem gw_c {x : Cond} {ws : List Cond} (h : x ∈ GW) (t : ∀ w ∈ ws, w ∈ GW) : ∀ w ∈ x :: ws, w ∈ GW := fun w hw => (List.mem_cons.mp hw).elim (fun e => by rw [e]; exact h) (t w)
theorem gw_s : ∀ w ∈ GW, w ∈ GW := fun _ h => h
theorem gi_V {own C : String} {index maxL : Nat} {y : MethodName} {b : ByteArray} {ret : Option FieldType} (h1 : Cond.methodLink own index y ∈ GW) (h2 : Cond.instanceMethod y ∈ GW) (h3 : Cond.selects C y y ∈ GW) (h4 : Cond.initialized C ∈ GW) (h5 : Cond.code y b maxL ret ∈ GW) : GoodIn GW (wsV own index C y (.code y b maxL ret :: GW)) := by
  refine gw_in0 ?_
  unfold wsV
  simp only [List.cons_append, List.nil_append]
  exact gw_c h1 (gw_c h2 (gw_c h3 (gw_c h4 (gw_c h5 gw_s))))
theorem gi_S {own : String} {index maxL : Nat} {y : MethodName} {b : ByteArray} {ret : Option FieldType} (h1 : Cond.methodLink own index y ∈ GW) (h2 : Cond.static y ∈ GW) (h4 : Cond.initialized y.cls ∈ GW) (h5 : Cond.code y b maxL ret ∈ GW) : GoodIn GW (va_wsS own index y (.code y b maxL ret :: GW)) := by
  refine gw_in0 ?_
  unfold va_wsS
  simp only [List.cons_append, List.nil_append]
  exact gw_c h1 (gw_c h2 (gw_c h4 (gw_c h5 gw_s)))
theorem gi_I {maxL : Nat} {y : MethodName} {b : ByteArray} {ret : Option FieldType} (h5 : Cond.code y b maxL ret ∈ GW) : GoodIn GW (.code y b maxL ret :: GW) := gw_in0 (gw_c h5 gw_s)
/-! the pool's memory: addresses, kinds, lengths, ints, references, floats, longs, doubles -/
abbrev MS : Type := List Nat × (Nat → Nat) × (Nat → Nat) × (Nat → Nat → Int32) × (Nat → Nat → Option Nat) × (Nat → Nat → UInt32) × (Nat → Nat → Int64) × (Nat → Nat → UInt64)
def mL (S : MS) : List Nat := S.1
def mK (S : MS) : Nat → Nat := S.2.1
def mN (S : MS) : Nat → Nat := S.2.2.1
def mI (S : MS) : Nat → Nat → Int32 := S.2.2.2.1
def mR (S : MS) : Nat → Nat → Option Nat := S.2.2.2.2.1
def mF (S : MS) : Nat → Nat → UInt32 := S.2.2.2.2.2.1
def mJ (S : MS) : Nat → Nat → Int64 := S.2.2.2.2.2.2.1
def mD (S : MS) : Nat → Nat → UInt64 := S.2.2.2.2.2.2.2
def up2 {α : Type} (f : Nat → Nat → α) (a k : Nat) (v : α) : Nat → Nat → α := fun b j => if b = a ∧ j = k then v else f b j
def sI (S : MS) (a k : Nat) (v : Int32) : MS := (S.1, S.2.1, S.2.2.1, up2 S.2.2.2.1 a k v, S.2.2.2.2)
def sR (S : MS) (a k : Nat) (v : Option Nat) : MS := (S.1, S.2.1, S.2.2.1, S.2.2.2.1, up2 S.2.2.2.2.1 a k v, S.2.2.2.2.2)
def sF (S : MS) (a k : Nat) (v : UInt32) : MS := (S.1, S.2.1, S.2.2.1, S.2.2.2.1, S.2.2.2.2.1, up2 S.2.2.2.2.2.1 a k v, S.2.2.2.2.2.2)
def sJ (S : MS) (a k : Nat) (v : Int64) : MS := (S.1, S.2.1, S.2.2.1, S.2.2.2.1, S.2.2.2.2.1, S.2.2.2.2.2.1, up2 S.2.2.2.2.2.2.1 a k v, S.2.2.2.2.2.2.2)
def sD (S : MS) (a k : Nat) (v : UInt64) : MS := (S.1, S.2.1, S.2.2.1, S.2.2.2.1, S.2.2.2.2.1, S.2.2.2.2.2.1, S.2.2.2.2.2.2.1, up2 S.2.2.2.2.2.2.2 a k v)
def sIr (S : MS) (a : Nat) (f : Nat → Int32) : MS := (S.1, S.2.1, S.2.2.1, va_up S.2.2.2.1 a f, S.2.2.2.2)
def nw (S : MS) (q kd n : Nat) : MS := (S.1 ++ [q], va_up S.2.1 q kd, va_up S.2.2.1 q n, va_up S.2.2.2.1 q (fun _ => 0), va_up S.2.2.2.2.1 q (fun _ => none), va_up S.2.2.2.2.2.1 q (fun _ => 0), va_up S.2.2.2.2.2.2.1 q (fun _ => 0), va_up S.2.2.2.2.2.2.2 q (fun _ => 0))
/-- the kinds' fields: 0 a number, 1 a reference -/
def fT : Nat → List Nat
  | 0 => [1, 1, 0]
  | 1 => [1, 1, 1, 0]
  | 2 => [1, 1, 0, 1, 0, 0, 0, 0, 0, 0, 0, 1]
  | 3 => [1, 0, 0]
  | 4 => [1, 0, 0]
  | 5 => [1, 1, 1, 0]
  | 6 => [1, 1, 0, 0, 0]
  | 7 => [0, 0, 0, 0, 0, 0, 0, 0, 0, 0, 0, 0, 0]
  | 8 => [1, 0, 0, 1, 1, 1, 1, 1, 0, 1, 1, 1, 1]
  | 9 => [0, 1, 1, 1, 1, 1, 1, 1, 1, 0, 0, 1, 0, 0, 0, 0, 0, 1, 0, 1, 1, 1, 1]
  | _ => []
/-- the kind of what a reference's place holds -/
def rT : Nat → Nat → Nat
  | 0, _ => 12
  | 1, _ => 12
  | 2, 0 => 3
  | 2, 1 => 15
  | 2, 3 => 12
  | 2, 11 => 1
  | 3, _ => 12
  | 4, _ => 14
  | 5, 2 => 13
  | 5, _ => 12
  | 6, 0 => 12
  | 6, 1 => 11
  | 8, 0 => 10
  | 8, 3 => 2
  | 8, 4 => 0
  | 8, 5 => 4
  | 8, 6 => 2
  | 8, 7 => 0
  | 8, 9 => 2
  | 8, 10 => 5
  | 8, 11 => 6
  | 8, 12 => 6
  | 9, 22 => 11
  | 9, _ => 12
  | 14, _ => 2
  | 15, _ => 7
  | _, _ => 99
def fv (S : MS) (a : Nat) : List Nat → Nat → List Value
  | [], _ => []
  | t :: r, j => (if t = 0 then .int (mI S a j) else va_rf (mR S a j)) :: fv S a r (j + 1)
/-- the tables' numbers: classes, fields' slots, the array classes -/
abbrev GP : Type := va_G × (Nat → ClassId)
def aE (G : GP) (S : MS) (a : Nat) : Nat → va_E
  | 0 => .inl (G.2 0, mN S a, .inl (mI S a))
  | 1 => .inl (G.2 1, mN S a, .inr (.inr (.inl (mF S a))))
  | 2 => .inl (G.2 2, mN S a, .inl (mI S a))
  | 3 => .inl (G.2 3, mN S a, .inl (mI S a))
  | 4 => .inl (G.2 4, mN S a, .inr (.inr (.inr (.inr (mR S a)))))
  | 5 => .inl (G.2 5, mN S a, .inr (.inr (.inr (.inr (mR S a)))))
  | 6 => .inl (G.2 6, mN S a, .inr (.inl (mJ S a)))
  | _ => .inl (G.2 7, mN S a, .inr (.inr (.inr (.inl (mD S a)))))
def ce (G : GP) (S : MS) (a : Nat) : va_E := if mK S a < 10 then .inr (mK S a + 2, fv S a (fT (mK S a)) 0) else aE G S a (mK S a - 10)
def TY (G : GP) : List (ClassId × FieldType) := [(G.2 0, .char), (G.2 1, .float), (G.2 2, .int), (G.2 3, .boolean), (G.2 4, .object "SkirmishGrid$Fight"), (G.2 5, .object "SkirmishGrid$Unit"), (G.2 6, .long), (G.2 7, .double)]
def pI (S : MS) (kd a : Nat) : Prop := a ∈ mL S ∧ mK S a = kd
def pQ (S : MS) (kd : Nat) (r : Option Nat) : Prop := ∀ a, r = some a → pI S kd a
def wf (S : MS) : Prop := ∀ a ∈ mL S, ∀ k b, mR S a k = some b → pI S (rT (mK S a) k) b
def ext (S T : MS) : Prop := ∀ a ∈ mL S, a ∈ mL T ∧ mK T a = mK S a ∧ mN T a = mN S a
theorem ext_rf {S : MS} : ext S S := fun _ h => ⟨h, rfl, rfl⟩
theorem ext_tr {S T U : MS} (h : ext S T) (g : ext T U) : ext S U := fun a ha => ⟨(g a (h a ha).1).1, ((g a (h a ha).1).2.1).trans (h a ha).2.1, ((g a (h a ha).1).2.2).trans (h a ha).2.2⟩
theorem pI_x {S T : MS} {kd a : Nat} (g : ext S T) (h : pI S kd a) : pI T kd a := ⟨(g a h.1).1, ((g a h.1).2.1).trans h.2⟩
theorem pQ_x {S T : MS} {kd : Nat} {r : Option Nat} (g : ext S T) (h : pQ S kd r) : pQ T kd r := fun a e => pI_x g (h a e)
theorem pQ_n {S : MS} {kd : Nat} : pQ S kd none := fun _ e => by cases e
theorem pQ_s {S : MS} {kd a : Nat} (h : pI S kd a) : pQ S kd (some a) := fun _ e => by cases e; exact h
theorem ext_sI {S : MS} {a k : Nat} {v : Int32} : ext S (sI S a k v) := fun _ h => ⟨h, rfl, rfl⟩
theorem ext_sR {S : MS} {a k : Nat} {v : Option Nat} : ext S (sR S a k v) := fun _ h => ⟨h, rfl, rfl⟩
theorem ext_sF {S : MS} {a k : Nat} {v : UInt32} : ext S (sF S a k v) := fun _ h => ⟨h, rfl, rfl⟩
theorem ext_sJ {S : MS} {a k : Nat} {v : Int64} : ext S (sJ S a k v) := fun _ h => ⟨h, rfl, rfl⟩
theorem ext_sD {S : MS} {a k : Nat} {v : UInt64} : ext S (sD S a k v) := fun _ h => ⟨h, rfl, rfl⟩
theorem ext_sIr {S : MS} {a : Nat} {f : Nat → Int32} : ext S (sIr S a f) := fun _ h => ⟨h, rfl, rfl⟩
theorem ext_nw {S : MS} {q kd n : Nat} (hq : q ∉ mL S) : ext S (nw S q kd n) := by
  intro a ha
  have hne : a ≠ q := fun e => hq (e ▸ ha)
  refine ⟨List.mem_append_left _ ha, ?_, ?_⟩
  · show va_up S.2.1 q kd a = S.2.1 a
    simp [va_up, hne]
  · show va_up S.2.2.1 q n a = S.2.2.1 a
    simp [va_up, hne]
theorem pI_nw {S : MS} {q kd n : Nat} : pI (nw S q kd n) kd q := by
  refine ⟨List.mem_append_right _ (List.mem_singleton.mpr rfl), ?_⟩
  show va_up S.2.1 q kd q = kd
  simp [va_up]
theorem wf_sI {S : MS} {a k : Nat} {v : Int32} (h : wf S) : wf (sI S a k v) := h
theorem wf_sF {S : MS} {a k : Nat} {v : UInt32} (h : wf S) : wf (sF S a k v) := h
theorem wf_sJ {S : MS} {a k : Nat} {v : Int64} (h : wf S) : wf (sJ S a k v) := h
theorem wf_sD {S : MS} {a k : Nat} {v : UInt64} (h : wf S) : wf (sD S a k v) := h
theorem wf_sIr {S : MS} {a : Nat} {f : Nat → Int32} (h : wf S) : wf (sIr S a f) := h
theorem wf_sR {S : MS} {a k : Nat} {v : Option Nat} (h : wf S) (hv : pQ S (rT (mK S a) k) v) : wf (sR S a k v) := by
  intro b hb j x hx
  have hx' : up2 (mR S) a k v b j = some x := hx
  unfold up2 at hx'
  by_cases hc : b = a ∧ j = k
  · rw [if_pos hc] at hx'
    obtain ⟨rfl, rfl⟩ := hc
    exact hv x hx'
  · rw [if_neg hc] at hx'
    exact h b hb j x hx'
theorem wf_nw {S : MS} {q kd n : Nat} (hq : q ∉ mL S) (h : wf S) : wf (nw S q kd n) := by
  intro b hb j x hx
  have hx' : va_up (mR S) q (fun _ => none) b j = some x := hx
  by_cases hc : b = q
  · simp [va_up, hc] at hx'
  · have hb' : b ∈ mL S := by
      rcases List.mem_append.mp hb with g | g
      · exact g
      · exact absurd (List.mem_singleton.mp g) hc
    have hx2 : mR S b j = some x := by simpa [va_up, hc] using hx'
    have := h b hb' j x hx2
    have e : mK (nw S q kd n) b = mK S b := (ext_nw hq b hb').2.1
    rw [e]
    exact pI_x (ext_nw hq) this
/-! what the cells are behind a change -/
theorem fv_sI_out {S : MS} {a k : Nat} {v : Int32} : ∀ (r : List Nat) (j : Nat), k < j → fv (sI S a k v) a r j = fv S a r j
  | [], _, _ => rfl
  | t :: r, j, h => by
    have e : mI (sI S a k v) a j = mI S a j := by
      show up2 (mI S) a k v a j = mI S a j
      unfold up2
      rw [if_neg (fun q => by omega)]
    show (if t = 0 then Value.int (mI (sI S a k v) a j) else va_rf (mR S a j)) :: fv (sI S a k v) a r (j + 1) = _
    rw [e, fv_sI_out r (j + 1) (by omega)]
    rfl
theorem fv_sI {S : MS} {a k : Nat} {v : Int32} : ∀ (r : List Nat) (j i : Nat), k = j + i → r[i]? = some 0 → fv (sI S a k v) a r j = (fv S a r j).set i (.int v)
  | [], _, _, _, h => by simp at h
  | t :: r, j, 0, hk, h => by
    have ht : t = 0 := by simpa using h
    subst ht
    have e : mI (sI S a k v) a j = v := by
      show up2 (mI S) a k v a j = v
      unfold up2
      rw [if_pos ⟨rfl, by omega⟩]
    show (if (0 : Nat) = 0 then Value.int (mI (sI S a k v) a j) else va_rf (mR S a j)) :: fv (sI S a k v) a r (j + 1) = _
    rw [e, fv_sI_out r (j + 1) (by omega)]
    rfl
  | t :: r, j, i + 1, hk, h => by
    have e : mI (sI S a k v) a j = mI S a j := by
      show up2 (mI S) a k v a j = mI S a j
      unfold up2
      rw [if_neg (fun q => by omega)]
    show (if t = 0 then Value.int (mI (sI S a k v) a j) else va_rf (mR S a j)) :: fv (sI S a k v) a r (j + 1) = _
    rw [e, fv_sI r (j + 1) i (by omega) (by simpa using h)]
    rfl
theorem fv_sR_out {S : MS} {a k : Nat} {v : Option Nat} : ∀ (r : List Nat) (j : Nat), k < j → fv (sR S a k v) a r j = fv S a r j
  | [], _, _ => rfl
  | t :: r, j, h => by
    have e : mR (sR S a k v) a j = mR S a j := by
      show up2 (mR S) a k v a j = mR S a j
      unfold up2
      rw [if_neg (fun q => by omega)]
    show (if t = 0 then Value.int (mI S a j) else va_rf (mR (sR S a k v) a j)) :: fv (sR S a k v) a r (j + 1) = _
    rw [e, fv_sR_out r (j + 1) (by omega)]
    rfl
theorem fv_sR {S : MS} {a k : Nat} {v : Option Nat} : ∀ (r : List Nat) (j i : Nat), k = j + i → r[i]? = some 1 → fv (sR S a k v) a r j = (fv S a r j).set i (va_rf v)
  | [], _, _, _, h => by simp at h
  | t :: r, j, 0, hk, h => by
    have ht : t = 1 := by simpa using h
    subst ht
    have e : mR (sR S a k v) a j = v := by
      show up2 (mR S) a k v a j = v
      unfold up2
      rw [if_pos ⟨rfl, by omega⟩]
    show (if (1 : Nat) = 0 then Value.int (mI S a j) else va_rf (mR (sR S a k v) a j)) :: fv (sR S a k v) a r (j + 1) = _
    rw [e, fv_sR_out r (j + 1) (by omega)]
    rfl
  | t :: r, j, i + 1, hk, h => by
    have e : mR (sR S a k v) a j = mR S a j := by
      show up2 (mR S) a k v a j = mR S a j
      unfold up2
      rw [if_neg (fun q => by omega)]
    show (if t = 0 then Value.int (mI S a j) else va_rf (mR (sR S a k v) a j)) :: fv (sR S a k v) a r (j + 1) = _
    rw [e, fv_sR r (j + 1) i (by omega) (by simpa using h)]
    rfl
theorem fv_cg {S T : MS} {a b : Nat} (hI : ∀ j, mI S a j = mI T b j) (hR : ∀ j, mR S a j = mR T b j) : ∀ (r : List Nat) (j : Nat), fv S a r j = fv T b r j
  | [], _ => rfl
  | t :: r, j => by
    show (if t = 0 then Value.int (mI S a j) else va_rf (mR S a j)) :: fv S a r (j + 1) = (if t = 0 then Value.int (mI T b j) else va_rf (mR T b j)) :: fv T b r (j + 1)
    rw [hI j, hR j, fv_cg hI hR r (j + 1)]
theorem aE_cg {G : GP} {S T : MS} {a : Nat} (hN : mN S a = mN T a) (hI : mI S a = mI T a) (hR : mR S a = mR T a) (hF : mF S a = mF T a) (hJ : mJ S a = mJ T a) (hD : mD S a = mD T a) : ∀ k, aE G S a k = aE G T a k := by
  intro k
  match k with
  | 0 => simp only [aE, hN, hI]
  | 1 => simp only [aE, hN, hF]
  | 2 => simp only [aE, hN, hI]
  | 3 => simp only [aE, hN, hI]
  | 4 => simp only [aE, hN, hR]
  | 5 => simp only [aE, hN, hR]
  | 6 => simp only [aE, hN, hJ]
  | k + 7 => simp only [aE, hN, hD]
theorem ce_cg {G : GP} {S T : MS} {a : Nat} (hK : mK S a = mK T a) (hN : mN S a = mN T a) (hI : mI S a = mI T a) (hR : mR S a = mR T a) (hF : mF S a = mF T a) (hJ : mJ S a = mJ T a) (hD : mD S a = mD T a) : ce G S a = ce G T a := by
  unfold ce
  rw [hK, fv_cg (fun j => congrFun hI j) (fun j => congrFun hR j), aE_cg hN hI hR hF hJ hD]
theorem up2_ne {α : Type} {f : Nat → Nat → α} {a k b : Nat} {v : α} (h : b ≠ a) : up2 f a k v b = f b := by
  funext j
  unfold up2
  rw [if_neg (fun q => h q.1)]
theorem up2_same {α : Type} {f : Nat → Nat → α} {a k : Nat} {v : α} : up2 f a k v a = fun j => if j = k then v else f a j := by
  funext j
  unfold up2
  simp
theorem ce_sI_o {G : GP} {S : MS} {a k b : Nat} {v : Int32} (h : b ≠ a) : ce G (sI S a k v) b = ce G S b := ce_cg rfl rfl (up2_ne h) rfl rfl rfl rfl
theorem ce_sR_o {G : GP} {S : MS} {a k b : Nat} {v : Option Nat} (h : b ≠ a) : ce G (sR S a k v) b = ce G S b := ce_cg rfl rfl rfl (up2_ne h) rfl rfl rfl
theorem ce_sF_o {G : GP} {S : MS} {a k b : Nat} {v : UInt32} (h : b ≠ a) : ce G (sF S a k v) b = ce G S b := ce_cg rfl rfl rfl rfl (up2_ne h) rfl rfl
theorem ce_sJ_o {G : GP} {S : MS} {a k b : Nat} {v : Int64} (h : b ≠ a) : ce G (sJ S a k v) b = ce G S b := ce_cg rfl rfl rfl rfl rfl (up2_ne h) rfl
theorem ce_sD_o {G : GP} {S : MS} {a k b : Nat} {v : UInt64} (h : b ≠ a) : ce G (sD S a k v) b = ce G S b := ce_cg rfl rfl rfl rfl rfl rfl (up2_ne h)
theorem va_up_o {α : Type} {f : Nat → α} {a b : Nat} {v : α} (h : b ≠ a) : va_up f a v b = f b := by simp [va_up, h]
theorem va_up_s {α : Type} {f : Nat → α} {a : Nat} {v : α} : va_up f a v a = v := by simp [va_up]
theorem ce_sIr_o {G : GP} {S : MS} {a b : Nat} {f : Nat → Int32} (h : b ≠ a) : ce G (sIr S a f) b = ce G S b := ce_cg rfl rfl (va_up_o h) rfl rfl rfl rfl
theorem ce_nw_o {G : GP} {S : MS} {q kd n b : Nat} (h : b ≠ q) : ce G (nw S q kd n) b = ce G S b := ce_cg (va_up_o h) (va_up_o h) (va_up_o h) (va_up_o h) (va_up_o h) (va_up_o h) (va_up_o h)
theorem ce_up {G : GP} {S T : MS} {a : Nat} {x : va_E} (ho : ∀ b, b ≠ a → ce G T b = ce G S b) (ha : ce G T a = x) : ∀ b, va_up (ce G S) a x b = ce G T b := by
  intro b
  by_cases h : b = a
  · subst h
    rw [va_up_s, ha]
  · rw [va_up_o h, ho b h]
theorem ce_ob {G : GP} {S : MS} {kd a : Nat} (h : pI S kd a) (hk : kd < 10) : ce G S a = .inr (kd + 2, fv S a (fT kd) 0) := by
  unfold ce
  rw [h.2, if_pos hk]
theorem ce_ar {G : GP} {S : MS} {kd a : Nat} (h : pI S (kd + 10) a) : ce G S a = aE G S a kd := by
  unfold ce
  rw [h.2, if_neg (by omega), Nat.add_sub_cancel]
theorem fv_at {S : MS} {a : Nat} : ∀ (r : List Nat) (j i : Nat), (fv S a r j)[i]? = (r[i]?).map (fun t => if t = 0 then .int (mI S a (j + i)) else va_rf (mR S a (j + i)))
  | [], _, _ => by simp [fv]
  | t :: r, j, 0 => by simp [fv]
  | t :: r, j, i + 1 => by
    have := fv_at (S := S) (a := a) r (j + 1) i
    simp only [fv, List.getElem?_cons_succ]
    rw [this, show j + 1 + i = j + (i + 1) by omega]
theorem fv_len {S : MS} {a : Nat} : ∀ (r : List Nat) (j : Nat), (fv S a r j).length = r.length
  | [], _ => rfl
  | t :: r, j => by simp [fv, fv_len r (j + 1)]
