/-! virtual memory: cells by their number; what a wp asks is computed there -/
abbrev CV : Type := Nat × List Int32 × List (Option Nat) × List UInt32 × List Int64 × List UInt64
abbrev VS : Type := List CV
abbrev Rs (α : Type) : Type := Option ((α × VS) ⊕ (String × VS))
def c0 (N : Nat) : CV := (N, [], [], [], [], [])
def vC (V : VS) (i : Nat) : CV := V.getD i (c0 0)
def vN (V : VS) (i : Nat) : Nat := (vC V i).1
def vI (V : VS) (i k : Nat) : Int32 := (vC V i).2.1.getD k 0
def vR (V : VS) (i k : Nat) : Option Nat := (vC V i).2.2.1.getD k none
def vF (V : VS) (i k : Nat) : UInt32 := (vC V i).2.2.2.1.getD k 0
def vJ (V : VS) (i k : Nat) : Int64 := (vC V i).2.2.2.2.1.getD k 0
def vD (V : VS) (i k : Nat) : UInt64 := (vC V i).2.2.2.2.2.getD k 0
def putL {α : Type} (d : α) : List α → Nat → α → List α
  | [], 0, v => [v]
  | [], k + 1, v => d :: putL d [] k v
  | _ :: r, 0, v => v :: r
  | x :: r, k + 1, v => x :: putL d r k v
theorem putL_get {α : Type} (d : α) : ∀ (l : List α) (k : Nat) (v : α) (j : Nat), (putL d l k v).getD j d = if j = k then v else l.getD j d
  | [], 0, v, 0 => by simp [putL]
  | [], 0, v, j + 1 => by simp [putL]
  | [], k + 1, v, 0 => by simp [putL]
  | [], k + 1, v, j + 1 => by
    have h := putL_get d [] k v j
    simp only [putL, List.getD_cons_succ, h, Nat.add_right_cancel_iff, List.getD_nil]
  | x :: r, 0, v, 0 => by simp [putL]
  | x :: r, 0, v, j + 1 => by simp [putL]
  | x :: r, k + 1, v, 0 => by simp [putL]
  | x :: r, k + 1, v, j + 1 => by
    have h := putL_get d r k v j
    simp only [putL, List.getD_cons_succ, h, Nat.add_right_cancel_iff]
def upC : VS → Nat → (CV → CV) → VS
  | [], _, _ => []
  | c :: r, 0, f => f c :: r
  | c :: r, i + 1, f => c :: upC r i f
theorem upC_len : ∀ (V : VS) (i : Nat) (f : CV → CV), (upC V i f).length = V.length
  | [], _, _ => rfl
  | _ :: _, 0, _ => rfl
  | _ :: r, i + 1, f => by simp only [upC, List.length_cons, upC_len r i f]
theorem upC_eq : ∀ (V : VS) (i : Nat) (f : CV → CV), i < V.length → vC (upC V i f) i = f (vC V i)
  | [], i, f, h => absurd h (Nat.not_lt_zero i)
  | c :: r, 0, f, _ => rfl
  | c :: r, i + 1, f, h => by
    have := upC_eq r i f (Nat.lt_of_succ_lt_succ h)
    simpa only [vC, upC, List.getD_cons_succ] using this
theorem upC_ne : ∀ (V : VS) (i j : Nat) (f : CV → CV), j ≠ i → vC (upC V i f) j = vC V j
  | [], i, j, f, _ => rfl
  | c :: r, 0, 0, f, h => absurd rfl h
  | c :: r, 0, j + 1, f, _ => by simp only [vC, upC, List.getD_cons_succ]
  | c :: r, i + 1, 0, f, _ => by simp only [vC, upC, List.getD_cons_zero]
  | c :: r, i + 1, j + 1, f, h => by
    have := upC_ne r i j f (fun e => h (by rw [e]))
    simpa only [vC, upC, List.getD_cons_succ] using this
def wI (V : VS) (i k : Nat) (v : Int32) : VS := upC V i (fun c => (c.1, putL 0 c.2.1 k v, c.2.2))
def wR (V : VS) (i k : Nat) (v : Option Nat) : VS := upC V i (fun c => (c.1, c.2.1, putL none c.2.2.1 k v, c.2.2.2))
def wF (V : VS) (i k : Nat) (v : UInt32) : VS := upC V i (fun c => (c.1, c.2.1, c.2.2.1, putL 0 c.2.2.2.1 k v, c.2.2.2.2))
def wJ (V : VS) (i k : Nat) (v : Int64) : VS := upC V i (fun c => (c.1, c.2.1, c.2.2.1, c.2.2.2.1, putL 0 c.2.2.2.2.1 k v, c.2.2.2.2.2))
def wD (V : VS) (i k : Nat) (v : UInt64) : VS := upC V i (fun c => (c.1, c.2.1, c.2.2.1, c.2.2.2.1, c.2.2.2.2.1, putL 0 c.2.2.2.2.2 k v))
def cpyL (x y : List Int32) (sp dp n : Nat) : List Int32 := (List.range (max y.length (dp + n))).map (fun k => va_cpy (fun j => x.getD j 0) (fun j => y.getD j 0) sp dp n k)
def wC (V : VS) (a b sp dp n : Nat) : VS := upC V a (fun c => (c.1, cpyL (vC V b).2.1 c.2.1 sp dp n, c.2.2))
def rt {α : Type} (a : α) (V : VS) : Rs α := some (.inl (a, V))
def th {α : Type} (E : String) (V : VS) : Rs α := some (.inr (E, V))
def sq {α : Type} (V : VS) (f : VS → Rs α) : Rs α := f V
def nwV {α : Type} (V : VS) (N : Nat) (f : VS → Nat → Rs α) : Rs α := f (V ++ [c0 N]) V.length
def om {α : Type} (r : Option Nat) (x : Rs α) (f : Nat → Rs α) : Rs α := match r with
  | none => x
  | some i => f i
def bd {α β : Type} (x : Rs α) (f : α → VS → Rs β) (g : String → VS → Rs β) : Rs β := match x with
  | none => none
  | some (.inl a) => f a.1 a.2
  | some (.inr a) => g a.1 a.2
def gd0 {α : Type} (x : Rs α) (A : α → VS → Prop) (B : String → VS → Prop) : Prop := match x with
  | none => False
  | some (.inl a) => A a.1 a.2
  | some (.inr a) => B a.1 a.2
def gd {α : Type} (x : Rs α) (A : α → VS → Prop) (B : String → VS → Prop) : Prop := ∀ r, r = x → gd0 r A B
theorem gd_0 {α : Type} {x : Rs α} {A : α → VS → Prop} {B : String → VS → Prop} (h : gd x A B) : gd0 x A B := h x rfl
theorem gd_1 {α : Type} {x : Rs α} {A : α → VS → Prop} {B : String → VS → Prop} (h : gd0 x A B) : gd x A B := fun r e => by rw [e]; exact h
theorem gd_none {α : Type} {A : α → VS → Prop} {B : String → VS → Prop} (h : gd (none : Rs α) A B) : False := gd_0 h
theorem gd_rt {α : Type} {a : α} {V : VS} {A : α → VS → Prop} {B : String → VS → Prop} (h : gd (rt a V) A B) : A a V := gd_0 h
theorem gd_th {α : Type} {E : String} {V : VS} {A : α → VS → Prop} {B : String → VS → Prop} (h : gd (th E V : Rs α) A B) : B E V := gd_0 h
theorem gd_bd {α β : Type} {x : Rs α} {f : α → VS → Rs β} {g : String → VS → Rs β} {A : β → VS → Prop} {B : String → VS → Prop} (h : gd (bd x f g) A B) : gd x (fun r V => gd (f r V) A B) (fun E V => gd (g E V) A B) := by
  rcases x with _ | a | a
  · exact gd_1 (gd_none h)
  · exact gd_1 h
  · exact gd_1 h
theorem gd_mono {α : Type} {x : Rs α} {A A2 : α → VS → Prop} {B B2 : String → VS → Prop} (h : gd x A B) (f : ∀ r V, A r V → A2 r V) (g : ∀ E V, B E V → B2 E V) : gd x A2 B2 := by
  have h := gd_0 h
  rcases x with _ | a | a
  · exact h.elim
  · exact gd_1 (f _ _ h)
  · exact gd_1 (g _ _ h)
theorem gd_yes {α : Type} {c : Prop} {_ : Decidable c} {t e : Rs α} {A : α → VS → Prop} {B : String → VS → Prop} (hQ : gd (if c then t else e) A B) (h : c) : gd t A B := by
  rw [if_pos h] at hQ; exact hQ
theorem gd_no {α : Type} {c : Prop} {_ : Decidable c} {t e : Rs α} {A : α → VS → Prop} {B : String → VS → Prop} (hQ : gd (if c then t else e) A B) (h : ¬ c) : gd e A B := by
  rw [if_neg h] at hQ; exact hQ
/-! the relation of memory and virtual memory -/
def Ad (S : MS) (a i : Nat) : Prop := (mL S)[i]? = some a
def RO (S : MS) (r : Option Nat) : Option Nat → Prop
  | none => r = none
  | some j => ∃ b, r = some b ∧ Ad S b j
def Cr (S : MS) (a : Nat) (c : CV) : Prop := mN S a = c.1 ∧ (∀ k, mI S a k = c.2.1.getD k 0) ∧ (∀ k, RO S (mR S a k) (c.2.2.1.getD k none)) ∧ (∀ k, mF S a k = c.2.2.2.1.getD k 0) ∧ (∀ k, mJ S a k = c.2.2.2.2.1.getD k 0) ∧ (∀ k, mD S a k = c.2.2.2.2.2.getD k 0)
def SM (S : MS) (V : VS) : Prop := (mL S).length = V.length ∧ (mL S).Nodup ∧ ∀ i a, Ad S a i → Cr S a (vC V i)
def Ex (S T : MS) : Prop := ∀ a i, Ad S a i → Ad T a i
theorem Ex_rf {S : MS} : Ex S S := fun _ _ h => h
theorem Ex_tr {S T U : MS} (h : Ex S T) (g : Ex T U) : Ex S U := fun a i x => g a i (h a i x)
theorem RO_x {S T : MS} (g : Ex S T) {r r' : Option Nat} (h : RO S r r') : RO T r r' := by
  cases r' with
  | none => exact h
  | some j => obtain ⟨b, h1, h2⟩ := h; exact ⟨b, h1, g _ _ h2⟩
theorem SM_I {S : MS} {V : VS} {a i : Nat} (h : SM S V) (ha : Ad S a i) : ∀ k, mI S a k = vI V i k := (h.2.2 i a ha).2.1
theorem SM_N {S : MS} {V : VS} {a i : Nat} (h : SM S V) (ha : Ad S a i) : mN S a = vN V i := (h.2.2 i a ha).1
theorem SM_F {S : MS} {V : VS} {a i : Nat} (h : SM S V) (ha : Ad S a i) : ∀ k, mF S a k = vF V i k := (h.2.2 i a ha).2.2.2.1
theorem SM_J {S : MS} {V : VS} {a i : Nat} (h : SM S V) (ha : Ad S a i) : ∀ k, mJ S a k = vJ V i k := (h.2.2 i a ha).2.2.2.2.1
theorem SM_D {S : MS} {V : VS} {a i : Nat} (h : SM S V) (ha : Ad S a i) : ∀ k, mD S a k = vD V i k := (h.2.2 i a ha).2.2.2.2.2
theorem Ad_lt {S : MS} {V : VS} {a i : Nat} (h : SM S V) (ha : Ad S a i) : i < V.length := by
  rw [← h.1]; exact (List.getElem?_eq_some_iff.mp ha).1
theorem Ad_in {S : MS} {a i j : Nat} (h : (mL S).Nodup) (h1 : Ad S a i) (h2 : Ad S a j) : j = i := by
  have hl := (List.getElem?_eq_some_iff.mp h2).1
  exact (List.getElem?_inj hl h).mp (h2.trans h1.symm)
theorem Ad_fn {S : MS} {a b i : Nat} (h1 : Ad S a i) (h2 : Ad S b i) : a = b := Option.some.inj (h1.symm.trans h2)
/-- a change of one cell -/
theorem SM_up {S T : MS} {V : VS} {a i : Nat} {f : CV → CV} (h : SM S V) (ha : Ad S a i) (hL : mL T = mL S) (h1 : Cr T a (f (vC V i))) (h2 : ∀ b, b ≠ a → ∀ c, Cr S b c → Cr T b c) : SM T (upC V i f) ∧ Ex S T := by
  have hA : ∀ b j, Ad T b j ↔ Ad S b j := fun b j => by unfold Ad; rw [hL]
  refine ⟨⟨by rw [hL, upC_len]; exact h.1, by rw [hL]; exact h.2.1, fun j b hb => ?_⟩, fun b j hb => (hA b j).mpr hb⟩
  have hb' := (hA b j).mp hb
  by_cases e : b = a
  · subst e
    have : j = i := Ad_in h.2.1 ha hb'
    subst this
    rw [upC_eq V j f (Ad_lt h ha)]; exact h1
  · have hj : j ≠ i := fun e2 => by subst e2; exact e (Ad_fn hb' ha)
    rw [upC_ne V i j f hj]; exact h2 b e _ (h.2.2 j b hb')
theorem u2_eq {α : Type} {f : Nat → Nat → α} {a k : Nat} {v : α} {d : α} {l : List α} (h : ∀ j, f a j = l.getD j d) : ∀ j, up2 f a k v a j = (putL d l k v).getD j d := fun j => by
  unfold up2; rw [putL_get]
  by_cases e : j = k
  · rw [if_pos ⟨rfl, e⟩, if_pos e]
  · rw [if_neg (fun x => e x.2), if_neg e]; exact h j
theorem u2_ne {α : Type} {f : Nat → Nat → α} {a b k : Nat} {v : α} (h : b ≠ a) (j : Nat) : up2 f a k v b j = f b j := by
  unfold up2; rw [if_neg (fun x => h x.1)]
theorem st_sI {α : Type} {S S2 : MS} {V : VS} {a i k k' : Nat} {v v' : Int32} {f : VS → Rs α} {A : α → VS → Prop} {B : String → VS → Prop} (hS : SM S V) (ha : Ad S a i) (eS : S2 = sI S a k v) (ek : k = k') (ev : v = v') (hQ : gd (sq (wI V i k' v') f) A B) : ∃ V2, SM S2 V2 ∧ Ex S S2 ∧ gd (f V2) A B := by
  subst eS; subst ek; subst ev
  have c := hS.2.2 i a ha
  have := SM_up (T := sI S a k v) (f := fun c => (c.1, putL 0 c.2.1 k v, c.2.2)) hS ha rfl ⟨c.1, u2_eq c.2.1, c.2.2⟩ (fun b hb c hc => ⟨hc.1, fun j => (u2_ne hb j).trans (hc.2.1 j), hc.2.2⟩)
  exact ⟨_, this.1, this.2, hQ⟩
theorem st_sF {α : Type} {S S2 : MS} {V : VS} {a i k k' : Nat} {v v' : UInt32} {f : VS → Rs α} {A : α → VS → Prop} {B : String → VS → Prop} (hS : SM S V) (ha : Ad S a i) (eS : S2 = sF S a k v) (ek : k = k') (ev : v = v') (hQ : gd (sq (wF V i k' v') f) A B) : ∃ V2, SM S2 V2 ∧ Ex S S2 ∧ gd (f V2) A B := by
  subst eS; subst ek; subst ev
  have c := hS.2.2 i a ha
  have := SM_up (T := sF S a k v) (f := fun c => (c.1, c.2.1, c.2.2.1, putL 0 c.2.2.2.1 k v, c.2.2.2.2)) hS ha rfl ⟨c.1, c.2.1, c.2.2.1, u2_eq c.2.2.2.1, c.2.2.2.2⟩ (fun b hb c hc => ⟨hc.1, hc.2.1, hc.2.2.1, fun j => (u2_ne hb j).trans (hc.2.2.2.1 j), hc.2.2.2.2⟩)
  exact ⟨_, this.1, this.2, hQ⟩
theorem st_sJ {α : Type} {S S2 : MS} {V : VS} {a i k k' : Nat} {v v' : Int64} {f : VS → Rs α} {A : α → VS → Prop} {B : String → VS → Prop} (hS : SM S V) (ha : Ad S a i) (eS : S2 = sJ S a k v) (ek : k = k') (ev : v = v') (hQ : gd (sq (wJ V i k' v') f) A B) : ∃ V2, SM S2 V2 ∧ Ex S S2 ∧ gd (f V2) A B := by
  subst eS; subst ek; subst ev
  have c := hS.2.2 i a ha
  have := SM_up (T := sJ S a k v) (f := fun c => (c.1, c.2.1, c.2.2.1, c.2.2.2.1, putL 0 c.2.2.2.2.1 k v, c.2.2.2.2.2)) hS ha rfl ⟨c.1, c.2.1, c.2.2.1, c.2.2.2.1, u2_eq c.2.2.2.2.1, c.2.2.2.2.2⟩ (fun b hb c hc => ⟨hc.1, hc.2.1, hc.2.2.1, hc.2.2.2.1, fun j => (u2_ne hb j).trans (hc.2.2.2.2.1 j), hc.2.2.2.2.2⟩)
  exact ⟨_, this.1, this.2, hQ⟩
theorem st_sD {α : Type} {S S2 : MS} {V : VS} {a i k k' : Nat} {v v' : UInt64} {f : VS → Rs α} {A : α → VS → Prop} {B : String → VS → Prop} (hS : SM S V) (ha : Ad S a i) (eS : S2 = sD S a k v) (ek : k = k') (ev : v = v') (hQ : gd (sq (wD V i k' v') f) A B) : ∃ V2, SM S2 V2 ∧ Ex S S2 ∧ gd (f V2) A B := by
  subst eS; subst ek; subst ev
  have c := hS.2.2 i a ha
  have := SM_up (T := sD S a k v) (f := fun c => (c.1, c.2.1, c.2.2.1, c.2.2.2.1, c.2.2.2.2.1, putL 0 c.2.2.2.2.2 k v)) hS ha rfl ⟨c.1, c.2.1, c.2.2.1, c.2.2.2.1, c.2.2.2.2.1, u2_eq c.2.2.2.2.2⟩ (fun b hb c hc => ⟨hc.1, hc.2.1, hc.2.2.1, hc.2.2.2.1, hc.2.2.2.2.1, fun j => (u2_ne hb j).trans (hc.2.2.2.2.2 j)⟩)
  exact ⟨_, this.1, this.2, hQ⟩
theorem st_sR {α : Type} {S S2 : MS} {V : VS} {a i b j k k' : Nat} {f : VS → Rs α} {A : α → VS → Prop} {B : String → VS → Prop} (hS : SM S V) (ha : Ad S a i) (eS : S2 = sR S a k (some b)) (ek : k = k') (hb : Ad S b j) (hQ : gd (sq (wR V i k' (some j)) f) A B) : ∃ V2, SM S2 V2 ∧ Ex S S2 ∧ gd (f V2) A B := by
  subst eS; subst ek
  have c := hS.2.2 i a ha
  have := SM_up (T := sR S a k (some b)) (f := fun c => (c.1, c.2.1, putL none c.2.2.1 k (some j), c.2.2.2)) hS ha rfl ⟨c.1, c.2.1, fun q => by
      show RO S (up2 (mR S) a k (some b) a q) ((putL none (vC V i).2.2.1 k (some j)).getD q none)
      rw [putL_get]; unfold up2
      by_cases e : q = k
      · rw [if_pos ⟨rfl, e⟩, if_pos e]; exact ⟨b, rfl, hb⟩
      · rw [if_neg (fun x => e x.2), if_neg e]; exact c.2.2.1 q, c.2.2.2⟩ (fun b2 h2 c hc => ⟨hc.1, hc.2.1, fun q => by
      show RO S (up2 (mR S) a k (some b) b2 q) _
      rw [u2_ne h2]; exact hc.2.2.1 q, hc.2.2.2⟩)
  exact ⟨_, this.1, this.2, hQ⟩
theorem cpyL_get (x y : List Int32) (sp dp n j : Nat) : (cpyL x y sp dp n).getD j 0 = va_cpy (fun j => x.getD j 0) (fun j => y.getD j 0) sp dp n j := by
  unfold cpyL
  rw [List.getD_eq_getElem?_getD, List.getElem?_map]
  by_cases h : j < max y.length (dp + n)
  · rw [List.getElem?_range h]; rfl
  · rw [List.getElem?_eq_none (by rw [List.length_range]; omega)]
    have h1 : y.length ≤ j := by omega
    have h2 : ¬ (dp ≤ j ∧ j < dp + n) := by omega
    simp only [va_cpy, Option.map_none, Option.getD_none]
    rw [if_neg (by omega), List.getD_eq_getElem?_getD, List.getElem?_eq_none h1]; rfl
theorem st_sIr {α : Type} {S S2 : MS} {V : VS} {a b i j x x' y y' z z' : Nat} {f : VS → Rs α} {A : α → VS → Prop} {B : String → VS → Prop} (hS : SM S V) (ha : Ad S a i) (hb : Ad S b j) (eS : S2 = sIr S a (va_cpy (mI S b) (mI S a) x y z)) (e1 : x = x') (e2 : y = y') (e3 : z = z') (hQ : gd (sq (wC V i j x' y' z') f) A B) : ∃ V2, SM S2 V2 ∧ Ex S S2 ∧ gd (f V2) A B := by
  subst eS; subst e1; subst e2; subst e3
  have c := hS.2.2 i a ha
  have hf : va_cpy (mI S b) (mI S a) x y z = va_cpy (fun q => (vC V j).2.1.getD q 0) (fun q => (vC V i).2.1.getD q 0) x y z := by
    rw [funext (SM_I hS hb), funext (SM_I hS ha)]; rfl
  have := SM_up (T := sIr S a (va_cpy (mI S b) (mI S a) x y z)) (f := fun c => (c.1, cpyL (vC V j).2.1 c.2.1 x y z, c.2.2)) hS ha rfl ⟨c.1, fun q => by
      show va_up (mI S) a _ a q = _
      rw [cpyL_get, hf]; simp [va_up], c.2.2⟩ (fun b2 h2 c hc => ⟨hc.1, fun q => by
      show va_up (mI S) a _ b2 q = _
      simp only [va_up, if_neg h2]; exact hc.2.1 q, hc.2.2⟩)
  exact ⟨_, this.1, this.2, hQ⟩
theorem st_nw {α : Type} {S S2 : MS} {V : VS} {q kd N N' : Nat} {f : VS → Nat → Rs α} {A : α → VS → Prop} {B : String → VS → Prop} (hS : SM S V) (hq : q ∉ mL S) (eS : S2 = nw S q kd N) (eN : N = N') (hQ : gd (nwV V N' f) A B) : ∃ V2 i, SM S2 V2 ∧ Ex S S2 ∧ Ad S2 q i ∧ gd (f V2 i) A B := by
  subst eS; subst eN
  have hx : Ex S (nw S q kd N) := fun a i h => by
    show (mL S ++ [q])[i]? = some a
    rw [List.getElem?_append_left (List.getElem?_eq_some_iff.mp h).1]; exact h
  refine ⟨V ++ [c0 N], V.length, ⟨?_, ?_, fun i a h => ?_⟩, hx, ?_, hQ⟩
  · show (mL S ++ [q]).length = _
    simp only [List.length_append, hS.1, List.length_singleton]
  · show (mL S ++ [q]).Nodup
    exact List.nodup_append.mpr ⟨hS.2.1, by simp, fun a h b h2 => by rw [List.mem_singleton.mp h2]; exact fun e => hq (e ▸ h)⟩
  · have h' : (mL S ++ [q])[i]? = some a := h
    by_cases hi : i < (mL S).length
    · rw [List.getElem?_append_left hi] at h'
      have hne : a ≠ q := fun e => hq (e ▸ List.mem_of_getElem? h')
      have hv : vC (V ++ [c0 N]) i = vC V i := by
        unfold vC; rw [List.getD_eq_getElem?_getD, List.getD_eq_getElem?_getD, List.getElem?_append_left (by rw [← hS.1]; exact hi)]
      rw [hv]
      have c := hS.2.2 i a h'
      refine ⟨?_, fun k => ?_, fun k => ?_, fun k => ?_, fun k => ?_, fun k => ?_⟩
      · show va_up S.2.2.1 q N a = _
        simp only [va_up, if_neg hne]; exact c.1
      · show va_up S.2.2.2.1 q _ a k = _
        simp only [va_up, if_neg hne]; exact c.2.1 k
      · show RO _ (va_up S.2.2.2.2.1 q _ a k) _
        simp only [va_up, if_neg hne]; exact RO_x hx (c.2.2.1 k)
      · show va_up S.2.2.2.2.2.1 q _ a k = _
        simp only [va_up, if_neg hne]; exact c.2.2.2.1 k
      · show va_up S.2.2.2.2.2.2.1 q _ a k = _
        simp only [va_up, if_neg hne]; exact c.2.2.2.2.1 k
      · show va_up S.2.2.2.2.2.2.2 q _ a k = _
        simp only [va_up, if_neg hne]; exact c.2.2.2.2.2 k
    · rw [List.getElem?_append_right (by omega)] at h'
      have hi2 : i - (mL S).length = 0 := by
        rcases Nat.eq_zero_or_pos (i - (mL S).length) with e | e
        · exact e
        · rw [List.getElem?_eq_none (show [q].length ≤ i - (mL S).length from e)] at h'; cases h'
      rw [hi2] at h'
      have ha : a = q := by simpa using h'.symm
      subst ha
      have hi3 : i = V.length := by have := hS.1; omega
      subst hi3
      have hv : vC (V ++ [c0 N]) V.length = c0 N := by
        unfold vC; rw [List.getD_eq_getElem?_getD, List.getElem?_append_right (Nat.le_refl _)]; simp
      rw [hv]
      refine ⟨?_, fun k => ?_, fun k => ?_, fun k => ?_, fun k => ?_, fun k => ?_⟩
      · show va_up S.2.2.1 a N a = _
        simp [va_up, c0]
      · show va_up S.2.2.2.1 a _ a k = _
        simp [va_up, c0]
      · show RO _ (va_up S.2.2.2.2.1 a _ a k) _
        simp [va_up, c0, RO]
      · show va_up S.2.2.2.2.2.1 a _ a k = _
        simp [va_up, c0]
      · show va_up S.2.2.2.2.2.2.1 a _ a k = _
        simp [va_up, c0]
      · show va_up S.2.2.2.2.2.2.2 a _ a k = _
        simp [va_up, c0]
  · show (mL S ++ [q])[V.length]? = some q
    rw [List.getElem?_append_right (by rw [hS.1]; exact Nat.le_refl _)]; simp [hS.1]
theorem st_rd {α : Type} {S : MS} {V : VS} {x i k k' : Nat} {f : Nat → Rs α} {A : α → VS → Prop} {B : String → VS → Prop} {T : Nat → Prop} (hS : SM S V) (hx : Ad S x i) (ek : k = k') (hQ : gd ((vR V i k').bind f) A B) (kk : ∀ a j, Ad S a j → gd (f j) A B → T a) : ∃ a, mR S x k = some a ∧ T a := by
  subst ek
  have c := (hS.2.2 i x hx).2.2.1 k
  have hd : vR V i k = (vC V i).2.2.1.getD k none := rfl
  cases h : vR V i k with
  | none => rw [h] at hQ; exact (gd_none hQ).elim
  | some j =>
    rw [h] at hQ; rw [← hd, h] at c
    obtain ⟨b, h1, h2⟩ := c
    exact ⟨b, h1, kk b j h2 hQ⟩
theorem st_un {α : Type} {S : MS} {r r' : Option Nat} {f : Nat → Rs α} {A : α → VS → Prop} {B : String → VS → Prop} {T : Nat → Prop} (hr : RO S r r') (hQ : gd (Option.bind r' f) A B) (kk : ∀ a j, Ad S a j → gd (f j) A B → T a) : ∃ a, r = some a ∧ T a := by
  cases r' with
  | none => exact (gd_none hQ).elim
  | some j => obtain ⟨b, h1, h2⟩ := hr; exact ⟨b, h1, kk b j h2 hQ⟩
theorem st_om {α : Type} {S : MS} {r r' : Option Nat} {x : Rs α} {f : Nat → Rs α} {A : α → VS → Prop} {B : String → VS → Prop} {T1 : Prop} {T2 : Nat → Prop} (hr : RO S r r') (hQ : gd (om r' x f) A B) (k1 : gd x A B → T1) (k2 : ∀ a j, Ad S a j → gd (f j) A B → T2 a) : (r = none → T1) ∧ (∀ a, r = some a → T2 a) := by
  cases r' with
  | none =>
    have hr : r = none := hr
    subst hr
    exact ⟨fun _ => k1 hQ, fun a h => (by cases h)⟩
  | some j =>
    obtain ⟨b, h1, h2⟩ := hr
    subst h1
    exact ⟨fun h => (by cases h), fun a h => (by cases h; exact k2 _ j h2 hQ)⟩
theorem st_if {α : Type} {c c' T1 T2 : Prop} {_ : Decidable c'} {t e : Rs α} {A : α → VS → Prop} {B : String → VS → Prop} (ec : c = c') (hQ : gd (if c' then t else e) A B) (k1 : gd t A B → T1) (k2 : gd e A B → T2) : (c → T1) ∧ (¬ c → T2) := by
  subst ec
  exact ⟨fun h => k1 (gd_yes hQ h), fun h => k2 (gd_no hQ h)⟩
theorem st_ifn {α : Type} {c c' T1 T2 : Prop} {_ : Decidable c'} {t e : Rs α} {A : α → VS → Prop} {B : String → VS → Prop} (ec : c = c') (hQ : gd (if c' then t else e) A B) (k2 : gd e A B → T2) (k1 : gd t A B → T1) : (¬ c → T2) ∧ (c → T1) := by
  subst ec
  exact ⟨fun h => k2 (gd_no hQ h), fun h => k1 (gd_yes hQ h)⟩
theorem st_gd {α : Type} {c c' T : Prop} {_ : Decidable c'} {t : Rs α} {A : α → VS → Prop} {B : String → VS → Prop} (ec : c' → c) (hQ : gd (if c' then t else none) A B) (k : gd t A B → T) : c ∧ T := by
  by_cases h : c'
  · exact ⟨ec h, k (gd_yes hQ h)⟩
  · exact (gd_none (gd_no hQ h)).elim
def gvp_in (i : Int32) (n : Nat) : Bool := !(decide (i < 0) || decide (n ≤ i.toNatClampNeg))
theorem gvp_in_of {i : Int32} {n : Nat} (h : gvp_in i n = true) : vp_in i n := by
  unfold gvp_in at h; unfold vp_in; simpa using h
def gisZ (v : Int32) : Bool := decide (v = 0) || decide (v = 1)
theorem gisZ_of {v : Int32} (h : gisZ v = true) : isZ v := by
  unfold gisZ at h; unfold isZ; simpa using h
def gisC (v : Int32) : Bool := decide (vp_nar .char v = v)
def gvf_n32 (r : UInt32) : Bool := decide (r &&& 0x7fffffff ≤ 0x7f800000)
theorem gvf_n32_of {r : UInt32} (h : gvf_n32 r = true) : vf_n32 r := by
  show r &&& 0x7fffffff ≤ 0x7f800000
  exact of_decide_eq_true h
def gvf_n64 (r : UInt64) : Bool := decide (r &&& 0x7fffffffffffffff ≤ 0x7ff0000000000000)
theorem gvf_n64_of {r : UInt64} (h : gvf_n64 r = true) : vf_n64 r := by
  show r &&& 0x7fffffffffffffff ≤ 0x7ff0000000000000
  exact of_decide_eq_true h
/-! what a result must do -/
def SQ {α : Type} (Q : α → MS → Prop) (S0 : MS) : α → VS → Prop := fun r V => ∀ S, SM S V → Ex S0 S → Q r S
def SU (Q : MS → Prop) (S0 : MS) : Unit → VS → Prop := fun _ V => ∀ S, SM S V → Ex S0 S → Q S
def SO (Q : Option Nat → MS → Prop) (S0 : MS) : Option Nat → VS → Prop := fun r' V => ∀ S r, SM S V → Ex S0 S → RO S r r' → Q r S
def SX (QX : String → MS → Prop) (S0 : MS) : String → VS → Prop := fun E V => ∀ S, SM S V → Ex S0 S → QX E S
def AT : Unit → VS → Prop := fun _ _ => True
def BT : String → VS → Prop := fun _ _ => False
theorem gisC_of {v : Int32} (h : gisC v = true) : isC v := by
  have h' : vp_nar .char v = v := of_decide_eq_true h
  unfold isC
  exact congrArg Value.int h'
