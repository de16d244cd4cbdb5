theorem e0_ok (L : Nat) (xs : Nat → Int32) : eL_law_0 400 L xs [] = elL_law_28 400 L xs 2 W0 0 207 222 223 0 := by
  unfold eL_law_0 nwV bd
  rw [show ([] : VS) ++ [c0 0] = [c0 0] from rfl, show ([] : VS).length = 0 from rfl]
  dsimp only
  rw [w1_ok]
  dsimp only
  rw [w1_len, w2_ok]
  dsimp only
  rw [w2_len, w3_len]
  simp only [W0, List.append_assoc, List.singleton_append, List.cons_append, List.nil_append]
/-! what goes on after a call doesn't matter to it -/
def KR : VS → Nat → Nat → Nat → Nat → Int32 → Rs Unit := fun V _ _ _ _ _ => rt () V
theorem nt_if {c : Prop} {_ : Decidable c} {t e t2 e2 : Rs Unit} (h1 : gd t AT BT → gd t2 AT BT) (h2 : gd e AT BT → gd e2 AT BT) (h : gd (if c then t else e) AT BT) : gd (if c then t2 else e2) AT BT := by
  by_cases hc : c
  · rw [if_pos hc] at h ⊢; exact h1 h
  · rw [if_neg hc] at h ⊢; exact h2 h
theorem nt_bd {α : Type} {x : Rs α} {f f2 : α → VS → Rs Unit} {g : String → VS → Rs Unit} (h1 : ∀ r V, gd (f r V) AT BT → gd (f2 r V) AT BT) (h : gd (bd x f g) AT BT) : gd (bd x f2 g) AT BT := by
  rcases x with _ | a | a
  · exact h
  · exact h1 _ _ h
  · exact h
theorem nt_sq {V : VS} {f f2 : VS → Rs Unit} (h1 : ∀ V, gd (f V) AT BT → gd (f2 V) AT BT) (h : gd (sq V f) AT BT) : gd (sq V f2) AT BT := h1 _ h
theorem nt_rd {r : Option Nat} {f f2 : Nat → Rs Unit} (h1 : ∀ a, gd (f a) AT BT → gd (f2 a) AT BT) (h : gd (r.bind f) AT BT) : gd (r.bind f2) AT BT := by
  cases r with
  | none => exact h
  | some a => exact h1 a h
theorem nt_none : gd (none : Rs Unit) AT BT → gd (none : Rs Unit) AT BT := fun h => h
theorem nt_k {K : VS → Nat → Nat → Nat → Nat → Int32 → Rs Unit} {V : VS} {a b c d : Nat} {y : Int32} (hK : ∀ V a b c d, gd (K V a b c d 4) AT BT) (hy : y = 4) : gd (KR V a b c d y) AT BT → gd (K V a b c d y) AT BT := fun _ => by rw [hy]; exact hK _ _ _ _ _
/-- from an unanswering continuation to any -/
theorem nt_208 {n : Nat} {xs : Nat → Int32} {K : VS → Nat → Nat → Nat → Nat → Int32 → Rs Unit} (hK : ∀ V a b c d, gd (K V a b c d 4) AT BT) {V : VS} {a b c d : Nat} : gd (eL_law_208 n 4 xs KR V a b c d 0) AT BT → gd (eL_law_208 n 4 xs K V a b c d 0) AT BT := by
  unfold eL_law_208
  repeat' first
    | with_reducible refine nt_if ?_ ?_
    | with_reducible refine nt_bd (fun _ _ => ?_)
    | with_reducible refine nt_sq (fun _ => ?_)
    | with_reducible refine nt_rd (fun _ => ?_)
    | with_reducible exact nt_none
    | with_reducible exact nt_k hK (by decide)
