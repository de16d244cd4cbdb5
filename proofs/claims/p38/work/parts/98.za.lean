/-! the start, and what the law's blocks share -/
theorem sm0 : SM S_0 [] := ⟨rfl, List.nodup_nil, fun i a h => by simp [Ad, S_0, mL] at h⟩
theorem gi_if2 {α : Type} {c : Prop} {_ : Decidable c} {t e : Rs α} {A : α → VS → Prop} {B : String → VS → Prop} (h1 : c → gd t A B) (h2 : ¬ c → gd e A B) : gd (if c then t else e) A B := by
  by_cases h : c
  · rw [if_pos h]; exact h1 h
  · rw [if_neg h]; exact h2 h
theorem r_thr {n : Nat} {V : VS} : ev_X9_thrown n V 207 = rt (vI V 207 0) V := rfl
theorem n222 {V : VS} (h : zLay V) : vN V 222 = 1 := zN h (by decide +kernel)
theorem n223 {V : VS} (h : zLay V) : vN V 223 = 1 := zN h (by decide +kernel)
theorem lg_self (x : Int64) : lg_cmp x x = 0 := by
  unfold lg_cmp
  simp
def KO (K : VS → Nat → Nat → Nat → Nat → Int32 → Rs Unit) (i : Nat) : Prop := ∀ U, Inv (i + 1) U → gd (K U 0 207 222 223 (Int32.ofNat (4 * i) + 4)) AT BT
def GI (L i : Nat) : Prop := gvp_in (Int32.ofNat (4 * i) + 1) L = true ∧ gvp_in (Int32.ofNat (4 * i) + 2) L = true ∧ gvp_in (Int32.ofNat (4 * i) + 3) L = true
theorem GI_of {L i : Nat} (h : 4 * i + 4 ≤ L) (hL : L ≤ 100000) : GI L i := by
  refine ⟨?_, ?_, ?_⟩
  · rw [show Int32.ofNat (4 * i) + 1 = Int32.ofNat (4 * i + 1) from of_add (b := 1)]; exact in_of (by omega) (by omega)
  · rw [show Int32.ofNat (4 * i) + 2 = Int32.ofNat (4 * i + 2) from of_add (b := 2)]; exact in_of (by omega) (by omega)
  · rw [show Int32.ofNat (4 * i) + 3 = Int32.ofNat (4 * i + 3) from of_add (b := 3)]; exact in_of (by omega) (by omega)
theorem lt_4 {L i : Nat} (hL : L ≤ 100000) (hi : i ≤ 1000) : Int32.ofNat L - 4 < Int32.ofNat (4 * i) ↔ L < 4 * i + 4 := by
  by_cases h : 4 ≤ L
  · rw [show Int32.ofNat L - 4 = Int32.ofNat (L - 4) from of_sub (b := 4) h, of_lt (by omega) (by omega)]; omega
  · refine ⟨fun _ => by omega, fun _ => ?_⟩
    rw [Int32.lt_iff_toInt_lt, ti_of (by omega)]
    have : L = 0 ∨ L = 1 ∨ L = 2 ∨ L = 3 := by omega
    have e : (Int32.ofNat L - 4).toInt < 0 := by rcases this with rfl | rfl | rfl | rfl <;> decide
    omega
theorem w31_ok : ev_X8_init 3000 [c0 0] 0 = some (.inl ((), W1)) := isW_ok (by decide +kernel)
theorem w32_ok : ev_X9_init 3000 (W1 ++ [c0 0]) 207 = some (.inl ((), W1 ++ W2)) := isW_ok (by decide +kernel)
theorem f0_F : Fre wF0 := by
  refine ⟨rfl, rfl, rfl, rfl, rfl, rfl, rfl, rfl, fun u hu => ?_⟩
  rw [f0_U] at hu; omega
theorem num_0 : NumV W0 := by unfold NumV; decide +kernel
theorem row_0 : ∀ r, r < 2 → vI W0 219 r = 0 ∧ vI W0 220 r = 0 ∧ vI W0 (201 + 3 * r) 2 = 0 ∧ vI W0 (201 + 3 * r) 4 = 0 ∧ ∀ i, i < 8 → vI W0 (202 + 3 * r) i = 0 ∧ vI W0 218 (8 * r + i) = 0 ∧ vF W0 (203 + 3 * r) i = 0 ∧ vF W0 221 (8 * r + i) = 0 := by decide +kernel
theorem inv_0 : Inv 0 W0 := by
  refine ⟨by omega, zLay_0, num_0, ⟨⟨0, by omega, by decide +kernel, by decide +kernel, fun k hk => by omega⟩, by decide +kernel⟩, fun r hr => ?_, .inl ⟨by decide +kernel, by decide +kernel⟩, 0, 0, 0, wF0, wF0, fun _ => 0, fun _ => 0, by omega, by omega, by omega, by omega, .inl ⟨rfl, f0_F, f0_WF⟩, ⟨f0_Rp, by decide +kernel, fun j hj => by omega⟩, ⟨f0_Qr, fun z => absurd (show wF0 156 ≤ 0 by decide +kernel) z, fun j hj => by omega⟩, ⟨by decide +kernel, by decide +kernel, fun j hj => by omega⟩, by decide +kernel, fun j hj => by omega⟩
  obtain ⟨a, b, c, d, e⟩ := row_0 r hr
  refine ⟨0, 0, by omega, by omega, a, b, by rw [if_pos rfl]; exact c, fun h => absurd rfl h, d, fun i hi => ?_⟩
  obtain ⟨e1, e2, e3, e4⟩ := e i hi
  rw [e1, e2, e3, e4]
  exact ⟨rfl, nb_z, rfl, okF_0⟩
