/-! load -/
def cN (t : Nat → Int32) : Nat → Nat
  | 0 => 0
  | k + 1 => cN t k + if t k = 47 then 0 else 1
def gC (t : Nat → Int32) : Nat → RW
  | 0 => fun _ => 0
  | k + 1 => if t k = 47 then gC t k else zup (gC t k) (cN t k) (tof (t k))
theorem cN_s {t : Nat → Int32} {k : Nat} (h : t k = 47) : cN t (k + 1) = cN t k := by
  show cN t k + (if t k = 47 then 0 else 1) = _
  rw [if_pos h]; rfl
theorem cN_c {t : Nat → Int32} {k : Nat} (h : t k ≠ 47) : cN t (k + 1) = cN t k + 1 := by
  show cN t k + (if t k = 47 then 0 else 1) = _
  rw [if_neg h]
theorem gC_s {t : Nat → Int32} {k : Nat} (h : t k = 47) : gC t (k + 1) = gC t k := if_pos h
theorem gC_c {t : Nat → Int32} {k : Nat} (h : t k ≠ 47) : gC t (k + 1) = zup (gC t k) (cN t k) (tof (t k)) := if_neg h
theorem cN_mono {t : Nat → Int32} {k : Nat} : ∀ d, cN t k ≤ cN t (k + d)
  | 0 => Nat.le_refl _
  | d + 1 => by
    have := cN_mono (t := t) (k := k) d
    show _ ≤ cN t (k + d) + (if t (k + d) = 47 then 0 else 1)
    omega
theorem gC_nb {t : Nat → Int32} : ∀ k, (∀ j, j < k → t j = 47 ∨ 0 ≤ tof (t j)) → ∀ c, Nb (gC t k c) 4
  | 0, _, _ => nb_z
  | k + 1, h, c => by
    have ih := gC_nb (t := t) k (fun j hj => h j (by omega)) c
    by_cases g : t k = 47
    · rw [gC_s g]; exact ih
    · rw [gC_c g]
      by_cases e : c = cN t k
      · rw [e, zup_eq]
        have z := (h k (by omega)).resolve_left g
        rcases tof_le (t k) with y | y
        · rw [y] at z; exact absurd z (by decide)
        · exact y.2
      · rw [zup_ne e]; exact ih
/-- what is known of the text up to a place -/
def WI (t : Nat → Int32) (l k : Nat) (y : Int32) (mn r : Nat) : Prop :=
  (∀ j, j < k → t j = 47 ∨ 0 ≤ tof (t j)) ∧ ((y = -1 ∧ r = 0 ∧ mn = k ∧ cN t k = k ∧ ∀ j, j < k → t j ≠ 47) ∨ ∃ v, y = Int32.ofNat v ∧ 0 < v ∧ mn ≤ v ∧ v < l ∧ t v = 47 ∧ (∀ j, j < v → t j ≠ 47) ∧ k = r * (v + 1) + mn ∧ cN t k = r * v + mn)
/-- a text of R rows of C cells -/
def TX (t : Nat → Int32) (l R C : Nat) : Prop := 0 < C ∧ C ≤ l ∧ (∀ j, j < l → t j = 47 ∨ 0 ≤ tof (t j)) ∧ cN t l = R * C ∧ l + 1 = R * (C + 1) ∧ (∀ j, j < C → t j ≠ 47) ∧ (C = l ∨ t C = 47)
def FrT (V U : VS) : Prop := zLay U ∧ (∀ i, i ≠ 207 → vC U i = vC V i) ∧ ∀ k, k ≠ 14 → k ≠ 15 → vI U 207 k = vI V 207 k
section
variable {n : Nat} {V T : VS} {t : Nat → Int32} {l : Nat}
def WrE (n m : Nat) (V T : VS) (t : Nat → Int32) (l k : Nat) (y : Int32) (mn r : Nat) : Prop :=
  (∃ e U, e ≤ l ∧ elX8_findError_7 n m V 1 (Int32.ofNat l) y (Int32.ofNat mn) (Int32.ofNat k) = rt (Int32.ofNat e) V ∧ elX9_wrong_9 n m T 207 y (Int32.ofNat mn) (Int32.ofNat (r + 1)) (Int32.ofNat k) = rt (Int32.ofNat e) U ∧ FrT T U) ∨ ∃ C R, elX8_findError_7 n m V 1 (Int32.ofNat l) y (Int32.ofNat mn) (Int32.ofNat k) = rt (-1) V ∧ elX9_wrong_9 n m T 207 y (Int32.ofNat mn) (Int32.ofNat (r + 1)) (Int32.ofNat k) = rt (-1) (wI (wI T 207 14 (Int32.ofNat R)) 207 15 (Int32.ofNat C)) ∧ TX t l R C
theorem WrE.st {m m' k k' mn mn' r r' : Nat} {y y' : Int32} (h : WrE n m V T t l k y mn r) (e1 : elX8_findError_7 n m' V 1 (Int32.ofNat l) y' (Int32.ofNat mn') (Int32.ofNat k') = elX8_findError_7 n m V 1 (Int32.ofNat l) y (Int32.ofNat mn) (Int32.ofNat k)) (e2 : elX9_wrong_9 n m' T 207 y' (Int32.ofNat mn') (Int32.ofNat (r' + 1)) (Int32.ofNat k') = elX9_wrong_9 n m T 207 y (Int32.ofNat mn) (Int32.ofNat (r + 1)) (Int32.ofNat k)) : WrE n m' V T t l k' y' mn' r' := by
  unfold WrE; rw [e1, e2]; exact h
theorem FrT.w (hT : zLay T) {x y : Int32} : FrT T (wI (wI T 207 14 x) 207 15 y) := by
  have l1 : zLay (wI T 207 14 x) := zLay_wI hT
  refine ⟨zLay_wI l1, fun i hi => by rw [vC_wI hi, vC_wI hi], fun k h1 h2 => ?_⟩
  rw [vI_wI (zLen l1 (by omega)), zup_ne h2, vI_wI (zLen hT (by omega)), zup_ne h1]
theorem n1_7 (hL : zLay V) : vN V 1 = 71 := zN hL (by decide +kernel)
theorem c_fe (hn : 6 < n) (hl : l ≤ 71) (hL : zLay V) (tc : ∀ k, k < l → vI V 1 k = t k) {m k : Nat} {y mn : Int32} (hk : k < l) : elX8_findError_7 n (m + 1) V 1 (Int32.ofNat l) y mn (Int32.ofNat k) = if t k = 47 then (if mn = 0 then rt (Int32.ofNat k) V else if y < 0 then elX8_findError_7 n m V 1 (Int32.ofNat l) mn 0 (Int32.ofNat (k + 1)) else if mn = y then elX8_findError_7 n m V 1 (Int32.ofNat l) mn 0 (Int32.ofNat (k + 1)) else rt (Int32.ofNat k) V) else if tof (t k) < 0 then rt (Int32.ofNat k) V else if mn = y then rt (Int32.ofNat k) V else elX8_findError_7 n m V 1 (Int32.ofNat l) y (mn + 1) (Int32.ofNat (k + 1)) := by
  show eX8_findError_7 n (elX8_findError_7 n m) V 1 (Int32.ofNat l) y mn (Int32.ofNat k) = _
  unfold eX8_findError_7 eX8_findError_45
  rw [if_neg (fun e => by have := (of_le (by omega) (by omega)).mp e; omega), n1_7 hL, if_neg (fun e => by have := (of_le (by omega) (by omega)).mp e; omega), if_pos (in_of (by omega) (by decide)), tn_of (by omega), tc k hk, if_pos (in_of (by omega) (by decide)), c_idx hn, bd_rt, p1_of]
theorem r_wr (hl : l ≤ 71) (hT : zLay T) (tr : ∀ k, k < l → vI T 216 k = t k) (t12 : vI T 207 12 = Int32.ofNat l) {m k : Nat} {y mn r : Int32} (hk : k < l) : elX9_wrong_9 n (m + 1) T 207 y mn r (Int32.ofNat k) = if t k = 47 then (if mn = 0 then rt (Int32.ofNat k) T else if y < 0 then elX9_wrong_9 n m T 207 mn 0 (r + 1) (Int32.ofNat (k + 1)) else if y ≤ mn then elX9_wrong_9 n m T 207 mn 0 (r + 1) (Int32.ofNat (k + 1)) else rt (Int32.ofNat k) T) else if tof (t k) < 0 then rt (Int32.ofNat k) T else if mn = y then rt (Int32.ofNat k) T else elX9_wrong_9 n m T 207 y (mn + 1) r (Int32.ofNat (k + 1)) := by
  show eX9_wrong_9 n (elX9_wrong_9 n m) T 207 y mn r (Int32.ofNat k) = _
  unfold eX9_wrong_9 eX9_wrong_46
  rw [t12, if_neg (fun e => by have := (of_le (by omega) (by omega)).mp e; omega), show vR T 207 11 = some 216 from zR hT (by decide +kernel), ob_1, ob_1, show vN T 216 = 71 from zN hT (by decide +kernel), if_pos (in_of (by omega) (by decide)), tn_of (by omega), tr k hk, if_pos (in_of (by omega) (by decide)), r_tof, bd_rt, p1_of]
theorem wr_run (hn : 6 < n) (hl : l ≤ 71) (hL : zLay V) (hT : zLay T) (tc : ∀ k, k < l → vI V 1 k = t k) (tr : ∀ k, k < l → vI T 216 k = t k) (t12 : vI T 207 12 = Int32.ofNat l) : ∀ (d m k : Nat) (y : Int32) (mn r : Nat), k + d = l → d < m → WI t l k y mn r → WrE n m V T t l k y mn r
  | 0, m + 1, k, y, mn, r, e, _, h => by
    have ek : k = l := by omega
    subst ek
    have lW : zLay (wI T 207 14 (Int32.ofNat (r + 1))) := zLay_wI hT
    have lX : zLay (wI (wI T 207 14 (Int32.ofNat (r + 1))) 207 15 (Int32.ofNat mn)) := zLay_wI lW
    have ec : elX8_findError_7 n (m + 1) V 1 (Int32.ofNat k) y (Int32.ofNat mn) (Int32.ofNat k) = if Int32.ofNat mn = 0 then rt (Int32.ofNat k) V else if y < 0 then rt (-1) V else if Int32.ofNat mn = y then rt (-1) V else rt (Int32.ofNat k) V := by
      show eX8_findError_7 n (elX8_findError_7 n m) V 1 (Int32.ofNat k) y (Int32.ofNat mn) (Int32.ofNat k) = _
      unfold eX8_findError_7 eX8_findError_81
      rw [if_pos (Int32.le_refl _)]
    have x12 : vI (wI (wI T 207 14 (Int32.ofNat (r + 1))) 207 15 (Int32.ofNat mn)) 207 12 = Int32.ofNat k := by
      rw [vI_wI (zLen lW (by omega)), zup_ne (by omega), vI_wI (zLen hT (by omega)), zup_ne (by omega)]; exact t12
    have er : elX9_wrong_9 n (m + 1) T 207 y (Int32.ofNat mn) (Int32.ofNat (r + 1)) (Int32.ofNat k) = if Int32.ofNat mn = 0 then rt (Int32.ofNat k) (wI (wI T 207 14 (Int32.ofNat (r + 1))) 207 15 (Int32.ofNat mn)) else if y < 0 then rt (-1) (wI (wI T 207 14 (Int32.ofNat (r + 1))) 207 15 (Int32.ofNat mn)) else if y ≤ Int32.ofNat mn then rt (-1) (wI (wI T 207 14 (Int32.ofNat (r + 1))) 207 15 (Int32.ofNat mn)) else rt (Int32.ofNat k) (wI (wI T 207 14 (Int32.ofNat (r + 1))) 207 15 (Int32.ofNat mn)) := by
      show eX9_wrong_9 n (elX9_wrong_9 n m) T 207 y (Int32.ofNat mn) (Int32.ofNat (r + 1)) (Int32.ofNat k) = _
      unfold eX9_wrong_9
      rw [t12, if_pos (Int32.le_refl _), sq_eq, sq_eq, x12]
    obtain ⟨hA, hB⟩ := h
    have m5 : mn ≤ k := by rcases hB with ⟨_, _, h, _⟩ | ⟨v, _, _, h1, h2, _⟩ <;> omega
    by_cases m0 : mn = 0
    · exact .inl ⟨k, _, Nat.le_refl _, by rw [ec, m0, if_pos (by decide)], by rw [er, if_pos (show Int32.ofNat mn = 0 by rw [m0]; rfl)], FrT.w hT⟩
    have mz : ¬ Int32.ofNat mn = 0 := fun e => m0 ((of_inj (b := 0) (by omega) (by omega)).mp e)
    rcases hB with ⟨y1, r0, mk, cn, nt⟩ | ⟨v, y1, v0, mv, vl, tv, nt, ke, cn⟩
    · refine .inr ⟨mn, r + 1, by rw [ec, if_neg mz, y1, if_pos (by decide)], by rw [er, if_neg mz, y1, if_pos (by decide)], by omega, by omega, hA, ?_, ?_, by rw [mk]; exact nt, .inl mk⟩
      · rw [cn, r0, mk, Nat.zero_add, Nat.one_mul]
      · rw [r0, mk, Nat.zero_add, Nat.one_mul]
    · have yn : ¬ y < 0 := by rw [y1]; exact ofn_nn (by omega)
      by_cases e5 : mn = v
      · refine .inr ⟨mn, r + 1, by rw [ec, if_neg mz, if_neg yn, if_pos (by rw [y1, e5])], by rw [er, if_neg mz, if_neg yn, if_pos (by rw [y1, e5]; exact Int32.le_refl _)], by omega, by omega, hA, ?_, ?_, by rw [e5]; exact nt, .inr (by rw [e5]; exact tv)⟩
        · rw [cn, Nat.succ_mul, e5]
        · rw [Nat.succ_mul, e5, ← Nat.add_assoc, ← e5, e5, ke, e5]
      · exact .inl ⟨k, _, Nat.le_refl _, by rw [ec, if_neg mz, if_neg yn, if_neg (fun e => by rw [y1] at e; exact e5 ((of_inj (by omega) (by omega)).mp e))], by rw [er, if_neg mz, if_neg yn, if_neg (fun e => by rw [y1] at e; have := (of_le (by omega) (by omega)).mp e; omega)], FrT.w hT⟩
  | d + 1, m + 1, k, y, mn, r, e, hd, h => by
    have hk : k < l := by omega
    have ec := c_fe hn hl hL tc (m := m) (y := y) (mn := Int32.ofNat mn) hk
    have er := r_wr (n := n) hl hT tr t12 (m := m) (y := y) (mn := Int32.ofNat mn) (r := Int32.ofNat (r + 1)) hk
    obtain ⟨hA, hB⟩ := h
    have m5 : mn ≤ l := by rcases hB with ⟨_, _, h, _⟩ | ⟨v, _, _, h1, h2, _⟩ <;> omega
    have bad : ∀ (f1 : elX8_findError_7 n (m + 1) V 1 (Int32.ofNat l) y (Int32.ofNat mn) (Int32.ofNat k) = rt (Int32.ofNat k) V) (f2 : elX9_wrong_9 n (m + 1) T 207 y (Int32.ofNat mn) (Int32.ofNat (r + 1)) (Int32.ofNat k) = rt (Int32.ofNat k) T), WrE n (m + 1) V T t l k y mn r := fun f1 f2 => .inl ⟨k, T, by omega, f1, f2, hT, fun _ _ => rfl, fun _ _ _ => rfl⟩
    by_cases g : t k = 47
    · rw [if_pos g] at ec er
      by_cases m0 : mn = 0
      · have mz : Int32.ofNat mn = 0 := by rw [m0]; rfl
        rw [if_pos mz] at ec er
        exact bad ec er
      have mz : ¬ Int32.ofNat mn = 0 := fun e => m0 ((of_inj (b := 0) (by omega) (by omega)).mp e)
      rw [if_neg mz] at ec er
      have hA' : ∀ j, j < k + 1 → t j = 47 ∨ 0 ≤ tof (t j) := fun j hj => by
        by_cases z : j = k
        · rw [z]; exact .inl g
        · exact hA j (by omega)
      rcases hB with ⟨y1, r0, mk, cn, nt⟩ | ⟨v, y1, v0, mv, vl, tv, nt, ke, cn⟩
      · have yn : y < 0 := by rw [y1]; decide
        rw [if_pos yn] at ec er
        refine (wr_run hn hl hL hT tc tr t12 d m (k + 1) (Int32.ofNat mn) 0 (r + 1) (by omega) (by omega) ⟨hA', .inr ⟨mn, rfl, by omega, by omega, by omega, by rw [mk]; exact g, by rw [mk]; exact nt, ?_, ?_⟩⟩).st ec (by rw [er, p1_of]; rfl)
        · rw [r0, mk, Nat.zero_add, Nat.one_mul]
        · rw [cN_s g, cn, r0, mk, Nat.zero_add, Nat.one_mul]; rfl
      · have yn : ¬ y < 0 := by rw [y1]; exact ofn_nn (by omega)
        rw [if_neg yn] at ec er
        by_cases e5 : mn = v
        · have ey : Int32.ofNat mn = y := by rw [y1, e5]
          rw [if_pos ey] at ec
          rw [if_pos (show y ≤ Int32.ofNat mn by rw [ey]; exact Int32.le_refl _)] at er
          refine (wr_run hn hl hL hT tc tr t12 d m (k + 1) (Int32.ofNat mn) 0 (r + 1) (by omega) (by omega) ⟨hA', .inr ⟨mn, rfl, by omega, by omega, by omega, by rw [e5]; exact tv, by rw [e5]; exact nt, ?_, ?_⟩⟩).st ec (by rw [er, p1_of]; rfl)
          · rw [e5, Nat.succ_mul]; rw [e5] at ke; omega
          · rw [cN_s g, cn, e5, Nat.succ_mul]; rfl
        · have ey : ¬ Int32.ofNat mn = y := fun e => by rw [y1] at e; exact e5 ((of_inj (by omega) (by omega)).mp e)
          rw [if_neg ey] at ec
          rw [if_neg (fun e => by rw [y1] at e; have := (of_le (by omega) (by omega)).mp e; omega)] at er
          exact bad ec er
    · rw [if_neg g] at ec er
      by_cases tz : tof (t k) < 0
      · rw [if_pos tz] at ec er
        exact bad ec er
      rw [if_neg tz] at ec er
      by_cases ey : Int32.ofNat mn = y
      · rw [if_pos ey] at ec er
        exact bad ec er
      rw [if_neg ey] at ec er
      have hA' : ∀ j, j < k + 1 → t j = 47 ∨ 0 ≤ tof (t j) := fun j hj => by
        by_cases z : j = k
        · rw [z]; exact .inr (Int32.not_lt.mp tz)
        · exact hA j (by omega)
      refine (wr_run hn hl hL hT tc tr t12 d m (k + 1) y (mn + 1) r (by omega) (by omega) ⟨hA', ?_⟩).st (by rw [ec, p1_of]) (by rw [er, p1_of])
      rcases hB with ⟨y1, r0, mk, cn, nt⟩ | ⟨v, y1, v0, mv, vl, tv, nt, ke, cn⟩
      · refine .inl ⟨y1, r0, by omega, by rw [cN_c g, cn], fun j hj => ?_⟩
        by_cases z : j = k
        · rw [z]; exact g
        · exact nt j (by omega)
      · have e5 : mn ≠ v := fun e => ey (by rw [y1, e])
        refine .inr ⟨v, y1, v0, by omega, vl, tv, nt, by omega, by rw [cN_c g, cn]; omega⟩
/-- the columns are counted -/
theorem c_cc {C : Nat} (hl : l ≤ 71) (hL : zLay V) (tc : ∀ k, k < l → vI V 1 k = t k) (h1 : C ≤ l) (h2 : ∀ j, j < C → t j ≠ 47) (h3 : C = l ∨ t C = 47) : ∀ d m k, k + d = C → d < m → elX8_countColumns_2 n m V 1 (Int32.ofNat l) (Int32.ofNat k) = rt (Int32.ofNat C) V
  | 0, m + 1, k, e, _ => by
    have ek : k = C := by omega
    subst ek
    show eX8_countColumns_2 n (elX8_countColumns_2 n m) V 1 (Int32.ofNat l) (Int32.ofNat k) = _
    unfold eX8_countColumns_2
    by_cases z : k = l
    · rw [z, if_pos (Int32.le_refl _)]
    rw [if_neg (fun e => by have := (of_le (by omega) (by omega)).mp e; omega), n1_7 hL, if_neg (fun e => by have := (of_le (by omega) (by omega)).mp e; omega), if_pos (in_of (by omega) (by decide)), tn_of (by omega), tc k (by omega), if_pos (h3.resolve_left z)]
  | d + 1, m + 1, k, e, hd => by
    show eX8_countColumns_2 n (elX8_countColumns_2 n m) V 1 (Int32.ofNat l) (Int32.ofNat k) = _
    unfold eX8_countColumns_2
    rw [if_neg (fun e => by have := (of_le (by omega) (by omega)).mp e; omega), n1_7 hL, if_neg (fun e => by have := (of_le (by omega) (by omega)).mp e; omega), if_pos (in_of (by omega) (by decide)), tn_of (by omega), tc k (by omega), if_neg (h2 k (by omega)), p1_of]
    exact c_cc hl hL tc h1 h2 h3 d m (k + 1) (by omega) (by omega)
/-- the cells are read -/
theorem c_rd (hn : 6 < n) (hl : l ≤ 71) (ht : ∀ j, j < l → t j = 47 ∨ 0 ≤ tof (t j)) (h64 : cN t l ≤ 64) : ∀ (d m k : Nat) (V : VS), k + d = l → d < m → zLay V → (∀ k, k < l → vI V 1 k = t k) → (∀ c, c < cN t k → vI V 4 c = gC t k c) → ∃ U, elX3_read_17 n m V 3 1 (Int32.ofNat l) (Int32.ofNat (cN t k)) (Int32.ofNat k) = rt () U ∧ zLay U ∧ (∀ i, i ≠ 4 → vC U i = vC V i) ∧ ∀ c, c < cN t l → vI U 4 c = gC t l c
  | 0, m + 1, k, V, e, _, hL, tc, hc => by
    have ek : k = l := by omega
    subst ek
    refine ⟨V, ?_, hL, fun _ _ => rfl, hc⟩
    show eX3_read_17 n (elX3_read_17 n m) V 3 1 (Int32.ofNat k) (Int32.ofNat (cN t k)) (Int32.ofNat k) = _
    unfold eX3_read_17
    rw [if_pos (Int32.le_refl _)]
  | d + 1, m + 1, k, V, e, hd, hL, tc, hc => by
    have st : elX3_read_17 n (m + 1) V 3 1 (Int32.ofNat l) (Int32.ofNat (cN t k)) (Int32.ofNat k) = if tof (t k) < 0 then elX3_read_17 n m V 3 1 (Int32.ofNat l) (Int32.ofNat (cN t k)) (Int32.ofNat (k + 1)) else if (64 : Int32) ≤ Int32.ofNat (cN t k) then elX3_read_17 n m V 3 1 (Int32.ofNat l) (Int32.ofNat (cN t k)) (Int32.ofNat (k + 1)) else if gvp_in (Int32.ofNat (cN t k)) 64 = true then elX3_read_17 n m (wI V 4 (Int32.ofNat (cN t k)).toNatClampNeg (tof (t k))) 3 1 (Int32.ofNat l) (Int32.ofNat (cN t k) + 1) (Int32.ofNat (k + 1)) else none := by
      show eX3_read_17 n (elX3_read_17 n m) V 3 1 (Int32.ofNat l) (Int32.ofNat (cN t k)) (Int32.ofNat k) = _
      unfold eX3_read_17
      rw [if_neg (fun e => by have := (of_le (by omega) (by omega)).mp e; omega), n1_7 hL, if_neg (fun e => by have := (of_le (by omega) (by omega)).mp e; omega), if_pos (in_of (by omega) (by decide)), tn_of (by omega), tc k (by omega), c_idx hn, bd_rt, show vR V 3 0 = some 4 from zR hL (by decide +kernel), ob_1, ob_1, show vN V 4 = 64 from zN hL (by decide +kernel), p1_of]
      rfl
    by_cases g : t k = 47
    · rw [st, g, tof_47, if_pos (by decide), ← cN_s g]
      exact c_rd hn hl ht h64 d m (k + 1) V (by omega) (by omega) hL tc (by rw [cN_s g, gC_s g]; exact hc)
    · have tp : 0 ≤ tof (t k) := (ht k (by omega)).resolve_left g
      have cc : cN t k + 1 ≤ cN t l := by
        have := cN_mono (t := t) (k := k + 1) d
        rw [cN_c g, show k + 1 + d = l from by omega] at this; exact this
      have l1 : zLay (wI V 4 (cN t k) (tof (t k))) := zLay_wI hL
      obtain ⟨U, eU, lU, fU, cU⟩ := c_rd hn hl ht h64 d m (k + 1) (wI V 4 (cN t k) (tof (t k))) (by omega) (by omega) l1 (fun j hj => by rw [vI_wI_ne (by omega)]; exact tc j hj) (fun c hc' => by
        rw [cN_c g] at hc'
        rw [gC_c g, vI_wI (zLen hL (by omega))]
        by_cases z : c = cN t k
        · rw [z, zup_eq, zup_eq]
        · rw [zup_ne z, zup_ne z]; exact hc c (by omega))
      refine ⟨U, ?_, lU, fun i hi => by rw [fU i hi, vC_wI hi], cU⟩
      rw [st, if_neg (Int32.not_lt.mpr tp), if_neg (fun e => by have := (of_le (a := 64) (by omega) (by omega)).mp e; omega), if_pos (in_of (by omega) (by decide)), tn_of (by omega), p1_of, ← cN_c g]
      exact eU
end
