/-! load, whole -/
def gLd (t : Nat → Int32) (l R C : Nat) (s : Int32) : RW := fun k => if k = 0 then Int32.ofNat R else if k = 1 then Int32.ofNat C else if k = 155 then s else if k = 166 then -1 else if k = 291 then s else if 2 ≤ k ∧ k < 66 then gC t l (k - 2) else 0
section
variable {i n : Nat} {V T : VS} {t : Nat → Int32} {l R C : Nat} {x : Int32}
theorem gLd_c {c : Nat} (h : c < 64) : gLd t l R C x (2 + c) = gC t l c := by
  unfold gLd
  rw [if_neg (by omega), if_neg (by omega), if_neg (by omega), if_neg (by omega), if_neg (by omega), if_pos (by omega), Nat.add_sub_cancel_left]
theorem gLd_0 {k : Nat} (h : 66 ≤ k) (h1 : k ≠ 155) (h2 : k ≠ 166) (h3 : k ≠ 291) : gLd t l R C x k = 0 := by
  unfold gLd
  rw [if_neg (by omega), if_neg (by omega), if_neg h1, if_neg h2, if_neg h3, if_neg (by omega)]
theorem gLd_155 : gLd t l R C x 155 = x := rfl
theorem gLd_166 : gLd t l R C x 166 = -1 := rfl
theorem gLd_291 : gLd t l R C x 291 = x := rfl
theorem gLd_R (h : R ≤ 8) : nR (gLd t l R C x) = R := tn_of (by omega)
theorem gLd_C (h : C ≤ 8) : nC (gLd t l R C x) = C := tn_of (by omega)
theorem gLd_U : nU (gLd t l R C x) = 0 := by
  show (gLd t l R C x 66).toNatClampNeg = 0
  rw [gLd_0 (by omega) (by omega) (by omega) (by omega)]; exact t0n
theorem gLd_O : nO (gLd t l R C x) = 0 := by
  show (gLd t l R C x 157).toNatClampNeg = 0
  rw [gLd_0 (by omega) (by omega) (by omega) (by omega)]; exact t0n
theorem gLd_E : nE (gLd t l R C x) = 0 := by
  show (gLd t l R C x 168).toNatClampNeg = 0
  rw [gLd_0 (by omega) (by omega) (by omega) (by omega)]; exact t0n
theorem gLd_W (h : ∀ j, j < l → t j = 47 ∨ 0 ≤ tof (t j)) (r3 : 3 ≤ R) (r8 : R ≤ 8) (c3 : 3 ≤ C) (c8 : C ≤ 8) : WF (gLd t l R C x) := by
  refine ⟨⟨Nb.of r8 (by omega), by rw [gLd_R r8]; exact r3⟩, ⟨Nb.of c8 (by omega), by rw [gLd_C c8]; exact c3⟩, fun c hc => ?_, ?_, fun u hu => ?_, fun u hu => ?_, fun u hu => ?_, ?_, ?_, fun i hi => ?_, fun i j _ hj => ?_, ?_, ?_⟩
  · rw [gLd_R r8, gLd_C c8] at hc
    have : R * C ≤ 64 := Nat.mul_le_mul r8 c8
    rw [gLd_c (by omega)]
    exact gC_nb l h c
  · rw [gLd_0 (by omega) (by omega) (by omega) (by omega)]; exact nb_z
  · rw [gLd_U] at hu; omega
  · rw [gLd_U] at hu; omega
  · rw [gLd_U] at hu; omega
  · rw [gLd_0 (by omega) (by omega) (by omega) (by omega)]; exact nb_z
  · rw [gLd_O]; omega
  · rw [gLd_O] at hi; omega
  · rw [gLd_O] at hj; omega
  · rw [gLd_0 (by omega) (by omega) (by omega) (by omega)]; exact nb_z
  · rw [gLd_0 (by omega) (by omega) (by omega) (by omega)]; exact nb_z
theorem gLd_F : Fre (gLd t l R C x) := by
  refine ⟨gLd_0 (by omega) (by omega) (by omega) (by omega), gLd_0 (by omega) (by omega) (by omega) (by omega), gLd_166, gLd_0 (by omega) (by omega) (by omega) (by omega), gLd_0 (by omega) (by omega) (by omega) (by omega), gLd_0 (by omega) (by omega) (by omega) (by omega), gLd_0 (by omega) (by omega) (by omega) (by omega), by rw [gLd_291, gLd_155], fun u hu => ?_⟩
  rw [gLd_U] at hu; omega
/-- a fight is reset -/
theorem c_reset {a : Nat} (hL : zLay V) (ha : a ∈ zB) : ∃ U, ev_X2_reset n V a x = rt () U ∧ zLay U ∧ (vI U a 2 = 0 ∧ vI U a 4 = 0 ∧ vI U a 5 = 0 ∧ vI U a 6 = -1 ∧ vI U a 7 = 0 ∧ vI U a 8 = 0 ∧ vI U a 9 = x ∧ vI U a 10 = x ∧ vI U (a + 5) 3 = 0) ∧ ∀ i, i ≠ a → i ≠ a + 5 → vC U i = vC V i := by
  have z := zB_le a ha
  unfold ev_X2_reset eX2_reset_0
  have l1 : zLay (wI V a 2 0) := zLay_wI hL
  have l2 : zLay (wI (wI V a 2 0) a 4 0) := zLay_wI l1
  have l3 : zLay (wI (wI (wI V a 2 0) a 4 0) a 5 0) := zLay_wI l2
  have l4 : zLay (wI (wI (wI (wI V a 2 0) a 4 0) a 5 0) a 6 (-1)) := zLay_wI l3
  have l5 : zLay (wI (wI (wI (wI (wI V a 2 0) a 4 0) a 5 0) a 6 (-1)) a 7 0) := zLay_wI l4
  have l6 : zLay (wI (wI (wI (wI (wI (wI V a 2 0) a 4 0) a 5 0) a 6 (-1)) a 7 0) a 8 0) := zLay_wI l5
  have l7 : zLay (wI (wI (wI (wI (wI (wI (wI V a 2 0) a 4 0) a 5 0) a 6 (-1)) a 7 0) a 8 0) a 9 x) := zLay_wI l6
  have l8 : zLay (wI (wI (wI (wI (wI (wI (wI (wI V a 2 0) a 4 0) a 5 0) a 6 (-1)) a 7 0) a 8 0) a 9 x) a 10 x) := zLay_wI l7
  have e : vI (wI (wI (wI (wI (wI (wI (wI (wI V a 2 0) a 4 0) a 5 0) a 6 (-1)) a 7 0) a 8 0) a 9 x) a 10 x) a = zup (zup (zup (zup (zup (zup (zup (zup (vI V a) 2 0) 4 0) 5 0) 6 (-1)) 7 0) 8 0) 9 x) 10 x := by
    rw [vI_wI (zLen l7 (by omega)), vI_wI (zLen l6 (by omega)), vI_wI (zLen l5 (by omega)), vI_wI (zLen l4 (by omega)), vI_wI (zLen l3 (by omega)), vI_wI (zLen l2 (by omega)), vI_wI (zLen l1 (by omega)), vI_wI (zLen hL (by omega))]
  have f : ∀ i, i ≠ a → vC (wI (wI (wI (wI (wI (wI (wI (wI V a 2 0) a 4 0) a 5 0) a 6 (-1)) a 7 0) a 8 0) a 9 x) a 10 x) i = vC V i := fun i hi => by
    rw [vC_wI hi, vC_wI hi, vC_wI hi, vC_wI hi, vC_wI hi, vC_wI hi, vC_wI hi, vC_wI hi]
  rw [sq_eq, sq_eq, sq_eq, sq_eq, sq_eq, sq_eq, sq_eq, sq_eq]
  generalize wI (wI (wI (wI (wI (wI (wI (wI V a 2 0) a 4 0) a 5 0) a 6 (-1)) a 7 0) a 8 0) a 9 x) a 10 x = W at l8 e f ⊢
  rw [zr11 l8 ha, ob_1, sq_eq]
  have ee : vI (wI W (a + 5) 3 0) a = zup (zup (zup (zup (zup (zup (zup (zup (vI V a) 2 0) 4 0) 5 0) 6 (-1)) 7 0) 8 0) 9 x) 10 x := by rw [vI_wI_ne (by omega)]; exact e
  refine ⟨_, rfl, zLay_wI l8, ⟨?_, ?_, ?_, ?_, ?_, ?_, ?_, ?_, ?_⟩, fun i h1 h2 => by rw [vC_wI h2, f i h1]⟩
  · rw [ee]; rfl
  · rw [ee]; rfl
  · rw [ee]; rfl
  · rw [ee]; rfl
  · rw [ee]; rfl
  · rw [ee]; rfl
  · rw [ee]; rfl
  · rw [ee]; rfl
  · rw [vI_wI (zLen l8 (by omega)), zup_eq]
theorem n208 (hL : zLay V) : vN V 208 = 290 := zN hL (by decide +kernel)
/-- the reference reads the cells -/
theorem r_l98 (hl : l ≤ 71) (hR : R ≤ 8) (hC : C ≤ 8) (ht : ∀ j, j < l → t j = 47 ∨ 0 ≤ tof (t j)) (h64 : cN t l ≤ 64) : ∀ (d m k : Nat) (V : VS), k + d = l → d < m → zLay V → (∀ k, k < l → vI V 216 k = t k) → vI V 207 14 = Int32.ofNat R → vI V 207 15 = Int32.ofNat C → (∀ j, j < 290 → vI V 208 j = if 2 ≤ j ∧ j < 66 then gC t k (j - 2) else 0) → ∃ U, elX9_load_98 n m V 207 x (Int32.ofNat l) (Int32.ofNat (2 + cN t k)) (Int32.ofNat k) = rt (10 * Int32.ofNat R + Int32.ofNat C) U ∧ zLay U ∧ (∀ i, i ≠ 207 → i ≠ 208 → vC U i = vC V i) ∧ (vI U 207 9 = 0 ∧ ∀ k, k ≠ 9 → vI U 207 k = vI V 207 k) ∧ ∀ j, j < 290 → vI U 208 j = gLd t l R C x j
  | 0, m + 1, k, V, e, _, hL, tc, r14, r15, hq => by
    have ek : k = l := by omega
    subst ek
    have m1 : zLay (wI V 208 0 (Int32.ofNat R)) := zLay_wI hL
    have m2 : zLay (wI (wI V 208 0 (Int32.ofNat R)) 208 1 (Int32.ofNat C)) := zLay_wI m1
    have m3 : zLay (wI (wI (wI V 208 0 (Int32.ofNat R)) 208 1 (Int32.ofNat C)) 208 155 x) := zLay_wI m2
    have m4 : zLay (wI (wI (wI (wI V 208 0 (Int32.ofNat R)) 208 1 (Int32.ofNat C)) 208 155 x) 208 166 (-1)) := zLay_wI m3
    have m5 : zLay (wI (wI (wI (wI (wI V 208 0 (Int32.ofNat R)) 208 1 (Int32.ofNat C)) 208 155 x) 208 166 (-1)) 207 9 0) := zLay_wI m4
    refine ⟨_, ?_, m5, fun i h1 h2 => by rw [vC_wI h1, vC_wI h2, vC_wI h2, vC_wI h2, vC_wI h2], ⟨by rw [vI_wI (zLen m4 (by omega)), zup_eq], fun j hj => by rw [vI_wI (zLen m4 (by omega)), zup_ne hj, vI_wI_ne (by omega), vI_wI_ne (by omega), vI_wI_ne (by omega), vI_wI_ne (by omega)]⟩, fun j hj => ?_⟩
    · show eX9_load_98 n (elX9_load_98 n m) V 207 x (Int32.ofNat k) (Int32.ofNat (2 + cN t k)) (Int32.ofNat k) = _
      unfold eX9_load_98
      rw [if_pos (Int32.le_refl _), r71 hL, ob_1, n208 hL, if_pos (by decide), t0n, sq_eq, r14, r71 m1, ob_1, n208 m1, if_pos (by decide), show (1 : Int32).toNatClampNeg = 1 from by decide +kernel, sq_eq, vI_wI_ne (by omega), r15, r71 m2, ob_1, n208 m2, if_pos (by decide), show (155 : Int32).toNatClampNeg = 155 from by decide +kernel, sq_eq, r71 m3, ob_1, n208 m3, if_pos (by decide), show (166 : Int32).toNatClampNeg = 166 from by decide +kernel, sq_eq, sq_eq, vI_wI (zLen m4 (by omega)), zup_ne (by omega), zup_ne (by omega), vI_wI_ne (by omega), vI_wI_ne (by omega), vI_wI_ne (by omega), vI_wI_ne (by omega), r14, r15]
    · rw [vI_wI_ne (by omega), vI_wI (zLen m3 (by omega)), vI_wI (zLen m2 (by omega)), vI_wI (zLen m1 (by omega)), vI_wI (zLen hL (by omega))]
      unfold zup gLd
      by_cases c166 : j = 166
      · rw [if_pos c166, c166]; rfl
      rw [if_neg c166]
      by_cases c155 : j = 155
      · rw [if_pos c155, c155]; rfl
      rw [if_neg c155]
      by_cases c1 : j = 1
      · rw [if_pos c1, c1]; rfl
      rw [if_neg c1]
      by_cases c0 : j = 0
      · rw [if_pos c0, c0]; rfl
      rw [if_neg c0, if_neg c0, if_neg c1, if_neg c155, if_neg c166, if_neg (by omega)]
      exact hq j hj
  | d + 1, m + 1, k, V, e, hd, hL, tc, r14, r15, hq => by
    have st : elX9_load_98 n (m + 1) V 207 x (Int32.ofNat l) (Int32.ofNat (2 + cN t k)) (Int32.ofNat k) = if t k = 47 then elX9_load_98 n m V 207 x (Int32.ofNat l) (Int32.ofNat (2 + cN t k)) (Int32.ofNat (k + 1)) else if gvp_in (Int32.ofNat (2 + cN t k)) 290 = true then elX9_load_98 n m (wI V 208 (Int32.ofNat (2 + cN t k)).toNatClampNeg (tof (t k))) 207 x (Int32.ofNat l) (Int32.ofNat (2 + cN t k) + 1) (Int32.ofNat (k + 1)) else none := by
      show eX9_load_98 n (elX9_load_98 n m) V 207 x (Int32.ofNat l) (Int32.ofNat (2 + cN t k)) (Int32.ofNat k) = _
      unfold eX9_load_98
      rw [if_neg (fun e => by have := (of_le (by omega) (by omega)).mp e; omega), show vR V 207 11 = some 216 from zR hL (by decide +kernel), ob_1, show vN V 216 = 71 from zN hL (by decide +kernel), if_pos (in_of (by omega) (by decide)), tn_of (by omega), tc k (by omega), r71 hL, ob_1, ob_1, show vN V 216 = 71 from zN hL (by decide +kernel), if_pos (in_of (by omega) (by decide)), tc k (by omega), r_tof, bd_rt, n208 hL, p1_of]
      rfl
    by_cases g : t k = 47
    · rw [st, if_pos g, ← cN_s g]
      exact r_l98 hl hR hC ht h64 d m (k + 1) V (by omega) (by omega) hL tc r14 r15 (by rw [gC_s g]; exact hq)
    · have cc : cN t k + 1 ≤ cN t l := by
        have := cN_mono (t := t) (k := k + 1) d
        rw [cN_c g, show k + 1 + d = l from by omega] at this; exact this
      have l1 : zLay (wI V 208 (2 + cN t k) (tof (t k))) := zLay_wI hL
      obtain ⟨U, eU, lU, fU, kU, qU⟩ := r_l98 hl hR hC ht h64 d m (k + 1) (wI V 208 (2 + cN t k) (tof (t k))) (by omega) (by omega) l1 (fun j hj => by rw [vI_wI_ne (by omega)]; exact tc j hj) (by rw [vI_wI_ne (by omega)]; exact r14) (by rw [vI_wI_ne (by omega)]; exact r15) (fun j hj => by
        rw [gC_c g, vI_wI (zLen hL (by omega))]
        by_cases z : j = 2 + cN t k
        · rw [z, zup_eq, if_pos (by omega), Nat.add_sub_cancel_left, zup_eq]
        · rw [zup_ne z, hq j hj]
          by_cases y : 2 ≤ j ∧ j < 66
          · rw [if_pos y, if_pos y, zup_ne (by omega)]
          · rw [if_neg y, if_neg y])
      refine ⟨U, ?_, lU, fun i h1 h2 => by rw [fU i h1 h2, vC_wI h2], ⟨kU.1, fun j hj => by rw [kU.2 j hj, vI_wI_ne (by omega)]⟩, qU⟩
      rw [st, if_neg g, if_pos (in_of (by omega) (by decide)), tn_of (by omega), p1_of, Nat.add_assoc, ← cN_c g]
      exact eU
theorem r_l70 {y1 y3 : Int32} : ∀ (d m k : Nat) (V : VS), k + d = 290 → d < m → zLay V → ∃ U, elX9_load_70 n m V 207 y1 y3 (Int32.ofNat k) = elX9_load_98 n n U 207 y1 y3 2 0 ∧ zLay U ∧ (∀ i, i ≠ 208 → vC U i = vC V i) ∧ ∀ j, vI U 208 j = if k ≤ j ∧ j < 290 then 0 else vI V 208 j
  | 0, m + 1, k, V, e, _, hL => by
    have ek : k = 290 := by omega
    subst ek
    refine ⟨V, ?_, hL, fun _ _ => rfl, fun j => by rw [if_neg (by omega)]⟩
    show eX9_load_70 n (elX9_load_70 n m) V 207 y1 y3 (Int32.ofNat 290) = _
    unfold eX9_load_70
    rw [if_pos (by decide)]
  | d + 1, m + 1, k, V, e, hd, hL => by
    obtain ⟨U, eU, lU, fU, kU⟩ := r_l70 (y1 := y1) (y3 := y3) d m (k + 1) (wI V 208 k 0) (by omega) (by omega) (zLay_wI hL)
    refine ⟨U, ?_, lU, fun i hi => by rw [fU i hi, vC_wI hi], fun j => ?_⟩
    · show eX9_load_70 n (elX9_load_70 n m) V 207 y1 y3 (Int32.ofNat k) = _
      unfold eX9_load_70
      rw [if_neg (fun e => by have := (of_le (a := 290) (by omega) (by omega)).mp e; omega), r71 hL, ob_1, n208 hL, if_pos (in_of (by omega) (by decide)), tn_of (by omega), sq_eq, p1_of]
      exact eU
    · rw [kU j, vI_wI (zLen hL (by omega))]
      by_cases z : j = k
      · rw [z, if_neg (by omega), zup_eq, if_pos (by omega)]
      · rw [zup_ne z]
        by_cases y : k + 1 ≤ j ∧ j < 290
        · rw [if_pos y, if_pos (by omega)]
        · rw [if_neg y, if_neg (by omega)]
end
