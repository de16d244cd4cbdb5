/-! units are added -/
def gAdd (w : RW) (t k c : Nat) : RW := fun j =>
  if j = 66 then w 66 + 1
  else if 67 + 11 * nU w ≤ j ∧ j < 67 + 11 * nU w + 11 then (if j = 67 + 11 * nU w then Int32.ofNat t else if j = 67 + 11 * nU w + 1 then Int32.ofNat k else if j = 67 + 11 * nU w + 2 then Int32.ofNat c else if j = 67 + 11 * nU w + 3 then tbI 0 (Int32.ofNat k) else if j = 67 + 11 * nU w + 4 then tbI 7 (Int32.ofNat k) else if j = 67 + 11 * nU w + 5 then tbI 8 (Int32.ofNat k) else 0)
  else if j = 292 + nU w then Int32.ofNat c
  else w j
section
variable {i n : Nat} {V T : VS} {w : RW} {t k c : Nat}
theorem gAdd_at {j : Nat} (h : j ≠ 66) (h1 : ¬ (67 + 11 * nU w ≤ j ∧ j < 67 + 11 * nU w + 11)) (h2 : j ≠ 292 + nU w) : gAdd w t k c j = w j := by
  unfold gAdd; rw [if_neg h, if_neg h1, if_neg h2]
theorem gAdd_n (hW : WF w) (h8 : nU w < 8) : nU (gAdd w t k c) = nU w + 1 := by
  show (gAdd w t k c 66).toNatClampNeg = _
  unfold gAdd
  rw [if_pos rfl, hW.ue, p1_of, tn_of (by omega)]
theorem gAdd_u {j : Nat} (hj : j < 11) : gAdd w t k c (67 + 11 * nU w + j) = [Int32.ofNat t, Int32.ofNat k, Int32.ofNat c, tbI 0 (Int32.ofNat k), tbI 7 (Int32.ofNat k), tbI 8 (Int32.ofNat k)].getD j 0 := by
  unfold gAdd
  rw [if_neg (by omega), if_pos (by omega)]
  have : j = 0 ∨ j = 1 ∨ j = 2 ∨ j = 3 ∨ j = 4 ∨ j = 5 ∨ 6 ≤ j := by omega
  rcases this with rfl | rfl | rfl | rfl | rfl | rfl | h
  · rw [if_pos (by omega)]; rfl
  · rw [if_neg (by omega), if_pos rfl]; rfl
  · rw [if_neg (by omega), if_neg (by omega), if_pos rfl]; rfl
  · rw [if_neg (by omega), if_neg (by omega), if_neg (by omega), if_pos rfl]; rfl
  · rw [if_neg (by omega), if_neg (by omega), if_neg (by omega), if_neg (by omega), if_pos rfl]; rfl
  · rw [if_neg (by omega), if_neg (by omega), if_neg (by omega), if_neg (by omega), if_neg (by omega), if_pos rfl]; rfl
  · rw [if_neg (by omega), if_neg (by omega), if_neg (by omega), if_neg (by omega), if_neg (by omega), if_neg (by omega), List.getD_eq_getElem?_getD, List.getElem?_eq_none (by simpa using h)]; rfl
theorem gAdd_f (h8 : nU w < 8) : gAdd w t k c (292 + nU w) = Int32.ofNat c := by
  unfold gAdd
  by_cases h : 67 + 11 * nU w ≤ 292 + nU w ∧ 292 + nU w < 67 + 11 * nU w + 11
  · exfalso; omega
  · rw [if_neg (by omega), if_neg h, if_pos rfl]
theorem tb0_le : ∀ k, k < 4 → tbN 0 k ≤ 18 ∧ tbN 7 k ≤ 6 ∧ tbN 8 k ≤ 1 ∧ 0 < tbN 0 k := by decide +kernel
theorem gAdd_W (hW : WF w) (h8 : nU w < 8) (ht : t < 2) (hk : k < 4) (hc : c < nR w * nC w) : WF (gAdd w t k c) := by
  have rc := hW.rc; have o8 := hW.o8
  have nu := gAdd_n (t := t) (k := k) (c := c) hW h8
  have e0 : gAdd w t k c 0 = w 0 := gAdd_at (by omega) (by omega) (by omega)
  have e1 : gAdd w t k c 1 = w 1 := gAdd_at (by omega) (by omega) (by omega)
  have er : nR (gAdd w t k c) = nR w := by unfold nR; rw [e0]
  have ec : nC (gAdd w t k c) = nC w := by unfold nC; rw [e1]
  have eo : gAdd w t k c 157 = w 157 := gAdd_at (by omega) (by omega) (by omega)
  have eO : nO (gAdd w t k c) = nO w := by unfold nO; rw [eo]
  have e66 : gAdd w t k c 66 = Int32.ofNat (nU w + 1) := by unfold gAdd; rw [if_pos rfl, hW.ue, p1_of]
  obtain ⟨b0, b7, b8, _⟩ := tb0_le k hk
  have t0 := (tb_le 0 (by omega) k hk).1
  have t7 := (tb_le 7 (by omega) k hk).1
  have t8 := (tb_le 8 (by omega) k hk).1
  refine ⟨⟨by rw [e0]; exact hW.r0, by rw [er]; exact hW.r3⟩, ⟨by rw [e1]; exact hW.c0, by rw [ec]; exact hW.c3⟩, fun x hx => ?_, by rw [e66]; exact Nb.of (by omega) (by omega), fun u hu j hj => ?_, fun u hu => ?_, fun u hu => ?_, by rw [eo]; exact hW.2.2.2.2.2.2.2.1, by rw [eO, nu]; omega, fun x hx => ?_, fun x y hxy hy => ?_, ?_, ?_⟩
  · rw [er, ec] at hx
    rw [gAdd_at (by omega) (by omega) (by omega)]; exact hW.g hx
  · rw [nu] at hu
    by_cases e : u = nU w
    · subst e
      rw [gAdd_u hj]
      have : j = 0 ∨ j = 1 ∨ j = 2 ∨ j = 3 ∨ j = 4 ∨ j = 5 ∨ j = 6 ∨ j = 7 ∨ j = 8 ∨ j = 9 ∨ j = 10 := by omega
      rcases this with rfl | rfl | rfl | rfl | rfl | rfl | rfl | rfl | rfl | rfl | rfl
      · exact Nb.of (b := 1) (by omega) (by omega)
      · exact Nb.of (b := 3) (by omega) (by omega)
      · exact Nb.of (b := 63) (by omega) (by omega)
      · show Nb (tbI 0 (Int32.ofNat k)) 18; rw [t0]; exact Nb.of b0 (by omega)
      · show Nb (tbI 7 (Int32.ofNat k)) 6; rw [t7]; exact Nb.of b7 (by omega)
      · show Nb (tbI 8 (Int32.ofNat k)) 1; rw [t8]; exact Nb.of b8 (by omega)
      all_goals exact nb_z
    · rw [gAdd_at (by omega) (by omega) (by omega)]; exact hW.f (by omega) hj
  · rw [nu] at hu
    rw [er, ec]
    by_cases e : u = nU w
    · subst e
      rw [gAdd_u (by omega)]
      show (Int32.ofNat c).toNatClampNeg < _
      rw [tn_of (by omega)]; exact hc
    · rw [gAdd_at (by omega) (by omega) (by omega)]; exact hW.cl (by omega)
  · rw [nu] at hu
    rw [er, ec]
    by_cases e : u = nU w
    · subst e
      rw [gAdd_f h8, tn_of (by omega)]; exact ⟨Nb.of (by omega) (by omega), hc⟩
    · rw [gAdd_at (by omega) (by omega) (by omega)]; exact hW.fc (by omega)
  · rw [eO] at hx
    rw [gAdd_at (by omega) (by omega) (by omega), nu]
    have := hW.o hx
    exact ⟨this.1, by omega⟩
  · rw [eO] at hy
    rw [gAdd_at (by omega) (by omega) (by omega), gAdd_at (by omega) (by omega) (by omega)]; exact hW.od hxy hy
  · rw [gAdd_at (by omega) (by omega) (by omega)]; exact hW.a
  · rw [gAdd_at (by omega) (by omega) (by omega)]; exact hW.e
theorem gAdd_F (hW : WF w) (h8 : nU w < 8) (hF : Fre w) : Fre (gAdd w t k c) := by
  have nu := gAdd_n (t := t) (k := k) (c := c) hW h8
  obtain ⟨a1, a2, a3, a4, a5, a6, a7, a8, a9⟩ := hF
  refine ⟨?_, ?_, ?_, ?_, ?_, ?_, ?_, ?_, fun u hu => ?_⟩
  · rw [gAdd_at (by omega) (by omega) (by omega)]; exact a1
  · rw [gAdd_at (by omega) (by omega) (by omega)]; exact a2
  · rw [gAdd_at (by omega) (by omega) (by omega)]; exact a3
  · rw [gAdd_at (by omega) (by omega) (by omega)]; exact a4
  · rw [gAdd_at (by omega) (by omega) (by omega)]; exact a5
  · rw [gAdd_at (by omega) (by omega) (by omega)]; exact a6
  · rw [gAdd_at (by omega) (by omega) (by omega)]; exact a7
  · rw [gAdd_at (by omega) (by omega) (by omega), gAdd_at (by omega) (by omega) (by omega)]; exact a8
  · rw [nu] at hu
    by_cases e : u = nU w
    · subst e
      have k1 : gAdd w t k c (67 + 11 * nU w + 1) = Int32.ofNat k := gAdd_u (j := 1) (by omega)
      rw [k1, gAdd_f h8]
      refine ⟨(gAdd_u (j := 2) (by omega)).symm, gAdd_u (j := 3) (by omega), gAdd_u (j := 4) (by omega), gAdd_u (j := 5) (by omega), fun j h1 h2 => ?_⟩
      rw [gAdd_u h2, List.getD_eq_getElem?_getD, List.getElem?_eq_none (by simpa using h1)]; rfl
    · obtain ⟨b1, b2, b3, b4, b5⟩ := a9 u (by omega)
      rw [gAdd_at (by omega) (by omega) (by omega), gAdd_at (j := 67 + 11 * u + 2) (by omega) (by omega) (by omega), gAdd_at (j := 67 + 11 * u + 3) (by omega) (by omega) (by omega), gAdd_at (j := 67 + 11 * u + 4) (by omega) (by omega) (by omega), gAdd_at (j := 67 + 11 * u + 5) (by omega) (by omega) (by omega), gAdd_at (j := 67 + 11 * u + 1) (by omega) (by omega) (by omega)]
      refine ⟨b1, b2, b3, b4, fun j h1 h2 => ?_⟩
      rw [gAdd_at (by omega) (by omega) (by omega)]; exact b5 j h1 h2
/-- a unit's cell after the first P writes -/
def UA (a u : Nat) (F : Nat → Int32) (P : Nat) (V U : VS) : Prop := zLay U ∧ (∀ i, i ≠ a + 9 + u → vC U i = vC V i) ∧ vI U (a + 9 + u) 0 = vI V (a + 9 + u) 0 ∧ ∀ p, 1 ≤ p → p ≤ P → vI U (a + 9 + u) p = F p
theorem UA.st {α : Type} {a u P p : Nat} {F : Nat → Int32} {V U : VS} {x : Int32} {G : VS → Rs α} {r : VS → Rs α} {Q : VS → Prop} (h : UA a u F P V U) (ha : a ∈ zB) (hu : u < 8) (hp : p = P + 1) (hx : x = F p) (g : ∀ S, UA a u F p V S → ∃ R, G S = r R ∧ Q R) : ∃ R, sq (wI U (a + 9 + u) p x) G = r R ∧ Q R := by
  have l : a + 9 + u < U.length := by rw [Nat.add_assoc]; exact zlt h.1 ha (by omega)
  refine g _ ⟨zLay_wI h.1, fun i hi => (vC_wI hi).trans (h.2.1 i hi), ?_, fun q h1 h2 => ?_⟩
  · rw [vI_wI l, zup_ne (by omega)]; exact h.2.2.1
  · rw [vI_wI l]
    by_cases e : q = p
    · rw [e, zup_eq, hx]
    · rw [zup_ne e]; exact h.2.2.2 q h1 (by omega)
def eF (x : Int32) (k c : Nat) : Nat → Int32 := fun q => [0, x, Int32.ofNat k, Int32.ofNat c, Int32.ofNat c, tbI 0 (Int32.ofNat k), tbI 7 (Int32.ofNat k), tbI 8 (Int32.ofNat k), 0, 0, 0, 0, 0].getD q 0
theorem c_enter {a u : Nat} (hL : zLay V) (ha : a ∈ zB) (hu : u < 8) (hk : k < 4) {x : Int32} : ∃ U, ev_X7_enter n V (a + 9 + u) x (Int32.ofNat k) (Int32.ofNat c) = rt () U ∧ UA a u (eF x k c) 12 V U := by
  have kin : gvp_in (Int32.ofNat k) 4 = true := in_of hk (by decide)
  unfold ev_X7_enter eX7_enter_0
  have s0 : UA a u (eF x k c) 0 V V := ⟨hL, fun _ _ => rfl, rfl, fun _ _ _ => by omega⟩
  refine s0.st ha hu rfl rfl (fun U1 s1 => ?_)
  refine s1.st ha hu rfl rfl (fun U2 s2 => ?_)
  refine s2.st ha hu rfl rfl (fun U3 s3 => ?_)
  refine s3.st ha hu rfl rfl (fun U4 s4 => ?_)
  rw [if_pos kin]
  refine s4.st ha hu rfl rfl (fun U5 s5 => ?_)
  rw [if_pos kin]
  refine s5.st ha hu rfl rfl (fun U6 s6 => ?_)
  rw [if_pos kin]
  refine s6.st ha hu rfl rfl (fun U7 s7 => ?_)
  refine s7.st ha hu rfl rfl (fun U8 s8 => ?_)
  refine s8.st ha hu rfl rfl (fun U9 s9 => ?_)
  refine s9.st ha hu rfl rfl (fun Ua sa => ?_)
  refine sa.st ha hu rfl rfl (fun Ub sb => ?_)
  refine sb.st ha hu rfl rfl (fun Uc sc => ?_)
  exact ⟨Uc, rfl, sc⟩
theorem c_enlist {a : Nat} (hL : zLay V) (ha : a ∈ zB) (hW : WF w) (h : Rp a V w) (h8 : nU w < 8) (hk : k < 4) : ∃ U, ev_X2_enlist n V a (Int32.ofNat t) (Int32.ofNat k) (Int32.ofNat c) = rt (Int32.ofNat (nU w)) U ∧ Rp a U (gAdd w t k c) ∧ FrC a V U := by
  have o8 := hW.o8; have rc := hW.rc
  unfold ev_X2_enlist eX2_enlist_0
  rw [h.count, hW.ue, if_pos (by exact (of_lt (b := 8) (by omega) (by omega)).mpr h8), zr1 hL ha, ob_1, znu hL ha, if_pos (in_of h8 (by decide)), tn_of (by omega), zru hL ha h8, ob_1]
  obtain ⟨T, eT, sT⟩ := c_enter (n := n) (c := c) (x := Int32.ofNat t) hL ha h8 hk
  have nT : vI T a 2 = Int32.ofNat (nU w) := by rw [vI_C (sT.2.1 a (by omega)), h.count, hW.ue]
  rw [eT, bd_rt, nT, p1_of, sq_eq]
  have l0 : a < T.length := zlt sT.1 ha (show 0 < 17 by omega)
  have x2 : vI (wI T a 2 (Int32.ofNat (nU w + 1))) a 2 = Int32.ofNat (nU w + 1) := by rw [vI_wI l0, zup_eq]
  rw [x2, show Int32.ofNat (nU w + 1) - 1 = Int32.ofNat (nU w + 1 - 1) from of_sub (b := 1) (by omega)]
  have fU : ∀ i, i ≠ a → vC (wI T a 2 (Int32.ofNat (nU w + 1))) i = vC T i := fun i hi => vC_wI hi
  have zU : ∀ p, p ≠ 2 → vI (wI T a 2 (Int32.ofNat (nU w + 1))) a p = vI V a p := fun p hp => by rw [vI_wI l0, zup_ne hp, vI_C (sT.2.1 a (by omega))]
  have lU : zLay (wI T a 2 (Int32.ofNat (nU w + 1))) := zLay_wI sT.1
  generalize wI T a 2 (Int32.ofNat (nU w + 1)) = U at x2 fU zU lU
  have nu := gAdd_n (t := t) (k := k) (c := c) hW h8
  have fV : ∀ i, i ≠ a → i ≠ a + 9 + nU w → vC U i = vC V i := fun i h1 h2 => by rw [fU i h1, sT.2.1 i h2]
  refine ⟨U, rfl, ⟨fun j hj => ?_, fun u hu => ?_⟩, lU, fun i hi => fV i (by omega) (by omega)⟩
  · -- a live place
    have e0 : gAdd w t k c 0 = w 0 := gAdd_at (by omega) (by omega) (by omega)
    have e1 : gAdd w t k c 1 = w 1 := gAdd_at (by omega) (by omega) (by omega)
    have e7 : gAdd w t k c 157 = w 157 := gAdd_at (by omega) (by omega) (by omega)
    have e8 : gAdd w t k c 168 = w 168 := gAdd_at (by omega) (by omega) (by omega)
    have lv : Lv w j ∨ j = 66 ∨ (67 + 11 * nU w ≤ j ∧ j < 67 + 11 * nU w + 11) ∨ j = 292 + nU w := by
      unfold Lv at hj ⊢
      rw [nu] at hj
      unfold nR nC nO nE at hj ⊢
      rw [e0, e1, e7, e8] at hj
      omega
    by_cases j6 : j = 66
    · subst j6
      rw [blk_at (k := 66) (o := 0) (p := 2) rfl]
      show vI U a 2 = _
      rw [x2]; unfold gAdd; rw [if_pos rfl, hW.ue, p1_of]
    by_cases ju : 67 + 11 * nU w ≤ j ∧ j < 67 + 11 * nU w + 11
    · obtain ⟨q, rfl⟩ : ∃ q, j = 67 + 11 * nU w + q := ⟨j - (67 + 11 * nU w), by omega⟩
      have q11 : q < 11 := by omega
      rw [blk_at (loc_u _ h8 q q11), gAdd_u q11, ← Nat.add_assoc, vI_C (fU (a + 9 + nU w) (by omega))]
      have : q = 0 ∨ q = 1 ∨ q = 2 ∨ q = 3 ∨ q = 4 ∨ q = 5 ∨ q = 6 ∨ q = 7 ∨ q = 8 ∨ q = 9 ∨ q = 10 := by omega
      rcases this with rfl | rfl | rfl | rfl | rfl | rfl | rfl | rfl | rfl | rfl | rfl
      all_goals exact sT.2.2.2 _ (by decide) (by decide)
    by_cases jf : j = 292 + nU w
    · subst jf
      rw [blk_at (loc_f _ h8), gAdd_f h8, ← Nat.add_assoc, vI_C (fU (a + 9 + nU w) (by omega))]
      exact sT.2.2.2 3 (by decide) (by decide)
    · have lw : Lv w j := by
        rcases lv with l | l | l | l
        · exact l
        · exact absurd l j6
        · exact absurd l ju
        · exact absurd l jf
      rw [gAdd_at j6 ju jf, ← h.1 j lw]
      have j3 : j < 308 := by unfold Lv at lw; omega
      have j9 : j ≠ 289 := by unfold Lv at lw; omega
      unfold zblk
      -- the place isn't one that was written
      by_cases o0 : (zloc j).1 = 0
      · rw [o0]
        have p2 : (zloc j).2 ≠ 2 := fun y => by
          have : zloc j = zloc 66 := Prod.ext o0 y
          exact j6 (loc_inj this)
        exact zU _ p2
      · have ou : (zloc j).1 ≠ 9 + nU w := fun y => by
          have key : ∀ q, q < 308 → 9 ≤ (zloc q).1 → q ≠ 289 → (67 ≤ q ∧ q < 155 ∧ (zloc q).1 = 9 + (q - 67) / 11) ∨ (292 ≤ q ∧ q < 300 ∧ (zloc q).1 = 9 + (q - 292)) ∨ 300 ≤ q := by decide +kernel
          have := key j j3 (by omega) j9
          unfold Lv at lw
          omega
        rw [vI_C (fV _ (by omega) (by omega))]
  · by_cases e : u = nU w
    · subst e
      rw [vI_C (fU (a + 9 + nU w) (by omega)), sT.2.2.1]; exact h.2 _ hu
    · rw [vI_C (fV (a + 9 + u) (by omega) (by omega))]; exact h.2 u hu
end
