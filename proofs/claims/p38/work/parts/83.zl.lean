/-! the turn is given on -/
def gStep (w : RW) : RW :=
  if w 290 + 1 < w 157 then gTurn (zup w 290 (w 290 + 1)) (w (158 + (w 290 + 1).toNatClampNeg)).toNatClampNeg
  else gTurn (zup (gBeg w) 290 (gBeg w 290 + 1)) (gBeg w (158 + (gBeg w 290 + 1).toNatClampNeg)).toNatClampNeg
def gPass : Nat → RW → RW
  | 0, w => w
  | d + 1, w => if 0 ≤ w 166 ∨ goB w = false then w else gPass d (gStep w)
/-- the next place in the order is t -/
def PI (w : RW) (t : Nat) : Prop := WF w ∧ w 290 + 1 = Int32.ofNat t ∧ t ≤ nO w
def ord (w : RW) (i : Nat) : Nat := (w (158 + i)).toNatClampNeg
theorem ord_lt {w : RW} (hW : WF w) {i : Nat} (hi : i < nO w) : ord w i < nU w := (hW.o hi).2
theorem ord_e {w : RW} (hW : WF w) {i : Nat} (hi : i < nO w) : w (158 + i) = Int32.ofNat (ord w i) := (hW.o hi).1.eq
theorem m1_back {x : Int32} {t : Nat} (h : x + 1 = Int32.ofNat t) : x = Int32.ofNat t - 1 := by rw [← h, Int32.add_sub_cancel]
theorem hl_c {w w' : RW} {t : Int32} (h66 : w' 66 = w 66) (h8 : nU w ≤ 8) (hd : ∀ u, u < 8 → dead w' u = dead w u) (ht : ∀ u, u < 8 → w' (67 + 11 * u) = w (67 + 11 * u)) : hl w' t = hl w t := by
  unfold hl
  have : nU w' = nU w := by unfold nU; rw [h66]
  rw [this]
  rw [Bool.eq_iff_iff, List.any_eq_true, List.any_eq_true]
  constructor
  · rintro ⟨u, hu, h⟩; refine ⟨u, hu, ?_⟩
    have u8 : u < 8 := by have := List.mem_range.mp hu; omega
    rwa [hd u u8, ht u u8] at h
  · rintro ⟨u, hu, h⟩; refine ⟨u, hu, ?_⟩
    have u8 : u < 8 := by have := List.mem_range.mp hu; omega
    rwa [hd u u8, ht u u8]
theorem goB_c {w w' : RW} (h66 : w' 66 = w 66) (h8 : nU w ≤ 8) (hd : ∀ u, u < 8 → dead w' u = dead w u) (ht : ∀ u, u < 8 → w' (67 + 11 * u) = w (67 + 11 * u)) : goB w' = goB w := by
  unfold goB; rw [hl_c h66 h8 hd ht, hl_c h66 h8 hd ht]
theorem goB_beg {w : RW} (hW : WF w) : goB (gBeg w) = goB w :=
  goB_c (gBeg_at hW (fun _ v => by omega) (by omega) (by omega)) hW.u8 (fun u hu => gBeg_d hW hu) (fun u hu => gBeg_at hW (fun _ v => by omega) (by omega) (by omega))
theorem goB_z {w : RW} (hW : WF w) {k : Nat} {x : Int32} (h : 155 ≤ k) : goB (zup w k x) = goB w :=
  goB_c (zup_ne (by omega)) hW.u8 (fun u hu => dead_z (by omega)) (fun u hu => zup_ne (by omega))
theorem nU_beg {w : RW} (hW : WF w) : nU (gBeg w) = nU w := by unfold nU; rw [gBeg_at hW (fun _ v => by omega) (by omega) (by omega)]
theorem goB_live {w : RW} (h : goB w = true) : ∃ u, u < nU w ∧ dead w u = false := by
  unfold goB at h
  have h0 : hl w 0 = true := by revert h; cases hl w 0 <;> simp
  unfold hl at h0
  obtain ⟨u, hu, e⟩ := List.any_eq_true.mp h0
  refine ⟨u, List.mem_range.mp hu, ?_⟩
  revert e; cases dead w u <;> simp
theorem beg_PI {w : RW} (hW : WF w) : PI (gBeg w) 0 := ⟨(gBeg_BI hW).1, by rw [gBeg_t hW]; decide, Nat.zero_le _⟩
theorem beg_pos {w : RW} (hW : WF w) (hg : goB w = true) : 0 < nO (gBeg w) := by
  obtain ⟨u, hu, hd⟩ := goB_live hg
  have u8 := hW.u8
  obtain ⟨_, _, _, h3⟩ := gBeg_BI hW
  obtain ⟨i, hi, _⟩ := h3 u hu (by rw [nU_beg hW]; exact hu) (by rw [gBeg_d hW (by omega)]; exact hd)
  omega
/-- one try, at place t of the order of x -/
def gTry (x : RW) (t : Nat) : RW := gTurn (zup x 290 (Int32.ofNat t)) (ord x t)
theorem step_old {w : RW} {t : Nat} (h : PI w t) (ht : t < nO w) : gStep w = gTry w t := by
  have o8 := h.1.o8; have u8 := h.1.u8
  unfold gStep gTry ord
  rw [h.2.1, h.1.oe, if_pos (by exact (of_lt (by omega) (by omega)).mpr ht), tn_of (by omega)]
theorem step_new {w : RW} {t : Nat} (h : PI w t) (ht : t = nO w) : gStep w = gTry (gBeg w) 0 := by
  have o8 := h.1.o8; have u8 := h.1.u8
  unfold gStep gTry ord
  rw [h.2.1, h.1.oe, if_neg (fun e => by have := (of_lt (by omega) (by omega)).mp e; omega), (beg_PI h.1).2.1, tn_of (by omega)]
section
variable {x : RW} {t : Nat}
theorem try_W (h : PI x t) : WF (zup x 290 (Int32.ofNat t)) := h.1.z (.inr (.inr (.inr (.inr (.inl rfl)))))
theorem try_u (h : PI x t) (ht : t < nO x) : ord x t < nU (zup x 290 (Int32.ofNat t)) := by rw [nU_z (by omega)]; exact ord_lt h.1 ht
theorem try_at (h : PI x t) (ht : t < nO x) {k : Nat} (h1 : k < 67 ∨ (155 ≤ k ∧ k < 166) ∨ k = 289 ∨ 290 < k) : gTry x t k = x k := by
  have u8 := h.1.u8; have o := ord_lt h.1 ht
  unfold gTry
  rw [gTurn_at (try_W h) (try_u h ht) (by omega) (by omega) (by omega) (by omega), zup_ne (by omega)]
theorem try_290 (h : PI x t) (ht : t < nO x) : gTry x t 290 = Int32.ofNat t := by
  have u8 := h.1.u8; have o := ord_lt h.1 ht
  unfold gTry
  rw [gTurn_at (try_W h) (try_u h ht) (by omega) (by omega) (by omega) (by omega), zup_eq]
theorem try_nO (h : PI x t) (ht : t < nO x) : nO (gTry x t) = nO x := by unfold nO; rw [try_at h ht (by omega)]
theorem try_nU (h : PI x t) (ht : t < nO x) : nU (gTry x t) = nU x := by unfold nU; rw [try_at h ht (by omega)]
theorem try_PI (h : PI x t) (ht : t < nO x) : PI (gTry x t) (t + 1) :=
  ⟨(try_W h).turn (try_u h ht), by rw [try_290 h ht]; exact of_add, by rw [try_nO h ht]; omega⟩
theorem try_ord (h : PI x t) (ht : t < nO x) {i : Nat} (hi : i < nO x) : ord (gTry x t) i = ord x i := by
  have o8 := h.1.o8; have u8 := h.1.u8
  unfold ord; rw [try_at h ht (by omega)]
theorem try_dead (h : PI x t) (ht : t < nO x) {v : Nat} (hv : v < 8) (hd : dead x v = true) : dead (gTry x t) v = true :=
  gTurn_dead (try_W h) (try_u h ht) hv (by rw [dead_z (by omega)]; exact hd)
/-- the unit gets its turn, or is dead -/
theorem try_or (h : PI x t) (ht : t < nO x) : (gTok (zup x 290 (Int32.ofNat t)) (ord x t) = true ∧ gTry x t 166 = Int32.ofNat (ord x t) ∧ dead (gTry x t) (ord x t) = false) ∨ (gTok (zup x 290 (Int32.ofNat t)) (ord x t) = false ∧ gTry x t 166 = x 166 ∧ gTry x t 167 = x 167 ∧ dead (gTry x t) (ord x t) = true) := by
  cases e : gTok (zup x 290 (Int32.ofNat t)) (ord x t)
  · refine .inr ⟨rfl, ?_⟩
    have := gTurn_no (try_W h) (try_u h ht) e
    rw [zup_ne (by omega), zup_ne (by omega)] at this
    exact this
  · exact .inl ⟨rfl, gTurn_yes e⟩
end
/-- whether the giving on is at its end -/
def Fin (w : RW) : Prop := 0 ≤ w 166 ∨ goB w = false
/-- in a round that has just begun: whom the turn has passed is dead, and nobody lives who isn't in the order -/
def FR (w : RW) (t : Nat) : Prop := (∀ i, i < t → dead w (ord w i) = true) ∧ ∀ v, v < nU w → dead w v = false → ∃ i, i < nO w ∧ ord w i = v
theorem FR_end {w : RW} {t : Nat} (hW : WF w) (h : FR w t) (ht : t = nO w) : goB w = false := by
  cases e : goB w
  · rfl
  · exfalso
    obtain ⟨u, hu, hd⟩ := goB_live e
    obtain ⟨i, hi, o⟩ := h.2 u hu hd
    have := h.1 i (by omega)
    rw [o, hd] at this; cases this
theorem FR_beg {w : RW} (hW : WF w) : FR (gBeg w) 0 := by
  refine ⟨fun i hi => by omega, fun v hv hd => ?_⟩
  obtain ⟨b1, _, _, h3⟩ := gBeg_BI hW
  have u8 := b1.u8
  obtain ⟨i, hi, e⟩ := h3 v (by rw [← nU_beg hW]; exact hv) hv hd
  exact ⟨i, hi, by unfold ord; rw [e, tn_of (by omega)]⟩
theorem FR_try {w : RW} {t : Nat} (h : PI w t) (ht : t < nO w) (hF : FR w t) (hd : dead (gTry w t) (ord w t) = true) : FR (gTry w t) (t + 1) := by
  have u8 := h.1.u8
  refine ⟨fun i hi => ?_, fun v hv dv => ?_⟩
  · rw [try_ord h ht (by omega)]
    by_cases q : i = t
    · rw [q]; exact hd
    · exact try_dead h ht (by have := ord_lt h.1 (show i < nO w by omega); omega) (hF.1 i (by omega))
  · rw [try_nU h ht] at hv
    have dw : dead w v = false := by
      cases q : dead w v
      · rfl
      · rw [try_dead h ht (by omega) q] at dv; cases dv
    obtain ⟨i, hi, e⟩ := hF.2 v hv dw
    exact ⟨i, by rw [try_nO h ht]; exact hi, by rw [try_ord h ht hi]; exact e⟩
theorem gPass_F {w : RW} (d : Nat) (h : Fin w) : gPass d w = w := by
  cases d with
  | zero => rfl
  | succ d => exact if_pos h
theorem gPass_S {w : RW} (d : Nat) (h : ¬ Fin w) : gPass (d + 1) w = gPass d (gStep w) := if_neg h
theorem Fin_tok {x : RW} {t : Nat} (h : PI x t) (ht : t < nO x) (e : gTry x t 166 = Int32.ofNat (ord x t)) : Fin (gTry x t) := by
  have u8 := h.1.u8; have o := ord_lt h.1 ht
  refine .inl ?_
  rw [e]; exact Int32.not_lt.mp (ofn_nn (by omega))
theorem pass_fresh : ∀ (d t : Nat) (w : RW), PI w t → FR w t → nO w - t ≤ d → Fin (gPass d w)
  | 0, t, w, h, hF, hd => show Fin w from .inr (FR_end h.1 hF (by have := h.2.2; omega))
  | d + 1, t, w, h, hF, hd => by
    by_cases f : Fin w
    · rw [gPass_F _ f]; exact f
    · rw [gPass_S _ f]
      have ht : t < nO w := by
        refine Nat.lt_of_le_of_ne h.2.2 (fun e => f (.inr (FR_end h.1 hF e)))
      rw [step_old h ht]
      rcases try_or h ht with ⟨_, e, _⟩ | ⟨_, _, _, e⟩
      · rw [gPass_F _ (Fin_tok h ht e)]; exact Fin_tok h ht e
      · exact pass_fresh d (t + 1) _ (try_PI h ht) (FR_try h ht hF e) (by rw [try_nO h ht]; omega)
theorem pass_old : ∀ (d t : Nat) (w : RW), PI w t → nO w - t + 9 ≤ d → Fin (gPass d w)
  | 0, t, w, h, hd => by omega
  | d + 1, t, w, h, hd => by
    by_cases f : Fin w
    · rw [gPass_F _ f]; exact f
    · rw [gPass_S _ f]
      by_cases ht : t < nO w
      · rw [step_old h ht]
        rcases try_or h ht with ⟨_, e, _⟩ | ⟨_, _, _, e⟩
        · rw [gPass_F _ (Fin_tok h ht e)]; exact Fin_tok h ht e
        · exact pass_old d (t + 1) _ (try_PI h ht) (by rw [try_nO h ht]; omega)
      · rw [step_new h (by have := h.2.2; omega)]
        have hg : goB w = true := by
          cases q : goB w
          · exact absurd (.inr q) f
          · rfl
        have hp := beg_pos h.1 hg
        have hb := beg_PI h.1
        have o8 := hb.1.o8; have u8 := hb.1.u8
        rcases try_or hb hp with ⟨_, e, _⟩ | ⟨_, _, _, e⟩
        · rw [gPass_F _ (Fin_tok hb hp e)]; exact Fin_tok hb hp e
        · exact pass_fresh d 1 _ (try_PI hb hp) (FR_try hb hp (FR_beg h.1) e) (by rw [try_nO hb hp]; omega)
/-- what the giving on leaves -/
def TI (w : RW) : Prop := w 166 = -1 ∨ ∃ t, t < nO w ∧ w 290 = Int32.ofNat t ∧ w 166 = Int32.ofNat (ord w t) ∧ dead w (ord w t) = false
theorem pass_inv : ∀ (d t b : Nat) (w : RW), PI w t → w 166 = -1 → Nb (w 156) b → b + d < 2000000 → (∃ s, PI (gPass d w) s) ∧ TI (gPass d w) ∧ Nb (gPass d w 156) (b + d) ∧ (¬ w 156 ≤ 0 → ¬ gPass d w 156 ≤ 0) ∧ (∀ k, k < 67 ∨ k = 289 ∨ 290 < k → gPass d w k = w k)
  | 0, t, b, w, h, hT, hb, _ => ⟨⟨t, h⟩, .inl hT, hb, id, fun _ _ => rfl⟩
  | d + 1, t, b, w, h, hT, hb, hbd => by
    by_cases f : Fin w
    · rw [gPass_F _ f]; exact ⟨⟨t, h⟩, .inl hT, hb.mono (by omega), id, fun _ _ => rfl⟩
    · rw [gPass_S _ f]
      have key : ∀ (x : RW) (s : Nat), PI x s → s < nO x → x 166 = -1 → Nb (x 156) (b + 1) → (¬ w 156 ≤ 0 → ¬ x 156 ≤ 0) → (∀ k, k < 67 ∨ k = 289 ∨ 290 < k → x k = w k) → (∃ q, PI (gPass d (gTry x s)) q) ∧ TI (gPass d (gTry x s)) ∧ Nb (gPass d (gTry x s) 156) (b + (d + 1)) ∧ (¬ w 156 ≤ 0 → ¬ gPass d (gTry x s) 156 ≤ 0) ∧ (∀ k, k < 67 ∨ k = 289 ∨ 290 < k → gPass d (gTry x s) k = w k) := by
        intro x s hx hs hxT hxb hxr hxk
        have r6 : gTry x s 156 = x 156 := try_at hx hs (by omega)
        rcases try_or hx hs with ⟨_, e, dd⟩ | ⟨_, e, _, _⟩
        · rw [gPass_F _ (Fin_tok hx hs e)]
          refine ⟨⟨s + 1, try_PI hx hs⟩, .inr ⟨s, by rw [try_nO hx hs]; exact hs, try_290 hx hs, by rw [try_ord hx hs hs]; exact e, by rw [try_ord hx hs hs]; exact dd⟩, by rw [r6]; exact hxb.mono (by omega), by rw [r6]; exact hxr, fun k hk => ?_⟩
          rw [try_at hx hs (by omega)]; exact hxk k hk
        · obtain ⟨a1, a2, a3, a4, a5⟩ := pass_inv d (s + 1) (b + 1) (gTry x s) (try_PI hx hs) (by rw [e]; exact hxT) (by rw [r6]; exact hxb) (by omega)
          refine ⟨a1, a2, a3.mono (by omega), fun q => a4 (by rw [r6]; exact hxr q), fun k hk => ?_⟩
          rw [a5 k hk, try_at hx hs (by omega)]; exact hxk k hk
      by_cases ht : t < nO w
      · rw [step_old h ht]
        exact key w t h ht hT (hb.mono (by omega)) id (fun _ _ => rfl)
      · rw [step_new h (by have := h.2.2; omega)]
        have hg : goB w = true := by
          cases q : goB w
          · exact absurd (.inr q) f
          · rfl
        have e1 : gBeg w 156 = Int32.ofNat ((w 156).toNatClampNeg + 1) := by rw [gBeg_r h.1, hb.eq]; rw [tn_of (by have := hb.le; omega)]; exact of_add
        refine key (gBeg w) 0 (beg_PI h.1) (beg_pos h.1 hg) (by rw [gBeg_at h.1 (fun _ v => by omega) (by omega) (by omega)]; exact hT) ?_ ?_ (fun k hk => gBeg_at h.1 (fun _ v => by omega) (by omega) (by omega))
        · rw [e1]; exact Nb.of (by have := hb.le; omega) (by omega)
        · intro _ q; rw [e1] at q
          have := (of_le (b := 0) (by have := hb.le; omega) (by omega)).mp q; omega
section
variable {n a : Nat}
theorem c_pass49 {V : VS} {w : RW} {t : Nat} {K : VS → Nat → Int32 → Rs Unit} {y : Int32} (hL : zLay V) (ha : a ∈ zB) (h : Rp a V w) (hP : PI w t) (ht : t < nO w) : ∃ U, eX2_passTurn_49 n K V a y = K U a (y + 1) ∧ Rp a U (gTry w t) ∧ FrC a V U := by
  have o8 := hP.1.o8; have u8 := hP.1.u8
  have ol := ord_lt hP.1 ht
  unfold eX2_passTurn_49
  rw [h.turn, hP.2.1, sq_eq]
  have l1 : zLay (wI V a 5 (Int32.ofNat t)) := zLay_wI hL
  have r1 : Rp a (wI V a 5 (Int32.ofNat t)) (zup w 290 (Int32.ofNat t)) := h.wturn hL ha
  have e5 : vI (wI V a 5 (Int32.ofNat t)) a 5 = Int32.ofNat t := by rw [r1.turn, zup_eq]
  have eo : vI (wI V a 5 (Int32.ofNat t)) (a + 4) t = Int32.ofNat (ord w t) := by
    rw [r1.order (by rw [nO_z (by omega)]; exact ht) (by omega), zup_ne (by omega)]; exact ord_e hP.1 ht
  rw [zr1 l1 ha, ob_1, zr3 l1 ha, ob_1, e5, zno l1 ha, if_pos (in_of (by omega) (by decide)), tn_of (by omega), eo, znu l1 ha, if_pos (in_of (by omega) (by decide)), tn_of (by omega), zru l1 ha (by omega), ob_1]
  obtain ⟨U, e, r, f⟩ := c_beginTurn (n := n) l1 ha (try_W hP) r1 (try_u hP ht)
  rw [e, bd_rt]
  exact ⟨U, rfl, r, ((FrC.rf hL).w0).tr f⟩
theorem c_pass (hn : 8 < n) (ha : a ∈ zB) : ∀ (d m i t : Nat) (V : VS) (w : RW), i + d = 16 → d < m → zLay V → Rp a V w → PI w t → ∃ U, elX2_passTurn_12 n m V a (Int32.ofNat i) = rt () U ∧ Rp a U (gPass d w) ∧ FrC a V U
  | 0, m + 1, i, t, V, w, hi, _, hL, h, hP => by
    have : i = 16 := by omega
    subst this
    show ∃ U, eX2_passTurn_12 n (elX2_passTurn_12 n m) V a (Int32.ofNat 16) = _ ∧ _
    unfold eX2_passTurn_12
    rw [if_pos (by decide)]
    exact ⟨V, rfl, h, FrC.rf hL⟩
  | d + 1, m + 1, i, t, V, w, hi, hm, hL, h, hP => by
    have o8 := hP.1.o8; have u8 := hP.1.u8; have pt := hP.2.2
    show ∃ U, eX2_passTurn_12 n (elX2_passTurn_12 n m) V a (Int32.ofNat i) = _ ∧ _
    unfold eX2_passTurn_12
    rw [if_neg (fun e => by have := (of_le (a := 16) (by omega) (by omega)).mp e; omega), h.cur]
    by_cases c : 0 ≤ w 166
    · rw [if_pos c, gPass_F _ (.inl c)]
      exact ⟨V, rfl, h, FrC.rf hL⟩
    rw [if_neg c, c_goesOn hn hL ha hP.1 h, bd_rt]
    by_cases g : goB w = true
    · rw [if_pos g, if_neg (by decide), h.turn, h.ocount, hP.2.1, hP.1.oe]
      have nf : ¬ Fin w := fun x => x.elim c (fun y => by rw [g] at y; cases y)
      rw [gPass_S _ nf]
      by_cases ht : t < nO w
      · rw [if_pos (by exact (of_lt (by omega) (by omega)).mpr ht), step_old hP ht]
        obtain ⟨T, e, r, f⟩ := c_pass49 (n := n) (K := elX2_passTurn_12 n m) (y := Int32.ofNat i) hL ha h hP ht
        rw [e, p1_of]
        obtain ⟨U, eU, rU, fU⟩ := c_pass hn ha d m (i + 1) (t + 1) T (gTry w t) (by omega) (by omega) f.1 r (try_PI hP ht)
        exact ⟨U, eU, rU, f.tr fU⟩
      · rw [if_neg (fun e => by have := (of_lt (by omega) (by omega)).mp e; omega), step_new hP (by have := hP.2.2; omega)]
        obtain ⟨S, eS, rS, fS⟩ := c_beginRound (n := n) hn hL ha hP.1 h
        rw [eS, bd_rt]
        obtain ⟨T, e, r, f⟩ := c_pass49 (n := n) (K := elX2_passTurn_12 n m) (y := Int32.ofNat i) fS.1 ha rS (beg_PI hP.1) (beg_pos hP.1 g)
        rw [e, p1_of]
        obtain ⟨U, eU, rU, fU⟩ := c_pass hn ha d m (i + 1) 1 T (gTry (gBeg w) 0) (by omega) (by omega) f.1 r (try_PI (beg_PI hP.1) (beg_pos hP.1 g))
        exact ⟨U, eU, rU, (fS.tr f).tr fU⟩
    · rw [if_neg g, if_pos rfl, gPass_F _ (.inr (by simpa using g))]
      exact ⟨V, rfl, h, FrC.rf hL⟩
def gPassT (w : RW) : RW := gPass 16 (zup (zup w 166 (-1)) 167 0)
theorem passT_PI {w : RW} {t : Nat} (h : PI w t) : PI (zup (zup w 166 (-1)) 167 0) t :=
  ⟨(h.1.z (.inr (.inr (.inl rfl)))).za nb_z, by rw [zup_ne (by omega), zup_ne (by omega)]; exact h.2.1, by rw [nO_z (by omega), nO_z (by omega)]; exact h.2.2⟩
theorem c_passTurn {V : VS} {w : RW} {t : Nat} (hn : 16 < n) (hL : zLay V) (ha : a ∈ zB) (h : Rp a V w) (hP : PI w t) : ∃ U, ev_X2_passTurn n V a = rt () U ∧ Rp a U (gPassT w) ∧ FrC a V U := by
  unfold ev_X2_passTurn eX2_passTurn_0
  simp only [sq_eq]
  have r1 : Rp a (wI V a 6 (-1)) (zup w 166 (-1)) := h.wcur hL ha
  have r2 := r1.wacts (x := 0) (zLay_wI hL) ha
  obtain ⟨U, e, r, f⟩ := c_pass (n := n) (by omega) ha 16 n 0 t _ _ (by omega) (by omega) (zLay_wI (zLay_wI hL)) r2 (passT_PI hP)
  exact ⟨U, e, r, (((FrC.rf hL).w0).w0).tr f⟩
theorem c_startRounds {V : VS} {w : RW} (hn : 16 < n) (hL : zLay V) (ha : a ∈ zB) (hW : WF w) (h : Rp a V w) : ∃ U, ev_X2_startRounds n V a = rt () U ∧ Rp a U (gPassT (gBeg w)) ∧ FrC a V U := by
  unfold ev_X2_startRounds eX2_startRounds_0
  obtain ⟨T, e, r, f⟩ := c_beginRound (n := n) (by omega) hL ha hW h
  rw [e, bd_rt]
  obtain ⟨U, e2, r2, f2⟩ := c_passTurn (n := n) hn f.1 ha r (beg_PI hW)
  rw [e2, bd_rt]
  exact ⟨U, rfl, r2, f.tr f2⟩
/-! the reference -/
theorem r_try {V : VS} {w : RW} {t : Nat} {K : VS → Nat → Int32 → Rs Unit} (hn : 120 < n) (hL : zLay V) (hQ : Qr V w) (hP : PI w t) (ht : t < nO w) (hp : vI V 207 16 = w 290) (hT : w 166 = -1) (hr : ¬ w 156 ≤ 0) : ∃ U, eX9_goesOn_37 n K V 207 1 = K U 207 (if gTok (zup w 290 (Int32.ofNat t)) (ord w t) = false ∧ goB (gTry w t) = true then 1 else 0) ∧ Qr U (gTry w t) ∧ vI U 207 16 = gTry w t 290 ∧ FrP V U := by
  have o8 := hP.1.o8; have u8 := hP.1.u8
  have ol := ord_lt hP.1 ht
  unfold eX9_goesOn_37
  rw [if_neg (by decide), hp, hP.2.1, sq_eq]
  have l1 : zLay (wI V 207 16 (Int32.ofNat t)) := zLay_wI hL
  have q1 : Qr (wI V 207 16 (Int32.ofNat t)) (zup w 290 (Int32.ofNat t)) := (hQ.wo (by decide)).g (by omega)
  have p1 : vI (wI V 207 16 (Int32.ofNat t)) 207 16 = Int32.ofNat t := by rw [vI_wI (zLen hL (by decide)), zup_eq]
  have f1 : FrP V (wI V 207 16 (Int32.ofNat t)) := (FrR.rf hL).p.wp
  obtain ⟨g7, e7⟩ := r_v l1 q1 (k := 157) (x := 157) (by decide) rfl
  have io : (158 : Int32) + Int32.ofNat t = Int32.ofNat (158 + t) := of_add (a := 158)
  rw [r71 l1, ob_1, if_pos g7, p1, e7, zup_ne (by omega), hP.1.oe, if_neg (fun e => by have := (of_inj (by omega) (by omega)).mp e; omega), ob_1, io, m208 l1, if_pos (in_of (by omega) (by decide)), tn_of (by omega), q1 _ (by omega), zup_ne (by omega), ord_e hP.1 ht]
  obtain ⟨T, e, q, f⟩ := r_hasTurn (n := n) hn l1 q1 (try_W hP) (try_u hP ht)
  rw [e, bd_rt]
  have pT : vI T 207 16 = gTry w t 290 := by rw [vI_C (f.2 207 (by decide)), p1, try_290 hP ht]
  have fT : FrP V T := f1.tr f.p
  rcases try_or hP ht with ⟨a, _, _⟩ | ⟨a, _, _, _⟩
  · rw [a, if_pos rfl, if_neg (by decide), if_neg (fun x => by cases x.1)]
    exact ⟨T, rfl, q, pT, fT⟩
  · rw [a, if_pos (by decide)]
    obtain ⟨r, er, r1, _⟩ := r_conditions (n := n) (by omega) f.1 q ((try_W hP).turn (try_u hP ht))
    rw [er, bd_rt]
    have rr : ¬ gTry w t 156 ≤ 0 := by rw [try_at hP ht (by omega)]; exact hr
    have cc : cnd (gTry w t) = goB (gTry w t) := by unfold cnd; rw [decide_eq_false rr]; rfl
    have r1' : r = 1 ↔ goB (gTry w t) = true := by rw [← cc]; exact r1
    by_cases g : goB (gTry w t) = true
    · rw [if_pos (r1'.mpr g), if_pos ⟨rfl, g⟩]; exact ⟨T, rfl, q, pT, fT⟩
    · rw [if_neg (fun x => g (r1'.mp x)), if_neg (fun x => g x.2)]; exact ⟨T, rfl, q, pT, fT⟩
theorem r_pass (hn : 120 < n) : ∀ (d m t b : Nat) (V : VS) (w : RW) (y : Int32), 2 * d < m → zLay V → Qr V w → PI w t → vI V 207 16 = w 290 → w 166 = -1 → ¬ w 156 ≤ 0 → Nb (w 156) b → b + d < 2000000 → Fin (gPass d w) → y = (if goB w = true then 1 else 0) → ∃ U, elX9_goesOn_37 n m V 207 y = rt () U ∧ Qr U (gPass d w) ∧ FrP V U := by
  intro d
  induction d with
  | zero =>
    intro m t b V w y hm hL hQ hP hp hT hr hb hbd hF hy
    obtain ⟨m, rfl⟩ : ∃ k, m = k + 1 := ⟨m - 1, by omega⟩
    have g : goB w = false := hF.elim (fun x => by rw [show gPass 0 w = w from rfl, hT] at x; exact absurd x (by decide)) id
    rw [g] at hy
    show ∃ U, eX9_goesOn_37 n (elX9_goesOn_37 n m) V 207 y = _ ∧ _
    unfold eX9_goesOn_37
    rw [hy, if_pos (by decide)]
    exact ⟨V, rfl, hQ, (FrR.rf hL).p⟩
  | succ d ih =>
    intro m t b V w y hm hL hQ hP hp hT hr hb hbd hF hy
    obtain ⟨m, rfl⟩ : ∃ k, m = k + 2 := ⟨m - 2, by omega⟩
    have o8 := hP.1.o8; have u8 := hP.1.u8
    by_cases g : goB w = true
    · rw [if_pos g] at hy
      subst hy
      have nf : ¬ Fin w := fun x => x.elim (fun z => by rw [hT] at z; exact absurd z (by decide)) (fun z => by rw [g] at z; cases z)
      rw [gPass_S _ nf] at hF ⊢
      -- behind a try at place s of x
      have key : ∀ (x : RW) (s k : Nat) (X : VS), 2 * d < k → PI x s → s < nO x → x 166 = -1 → ¬ x 156 ≤ 0 → Nb (x 156) (b + 1) → Fin (gPass d (gTry x s)) → ∀ Y : VS, Qr Y (gTry x s) → vI Y 207 16 = gTry x s 290 → FrP X Y → ∃ U, elX9_goesOn_37 n k Y 207 (if gTok (zup x 290 (Int32.ofNat s)) (ord x s) = false ∧ goB (gTry x s) = true then 1 else 0) = rt () U ∧ Qr U (gPass d (gTry x s)) ∧ FrP X U := by
        intro x s k X hk hx hs hxT hxr hxb hxF Y hY hYp fY
        have r6 : gTry x s 156 = x 156 := try_at hx hs (by omega)
        rcases try_or hx hs with ⟨tk, e, _⟩ | ⟨tk, e, _, _⟩
        · obtain ⟨k, rfl⟩ : ∃ q, k = q + 1 := ⟨k - 1, by omega⟩
          show ∃ U, eX9_goesOn_37 n (elX9_goesOn_37 n k) Y 207 _ = _ ∧ _
          unfold eX9_goesOn_37
          rw [if_neg (show ¬ (gTok (zup x 290 (Int32.ofNat s)) (ord x s) = false ∧ goB (gTry x s) = true) from fun z => by rw [tk] at z; cases z.1), if_pos rfl, gPass_F _ (Fin_tok hx hs e)]
          exact ⟨Y, rfl, hY, fY⟩
        · obtain ⟨U, eU, qU, fU⟩ := ih k (s + 1) (b + 1) Y (gTry x s) (if gTok (zup x 290 (Int32.ofNat s)) (ord x s) = false ∧ goB (gTry x s) = true then 1 else 0) hk fY.1 hY (try_PI hx hs) hYp (by rw [e]; exact hxT) (by rw [r6]; exact hxr) (by rw [r6]; exact hxb) (by omega) hxF (by
            rw [tk]
            by_cases z : goB (gTry x s) = true
            · rw [if_pos ⟨rfl, z⟩, if_pos z]
            · rw [if_neg (fun q => z q.2), if_neg z])
          exact ⟨U, eU, qU, fY.tr fU⟩
      by_cases ht : t < nO w
      · rw [step_old hP ht] at hF ⊢
        obtain ⟨Y, eY, qY, pY, fY⟩ := r_try (n := n) (K := elX9_goesOn_37 n (m + 1)) hn hL hQ hP ht hp hT hr
        show ∃ U, eX9_goesOn_37 n (elX9_goesOn_37 n (m + 1)) V 207 1 = _ ∧ _
        rw [eY]
        exact key w t (m + 1) V (by omega) hP ht hT hr (hb.mono (by omega)) hF Y qY pY fY
      · have te : t = nO w := by have := hP.2.2; omega
        rw [step_new hP te] at hF ⊢
        show ∃ U, eX9_goesOn_37 n (elX9_goesOn_37 n (m + 1)) V 207 1 = _ ∧ _
        have hb0 := beg_PI hP.1
        have hp0 := beg_pos hP.1 g
        have e1 : gBeg w 156 = Int32.ofNat ((w 156).toNatClampNeg + 1) := by rw [gBeg_r hP.1, hb.eq]; rw [tn_of (by have := hb.le; omega)]; exact of_add
        have hrB : ¬ gBeg w 156 ≤ 0 := fun q => by
          rw [e1] at q
          have := (of_le (b := 0) (by have := hb.le; omega) (by omega)).mp q; omega
        have hbB : Nb (gBeg w 156) (b + 1) := by rw [e1]; exact Nb.of (by have := hb.le; omega) (by omega)
        have hTB : gBeg w 166 = -1 := by rw [gBeg_at hP.1 (fun _ v => by omega) (by omega) (by omega)]; exact hT
        -- the reference counts up once, begins, and comes back to its loop
        have l1 : zLay (wI V 207 16 (Int32.ofNat t)) := zLay_wI hL
        have q1 : Qr (wI V 207 16 (Int32.ofNat t)) w := hQ.wo (by decide)
        have p1 : vI (wI V 207 16 (Int32.ofNat t)) 207 16 = Int32.ofNat t := by rw [vI_wI (zLen hL (by decide)), zup_eq]
        obtain ⟨g7, e7⟩ := r_v l1 q1 (k := 157) (x := 157) (by decide) rfl
        obtain ⟨S, eS, qS, fS⟩ := r_begins (n := n) hn l1 q1 hP.1
        have fS' : FrP V (wI S 207 16 (-1)) := (((FrR.rf hL).p.wp).tr fS.p).wp
        have step : eX9_goesOn_37 n (elX9_goesOn_37 n (m + 1)) V 207 1 = elX9_goesOn_37 n (m + 1) (wI S 207 16 (-1)) 207 1 := by
          unfold eX9_goesOn_37
          rw [if_neg (by decide), hp, hP.2.1, sq_eq, r71 l1, ob_1, if_pos g7, p1, e7, hP.1.oe, if_pos (by rw [te]), eS, bd_rt]
        rw [step]
        have qS' : Qr (wI S 207 16 (-1)) (gBeg w) := qS.wo (by decide)
        have pS' : vI (wI S 207 16 (-1)) 207 16 = gBeg w 290 := by rw [vI_wI (zLen fS.1 (by decide)), zup_eq, gBeg_t hP.1]
        obtain ⟨Y, eY, qY, pY, fY⟩ := r_try (n := n) (K := elX9_goesOn_37 n m) hn fS'.1 qS' hb0 hp0 pS' hTB hrB
        show ∃ U, eX9_goesOn_37 n (elX9_goesOn_37 n m) (wI S 207 16 (-1)) 207 1 = _ ∧ _
        rw [eY]
        exact key (gBeg w) 0 m V (by omega) hb0 hp0 hTB hrB hbB hF Y qY pY (fS'.tr fY)
    · rw [if_neg g] at hy
      subst hy
      show ∃ U, eX9_goesOn_37 n (elX9_goesOn_37 n (m + 1)) V 207 0 = _ ∧ _
      unfold eX9_goesOn_37
      rw [if_pos rfl, gPass_F _ (.inr (by simpa using g))]
      exact ⟨V, rfl, hQ, (FrR.rf hL).p⟩
theorem r_goesOn {V : VS} {w : RW} {t b : Nat} {x : Int32} (hn : 120 < n) (hL : zLay V) (hQ : Qr V w) (hP : PI w t) (hx : x = w 290) (hr : ¬ w 156 ≤ 0) (hb : Nb (w 156) b) (hbd : b + 16 < 2000000) (hF : Fin (gPassT w)) : ∃ U, ev_X9_goesOn n V 207 x = rt () U ∧ Qr U (gPassT w) ∧ FrP V U := by
  subst hx
  unfold ev_X9_goesOn eX9_goesOn_0
  rw [sq_eq]
  have l1 : zLay (wI V 207 16 (w 290)) := zLay_wI hL
  have q1 : Qr (wI V 207 16 (w 290)) w := hQ.wo (by decide)
  have p1 : vI (wI V 207 16 (w 290)) 207 16 = w 290 := by rw [vI_wI (zLen hL (by decide)), zup_eq]
  obtain ⟨g7, _⟩ := r_v l1 q1 (k := 167) (x := 167) (by decide) rfl
  rw [r71 l1, ob_1, if_pos g7, sq_eq, show (167 : Int32).toNatClampNeg = 167 from by decide +kernel]
  have l2 : zLay (wI (wI V 207 16 (w 290)) 208 167 0) := zLay_wI l1
  have q2 : Qr (wI (wI V 207 16 (w 290)) 208 167 0) (zup w 167 0) := q1.w l1
  have w2 : WF (zup w 167 0) := hP.1.za nb_z
  obtain ⟨r, er, r1, _⟩ := r_conditions (n := n) (by omega) l2 q2 w2
  rw [er, bd_rt]
  have cc : cnd (zup w 167 0) = goB w := by
    unfold cnd; rw [zup_ne (by omega), decide_eq_false hr, goB_z hP.1 (by omega)]; rfl
  have r1' : r = 1 ↔ goB w = true := by rw [← cc]; exact r1
  obtain ⟨g6, _⟩ := r_v l2 q2 (k := 166) (x := 166) (by decide) rfl
  have l3 : zLay (wI (wI (wI V 207 16 (w 290)) 208 167 0) 208 166 (-1)) := zLay_wI l2
  have q3 : Qr (wI (wI (wI V 207 16 (w 290)) 208 167 0) 208 166 (-1)) (zup (zup w 166 (-1)) 167 0) := fun k hk => by
    rw [(q2.w (k := 166) (x := -1) l2) k hk]
    unfold zup
    by_cases a : k = 166
    · rw [if_pos a, if_neg (by omega), if_pos a]
    · rw [if_neg a]
      by_cases b : k = 167
      · rw [if_pos b, if_pos b]
      · rw [if_neg b, if_neg b, if_neg a]
  have p3 : vI (wI (wI (wI V 207 16 (w 290)) 208 167 0) 208 166 (-1)) 207 16 = zup (zup w 166 (-1)) 167 0 290 := by
    rw [vI_wI_ne (by decide), vI_wI_ne (by decide), p1, zup_ne (by omega), zup_ne (by omega)]
  have f3 : FrP V (wI (wI (wI V 207 16 (w 290)) 208 167 0) 208 166 (-1)) := (((FrR.rf hL).p.wp).w).w
  have gz : goB (zup (zup w 166 (-1)) 167 0) = goB w := by
    rw [goB_z (hP.1.z (.inr (.inr (.inl rfl)))) (by omega), goB_z hP.1 (by omega)]
  obtain ⟨U, e, q, f⟩ := r_pass (n := n) hn 16 n t b _ _ (if goB w = true then 1 else 0) (by omega) l3 q3 (passT_PI hP) p3 (by rw [zup_ne (by omega), zup_eq]) (by rw [zup_ne (by omega), zup_ne (by omega)]; exact hr) (by rw [zup_ne (by omega), zup_ne (by omega)]; exact hb) hbd hF (by rw [gz])
  have fin : ∀ z : Int32, eX9_goesOn_27 n (wI (wI V 207 16 (w 290)) 208 167 0) 207 z = elX9_goesOn_37 n n (wI (wI (wI V 207 16 (w 290)) 208 167 0) 208 166 (-1)) 207 z := fun z => by
    unfold eX9_goesOn_27
    rw [r71 l2, ob_1, if_pos g6, sq_eq, show (166 : Int32).toNatClampNeg = 166 from by decide +kernel]
  by_cases g : goB w = true
  · rw [if_pos (r1'.mpr g), fin]; rw [if_pos g] at e
    exact ⟨U, e, q, f3.tr f⟩
  · rw [if_neg (fun x => g (r1'.mp x)), fin]; rw [if_neg g] at e
    exact ⟨U, e, q, f3.tr f⟩
end
