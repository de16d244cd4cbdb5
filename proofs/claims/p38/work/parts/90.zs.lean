/-! grenades -/
theorem nb0 {x : Int32} {b : Nat} (h : Nb x b) (hb : b < 1000000) (h0 : x ≤ 0) : x = 0 := by
  by_cases q : x = 0
  · exact q
  · exfalso
    have e := h.eq; have l := h.le
    generalize x.toNatClampNeg = z at e l
    rw [e] at h0 q
    have := (of_le (b := 0) (by omega) (by omega)).mp h0
    exact q (by rw [Nat.le_zero.mp this]; rfl)
def gSuf (w : RW) (u : Nat) : RW :=
  if dead (gLose w u 3) u = true then gTell (gLose w u 3) 4 (Int32.ofNat u) 0
  else if dieN (gLose w u 3) 6 < 5 then rW (gLose w u 3)
  else if rW (gLose w u 3) (67 + 11 * u + 7) ≤ 0 then gTell (zup (rW (gLose w u 3)) (67 + 11 * u + 7) 1) 6 (Int32.ofNat u) 1
  else rW (gLose w u 3)
def gHurl : Nat → Nat → RW → Nat → RW × Nat
  | 0, _, w, _ => (w, 0)
  | d + 1, t, w, c => if dead w t = false ∧ dst w (cellN w t) c ≤ 1 then ((gHurl d (t + 1) (gSuf w t) c).1, (gHurl d (t + 1) (gSuf w t) c).2 + 1) else gHurl d (t + 1) w c
section
variable {w : RW} {u : Nat}
theorem su_l (hW : WF w) (hu : u < nU w) : WF (gLose w u 3) := hW.lose (m := 3) hu (by omega)
theorem su_W (hW : WF w) (hu : u < nU w) : WF (gSuf w u) := by
  have u8 := hW.u8
  have w1 := su_l hW hu
  have w2 : WF (rW (gLose w u 3)) := w1.z (.inl rfl)
  unfold gSuf
  by_cases a : dead (gLose w u 3) u = true
  · rw [if_pos a]; exact w1.tell
  rw [if_neg a]
  by_cases b : dieN (gLose w u 3) 6 < 5
  · rw [if_pos b]; exact w2
  rw [if_neg b]
  by_cases c : rW (gLose w u 3) (67 + 11 * u + 7) ≤ 0
  · rw [if_pos c]
    exact (w2.zu (j := 7) (by omega) (by omega) (Nb.of (k := 1) (b := 1) (by omega) (by omega)) (fun x => by omega)).tell
  · rw [if_neg c]; exact w2
theorem su_at (hW : WF w) (hu : u < nU w) {k : Nat} (h : k ≠ 67 + 11 * u + 3) (h2 : k ≠ 67 + 11 * u + 7) (h3 : k ≠ 155) (h4 : k < 168 ∨ 289 ≤ k) : gSuf w u k = w k := by
  have u8 := hW.u8
  have w1 := su_l hW hu
  have w2 : WF (rW (gLose w u 3)) := w1.z (.inl rfl)
  have e2 : rW (gLose w u 3) k = w k := (zup_ne h3).trans (gLose_at h)
  unfold gSuf
  by_cases a : dead (gLose w u 3) u = true
  · rw [if_pos a, gTell_lo w1.e h4, gLose_at h]
  rw [if_neg a]
  by_cases b : dieN (gLose w u 3) 6 < 5
  · rw [if_pos b]; exact e2
  rw [if_neg b]
  by_cases c : rW (gLose w u 3) (67 + 11 * u + 7) ≤ 0
  · rw [if_pos c, gTell_lo (by rw [zup_ne (by omega)]; exact w2.e) h4, zup_ne h2]; exact e2
  · rw [if_neg c]; exact e2
end
/-- what a grenade leaves as it is -/
def Kh (k : Nat) : Prop := k < 67 ∨ (155 < k ∧ k < 168) ∨ 289 ≤ k ∨ (67 ≤ k ∧ k < 155 ∧ (k - 67) % 11 ≠ 3 ∧ (k - 67) % 11 ≠ 7)
theorem hurl_p {c : Nat} : ∀ (d t : Nat) (w : RW), t + d = nU w → WF w → WF (gHurl d t w c).1 ∧ (∀ k, Kh k → (gHurl d t w c).1 k = w k) ∧ (gHurl d t w c).2 ≤ d
  | 0, t, w, _, hW => ⟨hW, fun _ _ => rfl, Nat.le_refl _⟩
  | d + 1, t, w, e, hW => by
    have u8 := hW.u8
    unfold gHurl
    by_cases g : dead w t = false ∧ dst w (cellN w t) c ≤ 1
    · rw [if_pos g]
      have at1 : ∀ k, Kh k → gSuf w t k = w k := fun k hk => by
        unfold Kh at hk
        exact su_at hW (by omega) (by omega) (by omega) (by omega) (by omega)
      obtain ⟨a1, a2, a3⟩ := hurl_p (c := c) d (t + 1) (gSuf w t) (by rw [show nU (gSuf w t) = nU w from by unfold nU; rw [at1 66 (.inl (by omega))]]; omega) (su_W hW (by omega))
      exact ⟨a1, fun k hk => (a2 k hk).trans (at1 k hk), Nat.succ_le_succ a3⟩
    · rw [if_neg g]
      obtain ⟨a1, a2, a3⟩ := hurl_p (c := c) d (t + 1) w (by omega) hW
      exact ⟨a1, a2, by omega⟩
section
variable {n a : Nat}
theorem c_suffer {V : VS} {w : RW} {u : Nat} (hL : zLay V) (ha : a ∈ zB) (hW : WF w) (h : Rp a V w) (hu : u < nU w) : ∃ U, ev_X2_suffer n V a (a + 9 + u) = rt () U ∧ Rp a U (gSuf w u) ∧ FrC a V U := by
  have u8 := hW.u8
  have w1 := su_l hW hu
  have w2 : WF (rW (gLose w u 3)) := w1.z (.inl rfl)
  have n1 : nU (gLose w u 3) = nU w := gLose_u (by omega)
  have n2 : nU (rW (gLose w u 3)) = nU w := (nU_z (by omega)).trans n1
  unfold ev_X2_suffer eX2_suffer_0 gSuf
  rw [c_lose h hu (by omega), bd_rt]
  have l1 : zLay (wI V (a + 9 + u) 5 (gHp w u 3)) := zLay_wI hL
  have r1 : Rp a (wI V (a + 9 + u) 5 (gHp w u 3)) (gLose w u 3) := h.wu hL ha (by omega) (j := 3) (by decide)
  have f1 : FrC a V (wI V (a + 9 + u) 5 (gHp w u 3)) := (FrC.rf hL).wu (by omega)
  generalize wI V (a + 9 + u) 5 (gHp w u 3) = V1 at l1 r1 f1 ⊢
  rw [c_lives r1 (by rw [n1]; exact hu) (by omega), bd_rt]
  by_cases d : dead (gLose w u 3) u = true
  · rw [if_pos d, if_pos rfl, if_pos d, zr11 l1 ha, ob_1, r1.num (by omega)]
    obtain ⟨U, e, r, f⟩ := c_note (n := n) l1 ha r1 w1.e (k := 4) (u := Int32.ofNat u) (x := 0)
    rw [e, bd_rt]
    exact ⟨U, rfl, r, f1.tr f⟩
  rw [if_neg d, if_neg (by decide), if_neg d, c_roll (x := 6) (s := 6) l1 ha r1 (by omega) (by omega) rfl, bd_rt]
  have dl := (die_e (gLose w u 3) (s := 6) (by omega) (by omega)).2
  rw [show rD (gLose w u 3) 6 = Int32.ofNat (dieN (gLose w u 3) 6) from (die_e (gLose w u 3) (s := 6) (by omega) (by omega)).1]
  have l2 : zLay (wI V1 a 10 (rZ (gLose w u 3))) := zLay_wI l1
  have r2 : Rp a (wI V1 a 10 (rZ (gLose w u 3))) (rW (gLose w u 3)) := r1.wz l1 ha
  have f2 : FrC a V (wI V1 a 10 (rZ (gLose w u 3))) := f1.w0
  generalize wI V1 a 10 (rZ (gLose w u 3)) = V2 at l2 r2 f2 ⊢
  by_cases b : dieN (gLose w u 3) 6 < 5
  · rw [if_pos (by exact (of_lt (b := 5) (by omega) (by omega)).mpr b), if_pos b]
    exact ⟨V2, rfl, r2, f2⟩
  rw [if_neg (fun e => by exact b ((of_lt (b := 5) (by omega) (by omega)).mp e)), if_neg b]
  rw [show vI V2 (a + 9 + u) 9 = rW (gLose w u 3) (67 + 11 * u + 7) from r2.u (by rw [n2]; exact hu) (by omega) (j := 7) (by decide)]
  have w7 := w2.f (u := u) (by rw [n2]; exact hu) (j := 7) (by omega)
  by_cases c : rW (gLose w u 3) (67 + 11 * u + 7) ≤ 0
  · have c0 : rW (gLose w u 3) (67 + 11 * u + 7) = 0 := nb0 w7 (by decide) c
    rw [if_pos c0, if_pos c, sq_eq]
    have l3 : zLay (wI V2 (a + 9 + u) 9 1) := zLay_wI l2
    have r3 : Rp a (wI V2 (a + 9 + u) 9 1) (zup (rW (gLose w u 3)) (67 + 11 * u + 7) 1) := r2.wu l2 ha (by omega) (j := 7) (by decide)
    have f3 : FrC a V (wI V2 (a + 9 + u) 9 1) := f2.wu (by omega)
    have w3 : WF (zup (rW (gLose w u 3)) (67 + 11 * u + 7) 1) := w2.zu (j := 7) (by omega) (by omega) (Nb.of (k := 1) (b := 1) (by omega) (by omega)) (fun x => by omega)
    rw [zr11 l3 ha, ob_1, r3.num (by omega)]
    obtain ⟨U, e, r, f⟩ := c_note (n := n) l3 ha r3 w3.e (k := 6) (u := Int32.ofNat u) (x := 1)
    rw [e, bd_rt]
    exact ⟨U, rfl, r, f3.tr f⟩
  · rw [if_neg (fun q => c (by rw [q]; decide)), if_neg c]
    exact ⟨V2, rfl, r2, f2⟩
theorem c_hurlL {u0 c : Nat} (hn : 64 < n) (ha : a ∈ zB) : ∀ (d m t s : Nat) (V : VS) (w : RW), t + d = nU w → d < m → zLay V → Rp a V w → WF w → c < nR w * nC w → ∃ U, elX2_hurl_50 n m V a (Int32.ofNat c) (a + 9 + u0) (Int32.ofNat s) (Int32.ofNat t) = bd (ev_X2_settle n U a (a + 9 + u0)) (fun _ V1 => rt (Int32.ofNat (s + (gHurl d t w c).2)) V1) th ∧ Rp a U (gHurl d t w c).1 ∧ FrC a V U
  | 0, m + 1, t, s, V, w, e, _, hL, h, hW, hc => by
    have u8 := hW.u8
    have : t = nU w := by omega
    subst this
    show ∃ U, eX2_hurl_50 n (elX2_hurl_50 n m) V a (Int32.ofNat c) (a + 9 + u0) (Int32.ofNat s) (Int32.ofNat (nU w)) = _ ∧ _
    unfold eX2_hurl_50
    rw [h.count, hW.ue, if_pos (by exact (of_le (by omega) (by omega)).mpr (Nat.le_refl _))]
    exact ⟨V, rfl, h, FrC.rf hL⟩
  | d + 1, m + 1, t, s, V, w, e, hm, hL, h, hW, hc => by
    have u8 := hW.u8
    have ht : t < nU w := by omega
    have skip : ¬ (dead w t = false ∧ dst w (cellN w t) c ≤ 1) → ∃ U, elX2_hurl_50 n m V a (Int32.ofNat c) (a + 9 + u0) (Int32.ofNat s) (Int32.ofNat (t + 1)) = bd (ev_X2_settle n U a (a + 9 + u0)) (fun _ V1 => rt (Int32.ofNat (s + (gHurl (d + 1) t w c).2)) V1) th ∧ Rp a U (gHurl (d + 1) t w c).1 ∧ FrC a V U := fun g => by
      unfold gHurl; rw [if_neg g]
      exact c_hurlL hn ha d m (t + 1) s V w (by omega) (by omega) hL h hW hc
    show ∃ U, eX2_hurl_50 n (elX2_hurl_50 n m) V a (Int32.ofNat c) (a + 9 + u0) (Int32.ofNat s) (Int32.ofNat t) = _ ∧ _
    unfold eX2_hurl_50
    rw [h.count, hW.ue, if_neg (fun e => by have := (of_le (by omega) (by omega)).mp e; omega), zr1 hL ha, ob_1, znu hL ha, if_pos (in_of (by omega) (by decide)), tn_of (by omega), zru hL ha (by omega), ob_1, c_lives h ht (by omega), bd_rt, p1_of, p1_of]
    cases g0 : dead w t
    rotate_left
    · rw [if_pos rfl]
      exact skip (fun x => by rw [g0] at x; cases x.1)
    rw [if_neg (by decide), zr0 hL ha, ob_1]
    rw [show vI V (a + 9 + t) 4 = w (67 + 11 * t + 2) from h.u ht (by omega) (j := 2) (by decide), cell_e hW ht, c_distance hW h (cell_lt hW ht) hc, bd_rt]
    have dl := dst_le hW (cell_lt hW ht) hc
    by_cases g1 : dst w (cellN w t) c ≤ 1
    · rw [if_neg (fun e => by have := (of_lt (a := 1) (by omega) (by omega)).mp e; omega)]
      obtain ⟨T, eT, rT, fT⟩ := c_suffer (n := n) hL ha hW h ht
      rw [eT, bd_rt]
      unfold gHurl
      rw [if_pos ⟨g0, g1⟩]
      have at1 : ∀ k, k < 67 → gSuf w t k = w k := fun k hk => su_at hW ht (by omega) (by omega) (by omega) (by omega)
      have n1 : nU (gSuf w t) = nU w := by unfold nU; rw [at1 66 (by omega)]
      obtain ⟨U, eU, rU, fU⟩ := c_hurlL (u0 := u0) (c := c) hn ha d m (t + 1) (s + 1) T (gSuf w t) (by rw [n1]; omega) (by omega) fT.1 rT (su_W hW ht) (by unfold nR nC; rw [at1 0 (by omega), at1 1 (by omega)]; exact hc)
      refine ⟨U, ?_, rU, fT.tr fU⟩
      rw [eU]
      congr 1
      funext _ V1
      congr 2; omega
    · rw [if_pos (by exact (of_lt (a := 1) (by omega) (by omega)).mpr (by omega))]
      exact skip (fun x => g1 x.2)
theorem r_throwL {c : Nat} (hn : 120 < n) : ∀ (d m t s : Nat) (V : VS) (w : RW), t + d = nU w → d < m → zLay V → Qr V w → WF w → c < nR w * nC w → ∃ U, elX9_throwsAt_27 n m V 207 (Int32.ofNat c) (Int32.ofNat s) (Int32.ofNat t) = rt (Int32.ofNat (s + (gHurl d t w c).2)) U ∧ Qr U (gHurl d t w c).1 ∧ FrR V U
  | 0, m + 1, t, s, V, w, e, _, hL, hQ, hW, hc => by
    have u8 := hW.u8
    have : t = nU w := by omega
    subst this
    obtain ⟨g1, e1⟩ := r_v hL hQ (k := 66) (x := 66) (by decide) rfl
    show ∃ U, eX9_throwsAt_27 n (elX9_throwsAt_27 n m) V 207 (Int32.ofNat c) (Int32.ofNat s) (Int32.ofNat (nU w)) = _ ∧ _
    unfold eX9_throwsAt_27
    rw [r71 hL, ob_1, if_pos g1, e1, hW.ue, if_pos (by exact (of_le (by omega) (by omega)).mpr (Nat.le_refl _))]
    exact ⟨V, rfl, hQ, FrR.rf hL⟩
  | d + 1, m + 1, t, s, V, w, e, hm, hL, hQ, hW, hc => by
    have u8 := hW.u8
    have ht : t < nU w := by omega
    obtain ⟨g1, e1⟩ := r_v hL hQ (k := 66) (x := 66) (by decide) rfl
    have skip : ¬ (dead w t = false ∧ dst w (cellN w t) c ≤ 1) → ∃ U, elX9_throwsAt_27 n m V 207 (Int32.ofNat c) (Int32.ofNat s) (Int32.ofNat (t + 1)) = rt (Int32.ofNat (s + (gHurl (d + 1) t w c).2)) U ∧ Qr U (gHurl (d + 1) t w c).1 ∧ FrR V U := fun g => by
      unfold gHurl; rw [if_neg g]
      exact r_throwL hn d m (t + 1) s V w (by omega) (by omega) hL hQ hW hc
    show ∃ U, eX9_throwsAt_27 n (elX9_throwsAt_27 n m) V 207 (Int32.ofNat c) (Int32.ofNat s) (Int32.ofNat t) = _ ∧ _
    unfold eX9_throwsAt_27
    rw [r71 hL, ob_1, if_pos g1, e1, hW.ue, if_neg (fun e => by have := (of_le (by omega) (by omega)).mp e; omega), r_lives hL hQ (by omega), bd_rt, p1_of, p1_of]
    cases g0 : dead w t
    rotate_left
    · rw [if_pos rfl]
      exact skip (fun x => by rw [g0] at x; cases x.1)
    rw [if_neg (by decide), r_of2 hL hQ (by omega), bd_rt, cell_e hW ht, r_apart hL hQ hW (cell_lt hW ht) hc, bd_rt]
    have dl := dst_le hW (cell_lt hW ht) hc
    by_cases g1 : dst w (cellN w t) c ≤ 1
    · rw [if_pos (by exact (of_le (b := 1) (by omega) (by omega)).mpr g1)]
      have w1 := su_l hW ht
      have w2 : WF (rW (gLose w t 3)) := w1.z (.inl rfl)
      have n1 : nU (gLose w t 3) = nU w := gLose_u (by omega)
      have at1 : ∀ k, k < 67 → gSuf w t k = w k := fun k hk => su_at hW ht (by omega) (by omega) (by omega) (by omega)
      have ns : nU (gSuf w t) = nU w := by unfold nU; rw [at1 66 (by omega)]
      have go : ∀ T : VS, zLay T → Qr T (gSuf w t) → FrR V T → ∃ U, elX9_throwsAt_27 n m T 207 (Int32.ofNat c) (Int32.ofNat (s + 1)) (Int32.ofNat (t + 1)) = rt (Int32.ofNat (s + (gHurl (d + 1) t w c).2)) U ∧ Qr U (gHurl (d + 1) t w c).1 ∧ FrR V U := fun T lT qT fT => by
        unfold gHurl
        rw [if_pos ⟨g0, g1⟩]
        obtain ⟨U, eU, rU, fU⟩ := r_throwL (c := c) hn d m (t + 1) (s + 1) T (gSuf w t) (by rw [ns]; omega) (by omega) lT qT (su_W hW ht) (by unfold nR nC; rw [at1 0 (by omega), at1 1 (by omega)]; exact hc)
        refine ⟨U, ?_, rU, fT.tr fU⟩
        rw [eU]
        congr 2; omega
      rw [r_loses (x := 3) (m := 3) (b := 18) hL hQ (by omega) (hW.f ht (j := 3) (by omega)) (by omega) (by omega) rfl, bd_rt]
      have l1 : zLay (wI V 208 (67 + 11 * t + 3) (gHp w t 3)) := zLay_wI hL
      have q1 : Qr (wI V 208 (67 + 11 * t + 3) (gHp w t 3)) (gLose w t 3) := hQ.w hL
      have f1 : FrR V (wI V 208 (67 + 11 * t + 3) (gHp w t 3)) := (FrR.rf hL).w
      generalize wI V 208 (67 + 11 * t + 3) (gHp w t 3) = V1 at l1 q1 f1 ⊢
      obtain ⟨S, eS, qS, fS⟩ := r_dies (n := n) hn l1 q1 w1.e (u := t) (by omega)
      rw [eS, bd_rt]
      have fS' := f1.tr fS
      by_cases dd : dead (gLose w t 3) t = true
      · rw [if_pos dd] at qS
        have eG : gSuf w t = gTell (gLose w t 3) 4 (Int32.ofNat t) 0 := by unfold gSuf; rw [if_pos dd]
        have d2 : dead (gTell (gLose w t 3) 4 (Int32.ofNat t) 0) t = true := by rw [← dd]; exact dead_c (gTell_lo w1.e (by omega))
        rw [r_lives fS.1 qS (by omega), bd_rt, if_pos d2, if_pos rfl]
        exact go S fS.1 (by rw [eG]; exact qS) fS'
      · rw [if_neg dd] at qS
        rw [r_lives fS.1 qS (by omega), bd_rt, if_neg dd, if_neg (by decide), r_roll (x := 6) (s := 6) fS.1 qS (by omega) (by omega) rfl, bd_rt]
        have dl := (die_e (gLose w t 3) (s := 6) (by omega) (by omega)).2
        rw [show rD (gLose w t 3) 6 = Int32.ofNat (dieN (gLose w t 3) 6) from (die_e (gLose w t 3) (s := 6) (by omega) (by omega)).1]
        have l2 : zLay (wI S 208 155 (rZ (gLose w t 3))) := zLay_wI fS.1
        have q2 : Qr (wI S 208 155 (rZ (gLose w t 3))) (rW (gLose w t 3)) := qS.w fS.1
        have f2 : FrR V (wI S 208 155 (rZ (gLose w t 3))) := fS'.w
        generalize wI S 208 155 (rZ (gLose w t 3)) = V2 at l2 q2 f2 ⊢
        by_cases b : dieN (gLose w t 3) 6 < 5
        · rw [if_pos (by exact (of_lt (b := 5) (by omega) (by omega)).mpr b)]
          have eG : gSuf w t = rW (gLose w t 3) := by unfold gSuf; rw [if_neg dd, if_pos b]
          exact go V2 l2 (by rw [eG]; exact q2) f2
        rw [if_neg (fun e => by exact b ((of_lt (b := 5) (by omega) (by omega)).mp e)), r_of7 l2 q2 (by omega), bd_rt]
        by_cases cc : rW (gLose w t 3) (67 + 11 * t + 7) ≤ 0
        · rw [if_pos cc, r_setj (x := 7) (j := 7) l2 (by omega) (by decide) rfl, bd_rt]
          have eG : gSuf w t = gTell (zup (rW (gLose w t 3)) (67 + 11 * t + 7) 1) 6 (Int32.ofNat t) 1 := by unfold gSuf; rw [if_neg dd, if_neg b, if_pos cc]
          have l3 : zLay (wI V2 208 (67 + 11 * t + 7) 1) := zLay_wI l2
          have q3 : Qr (wI V2 208 (67 + 11 * t + 7) 1) (zup (rW (gLose w t 3)) (67 + 11 * t + 7) 1) := q2.w l2
          have w3 : WF (zup (rW (gLose w t 3)) (67 + 11 * t + 7) 1) := w2.zu (j := 7) (by omega) (by omega) (Nb.of (k := 1) (b := 1) (by omega) (by omega)) (fun x => by omega)
          obtain ⟨R, eR, qR, fR⟩ := r_tells (n := n) hn l3 q3 w3.e (k := 6) (u := Int32.ofNat t) (x := 1)
          rw [eR, bd_rt]
          exact go R fR.1 (by rw [eG]; exact qR) ((f2.w).tr fR)
        · rw [if_neg cc]
          have eG : gSuf w t = rW (gLose w t 3) := by unfold gSuf; rw [if_neg dd, if_neg b, if_neg cc]
          exact go V2 l2 (by rw [eG]; exact q2) f2
    · rw [if_neg (fun e => by exact g1 ((of_le (b := 1) (by omega) (by omega)).mp e))]
      exact skip (fun x => g1 x.2)
end
