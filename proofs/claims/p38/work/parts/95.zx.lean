/-! the run of a fight -/
def NumV (V : VS) : Prop := ∀ a ∈ zB, ∀ u, u < 8 → vI V (a + 9 + u) 0 = Int32.ofNat u
def gStart (w0 : RW) : RW := gPassT (gBeg w0)
noncomputable def Run (w0 : RW) (kd ar : Nat → Nat) : Nat → RW
  | 0 => gStart w0
  | N + 1 => (gDo (Run w0 kd ar N) (kd N) (ar N)).1
theorem Run_c {w0 : RW} {kd ar kd' ar' : Nat → Nat} : ∀ N, (∀ j, j < N → kd' j = kd j ∧ ar' j = ar j) → Run w0 kd' ar' N = Run w0 kd ar N
  | 0, _ => rfl
  | N + 1, h => by
    unfold Run
    rw [Run_c N (fun j hj => h j (by omega)), (h N (by omega)).1, (h N (by omega)).2]
def Leg (w0 : RW) (kd ar : Nat → Nat) (N : Nat) : Prop := ∀ j, j < N → ∃ t, Fgt (Run w0 kd ar j) t ∧ LG (Run w0 kd ar j) (ord (Run w0 kd ar j) t) (kd j) (ar j)
theorem Leg.le {w0 : RW} {kd ar : Nat → Nat} {N M : Nat} (h : Leg w0 kd ar N) (g : M ≤ N) : Leg w0 kd ar M := fun j hj => h j (by omega)
theorem Leg_c {w0 : RW} {kd ar kd' ar' : Nat → Nat} {N : Nat} (h : Leg w0 kd ar N) (g : ∀ j, j < N → kd' j = kd j ∧ ar' j = ar j) : Leg w0 kd' ar' N := fun j hj => by
  rw [Run_c j (fun i hi => g i (by omega)), (g j hj).1, (g j hj).2]; exact h j hj
/-- a fight before it began -/
def Fre (w : RW) : Prop := w 156 = 0 ∧ w 157 = 0 ∧ w 166 = -1 ∧ w 167 = 0 ∧ w 168 = 0 ∧ w 289 = 0 ∧ w 290 = 0 ∧ w 291 = w 155 ∧ ∀ u, u < nU w → w (292 + u) = w (67 + 11 * u + 2) ∧ w (67 + 11 * u + 3) = tbI 0 (w (67 + 11 * u + 1)) ∧ w (67 + 11 * u + 4) = tbI 7 (w (67 + 11 * u + 1)) ∧ w (67 + 11 * u + 5) = tbI 8 (w (67 + 11 * u + 1)) ∧ ∀ j, 6 ≤ j → j < 11 → w (67 + 11 * u + j) = 0
def Ph (N : Nat) (w w0 : RW) (kd ar : Nat → Nat) : Prop := (N = 0 ∧ Fre w ∧ WF w) ∨ (Fre w0 ∧ WF w0 ∧ goB w0 = true ∧ Leg w0 kd ar N ∧ w = Run w0 kd ar N)

theorem gStart_Fin {w : RW} (hW : WF w) : Fin (gStart w) := by
  have u8 := (beg_PI hW).1.u8; have o8 := (beg_PI hW).1.o8
  refine pass_fresh 16 0 _ (passT_PI (beg_PI hW)) ⟨fun i hi => by omega, fun v hv hd => ?_⟩ ?_
  · rw [nU_z (by omega), nU_z (by omega)] at hv
    rw [dead_z (by omega), dead_z (by omega)] at hd
    obtain ⟨i, hi, e⟩ := (FR_beg hW).2 v hv hd
    refine ⟨i, by rw [nO_z (by omega), nO_z (by omega)]; exact hi, ?_⟩
    rw [← e]; unfold ord; rw [zup_ne (by omega), zup_ne (by omega)]
  · rw [nO_z (by omega), nO_z (by omega)]; omega
theorem start_p {w : RW} (hF : Fre w) (hW : WF w) : WF (gStart w) ∧ Sta (gStart w) ∧ ¬ gStart w 156 ≤ 0 ∧ Nb (gStart w 156) 17 ∧ gStart w 289 = 0 ∧ ∀ k, Kc k → gStart w k = w k := by
  have e1 : gBeg w 156 = Int32.ofNat 1 := by rw [gBeg_r hW, hF.1]; rfl
  obtain ⟨a, b, c, d, e⟩ := passT_p (beg_PI hW) (gStart_Fin hW) (b := 1) (by rw [e1]; decide) (by rw [e1]; exact Nb.of (by omega) (by omega)) (by omega)
  refine ⟨a, b, c, d, ?_, fun k hk => ?_⟩
  · rw [show gStart w 289 = gPassT (gBeg w) 289 from rfl, e 289 (.inr (.inl rfl)), gBeg_at hW (fun x => by omega) (by omega) (by omega)]
    exact hF.2.2.2.2.2.1
  · have u8 := hW.u8
    unfold Kc at hk
    rw [show gStart w k = gPassT (gBeg w) k from rfl, e k (by unfold Kq; omega), gBeg_at hW (fun x v => by omega) (by omega) (by omega)]
theorem Run_p {w0 : RW} {kd ar : Nat → Nat} (hF : Fre w0) (hW : WF w0) : ∀ N, N ≤ 1000 → Leg w0 kd ar N → WF (Run w0 kd ar N) ∧ Sta (Run w0 kd ar N) ∧ ¬ Run w0 kd ar N 156 ≤ 0 ∧ Nb (Run w0 kd ar N 156) (17 + 16 * N) ∧ Run w0 kd ar N 289 = Int32.ofNat N ∧ ∀ k, Kc k → Run w0 kd ar N k = w0 k
  | 0, _, _ => start_p hF hW
  | N + 1, hN, hl => by
    obtain ⟨a, b, c, d, e, f⟩ := Run_p hF hW N (by omega) (hl.le (by omega))
    obtain ⟨t, h1, h2⟩ := hl N (by omega)
    obtain ⟨a', b', c', d', e', f'⟩ := do_p h1 h2 c d (by omega)
    refine ⟨a', b', c', d'.mono (by omega), ?_, fun k hk => (f' k hk).trans (f k hk)⟩
    show (gDo (Run w0 kd ar N) (kd N) (ar N)).1 289 = _
    rw [e', e, p1_of]
theorem Ph.W {N : Nat} {w w0 : RW} {kd ar : Nat → Nat} (h : Ph N w w0 kd ar) (hN : N ≤ 1000) : WF w := by
  rcases h with ⟨_, _, h⟩ | ⟨a, b, _, d, e⟩
  · exact h
  · rw [e]; exact (Run_p a b N hN d).1
/-- whether it began -/
theorem Ph.no {N : Nat} {w w0 : RW} {kd ar : Nat → Nat} (h : Ph N w w0 kd ar) (hN : N ≤ 1000) (g : w 156 ≤ 0) : N = 0 ∧ Fre w ∧ WF w := by
  rcases h with h | ⟨a, b, _, d, e⟩
  · exact h
  · exfalso
    rw [e] at g
    exact (Run_p a b N hN d).2.2.1 g
theorem Ph.yes {N : Nat} {w w0 : RW} {kd ar : Nat → Nat} (h : Ph N w w0 kd ar) (g : ¬ w 156 ≤ 0) : Fre w0 ∧ WF w0 ∧ goB w0 = true ∧ Leg w0 kd ar N ∧ w = Run w0 kd ar N := by
  rcases h with ⟨_, f, _⟩ | h
  · exact absurd (by rw [f.1]; decide) g
  · exact h
theorem Ph.n9 {N : Nat} {w w0 : RW} {kd ar : Nat → Nat} (h : Ph N w w0 kd ar) (hN : N ≤ 1000) : w 289 = Int32.ofNat N := by
  rcases h with ⟨e, f, _⟩ | ⟨a, b, _, d, e⟩
  · rw [f.2.2.2.2.2.1, e]; rfl
  · rw [e]; exact (Run_p a b N hN d).2.2.2.2.1
/-- whose turn it is -/
theorem Ph.turn {N : Nat} {w w0 : RW} {kd ar : Nat → Nat} (h : Ph N w w0 kd ar) (hN : N ≤ 1000) : (cnd w = true ∧ ¬ w 156 ≤ 0 ∧ ∃ t, Fgt w t) ∨ (cnd w = false ∧ w 166 = -1 ∧ w 167 = 0) := by
  rcases h with ⟨_, f, _⟩ | ⟨a, b, _, d, e⟩
  · refine .inr ⟨?_, f.2.2.1, f.2.2.2.1⟩
    unfold cnd
    rw [decide_eq_true (show w 156 ≤ 0 by rw [f.1]; decide)]; rfl
  · obtain ⟨_, s, c, _⟩ := Run_p a b N hN d
    rw [← e] at s c
    rcases s with ⟨t, s⟩ | ⟨s1, s2, s3⟩
    · refine .inl ⟨?_, c, t, s⟩
      unfold cnd
      rw [decide_eq_false c, s.2.2]; rfl
    · refine .inr ⟨?_, s2, s3⟩
      unfold cnd
      rw [s1, Bool.and_false]
/-! where the state lies -/
def ScV (V : VS) (a c N : Nat) (w : RW) (kd ar : Nat → Nat) : Prop := Rp a V w ∧ vI V c 2 = Int32.ofNat N ∧ ∀ j, j < N → vI V (c + 1) j = Int32.ofNat (kd j) ∧ vI V (c + 2) j = Int32.ofNat (ar j)
def SrV (V : VS) (r s k N : Nat) (w w0 : RW) (kd ar : Nat → Nat) : Prop := (∀ j, j < 290 → vI V r j = w j) ∧ (¬ w 156 ≤ 0 → ∀ j, j < 290 → vI V s j = w0 j) ∧ ∀ j, j < N → vI V k (2 * j) = Int32.ofNat (kd j) ∧ vI V k (2 * j + 1) = Int32.ofNat (ar j)
def hP (q j : Nat) : Nat := 24 + 17 * ((q + 8 - j) % 8)
def HcV (V : VS) (w0 : RW) (kd ar : Nat → Nat) (N hc q : Nat) : Prop := vI V 22 1 = Int32.ofNat q ∧ vI V 22 2 = Int32.ofNat hc ∧ ∀ j, j < hc → Rp (hP q j) V (Run w0 kd ar (N - 1 - j))
def HrV (V : VS) (w0 : RW) (kd ar : Nat → Nat) (N hc : Nat) : Prop := vI V 207 9 = Int32.ofNat hc ∧ ∀ j, j < hc → ∀ k, k < 290 → vI V 213 (290 * (hc - 1 - j) + k) = Run w0 kd ar (N - 1 - j) k
theorem hP_in : ∀ q, q < 8 → ∀ j, j < 8 → hP q j ∈ zB ∧ hP q j < 160 ∧ 24 ≤ hP q j := by decide +kernel
theorem hP_0 : ∀ q, q < 8 → hP q 0 = 24 + 17 * q := by decide +kernel
theorem hP_s : ∀ q, q < 8 → ∀ j, j < 7 → hP ((q + 1) % 8) (j + 1) = hP q j := by decide +kernel
theorem hP_b : ∀ q, q < 8 → ∀ j, j < 7 → hP ((q + 7) % 8) j = hP q (j + 1) := by decide +kernel
theorem hP_ne : ∀ q, q < 8 → ∀ j, j < 8 → 1 ≤ j → hP q j ≠ hP q 0 := by decide +kernel
theorem hB_r : ∀ q, q < 8 → vR W0 23 q = some (24 + 17 * q) := by decide +kernel
section
variable {n : Nat} {V U : VS} {w w0 : RW} {kd ar : Nat → Nat} {N hc q : Nat}
theorem ScV.fr {a c : Nat} (h : ScV V a c N w kd ar) (f : ∀ i, i < 17 → vC U (a + i) = vC V (a + i)) (g : ∀ i, i < 3 → vC U (c + i) = vC V (c + i)) : ScV U a c N w kd ar := by
  refine ⟨h.1.fr f, ?_, fun j hj => ?_⟩
  · rw [show vI U c = vI V c from vI_C (g 0 (by omega))]; exact h.2.1
  · rw [vI_C (g 1 (by omega)), vI_C (g 2 (by omega))]; exact h.2.2 j hj
theorem SrV.fr {r s k : Nat} (h : SrV V r s k N w w0 kd ar) (f1 : vC U r = vC V r) (f2 : vC U s = vC V s) (f3 : vC U k = vC V k) : SrV U r s k N w w0 kd ar := by
  refine ⟨fun j hj => ?_, fun g j hj => ?_, fun j hj => ?_⟩
  · rw [vI_C f1]; exact h.1 j hj
  · rw [vI_C f2]; exact h.2.1 g j hj
  · rw [vI_C f3]; exact h.2.2 j hj
theorem HcV.fr (h : HcV V w0 kd ar N hc q) (q8 : q < 8) (h8 : hc ≤ 8) (f : ∀ i, 22 ≤ i → i < 160 → vC U i = vC V i) : HcV U w0 kd ar N hc q := by
  refine ⟨?_, ?_, fun j hj => ?_⟩
  · rw [vI_C (f 22 (by omega) (by omega))]; exact h.1
  · rw [vI_C (f 22 (by omega) (by omega))]; exact h.2.1
  · have b := hP_in q q8 j (by omega)
    have c := zB_le _ b.1
    have d : hP q j = 24 + 17 * ((q + 8 - j) % 8) := rfl
    exact (h.2.2 j hj).fr (fun i hi => f _ (by omega) (by omega))
theorem HrV.fr (h : HrV V w0 kd ar N hc) (f1 : vI U 207 9 = vI V 207 9) (f2 : vC U 213 = vC V 213) : HrV U w0 kd ar N hc := by
  refine ⟨by rw [f1]; exact h.1, fun j hj k hk => ?_⟩
  rw [vI_C f2]; exact h.2 j hj k hk
theorem r05 (h : zLay V) : vR V 0 5 = some 22 := zR h (by decide +kernel)
theorem r04 (h : zLay V) : vR V 0 4 = some 19 := zR h (by decide +kernel)
theorem r03 (h : zLay V) : vR V 0 3 = some 2 := zR h (by decide +kernel)
theorem r22 (h : zLay V) : vR V 22 0 = some 23 := zR h (by decide +kernel)
theorem n23 (h : zLay V) : vN V 23 = 8 := zN h (by decide +kernel)
theorem m8 {q : Nat} (h : q < 100) : Int32.ofNat q - Int32.ofNat q / 8 * 8 = Int32.ofNat (q % 8) := of_mod (b := 8) (by omega) (by omega)
theorem b2 : 2 ∈ zB := by decide
/-- the fight is kept before a command -/
theorem c_save (hn : 8 < n) (hL : zLay V) (hM : NumV V) (hW : WF w) (h : Rp 2 V w) (hH : HcV V w0 kd ar N hc q) (q8 : q < 8) (h8 : hc ≤ 8) (hN : hc ≤ N) (ew : w = Run w0 kd ar N) : ∃ U, ev_X4_save n V 22 2 = rt () U ∧ HcV U w0 kd ar (N + 1) (min (hc + 1) 8) ((q + 1) % 8) ∧ zLay U ∧ NumV U ∧ ∀ i, ¬ (22 ≤ i ∧ i < 160) → vC U i = vC V i := by
  have q9 : (q + 1) % 8 < 8 := Nat.mod_lt _ (by omega)
  unfold ev_X4_save eX4_save_0
  rw [hH.1, p1_of, m8 (by omega), sq_eq]
  have l1 : zLay (wI V 22 1 (Int32.ofNat ((q + 1) % 8))) := zLay_wI hL
  have x1 : vI (wI V 22 1 (Int32.ofNat ((q + 1) % 8))) 22 1 = Int32.ofNat ((q + 1) % 8) := by rw [vI_wI (zLen hL (by omega)), zup_eq]
  have x2 : vI (wI V 22 1 (Int32.ofNat ((q + 1) % 8))) 22 2 = Int32.ofNat hc := by rw [vI_wI (zLen hL (by omega)), zup_ne (by omega)]; exact hH.2.1
  have f1 : ∀ i, i ≠ 22 → vC (wI V 22 1 (Int32.ofNat ((q + 1) % 8))) i = vC V i := fun i hi => vC_wI hi
  generalize wI V 22 1 (Int32.ofNat ((q + 1) % 8)) = V1 at l1 x1 x2 f1 ⊢
  have hb := hP_in _ q9 0 (by omega)
  have e0 := hP_0 _ q9
  have hne : hP ((q + 1) % 8) 0 ≠ 2 := by omega
  have rq : vR V1 23 ((q + 1) % 8) = some (hP ((q + 1) % 8) 0) := by rw [e0]; exact zR l1 (hB_r _ q9)
  rw [r22 l1, ob_1, x1, n23 l1, if_pos (in_of q9 (by omega)), tn_of (by omega), rq, ob_1]
  have zb := zB_le _ hb.1
  obtain ⟨T, eT, rT, fT⟩ := c_copyFrom (n := n) hn l1 hb.1 b2 hne hW (h.fr (fun i hi => f1 _ (by omega))) (fun u hu => by rw [vI_C (f1 _ (by omega))]; exact hM _ hb.1 u hu)
  rw [eT, bd_rt]
  have x3 : vI T 22 2 = Int32.ofNat hc := by rw [vI_C (fT.2 22 (by omega))]; exact x2
  have x4 : vI T 22 1 = Int32.ofNat ((q + 1) % 8) := by rw [vI_C (fT.2 22 (by omega))]; exact x1
  have mn : (if 8 < vI T 22 2 + 1 then 8 else vI T 22 2 + 1) = Int32.ofNat (min (hc + 1) 8) := by
    rw [x3, p1_of]
    by_cases g : 8 < hc + 1
    · rw [if_pos (by exact (of_lt (a := 8) (by omega) (by omega)).mpr g), Nat.min_eq_right (by omega)]; rfl
    · rw [if_neg (fun e => by exact g ((of_lt (a := 8) (by omega) (by omega)).mp e)), Nat.min_eq_left (by omega)]
  rw [mn, sq_eq]
  have lT := fT.1
  have l4 : zLay (wI T 22 2 (Int32.ofNat (min (hc + 1) 8))) := zLay_wI lT
  have f4 : ∀ i, i ≠ 22 → vC (wI T 22 2 (Int32.ofNat (min (hc + 1) 8))) i = vC T i := fun i hi => vC_wI hi
  have y1 : vI (wI T 22 2 (Int32.ofNat (min (hc + 1) 8))) 22 1 = Int32.ofNat ((q + 1) % 8) := by rw [vI_wI (zLen lT (by omega)), zup_ne (by omega)]; exact x4
  have y2 : vI (wI T 22 2 (Int32.ofNat (min (hc + 1) 8))) 22 2 = Int32.ofNat (min (hc + 1) 8) := by rw [vI_wI (zLen lT (by omega)), zup_eq]
  generalize wI T 22 2 (Int32.ofNat (min (hc + 1) 8)) = U at l4 f4 y1 y2 ⊢
  refine ⟨U, rfl, ⟨y1, y2, fun j hj => ?_⟩, l4, fun a ha u hu => ?_, fun i hi => ?_⟩
  · cases j with
    | zero =>
      rw [show N + 1 - 1 - 0 = N from rfl, ← ew]
      exact rT.fr (fun i hi => f4 _ (by omega))
    | succ j =>
      have j7 : j < 7 := by omega
      have hj' : j < hc := by omega
      have hb' := hP_in q q8 j (by omega)
      have zb' := zB_le _ hb'.1
      have hd : hP q j ≠ hP ((q + 1) % 8) 0 := by
        rw [← hP_s q q8 j j7]; exact hP_ne _ q9 (j + 1) (by omega) (by omega)
      have dj := zB_dj _ hb'.1 _ hb.1 hd
      rw [hP_s q q8 j j7, show N + 1 - 1 - (j + 1) = N - 1 - j from by omega]
      exact (hH.2.2 j hj').fr (fun i hi => by rw [f4 _ (by omega), fT.2 _ (by omega), f1 _ (by omega)])
  · have za := zB_le _ ha
    rw [vI_C (f4 _ (by unfold zB at ha; simp at ha; omega))]
    by_cases e : a = hP ((q + 1) % 8) 0
    · subst e; exact rT.2 u hu
    · have dj := zB_dj _ ha _ hb.1 e
      rw [vI_C (fT.2 _ (by omega)), vI_C (f1 _ (by unfold zB at ha; simp at ha; omega))]
      exact hM _ ha u hu
  · rw [f4 _ (by omega), fT.2 _ (by omega), f1 _ (by omega)]
theorem zB_22 : ∀ a ∈ zB, ∀ u, u < 8 → a + 9 + u ≠ 22 ∧ (a = 2 ∨ 24 ≤ a) := by decide +kernel
theorem NumV.fr (hM : NumV V) (f : ∀ a ∈ zB, ∀ u, u < 8 → vI U (a + 9 + u) 0 = vI V (a + 9 + u) 0) : NumV U := fun a ha u hu => (f a ha u hu).trans (hM a ha u hu)
theorem NumV.fr2 (hM : NumV V) {a : Nat} (ha : a ∈ zB) (hR : Rp a U w) (f : ∀ b ∈ zB, a ≠ b → ∀ u, u < 8 → vC U (b + 9 + u) = vC V (b + 9 + u)) : NumV U := fun b hb u hu => by
  by_cases e : a = b
  · subst e; exact hR.2 u hu
  · rw [vI_C (f b hb e u hu)]; exact hM b hb u hu
/-- the fight as it was before the latest command -/
theorem c_takeBack (hn : 8 < n) (hL : zLay V) (hM : NumV V) (hH : HcV V w0 kd ar N hc q) (q8 : q < 8) (h8 : hc ≤ 8) (h0 : 0 < hc) (hW : WF (Run w0 kd ar (N - 1))) : ∃ U, ev_X4_takeBack n V 22 2 = rt () U ∧ Rp 2 U (Run w0 kd ar (N - 1)) ∧ HcV U w0 kd ar (N - 1) (hc - 1) ((q + 7) % 8) ∧ zLay U ∧ NumV U ∧ ∀ i, ¬ (2 ≤ i ∧ i < 19) → i ≠ 22 → vC U i = vC V i := by
  have q9 : (q + 7) % 8 < 8 := Nat.mod_lt _ (by omega)
  have hb := hP_in _ q8 0 (by omega)
  have e0 := hP_0 _ q8
  have zb := zB_le _ hb.1
  have rq : vR V 23 q = some (hP q 0) := by rw [e0]; exact zR hL (hB_r _ q8)
  unfold ev_X4_takeBack eX4_takeBack_0
  rw [hH.1, r22 hL, ob_1, n23 hL, if_pos (in_of q8 (by omega)), tn_of (by omega), rq, ob_1]
  obtain ⟨T, eT, rT, fT⟩ := c_copyFrom (n := n) hn hL b2 hb.1 (show 2 ≠ hP q 0 by omega) hW (hH.2.2 0 h0) (fun u hu => hM _ b2 u hu)
  rw [eT, bd_rt]
  have lT := fT.1
  have x1 : vI T 22 1 = Int32.ofNat q := by rw [vI_C (fT.2 22 (by omega))]; exact hH.1
  have x2 : vI T 22 2 = Int32.ofNat hc := by rw [vI_C (fT.2 22 (by omega))]; exact hH.2.1
  have ev : vI T 22 1 + 8 - 1 = Int32.ofNat (q + 7) := by
    rw [x1, show Int32.ofNat q + 8 = Int32.ofNat (q + 8) from of_add (b := 8), show Int32.ofNat (q + 8) - 1 = Int32.ofNat (q + 8 - 1) from of_sub (b := 1) (by omega)]; rfl
  rw [ev, m8 (by omega), sq_eq]
  have l1 : zLay (wI T 22 1 (Int32.ofNat ((q + 7) % 8))) := zLay_wI lT
  have f1 : ∀ i, i ≠ 22 → vC (wI T 22 1 (Int32.ofNat ((q + 7) % 8))) i = vC T i := fun i hi => vC_wI hi
  have y1 : vI (wI T 22 1 (Int32.ofNat ((q + 7) % 8))) 22 1 = Int32.ofNat ((q + 7) % 8) := by rw [vI_wI (zLen lT (by omega)), zup_eq]
  have y2 : vI (wI T 22 1 (Int32.ofNat ((q + 7) % 8))) 22 2 = Int32.ofNat hc := by rw [vI_wI (zLen lT (by omega)), zup_ne (by omega)]; exact x2
  generalize wI T 22 1 (Int32.ofNat ((q + 7) % 8)) = V1 at l1 f1 y1 y2 ⊢
  rw [y2, show Int32.ofNat hc - 1 = Int32.ofNat (hc - 1) from of_sub (b := 1) (by omega), sq_eq]
  have l4 : zLay (wI V1 22 2 (Int32.ofNat (hc - 1))) := zLay_wI l1
  have f4 : ∀ i, i ≠ 22 → vC (wI V1 22 2 (Int32.ofNat (hc - 1))) i = vC V1 i := fun i hi => vC_wI hi
  have z1 : vI (wI V1 22 2 (Int32.ofNat (hc - 1))) 22 1 = Int32.ofNat ((q + 7) % 8) := by rw [vI_wI (zLen l1 (by omega)), zup_ne (by omega)]; exact y1
  have z2 : vI (wI V1 22 2 (Int32.ofNat (hc - 1))) 22 2 = Int32.ofNat (hc - 1) := by rw [vI_wI (zLen l1 (by omega)), zup_eq]
  generalize wI V1 22 2 (Int32.ofNat (hc - 1)) = U at l4 f4 z1 z2 ⊢
  have fU : ∀ i, ¬ (2 ≤ i ∧ i < 19) → i ≠ 22 → vC U i = vC V i := fun i hi h2 => by rw [f4 _ h2, f1 _ h2, fT.2 _ (by omega)]
  have rU : Rp 2 U (Run w0 kd ar (N - 1)) := rT.fr (fun i hi => by rw [f4 _ (by omega), f1 _ (by omega)])
  refine ⟨U, rfl, rU, ⟨z1, z2, fun j hj => ?_⟩, l4, hM.fr2 b2 rU (fun b hb' e u hu => ?_), fU⟩
  · have j7 : j < 7 := by omega
    have hb' := hP_in q q8 (j + 1) (by omega)
    have zb' := zB_le _ hb'.1
    rw [hP_b q q8 j j7, show N - 1 - 1 - j = N - 1 - (j + 1) from by omega]
    exact (hH.2.2 (j + 1) (by omega)).fr (fun i hi => fU _ (by omega) (by omega))
  · have := zB_22 b hb' u hu
    exact fU _ (by omega) (by omega)
/-! the commands' rows -/
theorem c_add {kind x : Nat} (hL : zLay V) (e2 : vI V 19 2 = Int32.ofNat N) (hN : N < 512) (hr : ∀ j, j < N → vI V 20 j = Int32.ofNat (kd j) ∧ vI V 21 j = Int32.ofNat (ar j)) : ∃ U, ev_X0_add n V 19 (Int32.ofNat kind) (Int32.ofNat x) = rt () U ∧ vI U 19 2 = Int32.ofNat (N + 1) ∧ (∀ j, j < N + 1 → vI U 20 j = Int32.ofNat (nup kd N kind j) ∧ vI U 21 j = Int32.ofNat (nup ar N x j)) ∧ zLay U ∧ ∀ i, ¬ (19 ≤ i ∧ i < 22) → vC U i = vC V i := by
  have l1 : zLay (wI V 20 N (Int32.ofNat kind)) := zLay_wI hL
  have l2 : zLay (wI (wI V 20 N (Int32.ofNat kind)) 21 N (Int32.ofNat x)) := zLay_wI l1
  unfold ev_X0_add eX0_add_0
  rw [e2, if_neg (fun e => by have := (of_le (a := 512) (by omega) (by omega)).mp e; omega), show vR V 19 0 = some 20 from zR hL (by decide +kernel), ob_1, show vN V 20 = 512 from zN hL (by decide +kernel), if_pos (in_of hN (by omega)), sq_eq, tn_of (by omega), show vR (wI V 20 N (Int32.ofNat kind)) 19 1 = some 21 from zR l1 (by decide +kernel), ob_1, vI_wI_ne (show 19 ≠ 20 by omega), e2, show vN (wI V 20 N (Int32.ofNat kind)) 21 = 512 from zN l1 (by decide +kernel), if_pos (in_of hN (by omega)), sq_eq, tn_of (by omega), vI_wI_ne (show 19 ≠ 21 by omega), vI_wI_ne (show 19 ≠ 20 by omega), e2, p1_of, sq_eq]
  refine ⟨_, rfl, ?_, fun j hj => ⟨?_, ?_⟩, zLay_wI l2, fun i hi => ?_⟩
  · rw [vI_wI (zLen l2 (by omega)), zup_eq]
  · rw [vI_wI_ne (by omega), vI_wI_ne (by omega), vI_wI (zLen hL (by omega))]
    unfold zup nup
    by_cases g : j = N
    · rw [if_pos g, if_pos g]
    · rw [if_neg g, if_neg g]; exact (hr j (by omega)).1
  · rw [vI_wI_ne (by omega), vI_wI (zLen l1 (by omega)), vI_wI_ne (by omega)]
    unfold zup nup
    by_cases g : j = N
    · rw [if_pos g, if_pos g]
    · rw [if_neg g, if_neg g]; exact (hr j (by omega)).2
  · rw [vC_wI (by omega), vC_wI (by omega), vC_wI (by omega)]
theorem c_dropLast (hL : zLay V) (e2 : vI V 19 2 = Int32.ofNat N) (hN : N ≤ 512) (h0 : 0 < N) : ev_X0_dropLast n V 19 = rt () (wI V 19 2 (Int32.ofNat (N - 1))) := by
  unfold ev_X0_dropLast eX0_dropLast_0
  rw [e2, if_neg (fun e => by have := (of_le (b := 0) (by omega) (by omega)).mp e; omega), show Int32.ofNat N - 1 = Int32.ofNat (N - 1) from of_sub (b := 1) (by omega), sq_eq]
theorem cmd_r : ∀ a ∈ [19, 177], vR W0 a 0 = some (a + 1) ∧ vR W0 a 1 = some (a + 2) ∧ vN W0 (a + 1) = 512 ∧ vN W0 (a + 2) = 512 ∧ a < 200 := by decide +kernel
theorem c_cmdcopy {a b : Nat} (hL : zLay V) (ha : a ∈ [19, 177]) (hb : b ∈ [19, 177]) (hab : a ≠ b) (e2 : vI V b 2 = Int32.ofNat N) (hN : N ≤ 512) : ∃ U, ev_X0_copyFrom n V a b = rt () U ∧ vI U a 2 = Int32.ofNat N ∧ (∀ j, j < N → vI U (a + 1) j = vI V (b + 1) j ∧ vI U (a + 2) j = vI V (b + 2) j) ∧ zLay U ∧ ∀ i, ¬ (a ≤ i ∧ i < a + 3) → vC U i = vC V i := by
  have dj : a + 3 ≤ b ∨ b + 3 ≤ a := by
    have : (a = 19 ∨ a = 177) ∧ (b = 19 ∨ b = 177) := ⟨by simpa using ha, by simpa using hb⟩
    omega
  obtain ⟨ra0, ra1, na1, na2, la⟩ := cmd_r a ha
  obtain ⟨rb0, rb1, nb1, nb2, _⟩ := cmd_r b hb
  unfold ev_X0_copyFrom eX0_copyFrom_0
  rw [e2, sq_eq]
  have l1 : zLay (wI V a 2 (Int32.ofNat N)) := zLay_wI hL
  have f1 : ∀ i, i ≠ a → vC (wI V a 2 (Int32.ofNat N)) i = vC V i := fun i hi => vC_wI hi
  have x1 : vI (wI V a 2 (Int32.ofNat N)) a 2 = Int32.ofNat N := by rw [vI_wI (zLen hL (by omega)), zup_eq]
  generalize wI V a 2 (Int32.ofNat N) = V1 at l1 f1 x1 ⊢
  rw [zR l1 rb0, ob_1, zR l1 ra0, ob_1, x1, if_pos (ofn_nn (by omega)), t0n, tn_of (by omega), zN l1 nb1, zN l1 na1, if_pos (by omega), if_pos (by omega), sq_eq]
  have l2 : zLay (wC V1 (a + 1) (b + 1) 0 0 N) := zLay_wC l1
  have f2 : ∀ i, i ≠ a + 1 → vC (wC V1 (a + 1) (b + 1) 0 0 N) i = vC V1 i := fun i hi => vC_wC hi
  have x2 : vI (wC V1 (a + 1) (b + 1) 0 0 N) a 2 = Int32.ofNat N := by rw [vI_C (f2 a (by omega))]; exact x1
  have y2 : ∀ j, j < N → vI (wC V1 (a + 1) (b + 1) 0 0 N) (a + 1) j = vI V (b + 1) j := fun j hj => by
    rw [vI_wC (zLen l1 (by omega)), if_pos (by omega), vI_C (f1 (b + 1) (by omega))]; congr 1; omega
  generalize wC V1 (a + 1) (b + 1) 0 0 N = V2 at l2 f2 x2 y2 ⊢
  rw [zR l2 rb1, ob_1, zR l2 ra1, ob_1, x2, if_pos (ofn_nn (by omega)), tn_of (by omega), zN l2 nb2, zN l2 na2, if_pos (by omega), if_pos (by omega), sq_eq]
  refine ⟨_, rfl, ?_, fun j hj => ⟨?_, ?_⟩, zLay_wC l2, fun i hi => ?_⟩
  · rw [vI_C (vC_wC (by omega))]; exact x2
  · rw [vI_C (vC_wC (by omega))]; exact y2 j hj
  · rw [vI_wC (zLen l2 (by omega)), if_pos (by omega), vI_C (f2 (b + 2) (by omega)), vI_C (f1 (b + 2) (by omega))]; congr 1; omega
  · rw [vC_wC (by omega), f2 _ (by omega), f1 _ (by omega)]
end
