/-! copies -/
theorem zB_dj : ∀ a ∈ zB, ∀ b ∈ zB, a ≠ b → a + 17 ≤ b ∨ b + 17 ≤ a := by decide +kernel
/-- some places of a block are another block's -/
def CA (a b : Nat) (D : Nat → Nat → Prop) (V U : VS) : Prop := FrC a V U ∧ (∀ o p, o < 17 → D o p → vI U (a + o) p = vI V (b + o) p) ∧ ∀ u, u < 8 → vI U (a + 9 + u) 0 = vI V (a + 9 + u) 0
section
variable {n a b : Nat} {D : Nat → Nat → Prop} {V U : VS}
theorem CA.rf (hL : zLay V) : CA a b (fun _ _ => False) V V := ⟨FrC.rf hL, fun _ _ _ d => d.elim, fun _ _ => rfl⟩
theorem CA.rb (h : CA a b D V U) (hab : a + 17 ≤ b ∨ b + 17 ≤ a) {o : Nat} (ho : o < 17) : vI U (b + o) = vI V (b + o) := vI_C (h.1.2 _ (by omega))
theorem CA.mono {D' : Nat → Nat → Prop} (h : CA a b D V U) (g : ∀ o p, D' o p → D o p) : CA a b D' V U := ⟨h.1, fun o p ho d => h.2.1 o p ho (g o p d), h.2.2⟩
theorem CA.w {o p : Nat} {x : Int32} (h : CA a b D V U) (ha : a ∈ zB) (ho : o < 17) (hn : o < 9 ∨ p ≠ 0) (hx : x = vI V (b + o) p) : CA a b (fun o' p' => D o' p' ∨ (o' = o ∧ p' = p)) V (wI U (a + o) p x) := by
  have l := zlt h.1.1 ha ho
  refine ⟨h.1.w ho, fun o' p' h' d => ?_, fun u hu => ?_⟩
  · rw [vI_wI_at l]
    by_cases g : a + o' = a + o ∧ p' = p
    · rw [if_pos g, hx, g.2, Nat.add_left_cancel g.1]
    · rw [if_neg g]
      exact h.2.1 o' p' h' (d.elim id (fun y => absurd (show a + o' = a + o ∧ p' = p from ⟨by rw [y.1], y.2⟩) g))
  · rw [vI_wI_at l, if_neg (by omega)]; exact h.2.2 u hu
theorem CA.c {o m : Nat} (h : CA a b D V U) (ha : a ∈ zB) (hab : a + 17 ≤ b ∨ b + 17 ≤ a) (ho : o < 9) : CA a b (fun o' p' => D o' p' ∨ (o' = o ∧ p' < m)) V (wC U (a + o) (b + o) 0 0 m) := by
  have l := zlt h.1.1 ha (show o < 17 by omega)
  refine ⟨⟨zLay_wC h.1.1, fun i hi => (vC_wC (by omega)).trans (h.1.2 i hi)⟩, fun o' p' h' d => ?_, fun u hu => ?_⟩
  · by_cases g : o' = o
    · subst g
      rw [vI_wC l]
      by_cases q : p' < m
      · rw [if_pos (by omega), h.rb hab h']; congr 1; omega
      · rw [if_neg (by omega)]
        exact h.2.1 o' p' h' (d.elim id (fun y => absurd y.2 q))
    · rw [vI_C (vC_wC (by omega))]
      exact h.2.1 o' p' h' (d.elim id (fun y => absurd y.1 g))
  · rw [vI_C (vC_wC (by omega))]; exact h.2.2 u hu
theorem CA.st {α : Type} {o p : Nat} {x : Int32} {F : VS → Rs α} {r : VS → Rs α} {Q : VS → Prop} (h : CA a b D V U) (ha : a ∈ zB) (ho : o < 17) (hn : o < 9 ∨ p ≠ 0) (hx : x = vI V (b + o) p) (k : ∀ T, CA a b (fun o' p' => D o' p' ∨ (o' = o ∧ p' = p)) V T → ∃ R, F T = r R ∧ Q R) : ∃ R, sq (wI U (a + o) p x) F = r R ∧ Q R := k _ (h.w ha ho hn hx)
theorem CA.sc {α : Type} {o m : Nat} {F : VS → Rs α} {r : VS → Rs α} {Q : VS → Prop} (h : CA a b D V U) (ha : a ∈ zB) (hab : a + 17 ≤ b ∨ b + 17 ≤ a) (ho : o < 9) (k : ∀ T, CA a b (fun o' p' => D o' p' ∨ (o' = o ∧ p' < m)) V T → ∃ R, F T = r R ∧ Q R) : ∃ R, sq (wC U (a + o) (b + o) 0 0 m) F = r R ∧ Q R := k _ (h.c ha hab ho)
theorem t0n : (0 : Int32).toNatClampNeg = 0 := by decide +kernel
theorem t64n : (64 : Int32).toNatClampNeg = 64 := by decide +kernel
theorem t8n : (8 : Int32).toNatClampNeg = 8 := by decide +kernel
theorem c_gcopy (hL : zLay V) (ha : a ∈ zB) (hb : b ∈ zB) (hab : a + 17 ≤ b ∨ b + 17 ≤ a) : ∃ T, ev_X3_copyFrom n V (a + 1) (b + 1) = rt () T ∧ CA a b (fun o p => (o = 1 ∧ (p = 1 ∨ p = 2)) ∨ (o = 2 ∧ p < 64)) V T := by
  unfold ev_X3_copyFrom eX3_copyFrom_0
  refine (CA.rf (b := b) hL).st (o := 1) (p := 1) ha (by decide) (by decide) rfl (fun U1 s1 => ?_)
  refine s1.st (o := 1) (p := 2) ha (by decide) (by decide) (congrFun (s1.rb hab (o := 1) (by decide)) 2) (fun U2 s2 => ?_)
  rw [zrc s2.1.1 hb, ob_1, zrc s2.1.1 ha, ob_1, t0n, t64n, znc s2.1.1 hb, znc s2.1.1 ha, if_pos (by decide), if_pos (by decide)]
  refine s2.sc (o := 2) (m := 64) ha hab (by decide) (fun U3 s3 => ?_)
  exact ⟨U3, rfl, s3.mono (fun o p d => by omega)⟩
theorem c_ucopy {u : Nat} (hs : CA a b D V U) (ha : a ∈ zB) (hab : a + 17 ≤ b ∨ b + 17 ≤ a) (hu : u < 8) (g1 : gisZ (vI V (b + (9 + u)) 11) = true) (g2 : gisZ (vI V (b + (9 + u)) 12) = true) : ∃ T, ev_X7_copyFrom n U (a + (9 + u)) (b + (9 + u)) = rt () T ∧ CA a b (fun o p => D o p ∨ (o = 9 + u ∧ 1 ≤ p ∧ p ≤ 12)) V T := by
  unfold ev_X7_copyFrom eX7_copyFrom_0
  have ho : 9 + u < 17 := by omega
  refine hs.st (o := 9 + u) (p := 1) ha ho (by omega) (congrFun (hs.rb hab ho) 1) (fun U1 s1 => ?_)
  refine s1.st (o := 9 + u) (p := 2) ha ho (by omega) (congrFun (s1.rb hab ho) 2) (fun U2 s2 => ?_)
  refine s2.st (o := 9 + u) (p := 3) ha ho (by omega) (congrFun (s2.rb hab ho) 3) (fun U3 s3 => ?_)
  refine s3.st (o := 9 + u) (p := 4) ha ho (by omega) (congrFun (s3.rb hab ho) 4) (fun U4 s4 => ?_)
  refine s4.st (o := 9 + u) (p := 5) ha ho (by omega) (congrFun (s4.rb hab ho) 5) (fun U5 s5 => ?_)
  refine s5.st (o := 9 + u) (p := 6) ha ho (by omega) (congrFun (s5.rb hab ho) 6) (fun U6 s6 => ?_)
  refine s6.st (o := 9 + u) (p := 7) ha ho (by omega) (congrFun (s6.rb hab ho) 7) (fun U7 s7 => ?_)
  refine s7.st (o := 9 + u) (p := 8) ha ho (by omega) (congrFun (s7.rb hab ho) 8) (fun U8 s8 => ?_)
  refine s8.st (o := 9 + u) (p := 9) ha ho (by omega) (congrFun (s8.rb hab ho) 9) (fun U9 s9 => ?_)
  refine s9.st (o := 9 + u) (p := 10) ha ho (by omega) (congrFun (s9.rb hab ho) 10) (fun Ua sa => ?_)
  rw [if_pos (by rw [sa.rb hab ho]; exact g1)]
  refine sa.st (o := 9 + u) (p := 11) ha ho (by omega) (congrFun (sa.rb hab ho) 11) (fun Ub sb => ?_)
  rw [if_pos (by rw [sb.rb hab ho]; exact g2)]
  refine sb.st (o := 9 + u) (p := 12) ha ho (by omega) (congrFun (sb.rb hab ho) 12) (fun Uc sc => ?_)
  refine ⟨Uc, rfl, sc.mono (fun o p d => ?_)⟩
  rcases d with d | d
  · exact .inl (.inl (.inl (.inl (.inl (.inl (.inl (.inl (.inl (.inl (.inl (.inl d)))))))))))
  · have : p = 1 ∨ p = 2 ∨ p = 3 ∨ p = 4 ∨ p = 5 ∨ p = 6 ∨ p = 7 ∨ p = 8 ∨ p = 9 ∨ p = 10 ∨ p = 11 ∨ p = 12 := by omega
    obtain ⟨rfl, _⟩ := d
    simp only [true_and]
    omega
theorem c_ecopy {E : Nat} (hs : CA a b D V U) (ha : a ∈ zB) (hb : b ∈ zB) (hab : a + 17 ≤ b ∨ b + 17 ≤ a) (hE : E ≤ 40) (eE : vI V (b + 5) 3 = Int32.ofNat E) : ∃ T, ev_X1_copyFrom n U (a + 5) (b + 5) = rt () T ∧ CA a b (fun o p => D o p ∨ (o = 5 ∧ p = 3) ∨ (6 ≤ o ∧ o < 9 ∧ p < E)) V T := by
  unfold ev_X1_copyFrom eX1_copyFrom_0
  refine hs.st (o := 5) (p := 3) ha (by decide) (by decide) (congrFun (hs.rb hab (o := 5) (by decide)) 3) (fun U1 s1 => ?_)
  have q1 : vI U1 (a + 5) 3 = Int32.ofNat E := (s1.2.1 5 3 (by decide) (.inr ⟨rfl, rfl⟩)).trans eE
  rw [zre0 s1.1.1 hb, ob_1, zre0 s1.1.1 ha, ob_1, q1, if_pos (ofn_nn (by omega)), t0n, tn_of (by omega), zne0 s1.1.1 hb, zne0 s1.1.1 ha, if_pos (by omega), if_pos (by omega)]
  refine s1.sc (o := 6) (m := E) ha hab (by decide) (fun U2 s2 => ?_)
  have q2 : vI U2 (a + 5) 3 = Int32.ofNat E := (s2.2.1 5 3 (by decide) (.inl (.inr ⟨rfl, rfl⟩))).trans eE
  rw [zre1 s2.1.1 hb, ob_1, zre1 s2.1.1 ha, ob_1, q2, if_pos (ofn_nn (by omega)), tn_of (by omega), zne1 s2.1.1 hb, zne1 s2.1.1 ha, if_pos (by omega), if_pos (by omega)]
  refine s2.sc (o := 7) (m := E) ha hab (by decide) (fun U3 s3 => ?_)
  have q3 : vI U3 (a + 5) 3 = Int32.ofNat E := (s3.2.1 5 3 (by decide) (.inl (.inl (.inr ⟨rfl, rfl⟩)))).trans eE
  rw [zre2 s3.1.1 hb, ob_1, zre2 s3.1.1 ha, ob_1, q3, if_pos (ofn_nn (by omega)), tn_of (by omega), zne2 s3.1.1 hb, zne2 s3.1.1 ha, if_pos (by omega), if_pos (by omega)]
  refine s3.sc (o := 8) (m := E) ha hab (by decide) (fun U4 s4 => ?_)
  refine ⟨U4, rfl, s4.mono (fun o p d => ?_)⟩
  rcases d with d | d | d
  · exact .inl (.inl (.inl (.inl d)))
  · exact .inl (.inl (.inl (.inr d)))
  · have : o = 6 ∨ o = 7 ∨ o = 8 := by omega
    rcases this with e | e | e
    · exact .inl (.inl (.inr ⟨e, d.2.2⟩))
    · exact .inl (.inr ⟨e, d.2.2⟩)
    · exact .inr ⟨e, d.2.2⟩
/-- what of a fight is copied -/
def DF (N E o p : Nat) : Prop := (o = 1 ∧ (p = 1 ∨ p = 2)) ∨ (o = 2 ∧ p < 64) ∨ (o = 0 ∧ p = 2) ∨ (9 ≤ o ∧ o < 9 + N ∧ 1 ≤ p ∧ p ≤ 12) ∨ (o = 4 ∧ p < 8) ∨ (o = 0 ∧ 4 ≤ p ∧ p ≤ 10) ∨ (o = 5 ∧ p = 3) ∨ (6 ≤ o ∧ o < 9 ∧ p < E)
theorem DF_of {w : RW} (hW : WF w) {k : Nat} (l : Lv w k) : DF (nU w) (nE w) (zloc k).1 (zloc k).2 := by
  have u8 := hW.u8; have e40 := hW.e40
  unfold Lv at l
  rcases l with l | l | l | l | l | l | l | l
  · by_cases k2 : k < 2
    · have : k = 0 ∨ k = 1 := by omega
      rcases this with rfl | rfl
      · exact .inl ⟨rfl, .inl rfl⟩
      · exact .inl ⟨rfl, .inr rfl⟩
    · obtain ⟨c, rfl⟩ : ∃ c, k = 2 + c := ⟨k - 2, by omega⟩
      rw [loc_g c (by omega)]
      exact .inr (.inl ⟨rfl, by show c < 64; omega⟩)
  · subst l; exact .inr (.inr (.inl ⟨rfl, rfl⟩))
  · obtain ⟨u, j, hj, e⟩ : ∃ u j, j < 11 ∧ k = 67 + 11 * u + j := ⟨(k - 67) / 11, (k - 67) % 11, Nat.mod_lt _ (by omega), by omega⟩
    rw [e, loc_u u (by omega) j hj]
    refine .inr (.inr (.inr (.inl ⟨?_, ?_, ?_, ?_⟩)))
    · show 9 ≤ 9 + u; omega
    · show 9 + u < 9 + nU w; omega
    · show 1 ≤ zfm j; unfold zfm; split <;> omega
    · show zfm j ≤ 12; unfold zfm; split <;> omega
  · by_cases k8 : k < 158
    · have : k = 155 ∨ k = 156 ∨ k = 157 := by omega
      rcases this with rfl | rfl | rfl <;> exact .inr (.inr (.inr (.inr (.inr (.inl (by decide))))))
    · obtain ⟨i, rfl⟩ : ∃ i, k = 158 + i := ⟨k - 158, by omega⟩
      rw [loc_r i (by omega)]
      exact .inr (.inr (.inr (.inr (.inl ⟨rfl, by show i < 8; omega⟩))))
  · by_cases k9 : k < 169
    · have : k = 166 ∨ k = 167 ∨ k = 168 := by omega
      rcases this with rfl | rfl | rfl
      · exact .inr (.inr (.inr (.inr (.inr (.inl (by decide))))))
      · exact .inr (.inr (.inr (.inr (.inr (.inl (by decide))))))
      · exact .inr (.inr (.inr (.inr (.inr (.inr (.inl ⟨rfl, rfl⟩))))))
    · obtain ⟨i, j, hj, e⟩ : ∃ i j, j < 3 ∧ k = 169 + 3 * i + j := ⟨(k - 169) / 3, (k - 169) % 3, Nat.mod_lt _ (by omega), by omega⟩
      rw [e, loc_e i (by omega) j hj]
      refine .inr (.inr (.inr (.inr (.inr (.inr (.inr ⟨?_, ?_, ?_⟩))))))
      · show 6 ≤ 6 + j; omega
      · show 6 + j < 9; omega
      · show i < nE w; omega
  · subst l; exact .inr (.inr (.inr (.inr (.inr (.inl (by decide))))))
  · subst l; exact .inr (.inr (.inr (.inr (.inr (.inl (by decide))))))
  · obtain ⟨u, rfl⟩ : ∃ u, k = 292 + u := ⟨k - 292, by omega⟩
    rw [loc_f u (by omega)]
    refine .inr (.inr (.inr (.inl ⟨?_, ?_, ?_, ?_⟩)))
    · show 9 ≤ 9 + u; omega
    · show 9 + u < 9 + nU w; omega
    · show 1 ≤ 3; omega
    · show 3 ≤ 12; omega
theorem CA.toRp {w : RW} (hs : CA a b (DF (nU w) (nE w)) V U) (hW : WF w) (h : Rp b V w) (hn : ∀ u, u < 8 → vI V (a + 9 + u) 0 = Int32.ofNat u) : Rp a U w := by
  refine ⟨fun k l => ?_, fun u hu => (hs.2.2 u hu).trans (hn u hu)⟩
  rw [← h.1 k l]
  exact hs.2.1 _ _ (loc_o k (by unfold Lv at l; have := hW.u8; omega) (by unfold Lv at l; omega)) (DF_of hW l)
theorem gz {x : Int32} (h : Nb x 1) : gisZ x = true := by
  have l := h.le
  rw [h.eq]
  have : x.toNatClampNeg = 0 ∨ x.toNatClampNeg = 1 := by omega
  rcases this with e | e <;> rw [e] <;> decide +kernel
theorem c_cpL {w : RW} (ha : a ∈ zB) (hb : b ∈ zB) (hab : a + 17 ≤ b ∨ b + 17 ≤ a) (hW : WF w) (h : Rp b V w) : ∀ (d m u : Nat) (U : VS), u + d = nU w → d < m → CA a b (fun o p => (o = 1 ∧ (p = 1 ∨ p = 2)) ∨ (o = 2 ∧ p < 64) ∨ (o = 0 ∧ p = 2) ∨ (9 ≤ o ∧ o < 9 + u ∧ 1 ≤ p ∧ p ≤ 12)) V U → ∃ T, elX2_copyFrom_21 n m U a b (Int32.ofNat u) = rt () T ∧ CA a b (DF (nU w) (nE w)) V T
  | 0, m + 1, u, U, e, _, hs => by
    have u8 := hW.u8
    have : u = nU w := by omega
    subst this
    have q : vI U a 2 = Int32.ofNat (nU w) := by
      rw [← hW.ue, ← h.count]
      exact hs.2.1 0 2 (by decide) (.inr (.inr (.inl ⟨rfl, rfl⟩)))
    show ∃ T, eX2_copyFrom_21 n (elX2_copyFrom_21 n m) U a b (Int32.ofNat (nU w)) = _ ∧ _
    unfold eX2_copyFrom_21
    rw [q, if_pos (by exact (of_le (by omega) (by omega)).mpr (Nat.le_refl _)), zr3 hs.1.1 hb, ob_1, zr3 hs.1.1 ha, ob_1, t0n, t8n, zno hs.1.1 hb, zno hs.1.1 ha, if_pos (by decide), if_pos (by decide)]
    refine hs.sc (o := 4) (m := 8) ha hab (by decide) (fun U1 s1 => ?_)
    refine s1.st (o := 0) (p := 4) ha (by decide) (by decide) (congrFun (s1.rb hab (o := 0) (by decide)) 4) (fun U2 s2 => ?_)
    refine s2.st (o := 0) (p := 5) ha (by decide) (by decide) (congrFun (s2.rb hab (o := 0) (by decide)) 5) (fun U3 s3 => ?_)
    refine s3.st (o := 0) (p := 6) ha (by decide) (by decide) (congrFun (s3.rb hab (o := 0) (by decide)) 6) (fun U4 s4 => ?_)
    refine s4.st (o := 0) (p := 7) ha (by decide) (by decide) (congrFun (s4.rb hab (o := 0) (by decide)) 7) (fun U5 s5 => ?_)
    refine s5.st (o := 0) (p := 8) ha (by decide) (by decide) (congrFun (s5.rb hab (o := 0) (by decide)) 8) (fun U6 s6 => ?_)
    refine s6.st (o := 0) (p := 9) ha (by decide) (by decide) (congrFun (s6.rb hab (o := 0) (by decide)) 9) (fun U7 s7 => ?_)
    refine s7.st (o := 0) (p := 10) ha (by decide) (by decide) (congrFun (s7.rb hab (o := 0) (by decide)) 10) (fun U8 s8 => ?_)
    rw [zr11 s8.1.1 ha, ob_1, zr11 s8.1.1 hb, ob_1]
    obtain ⟨T, eT, sT⟩ := c_ecopy (n := n) (E := nE w) s8 ha hb hab hW.e40 (h.ecount.trans hW.ee)
    rw [eT, bd_rt]
    refine ⟨T, rfl, sT.mono (fun o p d => ?_)⟩
    unfold DF at d
    rcases d with d | d | d | d | d | d | d | d
    · exact (.inl (.inl (.inl (.inl (.inl (.inl (.inl (.inl (.inl (.inl d))))))))))
    · exact (.inl (.inl (.inl (.inl (.inl (.inl (.inl (.inl (.inl (.inr (.inl d)))))))))))
    · exact (.inl (.inl (.inl (.inl (.inl (.inl (.inl (.inl (.inl (.inr (.inr (.inl d))))))))))))
    · exact (.inl (.inl (.inl (.inl (.inl (.inl (.inl (.inl (.inl (.inr (.inr (.inr d))))))))))))
    · exact (.inl (.inl (.inl (.inl (.inl (.inl (.inl (.inl (.inr d)))))))))
    · have : p = 4 ∨ p = 5 ∨ p = 6 ∨ p = 7 ∨ p = 8 ∨ p = 9 ∨ p = 10 := by omega
      rcases this with g | g | g | g | g | g | g
      · exact (.inl (.inl (.inl (.inl (.inl (.inl (.inl (.inr ⟨d.1, g⟩))))))))
      · exact (.inl (.inl (.inl (.inl (.inl (.inl (.inr ⟨d.1, g⟩)))))))
      · exact (.inl (.inl (.inl (.inl (.inl (.inr ⟨d.1, g⟩))))))
      · exact (.inl (.inl (.inl (.inl (.inr ⟨d.1, g⟩)))))
      · exact (.inl (.inl (.inl (.inr ⟨d.1, g⟩))))
      · exact (.inl (.inl (.inr ⟨d.1, g⟩)))
      · exact (.inl (.inr ⟨d.1, g⟩))
    · exact .inr (.inl d)
    · exact .inr (.inr d)
  | d + 1, m + 1, u, U, e, hm, hs => by
    have u8 := hW.u8
    have hu : u < nU w := by omega
    have q : vI U a 2 = Int32.ofNat (nU w) := by
      rw [← hW.ue, ← h.count]
      exact hs.2.1 0 2 (by decide) (.inr (.inr (.inl ⟨rfl, rfl⟩)))
    show ∃ T, eX2_copyFrom_21 n (elX2_copyFrom_21 n m) U a b (Int32.ofNat u) = _ ∧ _
    unfold eX2_copyFrom_21
    rw [q, if_neg (fun e => by have := (of_le (by omega) (by omega)).mp e; omega), zr1 hs.1.1 ha, ob_1, znu hs.1.1 ha, if_pos (in_of (by omega) (by decide)), tn_of (by omega), zru hs.1.1 ha (by omega), ob_1]
    rw [zr1 hs.1.1 hb, ob_1, znu hs.1.1 hb, if_pos (in_of (by omega) (by decide)), zru hs.1.1 hb (by omega), ob_1, p1_of, Nat.add_assoc a, Nat.add_assoc b]
    have x1 : vI V (b + (9 + u)) 11 = w (67 + 11 * u + 9) := by rw [← Nat.add_assoc]; exact h.u hu (by omega) (j := 9) (by decide)
    have x2 : vI V (b + (9 + u)) 12 = w (67 + 11 * u + 10) := by rw [← Nat.add_assoc]; exact h.u hu (by omega) (j := 10) (by decide)
    obtain ⟨T, eT, sT⟩ := c_ucopy (n := n) (u := u) hs ha hab (by omega) (by rw [x1]; exact gz (hW.f hu (j := 9) (by decide))) (by rw [x2]; exact gz (hW.f hu (j := 10) (by decide)))
    rw [eT, bd_rt]
    obtain ⟨R, eR, sR⟩ := c_cpL ha hb hab hW h d m (u + 1) T (by omega) (by omega) (sT.mono (fun o p d => by omega))
    exact ⟨R, eR, sR⟩
theorem c_copyFrom {w : RW} (hn : 8 < n) (hL : zLay V) (ha : a ∈ zB) (hb : b ∈ zB) (hab : a ≠ b) (hW : WF w) (h : Rp b V w) (hN : ∀ u, u < 8 → vI V (a + 9 + u) 0 = Int32.ofNat u) : ∃ U, ev_X2_copyFrom n V a b = rt () U ∧ Rp a U w ∧ FrC a V U := by
  have u8 := hW.u8
  have dj := zB_dj a ha b hb hab
  unfold ev_X2_copyFrom eX2_copyFrom_0
  rw [zr0 hL ha, ob_1, zr0 hL hb, ob_1]
  obtain ⟨U1, e1, s1⟩ := c_gcopy (n := n) hL ha hb dj
  rw [e1, bd_rt]
  have key : ∃ R, sq (wI U1 (a + 0) 2 (vI U1 b 2)) (fun V4 => elX2_copyFrom_21 n n V4 a b 0) = rt () R ∧ CA a b (DF (nU w) (nE w)) V R := by
    refine s1.st (o := 0) (p := 2) ha (by decide) (by decide) (congrFun (s1.rb dj (o := 0) (by decide)) 2) (fun U2 s2 => ?_)
    exact c_cpL (n := n) ha hb dj hW h (nU w) n 0 U2 (by omega) (by omega) (s2.mono (fun o p d => by omega))
  obtain ⟨R, eR, sR⟩ := key
  exact ⟨R, eR, sR.toRp hW h hN, sR.1⟩
end
/-! the reference's copies -/
theorem r_cpL {n x y N : Nat} (hxy : x ≠ y) (hy : y < 224) (hN : N < 10000) (nx : N ≤ vN W0 x) (ny : N ≤ vN W0 y) (n1 : vN W0 x < 10000) (n2 : vN W0 y < 10000) : ∀ (d m c : Nat) (V : VS), c + d = N → d < m → zLay V → ∃ U, elX9_copies_2 n m V x y (Int32.ofNat N) (Int32.ofNat c) = rt () U ∧ zLay U ∧ (∀ i, i ≠ y → vC U i = vC V i) ∧ ∀ k, vI U y k = if c ≤ k ∧ k < N then vI V x k else vI V y k
  | 0, m + 1, c, V, e, _, hL => by
    have : c = N := by omega
    subst this
    show ∃ U, eX9_copies_2 n (elX9_copies_2 n m) V x y (Int32.ofNat c) (Int32.ofNat c) = _ ∧ _
    unfold eX9_copies_2
    rw [if_pos (by exact (of_le (by omega) (by omega)).mpr (Nat.le_refl _))]
    exact ⟨V, rfl, hL, fun _ _ => rfl, fun k => by rw [if_neg (by omega)]⟩
  | d + 1, m + 1, c, V, e, hm, hL => by
    show ∃ U, eX9_copies_2 n (elX9_copies_2 n m) V x y (Int32.ofNat N) (Int32.ofNat c) = _ ∧ _
    unfold eX9_copies_2
    rw [if_neg (fun e => by have := (of_le (by omega) (by omega)).mp e; omega), hL.2.1 x, if_pos (in_of (by omega) (by omega)), hL.2.1 y, if_pos (in_of (by omega) (by omega)), tn_of (by omega), sq_eq, p1_of]
    obtain ⟨U, eU, lU, fU, kU⟩ := r_cpL (n := n) hxy hy hN nx ny n1 n2 d m (c + 1) (wI V y c (vI V x c)) (by omega) (by omega) (zLay_wI hL)
    refine ⟨U, eU, lU, fun i hi => (fU i hi).trans (vC_wI hi), fun k => ?_⟩
    rw [kU k, vI_wI_ne hxy, vI_wI (zLen hL hy)]
    unfold zup
    by_cases g : k = c
    · rw [if_neg (by omega), if_pos g, if_pos (by omega), g]
    · rw [if_neg g]
      by_cases q : c + 1 ≤ k ∧ k < N
      · rw [if_pos q, if_pos (by omega)]
      · rw [if_neg q, if_neg (by omega)]
theorem r_copies {n x y N : Nat} {V : VS} (hn : N < n) (hL : zLay V) (hxy : x ≠ y) (hy : y < 224) (nx : N ≤ vN W0 x) (ny : N ≤ vN W0 y) (n1 : vN W0 x < 10000) (n2 : vN W0 y < 10000) : ∃ U, ev_X9_copies n V x y (Int32.ofNat N) = rt () U ∧ zLay U ∧ (∀ i, i ≠ y → vC U i = vC V i) ∧ ∀ k, vI U y k = if k < N then vI V x k else vI V y k := by
  unfold ev_X9_copies eX9_copies_0
  obtain ⟨U, a, b, c, d⟩ := r_cpL (n := n) hxy hy (by omega) nx ny n1 n2 N n 0 V (by omega) hn hL
  exact ⟨U, a, b, c, fun k => by rw [d k]; simp only [Nat.zero_le, true_and]⟩
