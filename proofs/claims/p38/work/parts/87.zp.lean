/-! the class's arrays of paths -/
def FrA (V U : VS) : Prop := zLay U ∧ ∀ i, ¬ (197 ≤ i ∧ i < 201) → vC U i = vC V i
theorem FrA.rf {V : VS} (h : zLay V) : FrA V V := ⟨h, fun _ _ => rfl⟩
theorem FrA.tr {V U T : VS} (h : FrA V U) (g : FrA U T) : FrA V T := ⟨g.1, fun i hi => (g.2 i hi).trans (h.2 i hi)⟩
theorem FrA.w {V U : VS} {i k : Nat} {x : Int32} (h : FrA V U) (hi : 197 ≤ i ∧ i < 201) : FrA V (wI U i k x) := ⟨zLay_wI h.1, fun j hj => (vC_wI (by omega)).trans (h.2 j hj)⟩
theorem Rp.fA {a : Nat} {V U : VS} {w : RW} (h : Rp a V w) (ha : a ∈ zB) (f : FrA V U) : Rp a U w := h.fr (fun i hi => f.2 _ (by have := zB_le a ha; omega))
def PA (V : VS) (N : Nat) (e f : Nat → Nat) (dn : Nat → Bool) : Prop := vI V 197 3 = Int32.ofNat N ∧ (∀ c, c < N → vI V 198 c = Int32.ofNat (e c)) ∧ (∀ c, c < N → vI V 199 c = Int32.ofNat (f c)) ∧ ∀ c, c < N → vI V 200 c = bi (dn c)
theorem pr0 {V : VS} (h : zLay V) : vR V 197 0 = some 198 := zR h (by decide +kernel)
theorem pr1 {V : VS} (h : zLay V) : vR V 197 1 = some 199 := zR h (by decide +kernel)
theorem pr2 {V : VS} (h : zLay V) : vR V 197 2 = some 200 := zR h (by decide +kernel)
theorem pn8 {V : VS} (h : zLay V) : vN V 198 = 64 := zN h (by decide +kernel)
theorem pn9 {V : VS} (h : zLay V) : vN V 199 = 64 := zN h (by decide +kernel)
theorem pn0 {V : VS} (h : zLay V) : vN V 200 = 64 := zN h (by decide +kernel)
theorem PA.wf {V : VS} {N b v : Nat} {e f : Nat → Nat} {dn : Nat → Bool} (h : PA V N e f dn) (hL : zLay V) : PA (wI V 199 b (Int32.ofNat v)) N e (nup f b v) dn := by
  refine ⟨?_, fun c hc => ?_, fun c hc => ?_, fun c hc => ?_⟩
  · rw [vI_wI_ne (by decide)]; exact h.1
  · rw [vI_wI_ne (by decide)]; exact h.2.1 c hc
  · rw [vI_wI (zLen hL (by decide))]; unfold zup nup
    by_cases q : c = b
    · rw [if_pos q, if_pos q]
    · rw [if_neg q, if_neg q]; exact h.2.2.1 c hc
  · rw [vI_wI_ne (by decide)]; exact h.2.2.2 c hc
theorem PA.wd {V : VS} {N b : Nat} {e f : Nat → Nat} {dn : Nat → Bool} (h : PA V N e f dn) (hL : zLay V) : PA (wI V 200 b 1) N e f (bup dn b) := by
  refine ⟨?_, fun c hc => ?_, fun c hc => ?_, fun c hc => ?_⟩
  · rw [vI_wI_ne (by decide)]; exact h.1
  · rw [vI_wI_ne (by decide)]; exact h.2.1 c hc
  · rw [vI_wI_ne (by decide)]; exact h.2.2.1 c hc
  · rw [vI_wI (zLen hL (by decide))]; unfold zup bup
    by_cases q : c = b
    · rw [if_pos q, if_pos q]; rfl
    · rw [if_neg q, if_neg q]; exact h.2.2.2 c hc
theorem bi_0 {b : Bool} : bi b = 0 ↔ b = false := by cases b <;> decide
section
variable {n a : Nat} {w : RW}
theorem c_cl62 {V : VS} {K : VS → Nat → Nat → Nat → Int32 → Rs Unit} {u1 u2 c p : Nat} {x : Int32} (hL : zLay V) (hc : c < 64) : ∃ U, eX5_clear_62 n K V 197 u1 u2 (Int32.ofNat c) x (Int32.ofNat p) (Int32.ofNat c) 198 = K U 197 u1 u2 (Int32.ofNat (c + 1)) ∧ FrA V U ∧ vI U 197 = vI V 197 ∧ vI U 198 = zup (vI V 198) c (Int32.ofNat (if x = 1 then 0 else p)) ∧ vI U 199 = zup (vI V 199) c (Int32.ofNat 1000000) ∧ vI U 200 = zup (vI V 200) c 0 := by
  have key : ∀ V : VS, zLay V → ∃ U, eX5_clear_76 n K V 197 u1 u2 (Int32.ofNat c) = K U 197 u1 u2 (Int32.ofNat (c + 1)) ∧ FrA V U ∧ vI U 197 = vI V 197 ∧ vI U 198 = vI V 198 ∧ vI U 199 = zup (vI V 199) c (Int32.ofNat 1000000) ∧ vI U 200 = zup (vI V 200) c 0 := by
    intro V hL
    have l1 : zLay (wI V 199 c 1000000) := zLay_wI hL
    unfold eX5_clear_76
    rw [pr1 hL, ob_1, pn9 hL, if_pos (in_of hc (by decide)), sq_eq, tn_of (by omega), pr2 l1, ob_1, pn0 l1, if_pos (in_of hc (by decide)), sq_eq, p1_of]
    refine ⟨_, rfl, ((FrA.rf hL).w (by decide)).w (by decide), ?_, ?_, ?_, ?_⟩
    · rw [vI_wI_ne (by decide), vI_wI_ne (by decide)]
    · rw [vI_wI_ne (by decide), vI_wI_ne (by decide)]
    · rw [vI_wI_ne (by decide), vI_wI (zLen hL (by decide))]; rfl
    · rw [vI_wI (zLen l1 (by decide)), vI_wI_ne (by decide)]
  unfold eX5_clear_62
  rw [pn8 hL, if_pos (in_of hc (by decide)), sq_eq, tn_of (by omega)]
  have l1 : zLay (wI V 198 c (Int32.ofNat p)) := zLay_wI hL
  by_cases g : x = 1
  · rw [if_pos g, pr0 l1, ob_1, pn8 l1, if_pos (in_of hc (by decide)), sq_eq, if_pos g]
    obtain ⟨U, e, f, u7, u8, u9, u0⟩ := key (wI (wI V 198 c (Int32.ofNat p)) 198 c 0) (zLay_wI l1)
    refine ⟨U, e, (((FrA.rf hL).w (by decide)).w (by decide)).tr f, ?_, ?_, ?_, ?_⟩
    · rw [u7, vI_wI_ne (by decide), vI_wI_ne (by decide)]
    · rw [u8, vI_wI (zLen l1 (by decide)), vI_wI (zLen hL (by decide))]
      funext q; unfold zup
      by_cases y : q = c
      · rw [if_pos y, if_pos y]; rfl
      · rw [if_neg y, if_neg y, if_neg y]
    · rw [u9, vI_wI_ne (by decide), vI_wI_ne (by decide)]
    · rw [u0, vI_wI_ne (by decide), vI_wI_ne (by decide)]
  · rw [if_neg g, if_neg g]
    obtain ⟨U, e, f, u7, u8, u9, u0⟩ := key (wI V 198 c (Int32.ofNat p)) l1
    refine ⟨U, e, ((FrA.rf hL).w (by decide)).tr f, ?_, ?_, ?_, ?_⟩
    · rw [u7, vI_wI_ne (by decide)]
    · rw [u8, vI_wI (zLen hL (by decide))]
    · rw [u9, vI_wI_ne (by decide)]
    · rw [u0, vI_wI_ne (by decide)]
theorem c_cl99 (ha : a ∈ zB) (hW : WF w) : ∀ (d m u : Nat) (V : VS) (f : Nat → Nat) (dn : Nat → Bool), u + d = nU w → d < m → zLay V → Rp a V w → PA V (nR w * nC w) (entU w u) f dn → ∃ U, elX5_clear_99 n m V 197 a (Int32.ofNat u) = rt () U ∧ PA U (nR w * nC w) (ent w) f dn ∧ FrA V U
  | 0, m + 1, u, V, f, dn, e, _, hL, h, hp => by
    have u8 := hW.u8
    have : u = nU w := by omega
    subst this
    show ∃ U, eX5_clear_99 n (elX5_clear_99 n m) V 197 a (Int32.ofNat (nU w)) = _ ∧ _
    unfold eX5_clear_99
    rw [h.count, hW.ue, if_pos (by exact (of_le (by omega) (by omega)).mpr (Nat.le_refl _))]
    refine ⟨V, rfl, ⟨hp.1, fun c hc => ?_, hp.2.2⟩, FrA.rf hL⟩
    rw [hp.2.1 c hc, entU_all]
  | d + 1, m + 1, u, V, f, dn, e, hm, hL, h, hp => by
    have u8 := hW.u8
    have hu : u < nU w := by omega
    have cl := cell_lt hW hu
    have rc := hW.rc
    show ∃ U, eX5_clear_99 n (elX5_clear_99 n m) V 197 a (Int32.ofNat u) = _ ∧ _
    unfold eX5_clear_99
    rw [h.count, hW.ue, if_neg (fun e => by have := (of_le (by omega) (by omega)).mp e; omega), zr1 hL ha, ob_1, znu hL ha, if_pos (in_of (by omega) (by decide)), tn_of (by omega), zru hL ha (by omega), ob_1, c_lives h hu (by omega), bd_rt, p1_of]
    have es : ∀ c, entU w (u + 1) c = if dead w u = false ∧ w (67 + 11 * u + 2) = Int32.ofNat c then 0 else entU w u c := by
      intro c
      unfold entU
      rw [List.range_succ, List.any_append, List.any_cons, List.any_nil, Bool.or_false]
      cases ((List.range u).any fun v => !dead w v && decide (w (67 + 11 * v + 2) = Int32.ofNat c))
      · rw [Bool.false_or, if_neg (show ¬ (false = true) by decide)]
        cases dead w u
        · by_cases q : w (67 + 11 * u + 2) = Int32.ofNat c
          · rw [decide_eq_true q, if_pos (by decide), if_pos ⟨rfl, q⟩]
          · rw [decide_eq_false q, if_neg (by decide), if_neg (fun x => q x.2)]
        · rw [Bool.not_true, Bool.false_and, if_neg (by decide), if_neg (fun x => by cases x.1)]
      · rw [Bool.true_or, if_pos rfl, ite_self]
    cases hd : dead w u
    · rw [if_neg (by decide)]
      rw [show vI V (a + 9 + u) 4 = w (67 + 11 * u + 2) from h.u hu (by omega) (j := 2) (by decide), hp.1, cell_e hW hu, if_neg (fun e => by have := (of_le (by omega) (by omega)).mp e; omega), pr0 hL, ob_1, pn8 hL, if_pos (in_of (by omega) (by decide)), sq_eq, tn_of (by omega)]
      have l1 : zLay (wI V 198 (cellN w u) 0) := zLay_wI hL
      have f1 : FrA V (wI V 198 (cellN w u) 0) := (FrA.rf hL).w (by decide)
      obtain ⟨U, eU, pU, fU⟩ := c_cl99 ha hW d m (u + 1) _ f dn (by omega) (by omega) l1 (h.fA ha f1) ⟨by rw [vI_wI_ne (by decide)]; exact hp.1, fun c hc => by
        rw [vI_wI (zLen hL (by decide)), es c, hd, cell_e hW hu]
        unfold zup
        by_cases q : c = cellN w u
        · rw [if_pos q, if_pos ⟨rfl, by rw [q]⟩]; rfl
        · rw [if_neg q, if_neg (fun x => q ((of_inj (by omega) (by omega)).mp x.2).symm)]; exact hp.2.1 c hc, fun c hc => by rw [vI_wI_ne (by decide)]; exact hp.2.2.1 c hc, fun c hc => by rw [vI_wI_ne (by decide)]; exact hp.2.2.2 c hc⟩
      exact ⟨U, eU, pU, f1.tr fU⟩
    · rw [if_pos rfl]
      obtain ⟨U, eU, pU, fU⟩ := c_cl99 ha hW d m (u + 1) V f dn (by omega) (by omega) hL h ⟨hp.1, fun c hc => by
        rw [es c, hd, if_neg (fun x => by cases x.1)]; exact hp.2.1 c hc, hp.2.2⟩
      exact ⟨U, eU, pU, fU⟩
theorem c_cl25 (hn : 8 < n) (ha : a ∈ zB) (hW : WF w) : ∀ (d m c : Nat) (V : VS), c + d = nR w * nC w → d < m → zLay V → Rp a V w → vI V 197 3 = Int32.ofNat (nR w * nC w) → (∀ q, q < c → vI V 198 q = Int32.ofNat (entB w q) ∧ vI V 199 q = Int32.ofNat 1000000 ∧ vI V 200 q = 0) → ∃ U, elX5_clear_25 n m V 197 a (a + 1) (Int32.ofNat c) = rt () U ∧ PA U (nR w * nC w) (ent w) (fun _ => 1000000) (fun _ => false) ∧ FrA V U
  | 0, m + 1, c, V, e, _, hL, h, h3, hq => by
    have rc := hW.rc; have u8 := hW.u8
    have : c = nR w * nC w := by omega
    subst this
    show ∃ U, eX5_clear_25 n (elX5_clear_25 n m) V 197 a (a + 1) (Int32.ofNat (nR w * nC w)) = _ ∧ _
    unfold eX5_clear_25
    rw [h3, if_pos (by exact (of_le (by omega) (by omega)).mpr (Nat.le_refl _))]
    exact c_cl99 (n := n) ha hW (nU w) n 0 V _ _ (by omega) (by omega) hL h ⟨h3, fun c hc => by rw [(hq c hc).1]; rfl, fun c hc => (hq c hc).2.1, fun c hc => (hq c hc).2.2⟩
  | d + 1, m + 1, c, V, e, hm, hL, h, h3, hq => by
    have rc := hW.rc
    have hc : c < nR w * nC w := by omega
    show ∃ U, eX5_clear_25 n (elX5_clear_25 n m) V 197 a (a + 1) (Int32.ofNat c) = _ ∧ _
    unfold eX5_clear_25
    rw [h3, if_neg (fun e => by have := (of_le (by omega) (by omega)).mp e; omega), c_ground hL ha hW h hc, bd_rt, pr0 hL, ob_1]
    have fin : ∀ U : VS, FrA V U → vI U 197 = vI V 197 → vI U 198 = zup (vI V 198) c (Int32.ofNat (entB w c)) → vI U 199 = zup (vI V 199) c (Int32.ofNat 1000000) → vI U 200 = zup (vI V 200) c 0 → ∃ T, elX5_clear_25 n m U 197 a (a + 1) (Int32.ofNat (c + 1)) = rt () T ∧ PA T (nR w * nC w) (ent w) (fun _ => 1000000) (fun _ => false) ∧ FrA V T := by
      intro U f u7 u8 u9 u0
      obtain ⟨T, eT, pT, fT⟩ := c_cl25 hn ha hW d m (c + 1) U (by omega) (by omega) f.1 (h.fA ha f) (by rw [u7]; exact h3) (fun q hq' => by
        rw [u8, u9, u0]
        by_cases x : q = c
        · rw [x, zup_eq, zup_eq, zup_eq]; exact ⟨rfl, rfl, rfl⟩
        · rw [zup_ne x, zup_ne x, zup_ne x]; exact hq q (by omega))
      exact ⟨T, eT, pT, f.tr fT⟩
    have go : ∀ p, (w (2 + c) = 3 ∨ w (2 + c) = 2 → p = 2) → (¬ (w (2 + c) = 3 ∨ w (2 + c) = 2) → p = 1) → ∃ U, eX5_clear_62 n (elX5_clear_25 n m) V 197 a (a + 1) (Int32.ofNat c) (w (2 + c)) (Int32.ofNat p) (Int32.ofNat c) 198 = rt () U ∧ PA U (nR w * nC w) (ent w) (fun _ => 1000000) (fun _ => false) ∧ FrA V U := by
      intro p p2 p1
      obtain ⟨U, eU, f, u7, u8, u9, u0⟩ := c_cl62 (n := n) (K := elX5_clear_25 n m) (u1 := a) (u2 := a + 1) (p := p) (x := w (2 + c)) hL (show c < 64 by omega)
      rw [eU]
      refine fin U f u7 ?_ u9 u0
      rw [u8]
      congr 2
      unfold entB prc
      by_cases g : w (2 + c) = 1
      · rw [if_pos g, if_pos g]
      · rw [if_neg g, if_neg g]
        by_cases q : w (2 + c) = 3 ∨ w (2 + c) = 2
        · rw [if_pos q]; exact p2 q
        · rw [if_neg q]; exact p1 q
    by_cases g3 : w (2 + c) = 3
    · rw [if_pos g3]
      unfold eX5_clear_57
      exact go 2 (fun _ => rfl) (fun q => absurd (.inl g3) q)
    rw [if_neg g3]
    by_cases g2 : w (2 + c) = 2
    · rw [if_pos g2]
      unfold eX5_clear_57
      exact go 2 (fun _ => rfl) (fun q => absurd (.inr g2) q)
    rw [if_neg g2]
    exact go 1 (fun q => (q.elim g3 g2).elim) (fun _ => rfl)
theorem c_clear {V : VS} (hn : 64 < n) (hL : zLay V) (ha : a ∈ zB) (hW : WF w) (h : Rp a V w) : ∃ U, ev_X5_clear n V 197 a = rt () U ∧ PA U (nR w * nC w) (ent w) (fun _ => 1000000) (fun _ => false) ∧ FrA V U := by
  have rc := hW.rc; have r9 := hW.rc9
  unfold ev_X5_clear eX5_clear_0
  rw [zr0 hL ha, ob_1, h.rows, h.cols (by omega), hW.re, hW.ce, of_mul, sq_eq]
  rw [if_neg (fun e => by have := (of_lt (a := 64) (by omega) (by omega)).mp e; omega)]
  have f1 : FrA V (wI V 197 3 (Int32.ofNat (nR w * nC w))) := (FrA.rf hL).w (by decide)
  obtain ⟨U, e, p, f⟩ := c_cl25 (n := n) (by omega) ha hW (nR w * nC w) n 0 _ (by omega) (by omega) f1.1 (h.fA ha f1) (by rw [vI_wI (zLen hL (by decide)), zup_eq]) (fun q hq => by omega)
  exact ⟨U, e, p, f1.tr f⟩
theorem c_spr {N : Nat} {e : Nat → Nat} {dn : Nat → Bool} (ha : a ∈ zB) (hW : WF w) (hN : N = nR w * nC w) {c v : Nat} (hc : c < N) (hv : v < 2000000) : ∀ (k m d : Nat) (V : VS) (f : Nat → Nat), d + k = 4 → k < m → zLay V → Rp a V w → PA V N e f dn → (∀ b, b < N → f b ≤ 1000000) → ∃ U, elX5_spread_27 n m V 197 (a + 1) (Int32.ofNat c) (Int32.ofNat v) (Int32.ofNat d) = rt () U ∧ PA U N e (sprF w c v k d f) dn ∧ FrA V U
  | 0, m + 1, d, V, f, e0, _, hL, h, hp, _ => by
    have : d = 4 := by omega
    subst this
    show ∃ U, eX5_spread_27 n (elX5_spread_27 n m) V 197 (a + 1) (Int32.ofNat c) (Int32.ofNat v) (Int32.ofNat 4) = _ ∧ _
    unfold eX5_spread_27
    rw [if_pos (by decide)]
    exact ⟨V, rfl, hp, FrA.rf hL⟩
  | k + 1, m + 1, d, V, f, e0, hm, hL, h, hp, hf => by
    have rc := hW.rc
    show ∃ U, eX5_spread_27 n (elX5_spread_27 n m) V 197 (a + 1) (Int32.ofNat c) (Int32.ofNat v) (Int32.ofNat d) = _ ∧ _
    unfold eX5_spread_27 sprF
    rw [if_neg (fun e => by have := (of_lt (a := 3) (by omega) (by omega)).mp e; omega), c_neighbor hW h (by rw [← hN]; exact hc) (by omega), bd_rt, p1_of]
    cases hb : nbr w c d with
    | none =>
      rw [if_pos (show oi none < 0 by decide)]
      exact c_spr ha hW hN hc hv k m (d + 1) V f (by omega) (by omega) hL h hp hf
    | some b =>
      have hbN : b < N := by rw [hN]; exact nbr_in hW (by rw [← hN]; exact hc) hb
      show ∃ U, (if Int32.ofNat b < 0 then _ else _) = rt () U ∧ PA U N e (sprF w c v k (d + 1) (if v < f b then nup f b v else f)) dn ∧ FrA V U
      have fb := hf b hbN
      rw [if_neg (ofn_nn (by omega)), hp.1]
      show ∃ U, (if Int32.ofNat N ≤ Int32.ofNat b then _ else _) = rt () U ∧ PA U N e (sprF w c v k (d + 1) (if v < f b then nup f b v else f)) dn ∧ FrA V U
      rw [if_neg (fun e => by have := (of_le (by omega) (by omega)).mp e; omega), pr1 hL, ob_1, pn9 hL]
      show ∃ U, (if gvp_in (Int32.ofNat b) 64 = true then (if vI V 199 (Int32.ofNat b).toNatClampNeg ≤ Int32.ofNat v then _ else (if gvp_in (Int32.ofNat b) (vN V 199) = true then _ else none)) else none) = rt () U ∧ PA U N e (sprF w c v k (d + 1) (if v < f b then nup f b v else f)) dn ∧ FrA V U
      rw [if_pos (in_of (by omega) (by decide)), tn_of (by omega), hp.2.2.1 b hbN]
      by_cases g : v < f b
      · rw [if_neg (fun e => by have := (of_le (by omega) (by omega)).mp e; omega), pn9 hL, if_pos (in_of (by omega) (by decide)), if_pos g]
        show ∃ U, sq (wI V 199 (Int32.ofNat b).toNatClampNeg (Int32.ofNat v)) _ = rt () U ∧ _
        rw [tn_of (by omega), sq_eq]
        have f1 : FrA V (wI V 199 b (Int32.ofNat v)) := (FrA.rf hL).w (by decide)
        obtain ⟨U, eU, pU, fU⟩ := c_spr ha hW hN hc hv k m (d + 1) _ (nup f b v) (by omega) (by omega) f1.1 (h.fA ha f1) (hp.wf hL) (fun q hq => by
          unfold nup
          by_cases x : q = b
          · rw [if_pos x]; omega
          · rw [if_neg x]; exact hf q hq)
        exact ⟨U, eU, pU, f1.tr fU⟩
      · rw [if_pos (by exact (of_le (by omega) (by omega)).mpr (by omega)), if_neg g]
        exact c_spr ha hW hN hc hv k m (d + 1) V f (by omega) (by omega) hL h hp hf
theorem c_spread {V : VS} {f : Nat → Nat} {dn : Nat → Bool} (hn : 4 < n) (hL : zLay V) (ha : a ∈ zB) (hW : WF w) (h : Rp a V w) {c : Nat} (hc : c < nR w * nC w) (hp : PA V (nR w * nC w) (ent w) f dn) (hf : ∀ b, b < nR w * nC w → f b ≤ 1000000) : ∃ U, ev_X5_spread n V 197 (a + 1) (Int32.ofNat c) = rt () U ∧ PA U (nR w * nC w) (ent w) (spr w c f) dn ∧ FrA V U := by
  have rc := hW.rc; have el := ent_le w c
  unfold ev_X5_spread eX5_spread_0 spr
  rw [pr0 hL, ob_1, pn8 hL, if_pos (in_of (by omega) (by decide)), tn_of (by omega), hp.2.1 c hc]
  by_cases g : ent w c = 0
  · rw [if_pos (by rw [g]; rfl), if_pos g]
    exact ⟨V, rfl, hp, FrA.rf hL⟩
  · rw [if_neg (fun e => by exact g ((of_inj (b := 0) (by omega) (by omega)).mp e)), if_neg g, pr1 hL, ob_1, pn9 hL, if_pos (in_of (by omega) (by decide)), ob_1, pn8 hL, if_pos (in_of (by omega) (by decide)), hp.2.2.1 c hc, hp.2.1 c hc, of_add]
    exact c_spr (n := n) ha hW rfl hc (by have := hf c hc; omega) 4 n 0 V f (by omega) (by omega) hL h hp hf
def FI (f : Nat → Nat) (dn : Nat → Bool) (N c least : Nat) (r : Option Nat) : Prop := least ≤ 1000000 ∧ (∀ q, q < c → dn q = false → least ≤ f q) ∧ match r with
  | none => least = 1000000
  | some b => b < N ∧ dn b = false ∧ f b = least ∧ least < 1000000
theorem c_fc {V : VS} {N : Nat} {e f : Nat → Nat} {dn : Nat → Bool} (hL : zLay V) (hp : PA V N e f dn) (hN : N ≤ 64) (hf : ∀ b, b < N → f b ≤ 1000000) : ∀ (d m c least : Nat) (r : Option Nat), c + d = N → d < m → FI f dn N c least r → ∃ r', elX5_findCheapest_7 n m V 197 (oi r) (Int32.ofNat least) (Int32.ofNat c) = rt (oi r') V ∧ CU N f dn r'
  | 0, m + 1, c, least, r, e0, _, hi => by
    have : c = N := by omega
    subst this
    show ∃ r', eX5_findCheapest_7 n (elX5_findCheapest_7 n m) V 197 (oi r) (Int32.ofNat least) (Int32.ofNat c) = _ ∧ _
    unfold eX5_findCheapest_7
    rw [hp.1, if_pos (by exact (of_le (by omega) (by omega)).mpr (Nat.le_refl _))]
    refine ⟨r, rfl, ?_⟩
    cases r with
    | none =>
      have h3 : least = 1000000 := hi.2.2
      exact fun b hb db => by have := hi.2.1 b hb db; omega
    | some b =>
      obtain ⟨b1, b2, b3, b4⟩ : b < c ∧ dn b = false ∧ f b = least ∧ least < 1000000 := hi.2.2
      exact ⟨b1, b2, by omega, fun q hq dq => by have := hi.2.1 q hq dq; omega⟩
  | d + 1, m + 1, c, least, r, e0, hm, hi => by
    have hc : c < N := by omega
    have fc := hf c hc
    show ∃ r', eX5_findCheapest_7 n (elX5_findCheapest_7 n m) V 197 (oi r) (Int32.ofNat least) (Int32.ofNat c) = _ ∧ _
    unfold eX5_findCheapest_7
    rw [hp.1, if_neg (fun e => by have := (of_le (by omega) (by omega)).mp e; omega), pr2 hL, ob_1, pn0 hL, if_pos (in_of (by omega) (by decide)), tn_of (by omega), hp.2.2.2 c hc, p1_of]
    have skip : (dn c = false → least ≤ f c) → ∃ r', elX5_findCheapest_7 n m V 197 (oi r) (Int32.ofNat least) (Int32.ofNat (c + 1)) = rt (oi r') V ∧ CU N f dn r' := fun x =>
      c_fc hL hp hN hf d m (c + 1) least r (by omega) (by omega) ⟨hi.1, fun q hq dq => by
        by_cases y : q = c
        · rw [y] at dq ⊢; exact x dq
        · exact hi.2.1 q (by omega) dq, hi.2.2⟩
    cases hd : dn c
    · rw [if_pos (show bi false = 0 from rfl), pr1 hL, ob_1, pn9 hL, if_pos (in_of (by omega) (by decide)), hp.2.2.1 c hc]
      by_cases g : least ≤ f c
      · rw [if_pos (by exact (of_le (by have := hi.1; omega) (by omega)).mpr g)]
        exact skip (fun _ => g)
      · rw [if_neg (fun e => g ((of_le (by have := hi.1; omega) (by omega)).mp e)), ob_1, pn9 hL, if_pos (in_of (by omega) (by decide)), hp.2.2.1 c hc]
        exact c_fc hL hp hN hf d m (c + 1) (f c) (some c) (by omega) (by omega) ⟨fc, fun q hq dq => by
          by_cases y : q = c
          · rw [y]; omega
          · have := hi.2.1 q (by omega) dq; omega, hc, hd, rfl, by have := hi.1; omega⟩
    · rw [if_neg (show ¬ bi true = 0 by decide)]
      exact skip (fun x => by rw [hd] at x; cases x)
theorem c_findCheapest {V : VS} {N : Nat} {e f : Nat → Nat} {dn : Nat → Bool} (hn : 64 < n) (hL : zLay V) (hp : PA V N e f dn) (hN : N ≤ 64) (hf : ∀ b, b < N → f b ≤ 1000000) : ∃ r', ev_X5_findCheapest n V 197 = rt (oi r') V ∧ CU N f dn r' := by
  unfold ev_X5_findCheapest eX5_findCheapest_0
  exact c_fc (n := n) hL hp hN hf N n 0 1000000 none (by omega) (by omega) ⟨Nat.le_refl _, fun q hq => by omega, rfl⟩
theorem c_mea (hn : 64 < n) (ha : a ∈ zB) (hW : WF w) {g : Nat} : ∀ (d m k : Nat) (V : VS) (f : Nat → Nat) (dn : Nat → Bool) (cur : Option Nat), k + d = 64 → d < m → zLay V → Rp a V w → PA V (nR w * nC w) (ent w) f dn → DI w g k f dn → CU (nR w * nC w) f dn cur → ∃ U f' dn', elX5_measure_69 n m V 197 a (oi cur) (Int32.ofNat k) = rt () U ∧ PA U (nR w * nC w) (ent w) f' dn' ∧ EqD w g f' ∧ FrA V U
  | 0, m + 1, k, V, f, dn, cur, e, _, hL, h, hp, hD, hC => by
    have rc := hW.rc
    have : k = 64 := by omega
    subst this
    show ∃ U f' dn', eX5_measure_69 n (elX5_measure_69 n m) V 197 a (oi cur) (Int32.ofNat 64) = _ ∧ _
    unfold eX5_measure_69
    rw [if_pos (by decide)]
    refine ⟨V, f, dn, rfl, hp, ?_, FrA.rf hL⟩
    cases cur with
    | none => exact DI_end hD hC (by omega)
    | some c =>
      obtain ⟨c1, c2, _, _⟩ : c < nR w * nC w ∧ dn c = false ∧ f c < 1000000 ∧ ∀ b, b < nR w * nC w → dn b = false → f c ≤ f b := hC
      have := cnt_lt c2 c1
      have := hD.2.2.2.2.2.2
      omega
  | d + 1, m + 1, k, V, f, dn, cur, e, hm, hL, h, hp, hD, hC => by
    have rc := hW.rc
    show ∃ U f' dn', eX5_measure_69 n (elX5_measure_69 n m) V 197 a (oi cur) (Int32.ofNat k) = _ ∧ _
    unfold eX5_measure_69
    rw [if_neg (fun e => by have := (of_le (a := 64) (by omega) (by omega)).mp e; omega)]
    cases cur with
    | none =>
      rw [if_pos (show oi none < 0 by decide)]
      exact ⟨V, f, dn, rfl, hp, DI_end hD hC (by omega), FrA.rf hL⟩
    | some c =>
      obtain ⟨c1, c2, c3, c4⟩ : c < nR w * nC w ∧ dn c = false ∧ f c < 1000000 ∧ ∀ b, b < nR w * nC w → dn b = false → f c ≤ f b := hC
      have hN := DI_step hW hD ⟨c1, c2, c3, c4⟩ (by omega)
      rw [if_neg (show ¬ oi (some c) < 0 from ofn_nn (by omega)), pr2 hL, ob_1, pn0 hL, show oi (some c) = Int32.ofNat c from rfl, if_pos (in_of (by omega) (by decide)), tn_of (by omega), sq_eq]
      have f1 : FrA V (wI V 200 c 1) := (FrA.rf hL).w (by decide)
      have p1 : PA (wI V 200 c 1) (nR w * nC w) (ent w) f (bup dn c) := hp.wd hL
      rw [zr0 f1.1 ha, ob_1]
      obtain ⟨T, eT, pT, fT⟩ := c_spread (n := n) (by omega) f1.1 ha hW (h.fA ha f1) c1 p1 (fun b hb => (hD.2.1 b hb).1)
      have f2 := f1.tr fT
      rw [eT, bd_rt]
      obtain ⟨r, er, cr⟩ := c_findCheapest (n := n) hn f2.1 pT rc (fun b hb => (hN.2.1 b hb).1)
      rw [er, bd_rt, p1_of]
      obtain ⟨U, f', dn', eU, pU, qU, fU⟩ := c_mea hn ha hW d m (k + 1) T _ _ r (by omega) (by omega) f2.1 (h.fA ha f2) pT hN cr
      exact ⟨U, f', dn', eU, pU, qU, f2.tr fU⟩
theorem c_onU {V : VS} (hL : zLay V) (ha : a ∈ zB) (hW : WF w) (h : Rp a V w) {u : Nat} (hu : u < nU w) (hT : w 166 = Int32.ofNat u) : ev_X2_onTurn n V a = rt (some (a + 9 + u)) V := by
  have u8 := hW.u8
  rcases c_onTurn (n := n) hL ha hW h with ⟨x, _⟩ | ⟨v, hv, ev, e⟩
  · rw [hT, hW.ue] at x
    rcases x with x | x
    · exact absurd x (ofn_nn (by omega))
    · have := (of_le (by omega) (by omega)).mp x; omega
  · rw [hT] at ev
    have := (of_inj (by omega) (by omega)).mp ev
    rw [this]; exact e
theorem c_measure {V : VS} (hn : 64 < n) (hL : zLay V) (ha : a ∈ zB) (hW : WF w) (h : Rp a V w) {u g : Nat} (hu : u < nU w) (hT : w 166 = Int32.ofNat u) (hg : g < nR w * nC w) : ∃ U f dn, ev_X5_measure n V 197 a (Int32.ofNat g) = rt () U ∧ PA U (nR w * nC w) (ent w) f dn ∧ FrA V U ∧ (if ent w g = 0 ∧ cellN w u ≠ g then (∀ c, f c = 1000000) else EqD w g f) := by
  have rc := hW.rc; have cl := cell_lt hW hu; have u8 := hW.u8; have el := ent_le w g
  unfold ev_X5_measure eX5_measure_0
  obtain ⟨T, eT, pT, fT⟩ := c_clear (n := n) hn hL ha hW h
  have hT' := h.fA ha fT
  rw [eT, bd_rt, c_onU fT.1 ha hW hT' hu hT, bd_rt]
  show ∃ U f dn, (if vI T (a + 9 + u) 4 = Int32.ofNat g then _ else _) = rt () U ∧ _
  rw [show vI T (a + 9 + u) 4 = w (67 + 11 * u + 2) from hT'.u hu (by omega) (j := 2) (by decide), cell_e hW hu]
  have m56 : ∃ U f dn, eX5_measure_56 n T 197 a (Int32.ofNat g) = rt () U ∧ PA U (nR w * nC w) (ent w) f dn ∧ FrA V U ∧ EqD w g f := by
    unfold eX5_measure_56
    rw [pr1 fT.1, ob_1, pn9 fT.1, if_pos (in_of (by omega) (by decide)), tn_of (by omega), sq_eq]
    have f1 : FrA T (wI T 199 g 0) := (FrA.rf fT.1).w (by decide)
    obtain ⟨d0, c0⟩ := DI_0 hg
    obtain ⟨U, f', dn', e, p, q, f⟩ := c_mea (n := n) hn ha hW (g := g) 64 n 0 (wI T 199 g 0) _ _ (some g) (by omega) (by omega) f1.1 (hT'.fA ha f1) (pT.wf (v := 0) fT.1) d0 c0
    exact ⟨U, f', dn', e, p, (fT.tr f1).tr f, q⟩
  have m27 : ∀ z : Int32, eX5_measure_27 n T 197 a (Int32.ofNat g) z = if ent w g = 0 then (if z = 0 then rt () T else eX5_measure_56 n T 197 a (Int32.ofNat g)) else eX5_measure_56 n T 197 a (Int32.ofNat g) := fun z => by
    unfold eX5_measure_27
    rw [if_neg (ofn_nn (by omega)), pT.1, if_neg (fun e => by have := (of_le (by omega) (by omega)).mp e; omega), pr0 fT.1, ob_1, pn8 fT.1, if_pos (in_of (by omega) (by decide)), tn_of (by omega), pT.2.1 g hg]
    by_cases q : ent w g = 0
    · rw [if_pos (by rw [q]; rfl), if_pos q]
    · rw [if_neg (fun e => by exact q ((of_inj (b := 0) (by omega) (by omega)).mp e)), if_neg q]
  by_cases c : cellN w u = g
  · rw [if_pos (by rw [c]), m27, if_neg (show ¬ (1 : Int32) = 0 by decide), ite_self]
    obtain ⟨U, f, dn, e, p, fr, q⟩ := m56
    exact ⟨U, f, dn, e, p, fr, by rw [if_neg (fun x => x.2 c)]; exact q⟩
  · rw [if_neg (fun e => c ((of_inj (by omega) (by omega)).mp e))]
    show ∃ U f dn, eX5_measure_27 n T 197 a (Int32.ofNat g) 0 = rt () U ∧ _
    rw [m27, if_pos rfl]
    by_cases q : ent w g = 0
    · rw [if_pos q]
      exact ⟨T, _, _, rfl, pT, fT, by rw [if_pos ⟨q, c⟩]; exact fun _ => rfl⟩
    · rw [if_neg q]
      obtain ⟨U, f, dn, e, p, fr, r⟩ := m56
      exact ⟨U, f, dn, e, p, fr, by rw [if_neg (fun x => q x.1)]; exact r⟩
theorem c_costsFrom {V : VS} {N : Nat} {e f : Nat → Nat} {dn : Nat → Bool} (hL : zLay V) (hp : PA V N e f dn) (hN : N ≤ 64) {c : Nat} (hc : c < N) : ev_X5_costsFrom n V 197 (Int32.ofNat c) = rt (Int32.ofNat (f c)) V := by
  unfold ev_X5_costsFrom eX5_costsFrom_0
  rw [if_neg (ofn_nn (by omega)), hp.1, if_neg (fun e => by have := (of_le (by omega) (by omega)).mp e; omega), pr1 hL, ob_1, pn9 hL, if_pos (in_of (by omega) (by decide)), tn_of (by omega), hp.2.2.1 c hc]
theorem c_nx {V : VS} {f : Nat → Nat} {dn : Nat → Bool} (hL : zLay V) (ha : a ∈ zB) (hW : WF w) {w' : RW} (h : Rp a V w') (hW' : WF w') (eR : nR w' = nR w) (eC : nC w' = nC w) (hp : PA V (nR w * nC w) (ent w) f dn) (hf : ∀ b, b < nR w * nC w → f b ≤ 1000000) {c : Nat} (hc : c < nR w * nC w) : ∀ (k m d : Nat), d + k = 4 → k < m → elX5_next_14 n m V 197 (a + 1) (Int32.ofNat c) (Int32.ofNat d) = rt (oi (nxF w f c k d)) V
  | 0, m + 1, d, e, _ => by
    have : d = 4 := by omega
    subst this
    show eX5_next_14 n (elX5_next_14 n m) V 197 (a + 1) (Int32.ofNat c) (Int32.ofNat 4) = _
    unfold eX5_next_14
    rw [if_pos (by decide)]; rfl
  | k + 1, m + 1, d, e, hm => by
    have rc := hW.rc
    have en : nbr w' c d = nbr w c d := by unfold nbr; rw [eR, eC]
    show eX5_next_14 n (elX5_next_14 n m) V 197 (a + 1) (Int32.ofNat c) (Int32.ofNat d) = _
    unfold eX5_next_14 nxF
    rw [if_neg (fun e => by have := (of_lt (a := 3) (by omega) (by omega)).mp e; omega), c_neighbor hW' h (by rw [eR, eC]; exact hc) (by omega), bd_rt, p1_of, en, c_nx hL ha hW h hW' eR eC hp hf hc k m (d + 1) (by omega) (by omega)]
    cases hb : nbr w c d with
    | none => rw [if_pos (show oi none < 0 by decide)]
    | some b =>
      have hbN := nbr_in hW hc hb
      have fb := hf b hbN; have fc := hf c hc; have el := ent_le w b
      show (if Int32.ofNat b < 0 then _ else (if vI V 197 3 ≤ Int32.ofNat b then _ else _)) = rt (oi (if 0 < ent w b ∧ f b + ent w b = f c then some b else nxF w f c k (d + 1))) V
      rw [if_neg (ofn_nn (by omega)), hp.1, if_neg (fun e => by have := (of_le (by omega) (by omega)).mp e; omega), pr0 hL, ob_1]
      show (if gvp_in (Int32.ofNat b) (vN V 198) = true then (if vI V 198 (Int32.ofNat b).toNatClampNeg ≤ 0 then _ else _) else none) = _
      rw [pn8 hL, if_pos (in_of (by omega) (by decide)), tn_of (by omega), hp.2.1 b hbN]
      by_cases g : 0 < ent w b
      · rw [if_neg (fun e => by have := (of_le (b := 0) (by omega) (by omega)).mp e; omega), pr1 hL, ob_1]
        show (if gvp_in (Int32.ofNat b) (vN V 199) = true then _ else none) = _
        rw [pn9 hL, if_pos (in_of (by omega) (by decide)), ob_1]
        show (if gvp_in (Int32.ofNat b) (vN V 198) = true then _ else none) = _
        rw [pn8 hL, if_pos (in_of (by omega) (by decide)), ob_1, pn9 hL, if_pos (in_of (by omega) (by decide))]
        show (if vI V 199 (Int32.ofNat b).toNatClampNeg + vI V 198 (Int32.ofNat b).toNatClampNeg = vI V 199 (Int32.ofNat c).toNatClampNeg then rt (Int32.ofNat b) V else _) = _
        rw [tn_of (by omega), tn_of (by omega), hp.2.1 b hbN, hp.2.2.1 b hbN, hp.2.2.1 c hc, of_add]
        by_cases q : f b + ent w b = f c
        · rw [if_pos (by rw [q]), if_pos ⟨g, q⟩]; rfl
        · rw [if_neg (fun e => q ((of_inj (by omega) (by omega)).mp e)), if_neg (fun x => q x.2)]
      · rw [if_pos (by exact (of_le (b := 0) (by omega) (by omega)).mpr (by omega)), if_neg (fun x => g x.1)]
theorem c_next {V : VS} {f : Nat → Nat} {dn : Nat → Bool} (hn : 4 < n) (hL : zLay V) (ha : a ∈ zB) (hW : WF w) {w' : RW} (h : Rp a V w') (hW' : WF w') (eR : nR w' = nR w) (eC : nC w' = nC w) (hp : PA V (nR w * nC w) (ent w) f dn) (hf : ∀ b, b < nR w * nC w → f b ≤ 1000000) {c : Nat} (hc : c < nR w * nC w) : ev_X5_next n V 197 (a + 1) (Int32.ofNat c) = rt (oi (if f c < 1000000 then nx w f c else none)) V := by
  have rc := hW.rc
  unfold ev_X5_next eX5_next_0
  rw [c_costsFrom hL hp rc hc, bd_rt]
  have fc := hf c hc
  by_cases g : f c < 1000000
  · rw [if_pos (by exact (of_lt (b := 1000000) (by omega) (by omega)).mpr g), if_pos g]
    exact c_nx (n := n) hL ha hW h hW' eR eC hp hf hc 4 n 0 (by omega) (by omega)
  · rw [if_neg (fun e => by exact g ((of_lt (b := 1000000) (by omega) (by omega)).mp e)), if_neg g]; rfl
end
