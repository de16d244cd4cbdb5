/-! the reference's way to the same costs -/
def FaR (V : VS) (N : Nat) (h : Nat → Nat) : Prop := ∀ c, c < N → vI V 217 c = Int32.ofNat (h c)
theorem FaR.w {V : VS} {N b v : Nat} {h : Nat → Nat} (hf : FaR V N h) (hL : zLay V) : FaR (wI V 217 b (Int32.ofNat v)) N (nup h b v) := fun c hc => by
  rw [vI_wI (zLen hL (by decide))]; unfold zup nup
  by_cases q : c = b
  · rw [if_pos q, if_pos q]
  · rw [if_neg q, if_neg q]; exact hf c hc
def farD (f : Nat → Nat) : Nat → Nat := fun c => if f c < 1000000 then f c + 1 else 0
/-- a cell that its neighbors can't better -/
def okC (w : RW) (g : Nat) (h h' : Nat → Nat) (c d : Nat) : Prop := ∀ i s, d ≤ i → i < 4 → nbr w c i = some s → 0 < h s → fre w s = true → c ≠ g → 0 < h' c ∧ h' c ≤ h s + prc w s
def LB (N : Nat) (f h : Nat → Nat) : Prop := ∀ q, q < N → h q = 0 ∨ (f q < 1000000 ∧ f q + 1 ≤ h q)
theorem ex_ok {w : RW} {g : Nat} {f h : Nat → Nat} (hW : WF w) (hE : EqD w g f) (he : ∀ c, c < nR w * nC w → h c = farD f c) {c : Nat} (hc : c < nR w * nC w) : okC w g h h c 0 := by
  intro i s _ hi hb h0 hs _
  have sN := nbr_in hW hc hb
  rw [he s sN] at h0 ⊢
  rw [he c hc]
  unfold farD at h0 ⊢
  by_cases q : f s < 1000000
  · have es := fre_ent hs
    have le := hE.2.2.2 c s hc sN ⟨i, hi, hb⟩ es.2 q
    have b := (hE.2.1 s sN).2 q
    have pl := prc_le w s
    rw [if_pos q, if_pos (by omega)]
    omega
  · rw [if_neg q] at h0; omega
theorem ok_ex {w : RW} {g : Nat} {f h : Nat → Nat} (hE : EqD w g f) (hB : LB (nR w * nC w) f h) (hg : h g = 1) (ho : ∀ c, c < nR w * nC w → okC w g h h c 0) : ∀ c, c < nR w * nC w → h c = farD f c := by
  have key : ∀ k c, f c ≤ k → c < nR w * nC w → f c < 1000000 → h c = f c + 1 := by
    intro k
    induction k with
    | zero =>
      intro c hk hc hi
      by_cases e : c = g
      · rw [e, hg, hE.1]
      · obtain ⟨s, _, _, b, d⟩ := hE.2.2.1 c hc e hi
        omega
    | succ k ih =>
      intro c hk hc hi
      by_cases e : c = g
      · rw [e, hg, hE.1]
      · obtain ⟨s, sN, ⟨i, hi4, hb⟩, b, d⟩ := hE.2.2.1 c hc e hi
        have hs := ih s (by omega) sN (by omega)
        obtain ⟨fs, es⟩ := ent_fre b
        have := ho c hc i s (by omega) hi4 hb (by omega) fs e
        rcases hB c hc with x | x
        · omega
        · omega
  intro c hc
  unfold farD
  by_cases i : f c < 1000000
  · rw [if_pos i]; exact key _ c (Nat.le_refl _) hc i
  · rw [if_neg i]
    rcases hB c hc with x | x
    · exact x
    · exact absurd x.1 i
theorem ub_up {w : RW} {g t : Nat} {f h h' : Nat → Nat} (hE : EqD w g f) (ht : t < 1000) (hB : LB (nR w * nC w) f h') (hg : h' g = 1) (hu : ∀ c, c < nR w * nC w → f c ≤ t → h c = f c + 1) (ho : ∀ c, c < nR w * nC w → okC w g h h' c 0) : ∀ c, c < nR w * nC w → f c ≤ t + 1 → h' c = f c + 1 := by
  intro c hc hk
  by_cases e : c = g
  · rw [e, hg, hE.1]
  · obtain ⟨s, sN, ⟨i, hi4, hb⟩, b, d⟩ := hE.2.2.1 c hc e (by omega)
    obtain ⟨fs, es⟩ := ent_fre b
    have hs := hu s sN (by omega)
    have := ho c hc i s (by omega) hi4 hb (by omega) fs e
    rcases hB c hc with x | x
    · omega
    · omega
section
variable {n : Nat} {w : RW}
theorem r_m61 {g c : Nat} {f : Nat → Nat} {K43 : VS → Nat → Int32 → Int32 → Int32 → Rs Unit} {K52 : VS → Nat → Int32 → Int32 → Int32 → Int32 → Rs Unit} (hn : 8 < n) (hW : WF w) (hE : EqD w g f) (hg : g < nR w * nC w) (hc : c < nR w * nC w) : ∀ (k m d : Nat) (V : VS) (h : Nat → Nat) (mo : Int32) (B : Nat), d + k = 4 → k < m → zLay V → Qr V w → FaR V (nR w * nC w) h → LB (nR w * nC w) f h → (∀ q, q < nR w * nC w → h q ≤ B) → B + 2 * k < 2000000 →
    ∃ U h' mo', elX9_measures_61 n K43 K52 m V 207 (Int32.ofNat g) (Int32.ofNat (nR w * nC w)) mo (Int32.ofNat c) (Int32.ofNat d) = K52 U 207 (Int32.ofNat g) (Int32.ofNat (nR w * nC w)) mo' (Int32.ofNat (c + 1)) ∧ FaR U (nR w * nC w) h' ∧ FrF V U ∧ Qr U w ∧ LB (nR w * nC w) f h' ∧ (∀ q, q < nR w * nC w → h' q ≤ B + 2 * k)
      ∧ (∀ q, q ≠ c → h' q = h q) ∧ (h c ≠ 0 → h' c ≠ 0 ∧ h' c ≤ h c) ∧ okC w g h h' c d ∧ ((h' c = h c ∧ mo' = mo) ∨ (mo' = 1 ∧ c ≠ g ∧ ¬ okC w g h h c 0))
  | 0, m + 1, d, V, h, mo, B, e, _, hL, hQ, hF, hB, hb, _ => by
    have : d = 4 := by omega
    subst this
    refine ⟨V, h, mo, ?_, hF, FrF.rf hL, hQ, hB, fun q hq => by have := hb q hq; omega, fun _ _ => rfl, fun x => ⟨x, Nat.le_refl _⟩, fun i s l l2 => by omega, .inl ⟨rfl, rfl⟩⟩
    show eX9_measures_61 n K43 K52 (elX9_measures_61 n K43 K52 m) V 207 _ _ mo _ (Int32.ofNat 4) = _
    unfold eX9_measures_61
    rw [if_pos (by decide), p1_of]
  | k + 1, m + 1, d, V, h, mo, B, e, hm, hL, hQ, hF, hB, hb, hbB => by
    have rc := hW.rc
    have skip : (∀ s, nbr w c d = some s → 0 < h s → fre w s = true → c ≠ g → 0 < h c ∧ h c ≤ h s + prc w s) → ∃ U h' mo', elX9_measures_61 n K43 K52 m V 207 (Int32.ofNat g) (Int32.ofNat (nR w * nC w)) mo (Int32.ofNat c) (Int32.ofNat (d + 1)) = K52 U 207 (Int32.ofNat g) (Int32.ofNat (nR w * nC w)) mo' (Int32.ofNat (c + 1)) ∧ FaR U (nR w * nC w) h' ∧ FrF V U ∧ Qr U w ∧ LB (nR w * nC w) f h' ∧ (∀ q, q < nR w * nC w → h' q ≤ B + 2 * (k + 1)) ∧ (∀ q, q ≠ c → h' q = h q) ∧ (h c ≠ 0 → h' c ≠ 0 ∧ h' c ≤ h c) ∧ okC w g h h' c d ∧ ((h' c = h c ∧ mo' = mo) ∨ (mo' = 1 ∧ c ≠ g ∧ ¬ okC w g h h c 0)) := by
      intro hs
      obtain ⟨U, h', mo', a1, a2, a3, a4, a5, a6, a7, a8, a9, a10⟩ := r_m61 (K43 := K43) (K52 := K52) hn hW hE hg hc k m (d + 1) V h mo B (by omega) (by omega) hL hQ hF hB hb (by omega)
      refine ⟨U, h', mo', a1, a2, a3, a4, a5, fun q hq => by have := a6 q hq; omega, a7, a8, fun i s l l2 hnb h0 hfr hcg => ?_, a10⟩
      by_cases y : i = d
      · rw [y] at hnb
        obtain ⟨x1, x2⟩ := hs s hnb h0 hfr hcg
        obtain ⟨x3, x4⟩ := a8 (by omega)
        omega
      · exact a9 i s (by omega) l2 hnb h0 hfr hcg
    show ∃ U h' mo', eX9_measures_61 n K43 K52 (elX9_measures_61 n K43 K52 m) V 207 _ _ mo _ (Int32.ofNat d) = _ ∧ _
    unfold eX9_measures_61
    rw [if_neg (fun e => by have := (of_le (a := 4) (by omega) (by omega)).mp e; omega), r_step hL hQ hW hc (by omega), bd_rt, p1_of]
    cases hnb : nbr w c d with
    | none =>
      rw [if_pos (show oi none < 0 by decide)]
      exact skip (fun s hs => by rw [hnb] at hs; cases hs)
    | some s =>
      have sN := nbr_in hW hc hnb
      have sc : s ≠ c := nbr_ne hW hnb
      have hsB := hb s sN; have hcB := hb c hc
      have pl := prc_le w s
      rw [if_neg (show ¬ oi (some s) < 0 from ofn_nn (by omega)), r717 hL, ob_1, m217 hL, show oi (some s) = Int32.ofNat s from rfl, if_pos (in_of (by omega) (by decide)), tn_of (by omega), hF s sN]
      by_cases g0 : h s = 0
      · rw [if_pos (by rw [g0]; rfl)]
        exact skip (fun x hx h0 => by rw [hnb] at hx; cases hx; omega)
      rw [if_neg (fun e => by exact g0 ((of_inj (b := 0) (by omega) (by omega)).mp e)), r_isFree hn hL hQ hW (by omega), bd_rt]
      by_cases g1 : fre w s = true
      · rw [if_pos g1, if_neg (by decide), r717 hL, ob_1, m217 hL, if_pos (in_of (by omega) (by decide)), r_price hL hQ (by omega), bd_rt]
        by_cases g2 : c = g
        · rw [if_pos (by rw [g2])]
          exact skip (fun x hx _ _ y => absurd g2 y)
        rw [if_neg (fun e => g2 ((of_inj (by omega) (by omega)).mp e)), r717 hL, ob_1, m217 hL, if_pos (in_of (by omega) (by decide)), tn_of (by omega), hF c hc, hF s sN, of_add]
        have chg : ¬ (0 < h c ∧ h c ≤ h s + prc w s) → ∃ U h' mo', eX9_measures_151 n K43 K52 (elX9_measures_61 n K43 K52 m) V 207 (Int32.ofNat g) (Int32.ofNat (nR w * nC w)) (Int32.ofNat c) (Int32.ofNat d) (Int32.ofNat (h s + prc w s)) = K52 U 207 (Int32.ofNat g) (Int32.ofNat (nR w * nC w)) mo' (Int32.ofNat (c + 1)) ∧ FaR U (nR w * nC w) h' ∧ FrF V U ∧ Qr U w ∧ LB (nR w * nC w) f h' ∧ (∀ q, q < nR w * nC w → h' q ≤ B + 2 * (k + 1)) ∧ (∀ q, q ≠ c → h' q = h q) ∧ (h c ≠ 0 → h' c ≠ 0 ∧ h' c ≤ h c) ∧ okC w g h h' c d ∧ ((h' c = h c ∧ mo' = mo) ∨ (mo' = 1 ∧ c ≠ g ∧ ¬ okC w g h h c 0)) := by
          intro hv
          unfold eX9_measures_151
          rw [r717 hL, ob_1, m217 hL, if_pos (in_of (by omega) (by decide)), tn_of (by omega), sq_eq, p1_of]
          have u1 : nup h c (h s + prc w s) c = h s + prc w s := if_pos rfl
          have uo : ∀ q, q ≠ c → nup h c (h s + prc w s) q = h q := fun q hq => if_neg hq
          have lb1 : LB (nR w * nC w) f (nup h c (h s + prc w s)) := fun q hq => by
            by_cases y : q = c
            · rw [y, u1]
              rcases hB s sN with x | ⟨x1, x2⟩
              · exact absurd x g0
              · have es := fre_ent g1
                have le := hE.2.2.2 c s hc sN ⟨d, by omega, hnb⟩ es.2 x1
                have b := (hE.2.1 s sN).2 x1
                exact .inr ⟨by omega, by omega⟩
            · rw [uo q y]; exact hB q hq
          obtain ⟨U, h', mo', a1, a2, a3, a4, a5, a6, a7, a8, a9, a10⟩ := r_m61 (K43 := K43) (K52 := K52) hn hW hE hg hc k m (d + 1) (wI V 217 c (Int32.ofNat (h s + prc w s))) (nup h c (h s + prc w s)) 1 (B + 2) (by omega) (by omega) (zLay_wI hL) (hQ.wo (by decide)) (hF.w hL) lb1 (fun q hq => by
            by_cases y : q = c
            · rw [y, u1]; omega
            · rw [uo q y]; have := hb q hq; omega) (by omega)
          rw [u1] at a8
          obtain ⟨x1, x2⟩ := a8 (by omega)
          refine ⟨U, h', mo', a1, a2, ((FrF.rf hL).w).tr a3, a4, a5, fun q hq => by have := a6 q hq; omega, fun q hq => by rw [a7 q hq, uo q hq], fun y => ⟨x1, ?_⟩, fun i x l l2 hx h0 hfr hcg => ?_, .inr ⟨?_, g2, fun y => hv (y d s (by omega) (by omega) hnb (by omega) g1 g2)⟩⟩
          · have : ¬ h c ≤ h s + prc w s := fun z => hv ⟨by omega, z⟩
            omega
          · by_cases y : i = d
            · rw [y, hnb] at hx; cases hx; omega
            · have := a9 i x (by omega) l2 hx (by rw [uo x (nbr_ne hW hx)]; exact h0) hfr hcg
              rwa [uo x (nbr_ne hW hx)] at this
          · rcases a10 with y | y
            · exact y.2
            · exact y.1
        by_cases g3 : h c = 0
        · rw [if_pos (by rw [g3]; decide)]
          exact chg (fun x => by omega)
        rw [if_neg (fun e => by have := (of_le (b := 0) (by omega) (by omega)).mp e; omega), ob_1, m217 hL, if_pos (in_of (by omega) (by decide)), hF c hc]
        by_cases g4 : h s + prc w s < h c
        · rw [if_pos (by exact (of_lt (by omega) (by omega)).mpr g4)]
          exact chg (fun x => by omega)
        · rw [if_neg (fun e => g4 ((of_lt (by omega) (by omega)).mp e))]
          exact skip (fun x hx _ _ _ => by rw [hnb] at hx; cases hx; omega)
      · rw [if_neg g1, if_pos rfl]
        exact skip (fun x hx _ hf => by rw [hnb] at hx; cases hx; exact absurd hf g1)
theorem r_m52 {g : Nat} {f : Nat → Nat} {K43 : VS → Nat → Int32 → Int32 → Int32 → Rs Unit} (hn : 8 < n) (hW : WF w) (hE : EqD w g f) (hg : g < nR w * nC w) : ∀ (k m c : Nat) (V : VS) (h : Nat → Nat) (mo : Int32) (B : Nat), c + k = nR w * nC w → k < m → zLay V → Qr V w → FaR V (nR w * nC w) h → LB (nR w * nC w) f h → (∀ q, q < nR w * nC w → h q ≤ B) → B + 8 * k < 2000000 →
    ∃ U h' mo', elX9_measures_52 n K43 m V 207 (Int32.ofNat g) (Int32.ofNat (nR w * nC w)) mo (Int32.ofNat c) = K43 U 207 (Int32.ofNat g) (Int32.ofNat (nR w * nC w)) mo' ∧ FaR U (nR w * nC w) h' ∧ FrF V U ∧ Qr U w ∧ LB (nR w * nC w) f h' ∧ (∀ q, q < nR w * nC w → h' q ≤ B + 8 * k)
      ∧ (∀ q, h q ≠ 0 → h' q ≠ 0 ∧ h' q ≤ h q) ∧ (∀ x, c ≤ x → x < nR w * nC w → okC w g h h' x 0) ∧ h' g = h g ∧ (((∀ q, h' q = h q) ∧ mo' = mo) ∨ (mo' = 1 ∧ ∃ x, x < nR w * nC w ∧ ¬ okC w g h h x 0))
  | 0, m + 1, c, V, h, mo, B, e, _, hL, hQ, hF, hB, hb, _ => by
    have rc := hW.rc
    have : c = nR w * nC w := by omega
    subst this
    refine ⟨V, h, mo, ?_, hF, FrF.rf hL, hQ, hB, fun q hq => by have := hb q hq; omega, fun q x => ⟨x, Nat.le_refl _⟩, fun x l l2 => by omega, rfl, .inl ⟨fun _ => rfl, rfl⟩⟩
    show eX9_measures_52 n K43 (elX9_measures_52 n K43 m) V 207 _ _ mo (Int32.ofNat (nR w * nC w)) = _
    unfold eX9_measures_52
    rw [if_pos (by exact (of_le (by omega) (by omega)).mpr (Nat.le_refl _))]
  | k + 1, m + 1, c, V, h, mo, B, e, hm, hL, hQ, hF, hB, hb, hbB => by
    have rc := hW.rc
    have hc : c < nR w * nC w := by omega
    show ∃ U h' mo', eX9_measures_52 n K43 (elX9_measures_52 n K43 m) V 207 _ _ mo (Int32.ofNat c) = _ ∧ _
    unfold eX9_measures_52
    rw [if_neg (fun e => by have := (of_le (by omega) (by omega)).mp e; omega)]
    obtain ⟨T, h1, m1, a1, a2, a3, a4, a5, a6, a7, a8, a9, a10⟩ := r_m61 (n := n) (K43 := K43) (K52 := elX9_measures_52 n K43 m) hn hW hE hg hc 4 n 0 V h mo B (by omega) (by omega) hL hQ hF hB hb (by omega)
    rw [show (0 : Int32) = Int32.ofNat 0 from rfl, a1]
    obtain ⟨U, h', m', b1, b2, b3, b4, b5, b6, b7, b8, b9, b10⟩ := r_m52 (K43 := K43) hn hW hE hg k m (c + 1) T h1 m1 (B + 8) (by omega) (by omega) a3.1 a4 a2 a5 (fun q hq => by have := a6 q hq; omega) (by omega)
    have mono1 : ∀ q, h q ≠ 0 → h1 q ≠ 0 ∧ h1 q ≤ h q := fun q hq => by
      by_cases y : q = c
      · rw [y] at hq ⊢; exact a8 hq
      · rw [a7 q y]; exact ⟨hq, Nat.le_refl _⟩
    refine ⟨U, h', m', b1, b2, a3.tr b3, b4, b5, fun q hq => by have := b6 q hq; omega, fun q hq => ?_, fun x l l2 => ?_, ?_, ?_⟩
    · obtain ⟨x1, x2⟩ := mono1 q hq
      obtain ⟨x3, x4⟩ := b7 q x1
      exact ⟨x3, by omega⟩
    · intro i s li l4 hnb h0 hfr hcg
      by_cases y : x = c
      · subst y
        obtain ⟨x1, x2⟩ := a9 i s li l4 hnb h0 hfr hcg
        obtain ⟨x3, x4⟩ := b7 x (by omega)
        exact ⟨by omega, by omega⟩
      · obtain ⟨x1, x2⟩ := mono1 s (by omega)
        have := b8 x (by omega) l2 i s li l4 hnb (by omega) hfr hcg
        omega
    · rw [b9]
      by_cases y : g = c
      · rcases a10 with z | z
        · rw [y]; exact z.1
        · exact absurd y.symm z.2.1
      · exact a7 g y
    · rcases a10 with ⟨z1, z2⟩ | ⟨z1, z2, z3⟩
      · have hh : h1 = h := by
          funext q
          by_cases y : q = c
          · rw [y]; exact z1
          · exact a7 q y
        rw [hh, z2] at b10
        exact b10
      · refine .inr ⟨?_, c, hc, z3⟩
        rcases b10 with y | y
        · rw [y.2]; exact z1
        · exact y.1
theorem r_m43 {g : Nat} {f : Nat → Nat} (hn : 64 < n) (hW : WF w) (hE : EqD w g f) (hg : g < nR w * nC w) : ∀ (p m t : Nat) (V : VS) (h : Nat → Nat), t + p = 130 → p + 1 < m → zLay V → Qr V w → FaR V (nR w * nC w) h → LB (nR w * nC w) f h → h g = 1 → (∀ c, c < nR w * nC w → f c ≤ t → h c = f c + 1) → (∀ q, q < nR w * nC w → h q ≤ 512 * t + 1) →
    ∃ U, elX9_measures_43 n m V 207 (Int32.ofNat g) (Int32.ofNat (nR w * nC w)) 1 = rt () U ∧ FaR U (nR w * nC w) (farD f) ∧ FrF V U ∧ Qr U w := by
  intro p
  induction p with
  | zero =>
    intro m t V h e hm hL hQ hF hB h1 hu hb
    obtain ⟨m, rfl⟩ : ∃ k, m = k + 2 := ⟨m - 2, by omega⟩
    have rc := hW.rc
    have he : ∀ c, c < nR w * nC w → h c = farD f c := fun c hc => by
      unfold farD
      by_cases i : f c < 1000000
      · rw [if_pos i]; exact hu c hc (by have := (hE.2.1 c hc).2 i; omega)
      · rw [if_neg i]
        rcases hB c hc with x | x
        · exact x
        · exact absurd x.1 i
    show ∃ U, eX9_measures_43 n (elX9_measures_43 n (m + 1)) V 207 _ _ 1 = _ ∧ _
    unfold eX9_measures_43
    rw [if_neg (by decide)]
    obtain ⟨U, h', mo, b1, b2, b3, b4, b5, b6, b7, b8, b9, b10⟩ := r_m52 (n := n) (K43 := elX9_measures_43 n (m + 1)) (by omega) hW hE hg (nR w * nC w) n 0 V h 0 (512 * t + 1) (by omega) (by omega) hL hQ hF hB hb (by omega)
    rw [show Int32.ofNat 0 = (0 : Int32) from rfl] at b1
    rw [b1]
    rcases b10 with ⟨z1, z2⟩ | ⟨_, x, hx, z⟩
    · rw [z2]
      refine ⟨U, ?_, fun c hc => by rw [b2 c hc, z1 c, he c hc], b3, b4⟩
      show eX9_measures_43 n (elX9_measures_43 n m) U 207 _ _ 0 = _
      unfold eX9_measures_43
      rw [if_pos rfl]
    · exact absurd (ex_ok hW hE he hx) z
  | succ p ih =>
    intro m t V h e hm hL hQ hF hB h1 hu hb
    obtain ⟨m, rfl⟩ : ∃ k, m = k + 2 := ⟨m - 2, by omega⟩
    have rc := hW.rc
    show ∃ U, eX9_measures_43 n (elX9_measures_43 n (m + 1)) V 207 _ _ 1 = _ ∧ _
    unfold eX9_measures_43
    rw [if_neg (by decide)]
    obtain ⟨U, h', mo, b1, b2, b3, b4, b5, b6, b7, b8, b9, b10⟩ := r_m52 (n := n) (K43 := elX9_measures_43 n (m + 1)) (by omega) hW hE hg (nR w * nC w) n 0 V h 0 (512 * t + 1) (by omega) (by omega) hL hQ hF hB hb (by omega)
    rw [show Int32.ofNat 0 = (0 : Int32) from rfl] at b1
    rw [b1]
    rcases b10 with ⟨z1, z2⟩ | ⟨z1, x, hx, z⟩
    · rw [z2]
      have hh : h' = h := funext z1
      have he := ok_ex hE hB h1 (fun c hc => by have := b8 c (by omega) hc; rwa [hh] at this)
      refine ⟨U, ?_, fun c hc => by rw [b2 c hc, z1 c, he c hc], b3, b4⟩
      show eX9_measures_43 n (elX9_measures_43 n m) U 207 _ _ 0 = _
      unfold eX9_measures_43
      rw [if_pos rfl]
    · rw [z1]
      have g1 : h' g = 1 := by rw [b9]; exact h1
      obtain ⟨T, a1, a2, a3, a4⟩ := ih (m + 1) (t + 1) U h' (by omega) (by omega) b3.1 b4 b2 b5 g1 (ub_up hE (by omega) b5 g1 hu (fun c hc => b8 c (by omega) hc)) (fun q hq => by have := b6 q hq; omega)
      exact ⟨T, a1, a2, b3.tr a3, a4⟩
theorem r_m16 {g : Nat} {f : Nat → Nat} (hn : 200 < n) (hW : WF w) (hE : EqD w g f) (hg : g < nR w * nC w) : ∀ (d m c : Nat) (V : VS), c + d = nR w * nC w → d < m → zLay V → Qr V w → (∀ q, q < c → vI V 217 q = 0) → ∃ U, elX9_measures_16 n m V 207 (Int32.ofNat g) (Int32.ofNat (nR w * nC w)) (Int32.ofNat c) = rt () U ∧ FaR U (nR w * nC w) (farD f) ∧ FrF V U ∧ Qr U w
  | 0, m + 1, c, V, e, _, hL, hQ, hz => by
    have rc := hW.rc
    have : c = nR w * nC w := by omega
    subst this
    show ∃ U, eX9_measures_16 n (elX9_measures_16 n m) V 207 _ _ (Int32.ofNat (nR w * nC w)) = _ ∧ _
    unfold eX9_measures_16
    rw [if_pos (by exact (of_le (by omega) (by omega)).mpr (Nat.le_refl _)), r717 hL, ob_1, m217 hL, if_pos (in_of (by omega) (by decide)), tn_of (by omega), sq_eq]
    have h0 : FaR V (nR w * nC w) (fun _ => 0) := fun q hq => hz q hq
    have u1 : nup (fun _ => 0) g 1 g = 1 := if_pos rfl
    have uo : ∀ q, q ≠ g → nup (fun _ => 0) g 1 q = 0 := fun q hq => if_neg hq
    obtain ⟨U, a1, a2, a3, a4⟩ := r_m43 (n := n) (by omega) hW hE hg 130 n 0 (wI V 217 g 1) (nup (fun _ => 0) g 1) (by omega) (by omega) (zLay_wI hL) (hQ.wo (by decide)) (h0.w (v := 1) hL) (fun q hq => by
      by_cases y : q = g
      · rw [y, u1, hE.1]; exact .inr ⟨by omega, by omega⟩
      · exact .inl (uo q y)) u1 (fun c hc hk => by
      by_cases y : c = g
      · rw [y, u1, hE.1]
      · obtain ⟨s, _, _, b, d⟩ := hE.2.2.1 c hc y (by omega)
        omega) (fun q _ => by
      by_cases y : q = g
      · rw [y, u1]; omega
      · rw [uo q y]; omega)
    exact ⟨U, a1, a2, ((FrF.rf hL).w).tr a3, a4⟩
  | d + 1, m + 1, c, V, e, hm, hL, hQ, hz => by
    have rc := hW.rc
    show ∃ U, eX9_measures_16 n (elX9_measures_16 n m) V 207 _ _ (Int32.ofNat c) = _ ∧ _
    unfold eX9_measures_16
    rw [if_neg (fun e => by have := (of_le (by omega) (by omega)).mp e; omega), r717 hL, ob_1, m217 hL, if_pos (in_of (by omega) (by decide)), tn_of (by omega), sq_eq, p1_of]
    obtain ⟨U, a1, a2, a3, a4⟩ := r_m16 hn hW hE hg d m (c + 1) (wI V 217 c 0) (by omega) (by omega) (zLay_wI hL) (hQ.wo (by decide)) (fun q hq => by
      rw [vI_wI (zLen hL (by decide))]; unfold zup
      by_cases y : q = c
      · rw [if_pos y]
      · rw [if_neg y]; exact hz q (by omega))
    exact ⟨U, a1, a2, ((FrF.rf hL).w).tr a3, a4⟩
theorem r_measures {V : VS} {g : Nat} {f : Nat → Nat} (hn : 200 < n) (hL : zLay V) (hQ : Qr V w) (hW : WF w) (hE : EqD w g f) (hg : g < nR w * nC w) : ∃ U, ev_X9_measures n V 207 (Int32.ofNat g) = rt () U ∧ FaR U (nR w * nC w) (farD f) ∧ FrF V U ∧ Qr U w := by
  have rc := hW.rc
  obtain ⟨g0, e0⟩ := r_v hL hQ (k := 0) (x := 0) (by decide) rfl
  obtain ⟨g1, e1⟩ := r_v hL hQ (k := 1) (x := 1) (by decide) rfl
  unfold ev_X9_measures eX9_measures_0
  rw [r71 hL, ob_1, if_pos g0, ob_1, if_pos g1, e0, e1, hW.re, hW.ce, of_mul]
  exact r_m16 (n := n) hn hW hE hg (nR w * nC w) n 0 V (by omega) (by omega) hL hQ (fun q hq => by omega)
theorem r_nx {V : VS} {w' : RW} {g c b : Nat} {f : Nat → Nat} (hn : 8 < n) (hW : WF w) (hE : EqD w g f) (hL : zLay V) (hQ : Qr V w') (hW' : WF w') (eg : ∀ k, k < 66 → w' k = w k) (hF : FaR V (nR w * nC w) (farD f)) (hc : c < nR w * nC w) (fc : f c < 1000000) (hX : ∀ s, s < nR w * nC w → f s + prc w s = f c → fre w' s = fre w s) : ∀ (k m d : Nat), d + k = 4 → k < m → nxF w f c k d = some b → elX9_next_9 n m V 207 (Int32.ofNat c) (Int32.ofNat d) (oi (nbr w c d)) = rt (Int32.ofNat b) V
  | 0, m, d, _, _, h => by cases h
  | k + 1, m + 1, d, e, hm, h => by
    have rc := hW.rc
    have eR : nR w' = nR w := by unfold nR; rw [eg 0 (by omega)]
    have eC : nC w' = nC w := by unfold nC; rw [eg 1 (by omega)]
    have fcB := (hE.2.1 c hc).2 fc
    have skip : nxF w f c k (d + 1) = some b → eX9_next_51 n (elX9_next_9 n m) V 207 (Int32.ofNat c) (Int32.ofNat d) = rt (Int32.ofNat b) V := by
      intro hk
      have kp : 0 < k := by
        rcases Nat.eq_zero_or_pos k with z | z
        · rw [z] at hk; cases hk
        · exact z
      have en : nbr w' c (d + 1) = nbr w c (d + 1) := by unfold nbr; rw [eR, eC]
      unfold eX9_next_51
      rw [p1_of, r_step hL hQ hW' (by rw [eR, eC]; exact hc) (by omega), bd_rt, en]
      exact r_nx hn hW hE hL hQ hW' eg hF hc fc hX k m (d + 1) (by omega) (by omega) hk
    show eX9_next_9 n (elX9_next_9 n m) V 207 _ _ (oi (nbr w c d)) = _
    unfold nxF at h
    unfold eX9_next_9
    cases hnb : nbr w c d with
    | none =>
      rw [hnb] at h
      rw [if_pos (show oi none < 0 by decide)]
      exact skip h
    | some s =>
      rw [hnb] at h
      have h : (if 0 < ent w s ∧ f s + ent w s = f c then some s else nxF w f c k (d + 1)) = some b := h
      have sN := nbr_in hW hc hnb
      have pl := prc_le w s
      have ep : prc w' s = prc w s := by unfold prc; rw [eg (2 + s) (by omega)]
      rw [if_neg (show ¬ oi (some s) < 0 from ofn_nn (by omega)), r717 hL, ob_1, m217 hL, show oi (some s) = Int32.ofNat s from rfl, if_pos (in_of (by omega) (by decide)), tn_of (by omega), hF s sN]
      by_cases g0 : f s < 1000000
      · have fsB := (hE.2.1 s sN).2 g0
        have e1 : farD f s = f s + 1 := if_pos g0
        have e2 : farD f c = f c + 1 := if_pos fc
        rw [e1, if_neg (fun e => by have := (of_inj (b := 0) (by omega) (by omega)).mp e; omega), r_isFree hn hL hQ hW' (by omega), bd_rt]
        by_cases g1 : fre w' s = true
        · rw [if_pos g1, if_neg (by decide), r717 hL, ob_1, m217 hL, if_pos (in_of (by omega) (by decide)), r_price hL hQ (by omega), bd_rt, r717 hL, ob_1, m217 hL, if_pos (in_of (by omega) (by decide)), tn_of (by omega), hF c hc, hF s sN, e1, e2, of_add, ep]
          by_cases g2 : f s + prc w s = f c
          · rw [if_pos (by congr 1; omega)]
            have fr : fre w s = true := by rw [← hX s sN g2]; exact g1
            have es := fre_ent fr
            rw [if_pos ⟨es.2, by omega⟩] at h
            cases h; rfl
          · rw [if_neg (fun e => by have := (of_inj (by omega) (by omega)).mp e; omega)]
            rw [if_neg (fun x => by have := (ent_fre x.1).2; omega)] at h
            exact skip h
        · rw [if_neg g1, if_pos rfl]
          rw [if_neg (fun x => by
            have es := ent_fre x.1
            exact g1 (by rw [hX s sN (by omega)]; exact es.1))] at h
          exact skip h
      · have e1 : farD f s = 0 := if_neg g0
        rw [e1, if_pos (show Int32.ofNat 0 = 0 from rfl)]
        rw [if_neg (fun x => by omega)] at h
        exact skip h
theorem r_next {V : VS} {w' : RW} {g c b : Nat} {f : Nat → Nat} (hn : 8 < n) (hW : WF w) (hE : EqD w g f) (hL : zLay V) (hQ : Qr V w') (hW' : WF w') (eg : ∀ k, k < 66 → w' k = w k) (hF : FaR V (nR w * nC w) (farD f)) (hc : c < nR w * nC w) (fc : f c < 1000000) (hX : ∀ s, s < nR w * nC w → f s + prc w s = f c → fre w' s = fre w s) (h : nx w f c = some b) : ev_X9_next n V 207 (Int32.ofNat c) = rt (Int32.ofNat b) V := by
  have eR : nR w' = nR w := by unfold nR; rw [eg 0 (by omega)]
  have eC : nC w' = nC w := by unfold nC; rw [eg 1 (by omega)]
  have en : nbr w' c 0 = nbr w c 0 := by unfold nbr; rw [eR, eC]
  unfold ev_X9_next eX9_next_0
  have := r_step (n := n) hL hQ hW' (c := c) (d := 0) (by rw [eR, eC]; exact hc) (by omega)
  rw [show (0 : Int32) = Int32.ofNat 0 from rfl, this, bd_rt, en]
  exact r_nx (n := n) hn hW hE hL hQ hW' eg hF hc fc hX 4 n 0 (by omega) (by omega) h
end
