/-! the reference's rows of the past -/
section
variable {n : Nat} {w w0 : RW} {kd ar : Nat → Nat} {N hc : Nat}
theorem r76 {V : VS} (h : zLay V) : vR V 207 6 = some 213 := zR h (by decide +kernel)
theorem r77 {V : VS} (h : zLay V) : vR V 207 7 = some 214 := zR h (by decide +kernel)
theorem m213 {V : VS} (h : zLay V) : vN V 213 = 2320 := zN h (by decide +kernel)
theorem m214 {V : VS} (h : zLay V) : vN V 214 = 6000 := zN h (by decide +kernel)
theorem p290 {h c : Nat} : Int32.ofNat h * 290 + Int32.ofNat c = Int32.ofNat (h * 290 + c) := by
  rw [show Int32.ofNat h * 290 = Int32.ofNat (h * 290) from of_mul (b := 290), of_add]
theorem r_kp52 {h : Nat} (hh : h < 8) : ∀ (d m c : Nat) (V : VS), c + d = 290 → d < m → zLay V → vI V 207 9 = Int32.ofNat h → ∃ U, elX9_keeps_52 n m V 207 (Int32.ofNat c) = rt () U ∧ zLay U ∧ vI U 207 9 = Int32.ofNat (h + 1) ∧ (∀ k, k ≠ 9 → vI U 207 k = vI V 207 k) ∧ (∀ i, i ≠ 207 → i ≠ 213 → vC U i = vC V i) ∧ ∀ k, vI U 213 k = if h * 290 + c ≤ k ∧ k < h * 290 + 290 then vI V 208 (k - h * 290) else vI V 213 k
  | 0, m + 1, c, V, e, _, hL, e9 => by
    have : c = 290 := by omega
    subst this
    show ∃ U, eX9_keeps_52 n (elX9_keeps_52 n m) V 207 (Int32.ofNat 290) = _ ∧ _
    unfold eX9_keeps_52
    rw [if_pos (by decide), e9, p1_of, sq_eq]
    refine ⟨_, rfl, zLay_wI hL, ?_, fun k hk => ?_, fun i h1 _ => vC_wI h1, fun k => ?_⟩
    · rw [vI_wI (zLen hL (by omega)), zup_eq]
    · rw [vI_wI (zLen hL (by omega)), zup_ne hk]
    · rw [vI_wI_ne (by omega), if_neg (by omega)]
  | d + 1, m + 1, c, V, e, hm, hL, e9 => by
    show ∃ U, eX9_keeps_52 n (elX9_keeps_52 n m) V 207 (Int32.ofNat c) = _ ∧ _
    unfold eX9_keeps_52
    rw [if_neg (fun e => by have := (of_le (a := 290) (by omega) (by omega)).mp e; omega), r76 hL, ob_1, r71 hL, ob_1, m208 hL, if_pos (in_of (by omega) (by decide)), e9, p290, m213 hL, if_pos (in_of (by omega) (by decide)), tn_of (by omega), tn_of (by omega), sq_eq, p1_of]
    have f1 : ∀ i, i ≠ 213 → vC (wI V 213 (h * 290 + c) (vI V 208 c)) i = vC V i := fun i hi => vC_wI hi
    have l1 : zLay (wI V 213 (h * 290 + c) (vI V 208 c)) := zLay_wI hL
    have x1 : vI (wI V 213 (h * 290 + c) (vI V 208 c)) 213 = zup (vI V 213) (h * 290 + c) (vI V 208 c) := vI_wI (zLen hL (by omega))
    generalize wI V 213 (h * 290 + c) (vI V 208 c) = V1 at f1 l1 x1 ⊢
    obtain ⟨U, eU, lU, a, b, f, k⟩ := r_kp52 hh d m (c + 1) V1 (by omega) (by omega) l1 (by rw [vI_C (f1 207 (by omega))]; exact e9)
    refine ⟨U, eU, lU, a, fun j hj => (b j hj).trans (by rw [vI_C (f1 207 (by omega))]), fun i h1 h2 => (f i h1 h2).trans (f1 i h2), fun j => ?_⟩
    rw [k j, x1, vI_C (f1 208 (by omega))]
    by_cases g : j = h * 290 + c
    · rw [if_neg (by omega), g, zup_eq, if_pos (by omega)]; congr 1; omega
    · rw [zup_ne g]
      by_cases q : h * 290 + (c + 1) ≤ j ∧ j < h * 290 + 290
      · rw [if_pos q, if_pos (by omega)]
      · rw [if_neg q, if_neg (by omega)]
theorem r_kp11 : ∀ (d m c : Nat) (V : VS), c + d = 2030 → d < m → zLay V → ∃ U, elX9_keeps_11 n m V 207 (Int32.ofNat c) = elX9_keeps_52 n n (wI U 207 9 (vI U 207 9 - 1)) 207 (Int32.ofNat 0) ∧ zLay U ∧ (∀ i, i ≠ 213 → vC U i = vC V i) ∧ ∀ k, vI U 213 k = if c ≤ k ∧ k < 2030 then vI V 213 (k + 290) else vI V 213 k
  | 0, m + 1, c, V, e, _, hL => by
    have : c = 2030 := by omega
    subst this
    show ∃ U, eX9_keeps_11 n (elX9_keeps_11 n m) V 207 (Int32.ofNat 2030) = _ ∧ _
    unfold eX9_keeps_11
    rw [if_pos (by decide), sq_eq]
    exact ⟨V, rfl, hL, fun _ _ => rfl, fun k => by rw [if_neg (by omega)]⟩
  | d + 1, m + 1, c, V, e, hm, hL => by
    show ∃ U, eX9_keeps_11 n (elX9_keeps_11 n m) V 207 (Int32.ofNat c) = _ ∧ _
    unfold eX9_keeps_11
    rw [if_neg (fun e => by have := (of_le (a := 2030) (by omega) (by omega)).mp e; omega), r76 hL, ob_1, ob_1, show Int32.ofNat c + 290 = Int32.ofNat (c + 290) from of_add (b := 290), m213 hL, if_pos (in_of (by omega) (by decide)), if_pos (in_of (by omega) (by decide)), tn_of (by omega), tn_of (by omega), sq_eq, p1_of]
    have f1 : ∀ i, i ≠ 213 → vC (wI V 213 c (vI V 213 (c + 290))) i = vC V i := fun i hi => vC_wI hi
    have l1 : zLay (wI V 213 c (vI V 213 (c + 290))) := zLay_wI hL
    have x1 : vI (wI V 213 c (vI V 213 (c + 290))) 213 = zup (vI V 213) c (vI V 213 (c + 290)) := vI_wI (zLen hL (by omega))
    generalize wI V 213 c (vI V 213 (c + 290)) = V1 at f1 l1 x1 ⊢
    obtain ⟨U, eU, lU, f, k⟩ := r_kp11 d m (c + 1) V1 (by omega) (by omega) l1
    refine ⟨U, eU, lU, fun i h1 => (f i h1).trans (f1 i h1), fun j => ?_⟩
    rw [k j, x1]
    by_cases g : j = c
    · rw [if_neg (by omega), g, zup_eq, if_pos (by omega)]
    · by_cases q : c + 1 ≤ j ∧ j < 2030
      · rw [if_pos q, if_pos (by omega), zup_ne (by omega)]
      · rw [if_neg q, if_neg (by omega), zup_ne g]
theorem r_keeps {V : VS} (hn : 2100 < n) (hL : zLay V) (hQ : ∀ k, k < 290 → vI V 208 k = Run w0 kd ar N k) (hH : HrV V w0 kd ar N hc) (h8 : hc ≤ 8) (hN : hc ≤ N) : ∃ U, ev_X9_keeps n V 207 = rt () U ∧ zLay U ∧ HrV U w0 kd ar (N + 1) (min (hc + 1) 8) ∧ (∀ k, k ≠ 9 → vI U 207 k = vI V 207 k) ∧ ∀ i, i ≠ 207 → i ≠ 213 → vC U i = vC V i := by
  unfold ev_X9_keeps eX9_keeps_0
  rw [hH.1]
  by_cases g : hc = 8
  · subst g
    rw [if_pos (by decide)]
    obtain ⟨T, eT, lT, fT, kT⟩ := r_kp11 (n := n) 2030 n 0 V (by omega) (by omega) hL
    rw [show (0 : Int32) = Int32.ofNat 0 from rfl, eT]
    have e9 : vI T 207 9 - 1 = Int32.ofNat 7 := by rw [vI_C (fT 207 (by omega)), hH.1]; decide
    rw [e9]
    have f1 : ∀ i, i ≠ 207 → vC (wI T 207 9 (Int32.ofNat 7)) i = vC T i := fun i hi => vC_wI hi
    have l1 : zLay (wI T 207 9 (Int32.ofNat 7)) := zLay_wI lT
    have x1 : vI (wI T 207 9 (Int32.ofNat 7)) 207 = zup (vI T 207) 9 (Int32.ofNat 7) := vI_wI (zLen lT (by omega))
    generalize wI T 207 9 (Int32.ofNat 7) = T1 at f1 l1 x1 ⊢
    obtain ⟨U, eU, lU, a, b, f, k⟩ := r_kp52 (n := n) (h := 7) (by omega) 290 n 0 T1 (by omega) (by omega) l1 (by rw [x1, zup_eq])
    refine ⟨U, eU, lU, ⟨by rw [a]; rfl, fun j hj k' hk' => ?_⟩, fun j hj => ?_, fun i h1 h2 => by rw [f i h1 h2, f1 i h1, fT i h2]⟩
    · have hj8 : j < 8 := by omega
      rw [k, vI_C (f1 208 (by omega)), vI_C (fT 208 (by omega)), vI_C (f1 213 (by omega)), kT]
      rw [show min (8 + 1) 8 - 1 - j = 7 - j from by omega]
      by_cases j0 : j = 0
      · subst j0
        rw [if_pos (by omega), show 290 * (7 - 0) + k' - 7 * 290 = k' from by omega]
        exact hQ k' hk'
      · rw [if_neg (by omega), if_pos (by omega)]
        have := hH.2 (j - 1) (by omega) k' hk'
        rw [show N - 1 - (j - 1) = N + 1 - 1 - j from by omega] at this
        rw [← this]; congr 1; omega
    · rw [b j hj, x1, zup_ne hj, vI_C (fT 207 (by omega))]
  · rw [if_neg (fun e => by exact g ((of_inj (b := 8) (by omega) (by omega)).mp e)), show (0 : Int32) = Int32.ofNat 0 from rfl]
    obtain ⟨U, eU, lU, a, b, f, k⟩ := r_kp52 (n := n) (h := hc) (by omega) 290 n 0 V (by omega) (by omega) hL hH.1
    rw [show min (hc + 1) 8 = hc + 1 from by omega]
    refine ⟨U, eU, lU, ⟨a, fun j hj k' hk' => ?_⟩, b, f⟩
    rw [k]
    by_cases j0 : j = 0
    · subst j0
      rw [if_pos (by omega), show 290 * (hc + 1 - 1 - 0) + k' - hc * 290 = k' from by omega]
      exact hQ k' hk'
    · rw [if_neg (by omega)]
      have := hH.2 (j - 1) (by omega) k' hk'
      rw [show N - 1 - (j - 1) = N + 1 - 1 - j from by omega] at this
      rw [← this]; congr 1; omega
/-- a command is kept and carried out -/
def FrK (V U : VS) : Prop := zLay U ∧ (∀ i, i ≠ 207 → i ≠ 208 → i ≠ 213 → i ≠ 214 → i ≠ 217 → vC U i = vC V i) ∧ ∀ k, k ≠ 16 → k ≠ 9 → vI U 207 k = vI V 207 k
theorem r_carries {V : VS} {kind x t b : Nat} (hn : 2100 < n) (hL : zLay V) (hS : SrV V 208 209 214 N w w0 kd ar) (hH : HrV V w0 kd ar N hc) (h8 : hc ≤ 8) (hN : hc ≤ N) (hM : N < 512) (ew : w = Run w0 kd ar N) (e9 : w 289 = Int32.ofNat N) (hF : Fgt w t) (hl : LG w (ord w t) kind x) (hr : ¬ w 156 ≤ 0) (hb : Nb (w 156) b) (hbd : b + 16 < 2000000) : ∃ U, ev_X9_carries n V 207 (Int32.ofNat kind) (Int32.ofNat x) = rt (gDo w kind x).2 U ∧ SrV U 208 209 214 (N + 1) (gDo w kind x).1 w0 (nup kd N kind) (nup ar N x) ∧ HrV U w0 kd ar (N + 1) (min (hc + 1) 8) ∧ FrK V U := by
  unfold ev_X9_carries eX9_carries_0
  obtain ⟨T, eT, lT, hT, kT, fT⟩ := r_keeps (n := n) hn hL (fun k hk => by rw [← ew]; exact hS.1 k hk) hH h8 hN
  have qT : Qr T w := fun k hk => by rw [vI_C (fT 208 (by omega) (by omega))]; exact hS.1 k hk
  obtain ⟨g9, y9⟩ := r_v lT qT (k := 289) (x := 289) (by decide) rfl
  have i1 : (2 : Int32) * Int32.ofNat N = Int32.ofNat (2 * N) := of_mul (a := 2)
  rw [eT, bd_rt, r71 lT, ob_1, if_pos g9, r77 lT, ob_1, y9, e9, i1, m214 lT, if_pos (in_of (by omega) (by decide)), tn_of (by omega), sq_eq, p1_of]
  have f1 : ∀ i, i ≠ 214 → vC (wI T 214 (2 * N) (Int32.ofNat kind)) i = vC T i := fun i hi => vC_wI hi
  have l1 : zLay (wI T 214 (2 * N) (Int32.ofNat kind)) := zLay_wI lT
  have x1 : vI (wI T 214 (2 * N) (Int32.ofNat kind)) 214 = zup (vI T 214) (2 * N) (Int32.ofNat kind) := vI_wI (zLen lT (by omega))
  generalize wI T 214 (2 * N) (Int32.ofNat kind) = T1 at f1 l1 x1 ⊢
  rw [r77 l1, ob_1, m214 l1, if_pos (in_of (by omega) (by decide)), tn_of (by omega), sq_eq]
  have f2 : ∀ i, i ≠ 214 → vC (wI T1 214 (2 * N + 1) (Int32.ofNat x)) i = vC T1 i := fun i hi => vC_wI hi
  have l2 : zLay (wI T1 214 (2 * N + 1) (Int32.ofNat x)) := zLay_wI l1
  have x2 : vI (wI T1 214 (2 * N + 1) (Int32.ofNat x)) 214 = zup (vI T1 214) (2 * N + 1) (Int32.ofNat x) := vI_wI (zLen l1 (by omega))
  generalize wI T1 214 (2 * N + 1) (Int32.ofNat x) = T2 at f2 l2 x2 ⊢
  have q2 : Qr T2 w := fun k hk => by rw [vI_C (f2 208 (by omega)), vI_C (f1 208 (by omega))]; exact qT k hk
  obtain ⟨U, eU, qU, fU⟩ := r_does (n := n) (kind := kind) (x := x) (by omega) l2 q2 hF hl hr hb hbd
  rw [eU, bd_rt]
  have c214 : vI U 214 = zup (zup (vI V 214) (2 * N) (Int32.ofNat kind)) (2 * N + 1) (Int32.ofNat x) := by
    rw [vI_C (fU.2.1 214 (by omega) (by omega) (by omega)), x2, x1, vI_C (fT 214 (by omega) (by omega))]
  have k207 : ∀ k, k ≠ 16 → vI U 207 k = vI T 207 k := fun k hk => by rw [fU.2.2 k hk, vI_C (f2 207 (by omega)), vI_C (f1 207 (by omega))]
  have fall : ∀ i, i ≠ 207 → i ≠ 208 → i ≠ 213 → i ≠ 214 → i ≠ 217 → vC U i = vC V i := fun i h1 h2 h3 h4 h5 => by rw [fU.2.1 i h1 h2 h5, f2 i h4, f1 i h4, fT i h1 h3]
  refine ⟨U, rfl, ⟨qU, fun _ j hj => ?_, fun j hj => ?_⟩, ?_, fU.1, fall, fun k h1 h2 => (k207 k h1).trans (kT k h2)⟩
  · rw [vI_C (fall 209 (by omega) (by omega) (by omega) (by omega) (by omega))]; exact hS.2.1 hr j hj
  · rw [c214]
    unfold nup
    by_cases g : j = N
    · subst g
      rw [zup_ne (by omega), zup_eq, zup_eq, if_pos rfl, if_pos rfl]; exact ⟨rfl, rfl⟩
    · rw [zup_ne (by omega), zup_ne (by omega), zup_ne (by omega), zup_ne (by omega), if_neg g, if_neg g]
      exact hS.2.2 j (by omega)
  · exact hT.fr (k207 9 (by omega)) (by rw [fU.2.1 213 (by omega) (by omega) (by omega), f2 213 (by omega), f1 213 (by omega)])
theorem r_un {h : Nat} (hh : h < 8) : ∀ (d m c : Nat) (V : VS), c + d = 290 → d < m → zLay V → vI V 207 9 = Int32.ofNat h → ∃ U, elX9_undo_38 n m V 207 (Int32.ofNat c) = rt (Int32.ofNat h) U ∧ zLay U ∧ (∀ i, i ≠ 208 → vC U i = vC V i) ∧ ∀ k, vI U 208 k = if c ≤ k ∧ k < 290 then vI V 213 (h * 290 + k) else vI V 208 k
  | 0, m + 1, c, V, e, _, hL, e9 => by
    have : c = 290 := by omega
    subst this
    show ∃ U, eX9_undo_38 n (elX9_undo_38 n m) V 207 (Int32.ofNat 290) = _ ∧ _
    unfold eX9_undo_38
    rw [if_pos (by decide), e9]
    exact ⟨V, rfl, hL, fun _ _ => rfl, fun k => by rw [if_neg (by omega)]⟩
  | d + 1, m + 1, c, V, e, hm, hL, e9 => by
    show ∃ U, eX9_undo_38 n (elX9_undo_38 n m) V 207 (Int32.ofNat c) = _ ∧ _
    unfold eX9_undo_38
    rw [if_neg (fun e => by have := (of_le (a := 290) (by omega) (by omega)).mp e; omega), r71 hL, ob_1, r76 hL, ob_1, e9, p290, m213 hL, if_pos (in_of (by omega) (by decide)), m208 hL, if_pos (in_of (by omega) (by decide)), tn_of (by omega), tn_of (by omega), sq_eq, p1_of]
    have f1 : ∀ i, i ≠ 208 → vC (wI V 208 c (vI V 213 (h * 290 + c))) i = vC V i := fun i hi => vC_wI hi
    have l1 : zLay (wI V 208 c (vI V 213 (h * 290 + c))) := zLay_wI hL
    have x1 : vI (wI V 208 c (vI V 213 (h * 290 + c))) 208 = zup (vI V 208) c (vI V 213 (h * 290 + c)) := vI_wI (zLen hL (by omega))
    generalize wI V 208 c (vI V 213 (h * 290 + c)) = V1 at f1 l1 x1 ⊢
    obtain ⟨U, eU, lU, f, k⟩ := r_un hh d m (c + 1) V1 (by omega) (by omega) l1 (by rw [vI_C (f1 207 (by omega))]; exact e9)
    refine ⟨U, eU, lU, fun i h1 => (f i h1).trans (f1 i h1), fun j => ?_⟩
    rw [k j, x1, vI_C (f1 213 (by omega))]
    by_cases g : j = c
    · rw [if_neg (by omega), g, zup_eq, if_pos (by omega)]
    · rw [zup_ne g]
      by_cases q : c + 1 ≤ j ∧ j < 290
      · rw [if_pos q, if_pos (by omega)]
      · rw [if_neg q, if_neg (by omega)]
end
/-! the whole state -/
def okF (x : UInt32) : Prop := ∃ h k, h ≤ 18 ∧ k < 4 ∧ x = FP.fdiv (FP.i2f (Int32.ofNat h)) (FP.i2f (tbI 0 (Int32.ofNat k)))
def TxV (V : VS) : Prop := (∃ l, l ≤ 71 ∧ vI V 0 1 = Int32.ofNat l ∧ vI V 207 12 = Int32.ofNat l ∧ ∀ k, k < l → vI V 1 k = vI V 216 k) ∧ vI V 0 2 = vI V 207 13
def RwV (V : VS) : Prop := ∀ r, r < 2 → ∃ so L, so ≤ 2 ∧ L ≤ 8 ∧ vI V 219 r = Int32.ofNat L ∧ vI V 220 r = Int32.ofNat so ∧ vI V (201 + 3 * r) 2 = (if so = 0 then 0 else 1) ∧ (so ≠ 0 → vI V (201 + 3 * r) 3 = (if so = 1 then 1 else 0)) ∧ vI V (201 + 3 * r) 4 = Int32.ofNat L ∧ ∀ i, i < 8 → vI V (202 + 3 * r) i = vI V 218 (8 * r + i) ∧ Nb (vI V 218 (8 * r + i)) 18 ∧ vF V (203 + 3 * r) i = vF V 221 (8 * r + i) ∧ okF (vF V 221 (8 * r + i))
def KpV (i : Nat) (V : VS) : Prop := (vI V 0 8 = 0 ∧ vI V 207 10 = 0) ∨ (vI V 0 8 = 1 ∧ vI V 207 10 = 1 ∧ ∃ N w w0 kd ar, N ≤ i ∧ Ph N w w0 kd ar ∧ ScV V 160 177 N w kd ar ∧ SrV V 210 211 215 N w w0 kd ar)
/-- the fight of now -/
def FtV (i : Nat) (V : VS) (N hc q : Nat) (w w0 : RW) (kd ar : Nat → Nat) : Prop := N ≤ i ∧ hc ≤ 8 ∧ hc ≤ N ∧ q < 8 ∧ Ph N w w0 kd ar ∧ ScV V 2 19 N w kd ar ∧ SrV V 208 209 214 N w w0 kd ar ∧ HcV V w0 kd ar N hc q ∧ HrV V w0 kd ar N hc
def Inv (i : Nat) (V : VS) : Prop := i ≤ 512 ∧ zLay V ∧ NumV V ∧ TxV V ∧ RwV V ∧ KpV i V ∧ ∃ N hc q w w0 kd ar, FtV i V N hc q w w0 kd ar
/-- what a question leaves: all but paths, distances, the replay's places and what is thrown -/
def FrQ (V U : VS) : Prop := zLay U ∧ NumV U ∧ (∀ i, ¬ (180 ≤ i ∧ i < 201) → i ≠ 207 → i ≠ 212 → i ≠ 217 → i ≠ 222 → i ≠ 223 → vC U i = vC V i) ∧ ∀ k, k = 9 ∨ k = 10 ∨ k = 12 ∨ k = 13 → vI U 207 k = vI V 207 k
theorem FrQ.rf {V : VS} (h : zLay V) (g : NumV V) : FrQ V V := ⟨h, g, fun _ _ _ _ _ _ _ => rfl, fun _ _ => rfl⟩
theorem FrQ.tr {V U T : VS} (h : FrQ V U) (g : FrQ U T) : FrQ V T := ⟨g.1, g.2.1, fun i a b c d e f => (g.2.2.1 i a b c d e f).trans (h.2.2.1 i a b c d e f), fun k hk => (g.2.2.2 k hk).trans (h.2.2.2 k hk)⟩
theorem zB_hi : ∀ a ∈ zB, ∀ u, u < 8 → a + 9 + u < 197 := by decide +kernel
theorem FrQ.t {V U : VS} {x : Int32} (h : FrQ V U) : FrQ V (wI U 207 0 x) := by
  have l := zLen h.1 (i := 207) (by omega)
  refine ⟨zLay_wI h.1, h.2.1.fr (fun a ha u hu => by have := zB_hi a ha u hu; rw [vI_wI_ne (by omega)]), fun i a b c d e f => (vC_wI b).trans (h.2.2.1 i a b c d e f), fun k hk => ?_⟩
  rw [vI_wI l, zup_ne (by omega)]; exact h.2.2.2 k hk
theorem FrQ.j {V U : VS} {x : Int64} (h : FrQ V U) : FrQ V (wJ U 222 0 x) := by
  refine ⟨zLay_wJ h.1, h.2.1.fr (fun a ha u hu => by have := zB_hi a ha u hu; rw [vI_C (vC_wJ (by omega))]), fun i a b c d e f => (vC_wJ e).trans (h.2.2.1 i a b c d e f), fun k hk => ?_⟩
  rw [vI_C (vC_wJ (by omega))]; exact h.2.2.2 k hk
theorem FrQ.d {V U : VS} {x : UInt64} (h : FrQ V U) : FrQ V (wD U 223 0 x) := by
  refine ⟨zLay_wD h.1, h.2.1.fr (fun a ha u hu => by have := zB_hi a ha u hu; rw [vI_C (vC_wD (by omega))]), fun i a b c d e f => (vC_wD f).trans (h.2.2.1 i a b c d e f), fun k hk => ?_⟩
  rw [vI_C (vC_wD (by omega))]; exact h.2.2.2 k hk
theorem FrA.q {V U : VS} (h : FrA V U) (g : NumV V) : FrQ V U := ⟨h.1, g.fr (fun a ha u hu => by have := zB_hi a ha u hu; rw [vI_C (h.2 _ (by omega))]), fun i a _ _ _ _ _ => h.2 i (by omega), fun k _ => by rw [vI_C (h.2 207 (by omega))]⟩
theorem FrF.q {V U : VS} (h : FrF V U) (g : NumV V) : FrQ V U := ⟨h.1, g.fr (fun a ha u hu => by have := zB_hi a ha u hu; rw [vI_C (h.2 _ (by omega))]), fun i _ _ _ c _ _ => h.2 i c, fun k _ => by rw [vI_C (h.2 207 (by omega))]⟩
section
variable {i : Nat} {V U : VS}
theorem TxV.fr (h : TxV V) (f : ∀ k, k = 1 ∨ k = 2 → vI U 0 k = vI V 0 k) (g : ∀ k, k = 12 ∨ k = 13 → vI U 207 k = vI V 207 k) (e1 : vC U 1 = vC V 1) (e2 : vC U 216 = vC V 216) : TxV U := by
  obtain ⟨⟨l, a, b, c, d⟩, e⟩ := h
  exact ⟨⟨l, a, by rw [f 1 (.inl rfl)]; exact b, by rw [g 12 (.inl rfl)]; exact c, fun k hk => by rw [vI_C e1, vI_C e2]; exact d k hk⟩, by rw [f 2 (.inr rfl), g 13 (.inr rfl)]; exact e⟩
theorem RwV.fr (h : RwV V) (f : ∀ j, (201 ≤ j ∧ j < 207) ∨ (218 ≤ j ∧ j < 222) → vC U j = vC V j) : RwV U := fun r hr => by
  obtain ⟨so, L, a1, a2, a3, a4, a5, a6, a7, a8⟩ := h r hr
  refine ⟨so, L, a1, a2, by rw [vI_C (f 219 (by omega))]; exact a3, by rw [vI_C (f 220 (by omega))]; exact a4, by rw [vI_C (f (201 + 3 * r) (by omega))]; exact a5, fun x => by rw [vI_C (f (201 + 3 * r) (by omega))]; exact a6 x, by rw [vI_C (f (201 + 3 * r) (by omega))]; exact a7, fun j hj => ?_⟩
  rw [vI_C (f (202 + 3 * r) (by omega)), vI_C (f 218 (by omega)), vF_C (f (203 + 3 * r) (by omega)), vF_C (f 221 (by omega))]
  exact a8 j hj
theorem KpV.fr {j : Nat} (h : KpV i V) (hj : i ≤ j) (f1 : vI U 0 8 = vI V 0 8) (f2 : vI U 207 10 = vI V 207 10) (f : ∀ k, (160 ≤ k ∧ k < 180) ∨ k = 210 ∨ k = 211 ∨ k = 215 → vC U k = vC V k) : KpV j U := by
  rcases h with ⟨a, b⟩ | ⟨a, b, N, w, w0, kd, ar, c, d, e, g⟩
  · exact .inl ⟨by rw [f1]; exact a, by rw [f2]; exact b⟩
  · exact .inr ⟨by rw [f1]; exact a, by rw [f2]; exact b, N, w, w0, kd, ar, by omega, d, e.fr (fun k hk => f _ (by omega)) (fun k hk => f _ (by omega)), g.fr (f 210 (by omega)) (f 211 (by omega)) (f 215 (by omega))⟩
theorem FtV.fr {j N hc q : Nat} {w w0 : RW} {kd ar : Nat → Nat} (h : FtV i V N hc q w w0 kd ar) (hj : i ≤ j) (f : ∀ k, (2 ≤ k ∧ k < 160) ∨ k = 208 ∨ k = 209 ∨ k = 213 ∨ k = 214 → vC U k = vC V k) (f9 : vI U 207 9 = vI V 207 9) : FtV j U N hc q w w0 kd ar := by
  obtain ⟨a, b, c, d, e, g, r, s, t⟩ := h
  exact ⟨by omega, b, c, d, e, g.fr (fun k hk => f _ (by omega)) (fun k hk => f _ (by omega)), r.fr (f _ (by omega)) (f _ (by omega)) (f _ (by omega)), s.fr d b (fun k h1 h2 => f _ (by omega)), t.fr f9 (f _ (by omega))⟩
theorem FrQ.ft {N hc q : Nat} {w w0 : RW} {kd ar : Nat → Nat} (f : FrQ V U) (h : FtV i V N hc q w w0 kd ar) : FtV i U N hc q w w0 kd ar := h.fr (Nat.le_refl _) (fun k hk => f.2.2.1 k (by omega) (by omega) (by omega) (by omega) (by omega) (by omega)) (f.2.2.2 9 (by omega))
theorem FrQ.inv {j : Nat} (f : FrQ V U) (h : Inv i V) (hj : i ≤ j) (h5 : j ≤ 512) : Inv j U := by
  obtain ⟨_, hL, hM, hT, hR, hK, N, hc, q, w, w0, kd, ar, hF⟩ := h
  have g : ∀ k, k < 180 ∨ (201 ≤ k ∧ k < 207) ∨ k = 208 ∨ k = 209 ∨ k = 210 ∨ k = 211 ∨ k = 213 ∨ k = 214 ∨ k = 215 ∨ k = 216 ∨ (218 ≤ k ∧ k < 222) → vC U k = vC V k := fun k hk => f.2.2.1 k (by omega) (by omega) (by omega) (by omega) (by omega) (by omega)
  exact ⟨h5, f.1, f.2.1, hT.fr (fun k _ => by rw [vI_C (g 0 (by omega))]) (fun k hk => f.2.2.2 k (by omega)) (g 1 (by omega)) (g 216 (by omega)), hR.fr (fun k hk => g k (by omega)), hK.fr hj (by rw [vI_C (g 0 (by omega))]) (f.2.2.2 10 (by omega)) (fun k hk => g k (by omega)), N, hc, q, w, w0, kd, ar, hF.fr hj (fun k hk => g k (by omega)) (f.2.2.2 9 (by omega))⟩
theorem FtV.W {N hc q : Nat} {w w0 : RW} {kd ar : Nat → Nat} (h : FtV i V N hc q w w0 kd ar) (h5 : i ≤ 512) : WF w := h.2.2.2.2.1.W (by have := h.1; omega)
theorem FtV.P {N hc q : Nat} {w w0 : RW} {kd ar : Nat → Nat} (h : FtV i V N hc q w w0 kd ar) : Ph N w w0 kd ar := h.2.2.2.2.1
theorem FtV.C {N hc q : Nat} {w w0 : RW} {kd ar : Nat → Nat} (h : FtV i V N hc q w w0 kd ar) : Rp 2 V w := h.2.2.2.2.2.1.1
theorem FtV.Q {N hc q : Nat} {w w0 : RW} {kd ar : Nat → Nat} (h : FtV i V N hc q w w0 kd ar) : Qr V w := h.2.2.2.2.2.2.1.1
end
/-- what a call of the two answers -/
def PairI (i : Nat) (C : Rs Int32) (R : VS → Rs Int32) (g : Int32 → Int64) : Prop := ∃ c T r U, C = rt c T ∧ R T = rt r U ∧ Inv (i + 1) U ∧ vI U 207 0 = c ∧ (c = 0 → vJ U 222 0 = g r)
def PairD (i : Nat) (C : Rs Int32) (R : VS → Rs UInt64) : Prop := ∃ c T r U, C = rt c T ∧ R T = rt r U ∧ Inv (i + 1) U ∧ vI U 207 0 = c ∧ (c = 0 → vD U 223 0 = r)
def PairV (i : Nat) (C : Rs Int32) (R : VS → Rs Int32) : Prop := ∃ c T U, C = rt c T ∧ R T = rt c U ∧ Inv (i + 1) U
def gI (x : Int32) : Int64 := x.toInt64
def gB (x : Int32) : Int64 := if x = 0 then 0 else 1
