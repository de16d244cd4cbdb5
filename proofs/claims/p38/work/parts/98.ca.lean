/-! commands: they are kept, and carried out -/
section
variable {i n N hc q : Nat} {V T : VS} {w w0 : RW} {kd ar : Nat → Nat}
theorem Run_n {k x M : Nat} (h : M ≤ N) : Run w0 (nup kd N k) (nup ar N x) M = Run w0 kd ar M := Run_c M (fun j hj => ⟨if_neg (by omega), if_neg (by omega)⟩)
theorem c_rem {kind x : Nat} (hn : 8 < n) (hL : zLay V) (hM : NumV V) (hW : WF w) (hS : ScV V 2 19 N w kd ar) (hH : HcV V w0 kd ar N hc q) (q8 : q < 8) (h8 : hc ≤ 8) (hN : hc ≤ N) (h5 : N < 512) (ew : w = Run w0 kd ar N) : ∃ T, ev_X8_remember n V 0 (Int32.ofNat kind) (Int32.ofNat x) = rt () T ∧ zLay T ∧ NumV T ∧ ScV T 2 19 (N + 1) w (nup kd N kind) (nup ar N x) ∧ HcV T w0 (nup kd N kind) (nup ar N x) (N + 1) (min (hc + 1) 8) ((q + 1) % 8) ∧ ∀ i, ¬ (19 ≤ i ∧ i < 160) → vC T i = vC V i := by
  unfold ev_X8_remember eX8_remember_0
  obtain ⟨U, eU, hU, lU, mU, fU⟩ := c_save (n := n) hn hL hM hW hS.1 hH q8 h8 hN ew
  rw [r05 hL, ob_1, r03 hL, ob_1, eU, bd_rt, r04 lU, ob_1]
  obtain ⟨T, eT, a, b, lT, fT⟩ := c_add (n := n) (kd := kd) (ar := ar) (kind := kind) (x := x) lU (by rw [vI_C (fU 19 (by omega))]; exact hS.2.1) h5 (fun j hj => by
    have := hS.2.2 j hj
    rw [vI_C (fU 20 (by omega)), vI_C (fU 21 (by omega))]; exact this)
  rw [eT, bd_rt]
  have q9 : (q + 1) % 8 < 8 := Nat.mod_lt _ (by omega)
  refine ⟨T, rfl, lT, mU.fr (fun a ha u hu => ?_), ⟨(hS.1.fr (fun i hi => fU _ (by omega))).fr (fun i hi => fT _ (by omega)), a, b⟩, ?_, fun i hi => by rw [fT _ (by omega), fU _ (by omega)]⟩
  · have z1 := zB_22 a ha u hu
    have z2 := zB_le a ha
    rw [vI_C (fT _ (by rcases z1.2 with e | e <;> omega))]
  · have h1 := hU.fr (U := T) q9 (by omega) (fun i h1 h2 => fT _ (by omega))
    refine ⟨h1.1, h1.2.1, fun j hj => ?_⟩
    rw [Run_n (by omega)]; exact h1.2.2 j hj
theorem nbz {x : Int32} {b : Nat} (h : Nb x b) (hb : b < 1000) : (x = 0 ∧ ¬ 1 ≤ x ∧ x ≤ 0) ∨ (x ≠ 0 ∧ 1 ≤ x ∧ ¬ x ≤ 0) := by
  have e := h.eq; have l := h.le
  generalize x.toNatClampNeg = k at e l
  subst e
  by_cases z : k = 0
  · subst z; exact .inl ⟨rfl, by decide, by decide⟩
  · refine .inr ⟨fun e => by exact z ((of_inj (b := 0) (by omega) (by omega)).mp e), by exact (of_le (a := 1) (by omega) (by omega)).mpr (by omega), fun e => by have := (of_le (b := 0) (by omega) (by omega)).mp e; omega⟩
theorem p_cmd {kind x t : Nat} {X : Rs Int32} {A : VS → Rs Int32} {R : VS → Rs Int32} {f : String → VS → Rs Int32} {V1 : VS} (hn : 2100 < n) (hI : Inv i V) (hi : i < 512) (hF : FtV i V N hc q w w0 kd ar) (hS : Fgt w t) (hl : LG w (ord w t) kind x) (hr : ¬ w 156 ≤ 0) (f1 : FrQ V V1) (eX : X = bd (ev_X8_remember n V1 0 (Int32.ofNat kind) (Int32.ofNat x)) (fun _ V2 => A V2) th) (eA : ∀ T, zLay T → Rp 2 T w → ∃ U, A T = rt (gDo w kind x).2 U ∧ Rp 2 U (gDo w kind x).1 ∧ FrW 2 T U) (eR : ∀ T, zLay T → Qr T w → ∃ S, R T = bd (ev_X9_carries n S 207 (Int32.ofNat kind) (Int32.ofNat x)) (fun r V7 => rt r V7) th ∧ FrX T S ∧ vI S 207 0 = 0) : PairI i (bd X (fun r2 V1 => if gvp_in 0 (vN V1 222) = true then sq (wJ V1 222 ((0 : Int32).toNatClampNeg) ((r2 : Int32).toInt64)) (fun V3 => rt 0 V3) else none) f) R gI := by
  obtain ⟨i5, hL, hM, hT, hR, hK, _⟩ := hI
  have hF1 := f1.ft hF
  have hP := hF.P
  obtain ⟨p1, p2, p3, p4, p5⟩ := hP.yes hr
  have hNi := hF.1
  have hW := hF.W i5
  obtain ⟨_, h8, hcN, q8, _, sc, _, hh, _⟩ := hF1
  obtain ⟨T, eT, lT, mT, sT, hhT, fT⟩ := c_rem (n := n) (kind := kind) (x := x) (by omega) f1.1 f1.2.1 hW sc hh q8 h8 hcN (by omega) p5
  obtain ⟨U, eU, rU, fU⟩ := eA T lT sT.1
  have lW : zLay (wJ U 222 0 (gDo w kind x).2.toInt64) := zLay_wJ fU.1
  have jW : vJ (wJ U 222 0 (gDo w kind x).2.toInt64) 222 0 = (gDo w kind x).2.toInt64 := vJ_wJ (zLen fU.1 (by omega))
  have fW : ∀ k, k ≠ 222 → vC (wJ U 222 0 (gDo w kind x).2.toInt64) k = vC U k := fun k hk => vC_wJ hk
  have cX : bd X (fun r2 V1 => if gvp_in 0 (vN V1 222) = true then sq (wJ V1 222 ((0 : Int32).toNatClampNeg) ((r2 : Int32).toInt64)) (fun V3 => rt 0 V3) else none) f = rt 0 (wJ U 222 0 (gDo w kind x).2.toInt64) := by
    rw [eX, eT, bd_rt, eU, bd_rt, wj fU.1]
  generalize wJ U 222 0 (gDo w kind x).2.toInt64 = W at lW jW fW cX
  -- what is as it was, up to the reference
  have fA : ∀ k, k = 0 ∨ k = 1 ∨ (160 ≤ k ∧ k < 180) ∨ (201 ≤ k ∧ k < 207) ∨ k = 208 ∨ k = 209 ∨ k = 210 ∨ k = 211 ∨ k = 213 ∨ k = 214 ∨ k = 215 ∨ k = 216 ∨ (218 ≤ k ∧ k < 222) → vC W k = vC V k := fun k hk => by
    rw [fW k (by omega), fU.2 k (by omega) (by omega), fT k (by omega), f1.2.2.1 k (by omega) (by omega) (by omega) (by omega) (by omega) (by omega)]
  have f7 : ∀ k, k = 9 ∨ k = 10 ∨ k = 12 ∨ k = 13 → vI W 207 k = vI V 207 k := fun k hk => by
    rw [vI_C (fW 207 (by omega)), vI_C (fU.2 207 (by omega) (by omega)), vI_C (fT 207 (by omega))]; exact f1.2.2.2 k hk
  have sr := hF.2.2.2.2.2.2.1
  have hrr := hF.2.2.2.2.2.2.2.2
  have srW : SrV W 208 209 214 N w w0 kd ar := sr.fr (fA 208 (by omega)) (fA 209 (by omega)) (fA 214 (by omega))
  have hrW : HrV W w0 kd ar N hc := hrr.fr (f7 9 (by omega)) (fA 213 (by omega))
  obtain ⟨S, eS, fS, tS⟩ := eR W lW srW.1
  have srS : SrV S 208 209 214 N w w0 kd ar := srW.fr (fS.2.1 208 (by omega) (by omega)) (fS.2.1 209 (by omega) (by omega)) (fS.2.1 214 (by omega) (by omega))
  have hrS : HrV S w0 kd ar N hc := hrW.fr (fS.2.2 9 (by omega)) (fS.2.1 213 (by omega) (by omega))
  obtain ⟨_, _, _, pb, _⟩ := Run_p p1 p2 N (by omega) p4
  rw [← p5] at pb
  obtain ⟨Z, eZ, sZ, hZ, fZ⟩ := r_carries (n := n) (kind := kind) (x := x) hn fS.1 srS hrS h8 hcN (by omega) p5 (hP.n9 (by omega)) hS hl hr pb (by omega)
  -- what is as it was, to the end
  have fB : ∀ k, (k < 207 ∨ k = 209 ∨ k = 210 ∨ k = 211 ∨ k = 215 ∨ k = 216 ∨ (218 ≤ k ∧ k < 224)) → vC Z k = vC W k := fun k hk => by
    rw [fZ.2.1 k (by omega) (by omega) (by omega) (by omega) (by omega), fS.2.1 k (by omega) (by omega)]
  have f8 : ∀ k, k = 10 ∨ k = 12 ∨ k = 13 → vI Z 207 k = vI V 207 k := fun k hk => by
    rw [fZ.2.2 k (by omega) (by omega), fS.2.2 k (by omega), f7 k (by omega)]
  have fC : ∀ k, k = 0 ∨ k = 1 ∨ (160 ≤ k ∧ k < 180) ∨ (201 ≤ k ∧ k < 207) ∨ k = 210 ∨ k = 211 ∨ k = 215 ∨ k = 216 ∨ (218 ≤ k ∧ k < 222) → vC Z k = vC V k := fun k hk => by
    rw [fB k (by omega), fA k (by omega)]
  have q9 : (q + 1) % 8 < 8 := Nat.mod_lt _ (by omega)
  have rZ : Rp 2 Z (gDo w kind x).1 := rU.fr (fun k hk => by rw [fB _ (by omega), fW _ (by omega)])
  have mU : NumV U := mT.fr2 b2 rU (fun b hb e u hu => by
    have z1 := zB_22 b hb u hu; have z2 := zB_hi b hb u hu
    exact fU.2 _ (by omega) (by omega))
  refine ⟨0, W, (gDo w kind x).2, Z, cX, by rw [eS, eZ, bd_rt], ⟨by omega, fZ.1, ?_, ?_, ?_, ?_, N + 1, min (hc + 1) 8, (q + 1) % 8, (gDo w kind x).1, w0, nup kd N kind, nup ar N x, by omega, by omega, by omega, q9, .inr ⟨p1, p2, p3, ?_, ?_⟩, ⟨rZ, ?_, fun j hj => ?_⟩, sZ, ?_, ?_⟩, ?_, fun _ => ?_⟩
  · exact mU.fr (fun a ha u hu => by
      have z2 := zB_hi a ha u hu
      rw [vI_C (fB _ (by omega)), vI_C (fW _ (by omega))])
  · exact hT.fr (fun k _ => by rw [vI_C (fC 0 (by omega))]) (fun k hk => f8 k (by omega)) (fC 1 (by omega)) (fC 216 (by omega))
  · exact hR.fr (fun k hk => fC k (by omega))
  · exact hK.fr (by omega) (by rw [vI_C (fC 0 (by omega))]) (f8 10 (by omega)) (fun k hk => fC k (by omega))
  · intro j hj
    by_cases e : j = N
    · subst e
      rw [Run_n (Nat.le_refl _), ← p5]
      exact ⟨t, hS, by unfold nup; rw [if_pos rfl, if_pos rfl]; exact hl⟩
    · rw [Run_n (by omega)]
      unfold nup
      rw [if_neg e, if_neg e]
      exact p4 j (by omega)
  · show _ = (gDo (Run w0 (nup kd N kind) (nup ar N x) N) (nup kd N kind N) (nup ar N x N)).1
    rw [Run_n (Nat.le_refl _), ← p5]
    unfold nup
    rw [if_pos rfl, if_pos rfl]
  · rw [vI_C (fB 19 (by omega)), vI_C (fW 19 (by omega)), vI_C (fU.2 19 (by omega) (by omega))]; exact sT.2.1
  · rw [vI_C (fB (19 + 1) (by omega)), vI_C (fB (19 + 2) (by omega)), vI_C (fW (19 + 1) (by omega)), vI_C (fW (19 + 2) (by omega)), vI_C (fU.2 (19 + 1) (by omega) (by omega)), vI_C (fU.2 (19 + 2) (by omega) (by omega))]
    exact sT.2.2 j hj
  · exact hhT.fr q9 (by omega) (fun k k1 k2 => by rw [fB k (by omega), fW k (by omega), fU.2 k (by omega) (by omega)])
  · refine ⟨hZ.1, fun j hj => ?_⟩
    rw [Run_n (by omega)]; exact hZ.2 j hj
  · rw [fZ.2.2 0 (by omega) (by omega)]; exact tS
  · rw [vJ_C (fB 222 (by omega)), jW]; rfl
end
