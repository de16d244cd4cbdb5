/-! what a command leaves -/
theorem om_1 {α : Type} {a : Nat} {x : Rs α} {f : Nat → Rs α} : om (some a) x f = f a := rfl
theorem zup_cm {w : RW} {a b : Nat} {x y : Int32} (h : a ≠ b) : zup (zup w a x) b y = zup (zup w b y) a x := funext fun j => by
  unfold zup
  by_cases p : j = b
  · by_cases q : j = a
    · omega
    · rw [if_pos p, if_neg q, if_pos p]
  · rw [if_neg p]
    by_cases q : j = a
    · rw [if_pos q, if_pos q]
    · rw [if_neg q, if_neg q, if_neg p]
theorem zup_id {w : RW} {a : Nat} {x : Int32} (h : w a = x) : zup w a x = w := funext fun j => by
  unfold zup
  by_cases p : j = a
  · rw [if_pos p, p, h]
  · rw [if_neg p]
theorem Rp.g9 {a : Nat} {V : VS} {w : RW} {x : Int32} (h : Rp a V w) : Rp a V (zup w 289 x) := by
  refine ⟨fun k hk => ?_, h.2⟩
  have := (Lv_z (by omega) (by omega) (by omega) (by omega) (by omega)).mp hk
  rw [h.1 k this, zup_ne (by unfold Lv at this; omega)]
def Fgt (w : RW) (t : Nat) : Prop := CT w t ∧ dead w (ord w t) = false ∧ goB w = true
def Sta (w : RW) : Prop := (∃ t, Fgt w t) ∨ (goB w = false ∧ w 166 = -1 ∧ w 167 = 0)
theorem CT.c {w w' : RW} {t : Nat} (h : CT w t) (hW' : WF w') (e : ∀ k, (157 ≤ k ∧ k ≤ 166) ∨ k = 290 → w' k = w k) : CT w' t ∧ ord w' t = ord w t := by
  have u8 := h.1.u8; have o8 := h.1.o8; have ht := h.2.1
  have eo : ord w' t = ord w t := by unfold ord; rw [e _ (by omega)]
  exact ⟨⟨hW', by unfold nO; rw [e 157 (by omega)]; exact ht, by rw [e 290 (by omega)]; exact h.2.2.1, by rw [e 166 (by omega), eo]; exact h.2.2.2⟩, eo⟩
theorem try_k {x : RW} {t k : Nat} (h : PI x t) (ht : t < nO x) (h1 : k ≠ 67 + 11 * ord x t + 3) (h2 : k ≠ 67 + 11 * ord x t + 9) (h3 : k ≠ 67 + 11 * ord x t + 10) (h4 : k < 166 ∨ 289 ≤ k) (h5 : k ≠ 290) : gTry x t k = x k := by
  unfold gTry
  rw [gTurn_at (try_W h) (try_u h ht) h1 h2 h3 h4, zup_ne h5]
theorem try_go {x : RW} {t : Nat} (h : PI x t) (ht : t < nO x) (hg : goB x = true) (tk : gTok (zup x 290 (Int32.ofNat t)) (ord x t) = true) : goB (gTry x t) = true := by
  have u8 := h.1.u8; have ol := ord_lt h.1 ht
  rw [← hg]
  refine goB_c (try_at h ht (by omega)) u8 (fun v hv => ?_) (fun v hv => try_k h ht (by omega) (by omega) (by omega) (by omega) (by omega))
  by_cases q : v = ord x t
  · have d1 : dead (gTry x t) (ord x t) = false := (gTurn_yes tk).2
    have d2 : dead x (ord x t) = false := by
      unfold gTok at tk
      rw [dead_z (by omega)] at tk
      revert tk; cases dead x (ord x t) <;> simp
    rw [q, d1, d2]
  · exact dead_c (try_k h ht (by omega) (by omega) (by omega) (by omega) (by omega))
theorem pass_sta : ∀ (d t : Nat) (w : RW), PI w t → w 166 = -1 → w 167 = 0 → Fin (gPass d w) → Sta (gPass d w)
  | 0, t, w, h, h6, h7, hF => .inr ⟨hF.elim (fun x => by rw [show gPass 0 w = w from rfl, h6] at x; exact absurd x (by decide)) id, h6, h7⟩
  | d + 1, t, w, h, h6, h7, hF => by
    by_cases f : Fin w
    · rw [gPass_F _ f]
      exact .inr ⟨f.elim (fun x => by rw [h6] at x; exact absurd x (by decide)) id, h6, h7⟩
    · rw [gPass_S _ f] at hF ⊢
      have hg : goB w = true := by
        cases q : goB w
        · exact absurd (.inr q) f
        · rfl
      have key : ∀ (x : RW) (s : Nat), PI x s → s < nO x → x 166 = -1 → x 167 = 0 → goB x = true → Fin (gPass d (gTry x s)) → Sta (gPass d (gTry x s)) := by
        intro x s hx hs x6 x7 xg xF
        rcases try_or hx hs with ⟨tk, e, dd⟩ | ⟨_, e, e7, _⟩
        · rw [gPass_F _ (Fin_tok hx hs e)]
          have eo := try_ord hx hs hs
          exact .inl ⟨s, ⟨(try_PI hx hs).1, by rw [try_nO hx hs]; exact hs, try_290 hx hs, by rw [eo]; exact e⟩, by rw [eo]; exact dd, try_go hx hs xg tk⟩
        · exact pass_sta d (s + 1) _ (try_PI hx hs) (by rw [e]; exact x6) (by rw [e7]; exact x7) xF
      by_cases ht : t < nO w
      · rw [step_old h ht] at hF ⊢
        exact key w t h ht h6 h7 hg hF
      · have te : t = nO w := by have := h.2.2; omega
        rw [step_new h te] at hF ⊢
        exact key (gBeg w) 0 (beg_PI h.1) (beg_pos h.1 hg) (by rw [gBeg_at h.1 (fun _ v => by omega) (by omega) (by omega)]; exact h6) (by rw [gBeg_at h.1 (fun _ v => by omega) (by omega) (by omega)]; exact h7) (by rw [goB_beg h.1]; exact hg) hF
/-- what the giving on leaves as it is -/
def Kq (k : Nat) : Prop := k < 67 ∨ k = 289 ∨ 290 < k ∨ (67 ≤ k ∧ k < 155 ∧ (k - 67) % 11 ≠ 3 ∧ (k - 67) % 11 ≠ 6 ∧ (k - 67) % 11 ≠ 9 ∧ (k - 67) % 11 ≠ 10)
theorem pass_k {k : Nat} (hk : Kq k) : ∀ (d t : Nat) (w : RW), PI w t → gPass d w k = w k
  | 0, t, w, h => rfl
  | d + 1, t, w, h => by
    by_cases f : Fin w
    · rw [gPass_F _ f]
    · rw [gPass_S _ f]
      unfold Kq at hk
      have hg : goB w = true := by
        cases q : goB w
        · exact absurd (.inr q) f
        · rfl
      by_cases ht : t < nO w
      · have ol := ord_lt h.1 ht; have u8 := h.1.u8
        rw [step_old h ht, pass_k hk d (t + 1) _ (try_PI h ht)]
        exact try_k h ht (by omega) (by omega) (by omega) (by omega) (by omega)
      · have te : t = nO w := by have := h.2.2; omega
        have ol := ord_lt (beg_PI h.1).1 (beg_pos h.1 hg); have u8 := (beg_PI h.1).1.u8
        rw [step_new h te, pass_k hk d 1 _ (try_PI (beg_PI h.1) (beg_pos h.1 hg)), try_k (beg_PI h.1) (beg_pos h.1 hg) (by omega) (by omega) (by omega) (by omega) (by omega)]
        exact gBeg_at h.1 (fun _ v => by omega) (by omega) (by omega)
theorem passT_p {q : RW} {s b : Nat} (h : PI q s) (hF : Fin (gPassT q)) (hr : ¬ q 156 ≤ 0) (hb : Nb (q 156) b) (hbd : b + 16 < 2000000) : WF (gPassT q) ∧ Sta (gPassT q) ∧ ¬ gPassT q 156 ≤ 0 ∧ Nb (gPassT q 156) (b + 16) ∧ ∀ k, Kq k → gPassT q k = q k := by
  have hP := passT_PI h
  have e6 : zup (zup q 166 (-1)) 167 0 166 = -1 := by rw [zup_ne (by omega), zup_eq]
  have e7 : zup (zup q 166 (-1)) 167 0 167 = 0 := zup_eq
  have er : zup (zup q 166 (-1)) 167 0 156 = q 156 := by rw [zup_ne (by omega), zup_ne (by omega)]
  obtain ⟨⟨z, p1⟩, _, p3, p4, _⟩ := pass_inv 16 s b _ hP e6 (by rw [er]; exact hb) hbd
  refine ⟨p1.1, pass_sta 16 s _ hP e6 e7 hF, p4 (by rw [er]; exact hr), p3, fun k hk => ?_⟩
  unfold gPassT
  rw [pass_k hk 16 s _ hP, zup_ne (by unfold Kq at hk; omega), zup_ne (by unfold Kq at hk; omega)]
theorem settle_p {q : RW} {t b : Nat} (h : CT q t) (hr : ¬ q 156 ≤ 0) (hb : Nb (q 156) b) (hbd : b + 16 < 2000000) : WF (gSettle q) ∧ Sta (gSettle q) ∧ ¬ gSettle q 156 ≤ 0 ∧ Nb (gSettle q 156) (b + 16) ∧ ∀ k, Kq k → gSettle q k = q k := by
  unfold gSettle
  by_cases g : goB q = false
  · rw [if_pos g]
    refine ⟨(h.1.z (.inr (.inr (.inl rfl)))).za nb_z, .inr ⟨?_, by rw [zup_ne (by omega), zup_eq], zup_eq⟩, by rw [zup_ne (by omega), zup_ne (by omega)]; exact hr, by rw [zup_ne (by omega), zup_ne (by omega)]; exact hb.mono (by omega), fun k hk => by rw [zup_ne (by unfold Kq at hk; omega), zup_ne (by unfold Kq at hk; omega)]⟩
    rw [goB_z (h.1.z (.inr (.inr (.inl rfl)))) (by omega), goB_z h.1 (by omega)]; exact g
  · rw [if_neg g, h.e]
    by_cases d : dead q (ord q t) = true
    · rw [if_pos d]; exact passT_p h.P (Fin_pass h) hr hb hbd
    · rw [if_neg d]
      exact ⟨h.1, .inl ⟨t, h, by simpa using d, by simpa using g⟩, hr, hb.mono (by omega), fun _ _ => rfl⟩
/-! the commands -/
def nrm (N : Nat) (f : Nat → Nat) : Nat → Nat := fun c => if c < N then f c else 0
noncomputable def Dm (w : RW) (g : Nat) : Nat → Nat := nrm (nR w * nC w) (Classical.epsilon (EqD w g))
theorem nrm_at {N c : Nat} {f : Nat → Nat} (h : c < N) : nrm N f c = f c := if_pos h
theorem EqD.n {w : RW} {g : Nat} {f : Nat → Nat} (hW : WF w) (hg : g < nR w * nC w) (h : EqD w g f) : EqD w g (nrm (nR w * nC w) f) := by
  refine ⟨by rw [nrm_at hg]; exact h.1, fun c hc => by rw [nrm_at hc]; exact h.2.1 c hc, fun c hc cg i => ?_, fun c s hc hs ad es i => ?_⟩
  · rw [nrm_at hc] at i ⊢
    obtain ⟨s, hs, ad, es, e⟩ := h.2.2.1 c hc cg i
    exact ⟨s, hs, ad, es, by rw [nrm_at hs]; exact e⟩
  · rw [nrm_at hs] at i ⊢; rw [nrm_at hc]; exact h.2.2.2 c s hc hs ad es i
theorem Dm_ok {w : RW} {g : Nat} {f : Nat → Nat} (hW : WF w) (hg : g < nR w * nC w) (h : EqD w g f) : EqD w g (Dm w g) ∧ nrm (nR w * nC w) f = Dm w g := by
  have e : EqD w g (Classical.epsilon (EqD w g)) := Classical.epsilon_spec ⟨f, h⟩
  refine ⟨e.n hW hg, funext fun c => ?_⟩
  unfold Dm nrm
  by_cases hc : c < nR w * nC w
  · rw [if_pos hc, if_pos hc]; exact h.un e hc
  · rw [if_neg hc, if_neg hc]
theorem ent_c {w w' : RW} (e : ∀ k, k < 67 → w' k = w k) (hU : nU w ≤ 8) (hd : ∀ v, v < 8 → dead w' v = dead w v) (hc : ∀ v, v < 8 → w' (67 + 11 * v + 2) = w (67 + 11 * v + 2)) {c : Nat} (h : c < 64) : ent w' c = ent w c := by
  have u : nU w' = nU w := by unfold nU; rw [e 66 (by omega)]
  have o : occ w' (Int32.ofNat c) = occ w (Int32.ofNat c) := by
    unfold occ
    rw [u, Bool.eq_iff_iff, List.any_eq_true, List.any_eq_true]
    constructor
    · rintro ⟨v, hv, x⟩
      have v8 : v < 8 := by have := List.mem_range.mp hv; omega
      exact ⟨v, hv, by rwa [hd v v8, hc v v8] at x⟩
    · rintro ⟨v, hv, x⟩
      have v8 : v < 8 := by have := List.mem_range.mp hv; omega
      exact ⟨v, hv, by rwa [hd v v8, hc v v8]⟩
  unfold ent fre prc
  rw [e (2 + c) (by omega), o]
theorem EqD.c {w w' : RW} {g : Nat} {f : Nat → Nat} (h : EqD w g f) (hW : WF w) (e : ∀ k, k < 67 → w' k = w k) (hd : ∀ v, v < 8 → dead w' v = dead w v) (hc : ∀ v, v < 8 → w' (67 + 11 * v + 2) = w (67 + 11 * v + 2)) : EqD w' g f := by
  have rc := hW.rc
  have eR : nR w' = nR w := by unfold nR; rw [e 0 (by omega)]
  have eC : nC w' = nC w := by unfold nC; rw [e 1 (by omega)]
  have ea : ∀ c s, adj w' c s ↔ adj w c s := fun c s => by unfold adj nbr; rw [eR, eC]
  have ee : ∀ c, c < nR w * nC w → ent w' c = ent w c := fun c h => ent_c e hW.u8 hd hc (by omega)
  unfold EqD
  rw [eR, eC]
  refine ⟨h.1, h.2.1, fun c hc cg i => ?_, fun c s hc hs ad es i => ?_⟩
  · obtain ⟨s, hs, ad, es, e⟩ := h.2.2.1 c hc cg i
    exact ⟨s, hs, (ea c s).mpr ad, by rw [ee s hs]; exact es, by rw [ee s hs]; exact e⟩
  · rw [ee s hs] at es ⊢; exact h.2.2.2 c s hc hs ((ea c s).mp ad) es i
def gPre (w : RW) (kind : Nat) : RW := zup (zup w 289 (w 289 + 1)) 167 (if kind = 4 then 0 else if kind = 6 then w 167 else w 167 - 1)
noncomputable def gMoved (p : RW) (u x : Nat) : RW := gWk p (Dm p x) x u 64 p
noncomputable def gM3 (p : RW) (u x : Nat) : RW := gTell (gMoved p u x) 1 (Int32.ofNat u) (gMoved p u x (67 + 11 * u + 2))
def gHl (p : RW) (u x : Nat) : RW := gTell (zup p (67 + 11 * u + 5) (p (67 + 11 * u + 5) - 1)) 8 (Int32.ofNat u) (Int32.ofNat x)
def gHr (p : RW) (u x : Nat) : RW × Nat := gHurl (nU (gHl p u x)) 0 (gHl p u x) x
def gE1 (p : RW) (u : Nat) : RW := if p (67 + 11 * u + 7) ≤ 0 then p else zup p (67 + 11 * u + 7) (p (67 + 11 * u + 7) - 1)
def gE2 (p : RW) (u : Nat) : RW := if gE1 p u (67 + 11 * u + 8) ≤ 0 then gE1 p u else zup (gE1 p u) (67 + 11 * u + 8) (gE1 p u (67 + 11 * u + 8) - 1)
noncomputable def gAct (p : RW) (u kind x : Nat) (had : Int32) : RW × Int32 :=
  if kind = 0 then (gSettle (gM3 p u x), gMoved p u x (67 + 11 * u + 2))
  else if kind = 1 then (gSettle (gStrike p u x), Int32.ofNat (gStrD p u x))
  else if kind = 2 then (gSettle (gHr p u x).1, Int32.ofNat (gHr p u x).2)
  else if kind = 3 then (zup p (67 + 11 * u + 9) 1, p 167)
  else if kind = 4 then (zup p (67 + 11 * u + 10) 1, had)
  else if kind = 5 then (zup p (67 + 11 * u + 4) (tbI 7 (p (67 + 11 * u + 1))), p (67 + 11 * u + 4))
  else (gPassT (gE2 p u), gPassT (gE2 p u) 166)
noncomputable def gDo (w : RW) (kind x : Nat) : RW × Int32 := gAct (gPre w kind) (w 166).toNatClampNeg kind x (w 167)
/-- what a command may be -/
def LG (w : RW) (u kind x : Nat) : Prop :=
  (kind = 0 ∧ x < nR w * nC w ∧ cellN w u ≠ x ∧ 0 < ent w x ∧ (∃ f, EqD w x f ∧ f (cellN w u) ≤ 6) ∧ ¬ w 167 ≤ 0)
  ∨ (kind = 1 ∧ x < nU w ∧ ¬ w (67 + 11 * u + 4) ≤ 0 ∧ ¬ w 167 ≤ 0)
  ∨ (kind = 2 ∧ x < nR w * nC w ∧ ¬ w (67 + 11 * u + 5) ≤ 0 ∧ ¬ w 167 ≤ 0)
  ∨ (kind = 3 ∧ ¬ w 167 ≤ 0) ∨ kind = 4 ∨ (kind = 5 ∧ ¬ w 167 ≤ 0) ∨ kind = 6
theorem pre_at {w : RW} {kind k : Nat} (h : k ≠ 289) (h2 : k ≠ 167) : gPre w kind k = w k := by unfold gPre; rw [zup_ne h2, zup_ne h]
theorem pre_W {w : RW} {u kind x : Nat} (hW : WF w) (hl : LG w u kind x) : WF (gPre w kind) := by
  have h9 : WF (zup w 289 (w 289 + 1)) := hW.z (.inr (.inr (.inr (.inl rfl))))
  refine h9.za ?_
  by_cases k4 : kind = 4
  · rw [if_pos k4]; exact nb_z
  rw [if_neg k4]
  by_cases k6 : kind = 6
  · rw [if_pos k6]; exact hW.a
  rw [if_neg k6]
  refine m1_nb hW.a (by omega) ?_
  unfold LG at hl
  rcases hl with a | a | a | a | a | a | a
  · exact a.2.2.2.2.2
  · exact a.2.2.2
  · exact a.2.2.2
  · exact a.2
  · exact absurd a k4
  · exact a.2
  · exact absurd a k6
theorem pre_CT {w : RW} {t kind x : Nat} (h : CT w t) (hl : LG w (ord w t) kind x) : CT (gPre w kind) t ∧ ord (gPre w kind) t = ord w t := h.c (pre_W h.1 hl) (fun k hk => pre_at (by omega) (by omega))
theorem pre_d {w : RW} {kind u : Nat} (h : u < 8) : dead (gPre w kind) u = dead w u := dead_c (pre_at (by omega) (by omega))
theorem pre_u {w : RW} {kind : Nat} : nU (gPre w kind) = nU w := by unfold nU; rw [pre_at (by omega) (by omega)]
theorem pre_N {w : RW} {kind : Nat} : nR (gPre w kind) = nR w ∧ nC (gPre w kind) = nC w := ⟨by unfold nR; rw [pre_at (by omega) (by omega)], by unfold nC; rw [pre_at (by omega) (by omega)]⟩
theorem pre_E {w : RW} {kind g : Nat} {f : Nat → Nat} (hW : WF w) (h : EqD w g f) : EqD (gPre w kind) g f := h.c hW (fun k hk => pre_at (by omega) (by omega)) (fun v hv => pre_d hv) (fun v hv => pre_at (by omega) (by omega))
theorem pre_e {w : RW} {kind c : Nat} (hW : WF w) (hc : c < 64) : ent (gPre w kind) c = ent w c := ent_c (fun k hk => pre_at (by omega) (by omega)) hW.u8 (fun v hv => pre_d hv) (fun v hv => pre_at (by omega) (by omega)) hc
/-- a move's facts at its own state -/
theorem mv_f {w : RW} {u x : Nat} (hW : WF w) (hu : u < nU w) (h : x < nR w * nC w ∧ cellN w u ≠ x ∧ 0 < ent w x ∧ (∃ f, EqD w x f ∧ f (cellN w u) ≤ 6)) (hp : WF (gPre w 0)) : x < nR (gPre w 0) * nC (gPre w 0) ∧ cellN (gPre w 0) u ≠ x ∧ 0 < ent (gPre w 0) x ∧ EqD (gPre w 0) x (Dm (gPre w 0) x) ∧ Dm (gPre w 0) x (cellN (gPre w 0) u) ≤ 6 := by
  obtain ⟨h1, h2, h3, f, h4, h5⟩ := h
  have rc := hW.rc; have u8 := hW.u8
  have ec : cellN (gPre w 0) u = cellN w u := by unfold cellN; rw [pre_at (by omega) (by omega)]
  have xN : x < nR (gPre w 0) * nC (gPre w 0) := by rw [pre_N.1, pre_N.2]; exact h1
  have E := pre_E (kind := 0) hW h4
  obtain ⟨d1, d2⟩ := Dm_ok hp xN E
  refine ⟨xN, by rw [ec]; exact h2, by rw [pre_e hW (by omega)]; exact h3, d1, ?_⟩
  rw [← d2, ec, nrm_at (by rw [pre_N.1, pre_N.2]; exact cell_lt hW hu)]
  exact h5
section
variable {p : RW} {u x : Nat}
theorem moved_p (hp : WF p) (hu : u < nU p) (hE : EqD p x (Dm p x)) : WF (gMoved p u x) ∧ (∀ k, Kp k → k ≠ 67 + 11 * u + 2 → k ≠ 67 + 11 * u + 8 → gMoved p u x k = p k) := by
  obtain ⟨a, b, _⟩ := wk_p hp hE 64 p hp (fun _ _ => rfl) hu
  exact ⟨a, b⟩
theorem m3_p (hp : WF p) (hu : u < nU p) (hE : EqD p x (Dm p x)) : WF (gM3 p u x) ∧ (∀ k, Kp k → k ≠ 67 + 11 * u + 2 → k ≠ 67 + 11 * u + 8 → (k < 168 ∨ 289 ≤ k) → gM3 p u x k = p k) ∧ gM3 p u x (67 + 11 * u + 2) = gMoved p u x (67 + 11 * u + 2) := by
  have u8 := hp.u8
  obtain ⟨a, b⟩ := moved_p hp hu hE
  exact ⟨a.tell, fun k h1 h2 h3 h4 => (gTell_lo a.e h4).trans (b k h1 h2 h3), gTell_lo a.e (by omega)⟩
theorem hl_W (hp : WF p) (hu : u < nU p) (hs : ¬ p (67 + 11 * u + 5) ≤ 0) : WF (zup p (67 + 11 * u + 5) (p (67 + 11 * u + 5) - 1)) :=
  hp.zu (j := 5) (by have := hp.u8; omega) (by omega) (m1_nb (hp.f hu (j := 5) (by omega)) (by decide) hs) (fun x => by omega)
theorem hl_at (hp : WF p) (hu : u < nU p) (hs : ¬ p (67 + 11 * u + 5) ≤ 0) {k : Nat} (h : k ≠ 67 + 11 * u + 5) (h2 : k < 168 ∨ 289 ≤ k) : gHl p u x k = p k := by
  unfold gHl; rw [gTell_lo (hl_W hp hu hs).e h2, zup_ne h]
theorem hr_p (hp : WF p) (hu : u < nU p) (hs : ¬ p (67 + 11 * u + 5) ≤ 0) : WF (gHr p u x).1 ∧ (∀ k, Kh k → k ≠ 67 + 11 * u + 5 → (k < 168 ∨ 289 ≤ k) → (gHr p u x).1 k = p k) := by
  obtain ⟨a, b, _⟩ := hurl_p (c := x) (nU (gHl p u x)) 0 (gHl p u x) (by omega) (hl_W hp hu hs).tell
  unfold gHr
  exact ⟨a, fun k h1 h2 h3 => (b k h1).trans (hl_at hp hu hs h2 h3)⟩
theorem e1_p (hp : WF p) (hu : u < nU p) : WF (gE1 p u) ∧ (∀ k, k ≠ 67 + 11 * u + 7 → gE1 p u k = p k) := by
  have u8 := hp.u8
  unfold gE1
  by_cases g : p (67 + 11 * u + 7) ≤ 0
  · rw [if_pos g]; exact ⟨hp, fun _ _ => rfl⟩
  · rw [if_neg g]
    exact ⟨hp.zu (j := 7) (by omega) (by omega) (m1_nb (hp.f hu (j := 7) (by omega)) (by decide) g) (fun x => by omega), fun k h => zup_ne h⟩
theorem e2_p (hp : WF p) (hu : u < nU p) : WF (gE2 p u) ∧ (∀ k, k ≠ 67 + 11 * u + 7 → k ≠ 67 + 11 * u + 8 → gE2 p u k = p k) := by
  have u8 := hp.u8
  obtain ⟨a, b⟩ := e1_p hp hu
  have n1 : nU (gE1 p u) = nU p := by unfold nU; rw [b 66 (by omega)]
  unfold gE2
  by_cases g : gE1 p u (67 + 11 * u + 8) ≤ 0
  · rw [if_pos g]; exact ⟨a, fun k h _ => b k h⟩
  · rw [if_neg g]
    exact ⟨a.zu (j := 8) (by omega) (by omega) (m1_nb (a.f (u := u) (by rw [n1]; exact hu) (j := 8) (by omega)) (by decide) g) (fun x => by omega), fun k h h2 => (zup_ne h2).trans (b k h)⟩
end
/-- what no command changes -/
def Kc (k : Nat) : Prop := k < 67 ∨ 290 < k ∨ (67 ≤ k ∧ k < 155 ∧ ((k - 67) % 11 = 0 ∨ (k - 67) % 11 = 1))
def DP (w : RW) (b : Nat) (y : RW) : Prop := WF y ∧ Sta y ∧ ¬ y 156 ≤ 0 ∧ Nb (y 156) (b + 16) ∧ y 289 = w 289 + 1 ∧ ∀ k, Kc k → y k = w k
theorem tb7_le : ∀ k, k < 4 → tbN 7 k ≤ 6 := by decide +kernel
def Hid (P : Prop) : Prop := P
theorem Hid.o {P : Prop} (h : Hid P) : P := h
theorem fst_mk {α β : Type} {a : α} {b : β} : (a, b).1 = a := rfl
theorem snd_mk {α β : Type} {a : α} {b : β} : (a, b).2 = b := rfl
def PQ (w p : RW) (t u b : Nat) : Prop := CT p t ∧ ord p t = u ∧ u < nU p ∧ u < 8 ∧ dead p u = false ∧ goB p = true ∧ ¬ p 156 ≤ 0 ∧ Nb (p 156) b ∧ p 289 = w 289 + 1 ∧ ∀ k, Kc k → p k = w k
section
variable {w p : RW} {t u b x : Nat}
theorem PQ.C (h : PQ w p t u b) : CT p t := h.1
theorem PQ.W (h : PQ w p t u b) : WF p := h.1.1
theorem PQ.un (h : PQ w p t u b) : u < nU p := h.2.2.1
theorem PQ.u8 (h : PQ w p t u b) : u < 8 := h.2.2.2.1
theorem PQ.r (h : PQ w p t u b) : ¬ p 156 ≤ 0 := h.2.2.2.2.2.2.1
theorem PQ.bn (h : PQ w p t u b) : Nb (p 156) b := h.2.2.2.2.2.2.2.1
theorem PQ.n (h : PQ w p t u b) : p 289 = w 289 + 1 := h.2.2.2.2.2.2.2.2.1
theorem PQ.k (h : PQ w p t u b) {k : Nat} (hk : Kc k) : p k = w k := h.2.2.2.2.2.2.2.2.2 k hk
theorem Kc.q {k : Nat} (hk : Kc k) : Kq k := by unfold Kq; unfold Kc at hk; omega
theorem PQ.S (h : PQ w p t u b) (hbd : b + 16 < 2000000) {q : RW} (hq : WF q) (e : ∀ k, (156 ≤ k ∧ k ≤ 166) ∨ k = 290 ∨ k = 289 ∨ Kc k → q k = p k) : DP w b (gSettle q) := by
  have qC := (h.C.c hq (fun k hk => e k (by omega))).1
  obtain ⟨a1, a2, a3, a4, a5⟩ := settle_p (b := b) qC (by rw [e 156 (by omega)]; exact h.r) (by rw [e 156 (by omega)]; exact h.bn) hbd
  exact ⟨a1, a2, a3, a4, by rw [a5 289 (.inr (.inl rfl)), e 289 (by omega), h.n], fun k hk => by rw [a5 k hk.q, e k (.inr (.inr (.inr hk))), h.k hk]⟩
theorem PQ.O (h : PQ w p t u b) {j : Nat} {y : Int32} (hj : j = 9 ∨ j = 10 ∨ j = 4) (hq : WF (zup p (67 + 11 * u + j) y)) : DP w b (zup p (67 + 11 * u + j) y) := by
  have u8 := h.u8
  have qq := h.C.c hq (fun k hk => zup_ne (by omega))
  have qC := qq.1
  have qo : ord (zup p (67 + 11 * u + j) y) t = u := qq.2.trans h.2.1
  clear qq
  have dz : ∀ v, dead (zup p (67 + 11 * u + j) y) v = dead p v := fun v => dead_z (by omega)
  have p8 := h.W.u8
  refine ⟨hq, .inl ⟨t, qC, by rw [qo, dz]; exact h.2.2.2.2.1, ?_⟩, by rw [zup_ne (by omega)]; exact h.r, by rw [zup_ne (by omega)]; exact h.bn.mono (by omega), by rw [zup_ne (by omega), h.n], fun k hk => ?_⟩
  · rw [← h.2.2.2.2.2.1]
    clear qo qC
    exact goB_c (zup_ne (by omega)) p8 (fun v hv => dz v) (fun v hv => zup_ne (by omega))
  · clear qo qC
    rw [zup_ne (by unfold Kc at hk; omega)]; exact h.k hk
theorem act0 (h : PQ w p t u b) (hbd : b + 16 < 2000000) (hE : EqD p x (Dm p x)) : DP w b (gSettle (gM3 p u x)) := by
  have u8 := h.u8
  obtain ⟨q1, q2, _⟩ := m3_p h.W h.un hE
  exact h.S hbd q1 (fun k hk => q2 k (by unfold Kp; unfold Kc at hk; omega) (by unfold Kc at hk; omega) (by unfold Kc at hk; omega) (by unfold Kc at hk; omega))
theorem act1 (h : PQ w p t u b) (hbd : b + 16 < 2000000) (px : x < nU p) (s4 : ¬ p (67 + 11 * u + 4) ≤ 0) : DP w b (gSettle (gStrike p u x)) := by
  have u8 := h.u8; have p8 := h.W.u8
  exact h.S hbd (h.W.strike h.un px s4) (fun k hk => strike_at h.W h.un px s4 (by unfold Kc at hk; omega) (by unfold Kc at hk; omega) (by unfold Kc at hk; omega) (by unfold Kc at hk; omega))
theorem act2 (h : PQ w p t u b) (hbd : b + 16 < 2000000) (s5 : ¬ p (67 + 11 * u + 5) ≤ 0) : DP w b (gSettle (gHr p u x).1) := by
  have u8 := h.u8
  obtain ⟨q1, q2⟩ := hr_p (x := x) h.W h.un s5
  exact h.S hbd q1 (fun k hk => q2 k (by unfold Kh; unfold Kc at hk; omega) (by unfold Kc at hk; omega) (by unfold Kc at hk; omega))
theorem act3 (h : PQ w p t u b) : DP w b (zup p (67 + 11 * u + 9) 1) := by
  have u8 := h.u8
  exact h.O (.inl rfl) (h.W.zu (j := 9) u8 (by omega) (Nb.of (k := 1) (b := 1) (by omega) (by omega)) (fun x => by omega))
theorem act4 (h : PQ w p t u b) : DP w b (zup p (67 + 11 * u + 10) 1) := by
  have u8 := h.u8
  exact h.O (.inr (.inl rfl)) (h.W.zu (j := 10) u8 (by omega) (Nb.of (k := 1) (b := 1) (by omega) (by omega)) (fun x => by omega))
theorem act5 (h : PQ w p t u b) : DP w b (zup p (67 + 11 * u + 4) (tbI 7 (p (67 + 11 * u + 1)))) := by
  have u8 := h.u8
  have tb := tb_u h.W h.un (q := 7) (by decide)
  have t7 := tb7_le _ (kindN_lt h.W h.un)
  exact h.O (.inr (.inr rfl)) (h.W.zu (j := 4) u8 (by omega) (by rw [tb.1]; exact Nb.of (b := 6) t7 (by omega)) (fun x => by omega))
theorem act6 (h : PQ w p t u b) (hbd : b + 16 < 2000000) : DP w b (gPassT (gE2 p u)) := by
  have u8 := h.u8
  obtain ⟨q1, q2⟩ := e2_p h.W h.un
  have qC := (h.C.c q1 (fun k hk => q2 k (by omega) (by omega))).1
  obtain ⟨a1, a2, a3, a4, a5⟩ := passT_p (b := b) qC.P (Fin_pass qC) (by rw [q2 156 (by omega) (by omega)]; exact h.r) (by rw [q2 156 (by omega) (by omega)]; exact h.bn) hbd
  exact ⟨a1, a2, a3, a4, by rw [a5 289 (.inr (.inl rfl)), q2 289 (by omega) (by omega), h.n], fun k hk => by
    rw [a5 k hk.q, q2 k (by unfold Kc at hk; omega) (by unfold Kc at hk; omega), h.k hk]⟩
theorem gAct0 {had : Int32} : gAct p u 0 x had = (gSettle (gM3 p u x), gMoved p u x (67 + 11 * u + 2)) := by unfold gAct; rw [if_pos rfl]
theorem gAct1 {had : Int32} : gAct p u 1 x had = (gSettle (gStrike p u x), Int32.ofNat (gStrD p u x)) := by unfold gAct; rw [if_neg (by decide), if_pos rfl]
theorem gAct2 {had : Int32} : gAct p u 2 x had = (gSettle (gHr p u x).1, Int32.ofNat (gHr p u x).2) := by unfold gAct; rw [if_neg (by decide), if_neg (by decide), if_pos rfl]
theorem gAct3 {had : Int32} : gAct p u 3 x had = (zup p (67 + 11 * u + 9) 1, p 167) := by unfold gAct; rw [if_neg (by decide), if_neg (by decide), if_neg (by decide), if_pos rfl]
theorem gAct4 {had : Int32} : gAct p u 4 x had = (zup p (67 + 11 * u + 10) 1, had) := by unfold gAct; rw [if_neg (by decide), if_neg (by decide), if_neg (by decide), if_neg (by decide), if_pos rfl]
theorem gAct5 {had : Int32} : gAct p u 5 x had = (zup p (67 + 11 * u + 4) (tbI 7 (p (67 + 11 * u + 1))), p (67 + 11 * u + 4)) := by unfold gAct; rw [if_neg (by decide), if_neg (by decide), if_neg (by decide), if_neg (by decide), if_neg (by decide), if_pos rfl]
theorem gAct6 {had : Int32} : gAct p u 6 x had = (gPassT (gE2 p u), gPassT (gE2 p u) 166) := by unfold gAct; rw [if_neg (by decide), if_neg (by decide), if_neg (by decide), if_neg (by decide), if_neg (by decide), if_neg (by decide)]
theorem gDo_e {kind : Nat} (h : CT w t) : gDo w kind x = gAct (gPre w kind) (ord w t) kind x (w 167) := by unfold gDo; rw [h.e]
theorem pre_PQ {kind : Nat} (h : Fgt w t) (hl : LG w (ord w t) kind x) (hr : ¬ w 156 ≤ 0) (hb : Nb (w 156) b) : PQ w (gPre w kind) t (ord w t) b := by
  obtain ⟨hC, hd, hg⟩ := h
  have u8 := hC.1.u8; have hu := hC.u
  obtain ⟨pC, po⟩ := pre_CT hC hl
  refine ⟨pC, po, by rw [pre_u]; exact hu, Nat.lt_of_lt_of_le hu u8, by rw [pre_d (Nat.lt_of_lt_of_le hu u8)]; exact hd, ?_, ?_, ?_, ?_, fun k hk => ?_⟩
  · rw [← hg]
    clear po hu hr hb pC
    exact goB_c (pre_at (by omega) (by omega)) u8 (fun v hv => pre_d hv) (fun v hv => pre_at (by omega) (by omega))
  · rw [pre_at (by decide) (by decide)]; exact hr
  · rw [pre_at (by decide) (by decide)]; exact hb
  · unfold gPre; rw [zup_ne (by decide), zup_eq]
  · clear po hu hr hb pC
    exact pre_at (by unfold Kc at hk; omega) (by unfold Kc at hk; omega)
theorem do_p {kind : Nat} (h : Fgt w t) (hl : LG w (ord w t) kind x) (hr : ¬ w 156 ≤ 0) (hb : Nb (w 156) b) (hbd : b + 16 < 2000000) : DP w b (gDo w kind x).1 := by
  have hq := pre_PQ h hl hr hb
  have hu := h.1.u
  have hW := h.1.1
  have hp := pre_W h.1.1 hl
  rw [gDo_e h.1]
  unfold LG at hl
  rcases hl with a | a | a | a | a | a | a
  · obtain ⟨rfl, lm⟩ := a
    rw [gAct0, fst_mk]
    exact act0 hq hbd (mv_f hW hu ⟨lm.1, lm.2.1, lm.2.2.1, lm.2.2.2.1⟩ hp).2.2.2.1
  · obtain ⟨rfl, x1, x2, _⟩ := a
    rw [gAct1, fst_mk]
    exact act1 hq hbd (by rw [pre_u]; exact x1) (by rw [pre_at (by omega) (by omega)]; exact x2)
  · obtain ⟨rfl, _, x2, _⟩ := a
    have u8 := hq.u8
    rw [gAct2, fst_mk]
    exact act2 hq hbd (by rw [pre_at (by omega) (by omega)]; exact x2)
  · obtain ⟨rfl, _⟩ := a
    rw [gAct3, fst_mk]
    exact act3 hq
  · subst a
    rw [gAct4, fst_mk]
    exact act4 hq
  · obtain ⟨rfl, _⟩ := a
    rw [gAct5, fst_mk]
    exact act5 hq
  · subst a
    rw [gAct6, fst_mk]
    exact act6 hq hbd
end
