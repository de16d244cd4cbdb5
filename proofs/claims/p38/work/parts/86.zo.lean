/-! cheapest paths -/
def ent (w : RW) (c : Nat) : Nat := if fre w c = true then prc w c else 0
def entB (w : RW) (c : Nat) : Nat := if w (2 + c) = 1 then 0 else prc w c
def entU (w : RW) (u c : Nat) : Nat := if (List.range u).any (fun v => !dead w v && decide (w (67 + 11 * v + 2) = Int32.ofNat c)) = true then 0 else entB w c
theorem entU_all (w : RW) (c : Nat) : entU w (nU w) c = ent w c := by
  unfold entU ent fre occ entB
  cases ((List.range (nU w)).any fun v => !dead w v && decide (w (67 + 11 * v + 2) = Int32.ofNat c))
  · by_cases g : w (2 + c) = 1
    · rw [decide_eq_true g, if_neg (by decide), if_pos g, if_neg (by decide)]
    · rw [decide_eq_false g, if_neg (by decide), if_neg g, if_pos (by decide)]
  · rw [if_pos rfl, Bool.not_true, Bool.and_false, if_neg (by decide)]
theorem prc_le (w : RW) (c : Nat) : 1 ≤ prc w c ∧ prc w c ≤ 2 := by
  unfold prc
  by_cases g : w (2 + c) = 3 ∨ w (2 + c) = 2
  · rw [if_pos g]; omega
  · rw [if_neg g]; omega
theorem ent_le (w : RW) (c : Nat) : ent w c ≤ 2 := by
  have := prc_le w c
  unfold ent
  by_cases g : fre w c = true
  · rw [if_pos g]; omega
  · rw [if_neg g]; omega
theorem ent_fre {w : RW} {c : Nat} (h : 0 < ent w c) : fre w c = true ∧ ent w c = prc w c := by
  unfold ent at h ⊢
  by_cases g : fre w c = true
  · rw [if_pos g]; exact ⟨g, rfl⟩
  · rw [if_neg g] at h; omega
theorem fre_ent {w : RW} {c : Nat} (h : fre w c = true) : ent w c = prc w c ∧ 0 < ent w c := by
  have := prc_le w c
  unfold ent; rw [if_pos h]; exact ⟨rfl, by omega⟩
def adj (w : RW) (c b : Nat) : Prop := ∃ d, d < 4 ∧ nbr w c d = some b
theorem rc_of {C q r : Nat} (h : r < C) : (C * q + r) / C = q ∧ (C * q + r) % C = r :=
  ⟨by rw [Nat.mul_add_div (by omega), Nat.div_eq_of_lt h, Nat.add_zero], by rw [Nat.mul_add_mod, Nat.mod_eq_of_lt h]⟩
theorem adj_in {w : RW} (hW : WF w) {c b : Nat} (hc : c < nR w * nC w) (h : adj w c b) : b < nR w * nC w := by
  obtain ⟨d, _, e⟩ := h
  exact nbr_in hW hc e
theorem adj_sym {w : RW} (hW : WF w) {c b : Nat} (hc : c < nR w * nC w) (h : adj w c b) : adj w b c := by
  obtain ⟨d, hd, e⟩ := h
  have hp := row_lt hW hc; have hq := col_lt hW c
  have es := c_split (w := w) c
  have c3 := hW.c3
  unfold nbr at e
  by_cases d0 : d = 0
  · rw [if_pos d0] at e
    by_cases g : 0 < c / nC w
    · rw [if_pos g] at e
      have eb : c - nC w = b := by simpa using e
      have up := up_in g
      have e2 : nC w * (c / nC w) = nC w * (c / nC w - 1) + nC w := by
        rw [← Nat.mul_succ]; congr 1; omega
      have b2 : b = nC w * (c / nC w - 1) + c % nC w := by omega
      obtain ⟨x, y⟩ := rc_of (q := c / nC w - 1) hq
      rw [← b2] at x y
      refine ⟨2, by omega, ?_⟩
      unfold nbr
      rw [if_neg (by omega), if_neg (by omega), if_pos rfl, x, if_pos (by omega)]
      congr 1; omega
    · rw [if_neg g] at e; cases e
  rw [if_neg d0] at e
  by_cases d1 : d = 1
  · rw [if_pos d1] at e
    by_cases g : c % nC w + 1 < nC w
    · rw [if_pos g] at e
      have eb : c + 1 = b := by simpa using e
      have b2 : b = nC w * (c / nC w) + (c % nC w + 1) := by omega
      obtain ⟨x, y⟩ := rc_of (q := c / nC w) g
      rw [← b2] at x y
      refine ⟨3, by omega, ?_⟩
      unfold nbr
      rw [if_neg (by omega), if_neg (by omega), if_neg (by omega), y, if_pos (by omega)]
      congr 1; omega
    · rw [if_neg g] at e; cases e
  rw [if_neg d1] at e
  by_cases d2 : d = 2
  · rw [if_pos d2] at e
    by_cases g : c / nC w + 1 < nR w
    · rw [if_pos g] at e
      have eb : c + nC w = b := by simpa using e
      have b2 : b = nC w * (c / nC w + 1) + c % nC w := by rw [Nat.mul_succ]; omega
      obtain ⟨x, y⟩ := rc_of (q := c / nC w + 1) hq
      rw [← b2] at x y
      refine ⟨0, by omega, ?_⟩
      unfold nbr
      rw [if_pos rfl, x, if_pos (Nat.succ_pos _)]
      congr 1; omega
    · rw [if_neg g] at e; cases e
  rw [if_neg d2] at e
  by_cases g : 0 < c % nC w
  · rw [if_pos g] at e
    have eb : c - 1 = b := by simpa using e
    have b2 : b = nC w * (c / nC w) + (c % nC w - 1) := by omega
    obtain ⟨x, y⟩ := rc_of (q := c / nC w) (show c % nC w - 1 < nC w by omega)
    rw [← b2] at x y
    refine ⟨1, by omega, ?_⟩
    unfold nbr
    rw [if_neg (by omega), if_pos rfl, y, if_pos (by omega)]
    congr 1; omega
  · rw [if_neg g] at e; cases e
theorem nbr_ne {w : RW} (hW : WF w) {c d b : Nat} (h : nbr w c d = some b) : b ≠ c := by
  have c3 := hW.c3
  unfold nbr at h
  split at h
  · split at h
    · rename_i g; have := up_in g; have : c - nC w = b := by simpa using h
      omega
    · cases h
  split at h
  · split at h
    · have : c + 1 = b := by simpa using h
      omega
    · cases h
  split at h
  · split at h
    · have : c + nC w = b := by simpa using h
      omega
    · cases h
  · split at h
    · rename_i g
      have e : c - 1 = b := by simpa using h
      have := Nat.mod_le c (nC w)
      omega
    · cases h
/-- the costs of the paths to g: 1000000 where there is none -/
def EqD (w : RW) (g : Nat) (f : Nat → Nat) : Prop :=
  f g = 0 ∧ (∀ c, c < nR w * nC w → f c ≤ 1000000 ∧ (f c < 1000000 → f c ≤ 128))
  ∧ (∀ c, c < nR w * nC w → c ≠ g → f c < 1000000 → ∃ s, s < nR w * nC w ∧ adj w c s ∧ 0 < ent w s ∧ f c = f s + ent w s)
  ∧ (∀ c s, c < nR w * nC w → s < nR w * nC w → adj w c s → 0 < ent w s → f s < 1000000 → f c ≤ f s + ent w s)
theorem EqD.le {w : RW} {g : Nat} {f f' : Nat → Nat} (h : EqD w g f) (h' : EqD w g f') : ∀ k c, f c ≤ k → c < nR w * nC w → f' c ≤ f c := by
  intro k
  induction k with
  | zero =>
    intro c hk hc
    by_cases e : c = g
    · rw [e, h'.1]; omega
    · obtain ⟨s, _, _, b, d⟩ := h.2.2.1 c hc e (by omega)
      omega
  | succ k ih =>
    intro c hk hc
    by_cases e : c = g
    · rw [e, h'.1]; omega
    by_cases i : f c < 1000000
    · obtain ⟨s, hs, ad, b, d⟩ := h.2.2.1 c hc e i
      have := ih s (by omega) hs
      have := h'.2.2.2 c s hc hs ad b (by omega)
      omega
    · have := (h'.2.1 c hc).1; omega
theorem EqD.un {w : RW} {g : Nat} {f f' : Nat → Nat} (h : EqD w g f) (h' : EqD w g f') {c : Nat} (hc : c < nR w * nC w) : f c = f' c :=
  Nat.le_antisymm (EqD.le h' h _ c (Nat.le_refl _) hc) (EqD.le h h' _ c (Nat.le_refl _) hc)
/-- the first step of the path -/
def nxF (w : RW) (f : Nat → Nat) (c : Nat) : Nat → Nat → Option Nat
  | 0, _ => none
  | k + 1, d => match nbr w c d with
    | none => nxF w f c k (d + 1)
    | some b => if 0 < ent w b ∧ f b + ent w b = f c then some b else nxF w f c k (d + 1)
def nx (w : RW) (f : Nat → Nat) (c : Nat) : Option Nat := nxF w f c 4 0
theorem nxF_ok {w : RW} {f : Nat → Nat} {c b : Nat} : ∀ (k d : Nat), d + k = 4 → nxF w f c k d = some b → adj w c b ∧ 0 < ent w b ∧ f b + ent w b = f c
  | 0, d, _, h => by cases h
  | k + 1, d, e, h => by
    unfold nxF at h
    cases hb : nbr w c d with
    | none => rw [hb] at h; exact nxF_ok k (d + 1) (by omega) h
    | some x =>
      rw [hb] at h
      have h : (if 0 < ent w x ∧ f x + ent w x = f c then some x else nxF w f c k (d + 1)) = some b := h
      by_cases g : 0 < ent w x ∧ f x + ent w x = f c
      · rw [if_pos g] at h
        have : x = b := by simpa using h
        subst this
        exact ⟨⟨d, by omega, hb⟩, g⟩
      · rw [if_neg g] at h; exact nxF_ok k (d + 1) (by omega) h
theorem nxF_some {w : RW} {f : Nat → Nat} {c b : Nat} (h1 : 0 < ent w b) (h2 : f b + ent w b = f c) : ∀ (k d i : Nat), d + k = 4 → d ≤ i → i < 4 → nbr w c i = some b → ∃ x, nxF w f c k d = some x
  | 0, d, i, e, l, l2, _ => by omega
  | k + 1, d, i, e, l, l2, hb => by
    unfold nxF
    cases hd : nbr w c d with
    | none =>
      by_cases q : i = d
      · rw [q, hd] at hb; cases hb
      · exact nxF_some h1 h2 k (d + 1) i (by omega) (by omega) l2 hb
    | some x =>
      show ∃ y, (if 0 < ent w x ∧ f x + ent w x = f c then some x else nxF w f c k (d + 1)) = some y
      by_cases g : 0 < ent w x ∧ f x + ent w x = f c
      · rw [if_pos g]; exact ⟨x, rfl⟩
      · rw [if_neg g]
        by_cases q : i = d
        · rw [q, hd] at hb
          have : x = b := by simpa using hb
          subst this
          exact absurd ⟨h1, h2⟩ g
        · exact nxF_some h1 h2 k (d + 1) i (by omega) (by omega) l2 hb
theorem EqD.nx {w : RW} {g : Nat} {f : Nat → Nat} (h : EqD w g f) {c : Nat} (hc : c < nR w * nC w) (hg : c ≠ g) (hf : f c < 1000000) : ∃ b, nx w f c = some b := by
  obtain ⟨s, hs, ⟨i, hi, e⟩, b, d⟩ := h.2.2.1 c hc hg hf
  exact nxF_some b d.symm 4 0 i (by omega) (by omega) hi e
theorem nx_ok {w : RW} {f : Nat → Nat} {c b : Nat} (h : nx w f c = some b) : adj w c b ∧ 0 < ent w b ∧ f b + ent w b = f c := nxF_ok 4 0 (by omega) h
theorem nxF_c {w : RW} {f f' : Nat → Nat} {c : Nat} (hW : WF w) (hc : c < nR w * nC w) (h : ∀ b, b < nR w * nC w → f b = f' b) : ∀ k d, nxF w f c k d = nxF w f' c k d
  | 0, _ => rfl
  | k + 1, d => by
    unfold nxF
    cases hb : nbr w c d with
    | none => exact nxF_c hW hc h k (d + 1)
    | some x =>
      show (if 0 < ent w x ∧ f x + ent w x = f c then some x else nxF w f c k (d + 1)) = (if 0 < ent w x ∧ f' x + ent w x = f' c then some x else nxF w f' c k (d + 1))
      rw [h x (nbr_in hW hc hb), h c hc, nxF_c hW hc h k (d + 1)]
theorem nx_c {w : RW} {f f' : Nat → Nat} {c : Nat} (hW : WF w) (hc : c < nR w * nC w) (h : ∀ b, b < nR w * nC w → f b = f' b) : nx w f c = nx w f' c := nxF_c hW hc h 4 0
/-! the class: from the goal, the cheapest cell first -/
def nup (f : Nat → Nat) (b v : Nat) : Nat → Nat := fun q => if q = b then v else f q
def bup (f : Nat → Bool) (b : Nat) : Nat → Bool := fun q => if q = b then true else f q
def sprF (w : RW) (c v : Nat) : Nat → Nat → (Nat → Nat) → (Nat → Nat)
  | 0, _, f => f
  | k + 1, d, f => sprF w c v k (d + 1) (match nbr w c d with
    | none => f
    | some b => if v < f b then nup f b v else f)
theorem spr_le {w : RW} {c v b : Nat} : ∀ (k d : Nat) (f : Nat → Nat), sprF w c v k d f b ≤ f b
  | 0, _, _ => Nat.le_refl _
  | k + 1, d, f => by
    unfold sprF
    refine Nat.le_trans (spr_le k (d + 1) _) ?_
    cases nbr w c d with
    | none => exact Nat.le_refl _
    | some x =>
      show (if v < f x then nup f x v else f) b ≤ f b
      by_cases g : v < f x
      · rw [if_pos g]; unfold nup
        by_cases e : b = x
        · rw [if_pos e, e]; omega
        · rw [if_neg e]; omega
      · rw [if_neg g]; omega
theorem spr_or {w : RW} {c v b : Nat} : ∀ (k d : Nat) (f : Nat → Nat), d + k = 4 → sprF w c v k d f b = f b ∨ (sprF w c v k d f b = v ∧ adj w c b)
  | 0, _, _, _ => .inl rfl
  | k + 1, d, f, h => by
    unfold sprF
    cases hb : nbr w c d with
    | none => exact spr_or k (d + 1) f (by omega)
    | some x =>
      show sprF w c v k (d + 1) (if v < f x then nup f x v else f) b = f b ∨ (sprF w c v k (d + 1) (if v < f x then nup f x v else f) b = v ∧ adj w c b)
      rcases spr_or k (d + 1) (if v < f x then nup f x v else f) (by omega) with e | e
      · rw [e]
        by_cases g : v < f x
        · rw [if_pos g]; unfold nup
          by_cases q : b = x
          · rw [if_pos q]; exact .inr ⟨rfl, d, by omega, by rw [q]; exact hb⟩
          · rw [if_neg q]; exact .inl rfl
        · rw [if_neg g]; exact .inl rfl
      · exact .inr e
theorem spr_v {w : RW} {c v b : Nat} : ∀ (k d i : Nat) (f : Nat → Nat), d + k = 4 → d ≤ i → i < 4 → nbr w c i = some b → sprF w c v k d f b ≤ v
  | 0, _, i, _, _, _, _, _ => by omega
  | k + 1, d, i, f, h, l, l2, hb => by
    unfold sprF
    by_cases q : i = d
    · rw [← q, hb]
      refine Nat.le_trans (spr_le k (i + 1) _) ?_
      show (if v < f b then nup f b v else f) b ≤ v
      by_cases g : v < f b
      · rw [if_pos g]; unfold nup; rw [if_pos rfl]; omega
      · rw [if_neg g]; omega
    · exact spr_v k (d + 1) i _ (by omega) (by omega) l2 hb
theorem cnt_up {dn : Nat → Bool} {c : Nat} (hd : dn c = false) : ∀ N, ((List.range N).countP (bup dn c)) = (List.range N).countP dn + (if c < N then 1 else 0)
  | 0 => rfl
  | N + 1 => by
    rw [List.range_succ, List.countP_append, List.countP_append, cnt_up hd N, List.countP_singleton, List.countP_singleton]
    unfold bup
    by_cases e : N = c
    · subst e
      rw [if_neg (show ¬ N < N by omega), if_pos (show N < N + 1 by omega)]
      simp [hd]
    · by_cases l : c < N
      · rw [if_pos l, if_neg e, if_pos (show c < N + 1 by omega)]
        generalize (if dn N = true then 1 else 0) = z; omega
      · rw [if_neg l, if_neg e, if_neg (show ¬ c < N + 1 by omega)]
        generalize (if dn N = true then 1 else 0) = z; omega
theorem cnt_le {dn : Nat → Bool} (N : Nat) : (List.range N).countP dn ≤ N := by
  have := List.countP_le_length (p := dn) (l := List.range N)
  rwa [List.length_range] at this
theorem cnt_lt {dn : Nat → Bool} {c N : Nat} (hd : dn c = false) (hc : c < N) : (List.range N).countP dn < N := by
  have a := cnt_up hd N
  have b := cnt_le (dn := bup dn c) N
  rw [if_pos hc] at a; omega
/-- the cheapest cell that is not settled -/
def CU (N : Nat) (f : Nat → Nat) (dn : Nat → Bool) (cur : Option Nat) : Prop := match cur with
  | none => ∀ b, b < N → dn b = false → 1000000 ≤ f b
  | some c => c < N ∧ dn c = false ∧ f c < 1000000 ∧ ∀ b, b < N → dn b = false → f c ≤ f b
def DI (w : RW) (g k : Nat) (f : Nat → Nat) (dn : Nat → Bool) : Prop :=
  f g = 0 ∧ (∀ c, c < nR w * nC w → f c ≤ 1000000 ∧ (f c < 1000000 → f c ≤ 2 * k))
  ∧ (∀ c, c < nR w * nC w → dn c = true → f c < 1000000)
  ∧ (∀ c b, c < nR w * nC w → b < nR w * nC w → dn c = true → dn b = false → f c ≤ f b)
  ∧ (∀ c, c < nR w * nC w → c ≠ g → f c < 1000000 → ∃ s, s < nR w * nC w ∧ dn s = true ∧ adj w c s ∧ 0 < ent w s ∧ f c = f s + ent w s)
  ∧ (∀ c s, c < nR w * nC w → s < nR w * nC w → dn s = true → 0 < ent w s → adj w c s → f c ≤ f s + ent w s)
  ∧ (List.range (nR w * nC w)).countP dn = k
def spr (w : RW) (c : Nat) (f : Nat → Nat) : Nat → Nat := if ent w c = 0 then f else sprF w c (f c + ent w c) 4 0 f
theorem spr_p {w : RW} {c : Nat} {f : Nat → Nat} : (∀ b, spr w c f b ≤ f b) ∧ (∀ b, spr w c f b = f b ∨ (spr w c f b = f c + ent w c ∧ adj w c b ∧ 0 < ent w c)) ∧ (∀ b, adj w c b → 0 < ent w c → spr w c f b ≤ f c + ent w c) := by
  unfold spr
  by_cases e : ent w c = 0
  · rw [if_pos e]; exact ⟨fun _ => Nat.le_refl _, fun _ => .inl rfl, fun _ _ h => by omega⟩
  · rw [if_neg e]
    refine ⟨fun b => spr_le 4 0 f, fun b => ?_, fun b ⟨i, hi, hb⟩ _ => spr_v 4 0 i f (by omega) (by omega) hi hb⟩
    rcases spr_or (w := w) (c := c) (v := f c + ent w c) (b := b) 4 0 f (by omega) with x | x
    · exact .inl x
    · exact .inr ⟨x.1, x.2, by omega⟩
theorem DI_step {w : RW} (hW : WF w) {g k c : Nat} {f : Nat → Nat} {dn : Nat → Bool} (h : DI w g k f dn) (hc : CU (nR w * nC w) f dn (some c)) (hk : k ≤ 64) : DI w g (k + 1) (spr w c f) (bup dn c) := by
  obtain ⟨h1, h2, h3, h4, h5, h6, h7⟩ := h
  obtain ⟨c1, c2, c3, c4⟩ : c < nR w * nC w ∧ dn c = false ∧ f c < 1000000 ∧ ∀ b, b < nR w * nC w → dn b = false → f c ≤ f b := hc
  obtain ⟨p1, p2, p3⟩ := spr_p (w := w) (c := c) (f := f)
  have el := ent_le w c
  have k2 := (h2 c c1).2 c3
  have same : ∀ s, s < nR w * nC w → bup dn c s = true → spr w c f s = f s := by
    intro s hs ds
    rcases p2 s with e | ⟨e, _, pe⟩
    · exact e
    · have le := p1 s
      unfold bup at ds
      by_cases q : s = c
      · subst q; omega
      · rw [if_neg q] at ds
        have := h4 s c hs c1 ds c2
        omega
  refine ⟨?_, fun b hb => ?_, fun b hb db => ?_, fun s b hs hb ds db => ?_, fun b hb bg bi => ?_, fun b s hb hs ds es ad => ?_, ?_⟩
  · have := p1 g; omega
  · have := p1 b; have a := h2 b hb
    refine ⟨by omega, fun i => ?_⟩
    rcases p2 b with e | ⟨e, _, _⟩
    · rw [e] at i ⊢; have := a.2 i; omega
    · omega
  · rw [same b hb db]
    unfold bup at db
    by_cases q : b = c
    · rw [q]; exact c3
    · rw [if_neg q] at db; exact h3 b hb db
  · rw [same s hs ds]
    have db' : dn b = false := by
      unfold bup at db
      by_cases q : b = c
      · rw [if_pos q] at db; cases db
      · rwa [if_neg q] at db
    have cb := c4 b hb db'
    have sc : f s ≤ f c := by
      unfold bup at ds
      by_cases q : s = c
      · rw [q]; omega
      · rw [if_neg q] at ds; exact h4 s c hs c1 ds c2
    rcases p2 b with e | ⟨e, _, _⟩ <;> omega
  · rcases p2 b with e | ⟨e, ad, pe⟩
    · rw [e] at bi ⊢
      obtain ⟨s, hs, ds, ad, es, fe⟩ := h5 b hb bg bi
      have ds' : bup dn c s = true := by
        unfold bup
        by_cases q : s = c
        · rw [if_pos q]
        · rw [if_neg q]; exact ds
      exact ⟨s, hs, ds', ad, es, by rw [same s hs ds']; exact fe⟩
    · have dc : bup dn c c = true := by unfold bup; rw [if_pos rfl]
      exact ⟨c, c1, dc, adj_sym hW c1 ad, pe, by rw [same c c1 dc]; exact e⟩
  · rw [same s hs ds]
    by_cases q : s = c
    · subst q
      exact p3 b (adj_sym hW hb ad) es
    · unfold bup at ds; rw [if_neg q] at ds
      have := h6 b s hb hs ds es ad
      have := p1 b
      omega
  · rw [cnt_up c2, if_pos c1, h7]
theorem DI_end {w : RW} {g k : Nat} {f : Nat → Nat} {dn : Nat → Bool} (h : DI w g k f dn) (hcu : CU (nR w * nC w) f dn none) (hk : k ≤ 64) : EqD w g f := by
  obtain ⟨h1, h2, h3, h4, h5, h6, h7⟩ := h
  have hcu : ∀ b, b < nR w * nC w → dn b = false → 1000000 ≤ f b := hcu
  refine ⟨h1, fun c hc => ⟨(h2 c hc).1, fun i => by have := (h2 c hc).2 i; omega⟩, fun c hc cg i => ?_, fun c s hc hs ad es i => ?_⟩
  · obtain ⟨s, a, b, d, e, x⟩ := h5 c hc cg i
    exact ⟨s, a, d, e, x⟩
  · have : dn s = true := by
      cases q : dn s
      · have := hcu s hs q; omega
      · rfl
    exact h6 c s hc hs this es ad
theorem DI_0 {w : RW} {g : Nat} (hg : g < nR w * nC w) : DI w g 0 (nup (fun _ => 1000000) g 0) (fun _ => false) ∧ CU (nR w * nC w) (nup (fun _ => 1000000) g 0) (fun _ => false) (some g) := by
  have e : nup (fun _ => 1000000) g 0 g = 0 := if_pos rfl
  have o : ∀ c, c ≠ g → nup (fun _ => 1000000) g 0 c = 1000000 := fun c h => if_neg h
  refine ⟨⟨e, fun c _ => ?_, fun c _ h => (by cases h), fun c b _ _ h => (by cases h), fun c _ h i => ?_, fun c s _ _ h => (by cases h), ?_⟩, hg, rfl, by rw [e]; omega, fun b _ _ => by rw [e]; omega⟩
  · by_cases q : c = g
    · rw [q, e]; omega
    · rw [o c q]; omega
  · rw [o c h] at i; omega
  · exact List.countP_eq_zero.mpr (fun _ _ h => by cases h)
