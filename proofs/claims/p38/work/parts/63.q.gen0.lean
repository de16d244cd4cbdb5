/-! small lemmas -/
theorem sq_eq {α : Type} {V : VS} {f : VS → Rs α} : sq V f = f V := rfl
theorem bd_rt {α β : Type} {a : α} {V : VS} {f : α → VS → Rs β} {g : String → VS → Rs β} : bd (rt a V) f g = f a V := rfl
theorem bd_th {α β : Type} {e : String} {V : VS} {f : α → VS → Rs β} {g : String → VS → Rs β} : bd (th e V : Rs α) f g = g e V := rfl
theorem ob_1 {α : Type} {a : Nat} {f : Nat → Rs α} : Option.bind (some a) f = f a := rfl
theorem om_0 {α : Type} {x : Rs α} {f : Nat → Rs α} : om none x f = x := rfl
theorem rng {x : Int32} {k : Nat} (hk : k < 2147483648) (h0 : ¬ x < 0) (h1 : x < Int32.ofNat k) : ∃ i, i < k ∧ x = Int32.ofNat i := by
  have h0' : 0 ≤ x := Int32.not_lt.mp h0
  refine ⟨x.toNatClampNeg, ?_, (Int32.ofNat_toNatClampNeg x h0').symm⟩
  have e := Int32.lt_iff_toInt_lt.mp h1
  rw [Int32.toInt_ofNat_of_lt hk] at e
  have f := Int32.le_iff_toInt_le.mp h0'
  have z : (0 : Int32).toInt = 0 := by decide +kernel
  show x.toInt.toNat < k
  omega
theorem le_of_gt {x : Int32} {a b : Int32} (e : b.toInt = a.toInt + 1) (h : a < x) : b ≤ x := by
  have := Int32.lt_iff_toInt_lt.mp h
  exact Int32.le_iff_toInt_le.mpr (by omega)
theorem lt_of_ng {x : Int32} {a b : Int32} (e : b.toInt = a.toInt + 1) (h : ¬ a < x) : x < b := by
  have := Int32.le_iff_toInt_le.mp (Int32.not_lt.mp h)
  exact Int32.lt_iff_toInt_lt.mpr (by omega)
theorem nle_of_ng {x : Int32} {a b : Int32} (e : b.toInt = a.toInt + 1) (h : ¬ a < x) : ¬ b ≤ x := Int32.not_le.mpr (lt_of_ng e h)
theorem isIn_no {n : Nat} {V : VS} {x lo hi : Int32} (h : x < lo ∨ hi < x) : ev_X9_isIn n V x lo hi = rt 0 V := by
  unfold ev_X9_isIn eX9_isIn_0
  by_cases g : x < lo
  · rw [if_pos g]
  · rw [if_neg g, if_pos (h.resolve_left g)]
theorem isIn_yes {n : Nat} {V : VS} {x lo hi : Int32} (g : ¬ x < lo) (h : ¬ hi < x) : ev_X9_isIn n V x lo hi = rt 1 V := by
  unfold ev_X9_isIn eX9_isIn_0
  rw [if_neg g, if_neg h]
theorem out01 {x : Int32} (a : ¬ x = 0) (b : ¬ x = 1) : x < 0 ∨ 1 < x := by
  have e0 : (0 : Int32).toInt = 0 := by decide +kernel
  have e1 : (1 : Int32).toInt = 1 := by decide +kernel
  rw [← Int32.toInt_inj, e0] at a
  rw [← Int32.toInt_inj, e1] at b
  rw [Int32.lt_iff_toInt_lt, Int32.lt_iff_toInt_lt, e0, e1]; omega
