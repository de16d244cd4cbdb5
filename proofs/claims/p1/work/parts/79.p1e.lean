/-! stepping a computation whose argument isn't known -/
theorem gi_rt {α : Type} {a : α} {V : VS} {A : α → VS → Prop} {B : String → VS → Prop} (h : A a V) : gd (rt a V) A B := gd_1 h
theorem gi_th {α : Type} {E : String} {V : VS} {A : α → VS → Prop} {B : String → VS → Prop} (h : B E V) : gd (th E V : Rs α) A B := gd_1 h
theorem gi_sq {α : Type} {V : VS} {f : VS → Rs α} {A : α → VS → Prop} {B : String → VS → Prop} (h : gd (f V) A B) : gd (sq V f) A B := h
theorem gi_bd {α β : Type} {x : Rs α} {f : α → VS → Rs β} {g : String → VS → Rs β} {A : β → VS → Prop} {B : String → VS → Prop} (h : gd x (fun r V => gd (f r V) A B) (fun E V => gd (g E V) A B)) : gd (bd x f g) A B := by
  have h := gd_0 h
  rcases x with _ | a | a
  · exact h.elim
  · exact h
  · exact h
theorem gi_rd {α : Type} {r : Option Nat} {a : Nat} {f : Nat → Rs α} {A : α → VS → Prop} {B : String → VS → Prop} (e : r = some a) (h : gd (f a) A B) : gd (r.bind f) A B := by
  rw [e]; exact h
theorem gi_un {α : Type} {a : Nat} {f : Nat → Rs α} {A : α → VS → Prop} {B : String → VS → Prop} (h : gd (f a) A B) : gd (Option.bind (some a) f) A B := h
theorem gi_om0 {α : Type} {x : Rs α} {f : Nat → Rs α} {A : α → VS → Prop} {B : String → VS → Prop} (h : gd x A B) : gd (om none x f) A B := h
theorem gi_om1 {α : Type} {x : Rs α} {a : Nat} {f : Nat → Rs α} {A : α → VS → Prop} {B : String → VS → Prop} (h : gd (f a) A B) : gd (om (some a) x f) A B := h
theorem gi_if {α : Type} {c : Prop} {_ : Decidable c} {t e : Rs α} {A : α → VS → Prop} {B : String → VS → Prop} (h1 : c → gd t A B) (h2 : ¬ c → gd e A B) : gd (if c then t else e) A B := by
  by_cases h : c
  · rw [if_pos h]; exact h1 h
  · rw [if_neg h]; exact h2 h
theorem gi_t {α : Type} {c : Prop} {_ : Decidable c} {t e : Rs α} {A : α → VS → Prop} {B : String → VS → Prop} (h : c) (k : gd t A B) : gd (if c then t else e) A B := by
  rw [if_pos h]; exact k
theorem gi_f {α : Type} {c : Prop} {_ : Decidable c} {t e : Rs α} {A : α → VS → Prop} {B : String → VS → Prop} (h : ¬ c) (k : gd e A B) : gd (if c then t else e) A B := by
  rw [if_neg h]; exact k
theorem gd_KR {V : VS} {a b c d : Nat} {y : Int32} : gd (KR V a b c d y) AT BT := gd_1 trivial
set_option maxHeartbeats 4000000 in
set_option maxRecDepth 100000 in
theorem ok_670 (xs : Nat → Int32) : gd (eL_law_670 400 4 xs KR W0 0 207 222 223 0) AT BT := by
  unfold eL_law_670
  generalize xs _ = x1
  generalize xs _ = x2
  have v0 : (1 : Int32).toInt = 1 := by decide +kernel
  have v1 : (vI W0 3 1 * vI W0 3 2).toInt = 25 := by decide +kernel
  have v2 : (vI W0 208 (Int32.toNatClampNeg 0) * vI W0 208 (Int32.toNatClampNeg 1) - 1).toInt = 24 := by decide +kernel
  have v3 : (vI W0 208 (Int32.toNatClampNeg 157) - 1).toInt = -1 := by decide +kernel
  have v4 : (0 : Int32).toInt = 0 := by decide +kernel
  have v5 : (11 : Int32).toInt = 11 := by decide +kernel
  have v6 : (6 : Int32).toInt = 6 := by decide +kernel
  have v7 : (vI W0 2 2).toInt = 0 := by decide +kernel
  have v8 : (vI (wI W0 207 0 0) 208 (Int32.toNatClampNeg 66) - 1).toInt = -1 := by decide +kernel
  repeat' first
    | with_reducible exact gi_rt trivial
    | with_reducible refine gi_rt ?_
    | with_reducible refine gi_th ?_
    | with_reducible refine gi_sq ?_
    | with_reducible refine gi_bd ?_
    | with_reducible refine gi_om0 ?_
    | with_reducible refine gi_om1 ?_
    | with_reducible refine gi_un ?_
    | with_reducible refine gi_t (by decide +kernel) ?_
    | with_reducible refine gi_f (by decide +kernel) ?_
    | (refine gi_rd (by with_unfolding_all rfl) ?_)
    | with_reducible refine gi_t (by assumption) ?_
    | with_reducible refine gi_f (by assumption) ?_
    | with_reducible refine gi_if (fun _ => ?_) (fun _ => ?_)
    | unfold ev_X9_thrown
    | unfold eX9_thrown_0
    | unfold ev_X9_unit
    | unfold eX9_unit_0
    | unfold ev_X9_of
    | unfold eX9_of_0
    | unfold ev_X9_no
    | unfold eX9_no_0
    | unfold ev_X9_isIn
    | unfold eX9_isIn_0
    | unfold ev_X9_isUnit
    | unfold eX9_isUnit_0
    | unfold ev_L_unit
    | unfold eL_unit_0
    | unfold ev_X8_unit
    | unfold eX8_unit_0
    | unfold ev_X8_requireUnit
    | unfold eX8_requireUnit_0
    | unfold ev_X2_find
    | unfold eX2_find_0
  all_goals first
    | exact gd_KR
    | (exfalso; try simp only [Int32.lt_iff_toInt_lt, Int32.le_iff_toInt_le] at *; omega)
set_option maxHeartbeats 4000000 in
set_option maxRecDepth 100000 in
theorem ok_852 (xs : Nat → Int32) : gd (eL_law_852 400 4 xs KR W0 0 207 222 223 0) AT BT := by
  unfold eL_law_852
  generalize xs _ = x1
  have v0 : (1 : Int32).toInt = 1 := by decide +kernel
  have v1 : (vI W0 3 1 * vI W0 3 2).toInt = 25 := by decide +kernel
  have v2 : (vI W0 208 (Int32.toNatClampNeg 0) * vI W0 208 (Int32.toNatClampNeg 1) - 1).toInt = 24 := by decide +kernel
  have v3 : (vI W0 208 (Int32.toNatClampNeg 157) - 1).toInt = -1 := by decide +kernel
  have v4 : (0 : Int32).toInt = 0 := by decide +kernel
  have v5 : (11 : Int32).toInt = 11 := by decide +kernel
  have v6 : (6 : Int32).toInt = 6 := by decide +kernel
  have v7 : (vI W0 2 2).toInt = 0 := by decide +kernel
  have v8 : (vI (wI W0 207 0 0) 208 (Int32.toNatClampNeg 66) - 1).toInt = -1 := by decide +kernel
  repeat' first
    | with_reducible exact gi_rt trivial
    | with_reducible refine gi_rt ?_
    | with_reducible refine gi_th ?_
    | with_reducible refine gi_sq ?_
    | with_reducible refine gi_bd ?_
    | with_reducible refine gi_om0 ?_
    | with_reducible refine gi_om1 ?_
    | with_reducible refine gi_un ?_
    | with_reducible refine gi_t (by decide +kernel) ?_
    | with_reducible refine gi_f (by decide +kernel) ?_
    | (refine gi_rd (by with_unfolding_all rfl) ?_)
    | with_reducible refine gi_t (by assumption) ?_
    | with_reducible refine gi_f (by assumption) ?_
    | with_reducible refine gi_if (fun _ => ?_) (fun _ => ?_)
    | unfold ev_X9_thrown
    | unfold eX9_thrown_0
    | unfold ev_X9_order
    | unfold eX9_order_0
    | unfold eX9_order_24
    | unfold ev_X9_isIn
    | unfold eX9_isIn_0
    | unfold ev_L_order
    | unfold eL_order_0
    | unfold ev_X8_order
    | unfold eX8_order_0
    | unfold eX8_order_25
    | unfold ev_X2_hasBegun
    | unfold eX2_hasBegun_0
  all_goals first
    | exact gd_KR
    | (exfalso; try simp only [Int32.lt_iff_toInt_lt, Int32.le_iff_toInt_le] at *; omega)
set_option maxHeartbeats 4000000 in
set_option maxRecDepth 100000 in
theorem ok_908 (xs : Nat → Int32) : gd (eL_law_908 400 4 xs KR W0 0 207 222 223 0) AT BT := by
  unfold eL_law_908
  generalize xs _ = x1
  have v0 : (1 : Int32).toInt = 1 := by decide +kernel
  have v1 : (vI W0 3 1 * vI W0 3 2).toInt = 25 := by decide +kernel
  have v2 : (vI W0 208 (Int32.toNatClampNeg 0) * vI W0 208 (Int32.toNatClampNeg 1) - 1).toInt = 24 := by decide +kernel
  have v3 : (vI W0 208 (Int32.toNatClampNeg 157) - 1).toInt = -1 := by decide +kernel
  have v4 : (0 : Int32).toInt = 0 := by decide +kernel
  have v5 : (11 : Int32).toInt = 11 := by decide +kernel
  have v6 : (6 : Int32).toInt = 6 := by decide +kernel
  have v7 : (vI W0 2 2).toInt = 0 := by decide +kernel
  have v8 : (vI (wI W0 207 0 0) 208 (Int32.toNatClampNeg 66) - 1).toInt = -1 := by decide +kernel
  repeat' first
    | with_reducible exact gi_rt trivial
    | with_reducible refine gi_rt ?_
    | with_reducible refine gi_th ?_
    | with_reducible refine gi_sq ?_
    | with_reducible refine gi_bd ?_
    | with_reducible refine gi_om0 ?_
    | with_reducible refine gi_om1 ?_
    | with_reducible refine gi_un ?_
    | with_reducible refine gi_t (by decide +kernel) ?_
    | with_reducible refine gi_f (by decide +kernel) ?_
    | (refine gi_rd (by with_unfolding_all rfl) ?_)
    | with_reducible refine gi_t (by assumption) ?_
    | with_reducible refine gi_f (by assumption) ?_
    | with_reducible refine gi_if (fun _ => ?_) (fun _ => ?_)
    | unfold ev_X9_thrown
    | unfold eX9_thrown_0
    | unfold ev_X9_costs
    | unfold eX9_costs_0
    | unfold ev_X9_no
    | unfold eX9_no_0
    | unfold ev_X9_costsTo
    | unfold eX9_costsTo_0
    | unfold ev_X9_measures
    | unfold eX9_measures_0
    | unfold eX9_measures_16
    | unfold eX9_measures_43
    | unfold eX9_measures_52
    | unfold eX9_measures_61
    | unfold eX9_measures_151
    | unfold ev_X9_price
    | unfold eX9_price_0
    | unfold ev_X9_isFree
    | unfold eX9_isFree_0
    | unfold ev_X9_unitOn
    | unfold eX9_unitOn_0
    | unfold eX9_unitOn_2
    | unfold ev_X9_of
    | unfold eX9_of_0
    | unfold ev_X9_lives
    | unfold eX9_lives_0
    | unfold ev_X9_step
    | unfold eX9_step_0
    | unfold eX9_step_23
    | unfold eX9_step_49
    | unfold ev_X9_isIn
    | unfold eX9_isIn_0
    | unfold ev_X9_column
    | unfold eX9_column_0
    | unfold ev_X9_row
    | unfold eX9_row_0
    | unfold ev_X9_mayAsk
    | unfold eX9_mayAsk_0
    | unfold eX9_mayAsk_22
    | unfold ev_X9_conditions
    | unfold eX9_conditions_0
    | unfold eX9_conditions_33
    | unfold ev_X9_living
    | unfold eX9_living_0
    | unfold eX9_living_4
    | unfold eX9_living_38
    | unfold eX9_living_39
    | unfold ev_X9_hasBegun
    | unfold eX9_hasBegun_0
    | unfold ev_X9_isCell
    | unfold eX9_isCell_0
    | unfold ev_L_costs
    | unfold eL_costs_0
    | unfold ev_X8_costs
    | unfold eX8_costs_0
    | unfold ev_X8_requirePath
    | unfold eX8_requirePath_0
    | unfold ev_X5_costsFrom
    | unfold eX5_costsFrom_0
    | unfold ev_X5_measure
    | unfold eX5_measure_0
    | unfold eX5_measure_26
    | unfold eX5_measure_27
    | unfold eX5_measure_56
    | unfold eX5_measure_69
    | unfold ev_X5_findCheapest
    | unfold eX5_findCheapest_0
    | unfold eX5_findCheapest_7
    | unfold ev_X5_spread
    | unfold eX5_spread_0
    | unfold eX5_spread_27
    | unfold ev_X3_neighbor
    | unfold eX3_neighbor_0
    | unfold ev_X3_columnOf
    | unfold eX3_columnOf_0
    | unfold ev_X3_rowOf
    | unfold eX3_rowOf_0
    | unfold ev_X2_onTurn
    | unfold eX2_onTurn_0
    | unfold ev_X5_clear
    | unfold eX5_clear_0
    | unfold eX5_clear_25
    | unfold eX5_clear_62
    | unfold eX5_clear_76
    | unfold eX5_clear_57
    | unfold ev_X3_ground
    | unfold eX3_ground_0
    | unfold eX5_clear_99
    | unfold ev_X7_lives
    | unfold eX7_lives_0
    | unfold ev_X8_requireTurn
    | unfold eX8_requireTurn_0
    | unfold ev_X8_requireCell
    | unfold eX8_requireCell_0
    | unfold ev_X3_hasCell
    | unfold eX3_hasCell_0
  all_goals first
    | exact gd_KR
    | (exfalso; try simp only [Int32.lt_iff_toInt_lt, Int32.le_iff_toInt_le] at *; omega)
set_option maxHeartbeats 4000000 in
set_option maxRecDepth 100000 in
theorem ok_964 (xs : Nat → Int32) : gd (eL_law_964 400 4 xs KR W0 0 207 222 223 0) AT BT := by
  unfold eL_law_964
  generalize xs _ = x1
  generalize xs _ = x2
  have v0 : (1 : Int32).toInt = 1 := by decide +kernel
  have v1 : (vI W0 3 1 * vI W0 3 2).toInt = 25 := by decide +kernel
  have v2 : (vI W0 208 (Int32.toNatClampNeg 0) * vI W0 208 (Int32.toNatClampNeg 1) - 1).toInt = 24 := by decide +kernel
  have v3 : (vI W0 208 (Int32.toNatClampNeg 157) - 1).toInt = -1 := by decide +kernel
  have v4 : (0 : Int32).toInt = 0 := by decide +kernel
  have v5 : (11 : Int32).toInt = 11 := by decide +kernel
  have v6 : (6 : Int32).toInt = 6 := by decide +kernel
  have v7 : (vI W0 2 2).toInt = 0 := by decide +kernel
  have v8 : (vI (wI W0 207 0 0) 208 (Int32.toNatClampNeg 66) - 1).toInt = -1 := by decide +kernel
  repeat' first
    | with_reducible exact gi_rt trivial
    | with_reducible refine gi_rt ?_
    | with_reducible refine gi_th ?_
    | with_reducible refine gi_sq ?_
    | with_reducible refine gi_bd ?_
    | with_reducible refine gi_om0 ?_
    | with_reducible refine gi_om1 ?_
    | with_reducible refine gi_un ?_
    | with_reducible refine gi_t (by decide +kernel) ?_
    | with_reducible refine gi_f (by decide +kernel) ?_
    | (refine gi_rd (by with_unfolding_all rfl) ?_)
    | with_reducible refine gi_t (by assumption) ?_
    | with_reducible refine gi_f (by assumption) ?_
    | with_reducible refine gi_if (fun _ => ?_) (fun _ => ?_)
    | unfold ev_X9_thrown
    | unfold eX9_thrown_0
    | unfold ev_X9_pathCell
    | unfold eX9_pathCell_0
    | unfold eX9_pathCell_26
    | unfold ev_X9_no
    | unfold eX9_no_0
    | unfold eX9_pathCell_49
    | unfold ev_X9_next
    | unfold eX9_next_0
    | unfold eX9_next_9
    | unfold eX9_next_51
    | unfold ev_X9_step
    | unfold eX9_step_0
    | unfold eX9_step_23
    | unfold eX9_step_49
    | unfold ev_X9_isIn
    | unfold eX9_isIn_0
    | unfold ev_X9_column
    | unfold eX9_column_0
    | unfold ev_X9_row
    | unfold eX9_row_0
    | unfold ev_X9_price
    | unfold eX9_price_0
    | unfold ev_X9_isFree
    | unfold eX9_isFree_0
    | unfold ev_X9_unitOn
    | unfold eX9_unitOn_0
    | unfold eX9_unitOn_2
    | unfold ev_X9_of
    | unfold eX9_of_0
    | unfold ev_X9_lives
    | unfold eX9_lives_0
    | unfold ev_X9_costsTo
    | unfold eX9_costsTo_0
    | unfold ev_X9_measures
    | unfold eX9_measures_0
    | unfold eX9_measures_16
    | unfold eX9_measures_43
    | unfold eX9_measures_52
    | unfold eX9_measures_61
    | unfold eX9_measures_151
    | unfold ev_X9_mayAsk
    | unfold eX9_mayAsk_0
    | unfold eX9_mayAsk_22
    | unfold ev_X9_conditions
    | unfold eX9_conditions_0
    | unfold eX9_conditions_33
    | unfold ev_X9_living
    | unfold eX9_living_0
    | unfold eX9_living_4
    | unfold eX9_living_38
    | unfold eX9_living_39
    | unfold ev_X9_hasBegun
    | unfold eX9_hasBegun_0
    | unfold ev_X9_isCell
    | unfold eX9_isCell_0
    | unfold ev_L_pathCell
    | unfold eL_pathCell_0
    | unfold ev_X8_pathCell
    | unfold eX8_pathCell_0
    | unfold eX8_pathCell_34
    | unfold ev_X5_next
    | unfold eX5_next_0
    | unfold eX5_next_14
    | unfold ev_X3_neighbor
    | unfold eX3_neighbor_0
    | unfold ev_X3_columnOf
    | unfold eX3_columnOf_0
    | unfold ev_X3_rowOf
    | unfold eX3_rowOf_0
    | unfold ev_X5_costsFrom
    | unfold eX5_costsFrom_0
    | unfold eX8_pathCell_76
    | unfold eX8_pathCell_87
    | unfold ev_X8_requirePath
    | unfold eX8_requirePath_0
    | unfold ev_X5_measure
    | unfold eX5_measure_0
    | unfold eX5_measure_26
    | unfold eX5_measure_27
    | unfold eX5_measure_56
    | unfold eX5_measure_69
    | unfold ev_X5_findCheapest
    | unfold eX5_findCheapest_0
    | unfold eX5_findCheapest_7
    | unfold ev_X5_spread
    | unfold eX5_spread_0
    | unfold eX5_spread_27
    | unfold ev_X2_onTurn
    | unfold eX2_onTurn_0
    | unfold ev_X5_clear
    | unfold eX5_clear_0
    | unfold eX5_clear_25
    | unfold eX5_clear_62
    | unfold eX5_clear_76
    | unfold eX5_clear_57
    | unfold ev_X3_ground
    | unfold eX3_ground_0
    | unfold eX5_clear_99
    | unfold ev_X7_lives
    | unfold eX7_lives_0
    | unfold ev_X8_requireTurn
    | unfold eX8_requireTurn_0
    | unfold ev_X8_requireCell
    | unfold eX8_requireCell_0
    | unfold ev_X3_hasCell
    | unfold eX3_hasCell_0
  all_goals first
    | exact gd_KR
    | (exfalso; try simp only [Int32.lt_iff_toInt_lt, Int32.le_iff_toInt_le] at *; omega)
set_option maxHeartbeats 4000000 in
set_option maxRecDepth 100000 in
theorem ok_1254 (xs : Nat → Int32) : gd (eL_law_1254 400 4 xs KR W0 0 207 222 223 0) AT BT := by
  unfold eL_law_1254
  generalize xs _ = x1
  have v0 : (1 : Int32).toInt = 1 := by decide +kernel
  have v1 : (vI W0 3 1 * vI W0 3 2).toInt = 25 := by decide +kernel
  have v2 : (vI W0 208 (Int32.toNatClampNeg 0) * vI W0 208 (Int32.toNatClampNeg 1) - 1).toInt = 24 := by decide +kernel
  have v3 : (vI W0 208 (Int32.toNatClampNeg 157) - 1).toInt = -1 := by decide +kernel
  have v4 : (0 : Int32).toInt = 0 := by decide +kernel
  have v5 : (11 : Int32).toInt = 11 := by decide +kernel
  have v6 : (6 : Int32).toInt = 6 := by decide +kernel
  have v7 : (vI W0 2 2).toInt = 0 := by decide +kernel
  have v8 : (vI (wI W0 207 0 0) 208 (Int32.toNatClampNeg 66) - 1).toInt = -1 := by decide +kernel
  repeat' first
    | with_reducible exact gi_rt trivial
    | with_reducible refine gi_rt ?_
    | with_reducible refine gi_th ?_
    | with_reducible refine gi_sq ?_
    | with_reducible refine gi_bd ?_
    | with_reducible refine gi_om0 ?_
    | with_reducible refine gi_om1 ?_
    | with_reducible refine gi_un ?_
    | with_reducible refine gi_t (by decide +kernel) ?_
    | with_reducible refine gi_f (by decide +kernel) ?_
    | (refine gi_rd (by with_unfolding_all rfl) ?_)
    | with_reducible refine gi_t (by assumption) ?_
    | with_reducible refine gi_f (by assumption) ?_
    | with_reducible refine gi_if (fun _ => ?_) (fun _ => ?_)
    | unfold ev_X9_thrown
    | unfold eX9_thrown_0
    | unfold ev_X9_move
    | unfold eX9_move_0
    | unfold eX9_move_59
    | unfold ev_X9_no
    | unfold eX9_no_0
    | unfold ev_X9_carries
    | unfold eX9_carries_0
    | unfold ev_X9_does
    | unfold eX9_does_0
    | unfold eX9_does_62
    | unfold ev_X9_sets
    | unfold eX9_sets_0
    | unfold ev_X9_kindly
    | unfold eX9_kindly_0
    | unfold ev_X9_number
    | unfold eX9_number_0
    | unfold ev_X9_of
    | unfold eX9_of_0
    | unfold eX9_does_195
    | unfold ev_X9_settles
    | unfold eX9_settles_0
    | unfold ev_X9_goesOn
    | unfold eX9_goesOn_0
    | unfold eX9_goesOn_27
    | unfold eX9_goesOn_37
    | unfold ev_X9_conditions
    | unfold eX9_conditions_0
    | unfold eX9_conditions_33
    | unfold ev_X9_living
    | unfold eX9_living_0
    | unfold eX9_living_4
    | unfold eX9_living_38
    | unfold eX9_living_39
    | unfold ev_X9_lives
    | unfold eX9_lives_0
    | unfold ev_X9_hasBegun
    | unfold eX9_hasBegun_0
    | unfold ev_X9_hasTurn
    | unfold eX9_hasTurn_0
    | unfold eX9_hasTurn_54
    | unfold ev_X9_dies
    | unfold eX9_dies_0
    | unfold ev_X9_tells
    | unfold eX9_tells_0
    | unfold eX9_tells_65
    | unfold eX9_tells_16
    | unfold ev_X9_loses
    | unfold eX9_loses_0
    | unfold eX9_loses_21
    | unfold ev_X9_begins
    | unfold eX9_begins_0
    | unfold eX9_begins_38
    | unfold eX9_begins_97
    | unfold eX9_begins_157
    | unfold ev_X9_roll
    | unfold eX9_roll_0
    | unfold ev_X9_placeOfTurn
    | unfold eX9_placeOfTurn_0
    | unfold eX9_placeOfTurn_2
    | unfold ev_X9_throwsAt
    | unfold eX9_throwsAt_0
    | unfold eX9_throwsAt_27
    | unfold ev_X9_apart
    | unfold eX9_apart_0
    | unfold eX9_apart_38
    | unfold eX9_apart_77
    | unfold ev_X9_column
    | unfold eX9_column_0
    | unfold ev_X9_row
    | unfold eX9_row_0
    | unfold ev_X9_attacks
    | unfold eX9_attacks_0
    | unfold ev_X9_damage
    | unfold eX9_damage_0
    | unfold eX9_damage_31
    | unfold ev_X9_hits
    | unfold eX9_hits_0
    | unfold ev_X9_covers
    | unfold eX9_covers_0
    | unfold eX9_covers_60
    | unfold eX9_covers_115
    | unfold ev_X9_moves
    | unfold eX9_moves_0
    | unfold eX9_moves_15
    | unfold eX9_moves_69
    | unfold eX9_moves_58
    | unfold ev_X9_isStopped
    | unfold eX9_isStopped_0
    | unfold eX9_isStopped_2
    | unfold eX9_isStopped_46
    | unfold eX9_isStopped_47
    | unfold ev_X9_canAttack
    | unfold eX9_canAttack_0
    | unfold ev_X9_sees
    | unfold eX9_sees_0
    | unfold eX9_sees_17
    | unfold ev_X9_isMet
    | unfold eX9_isMet_0
    | unfold eX9_isMet_76
    | unfold eX9_isMet_94
    | unfold eX9_isMet_108
    | unfold eX9_isMet_128
    | unfold eX9_isMet_137
    | unfold eX9_isMet_194
    | unfold eX9_isMet_209
    | unfold ev_X9_next
    | unfold eX9_next_0
    | unfold eX9_next_9
    | unfold eX9_next_51
    | unfold ev_X9_step
    | unfold eX9_step_0
    | unfold eX9_step_23
    | unfold eX9_step_49
    | unfold ev_X9_isIn
    | unfold eX9_isIn_0
    | unfold ev_X9_price
    | unfold eX9_price_0
    | unfold ev_X9_isFree
    | unfold eX9_isFree_0
    | unfold ev_X9_unitOn
    | unfold eX9_unitOn_0
    | unfold eX9_unitOn_2
    | unfold ev_X9_measures
    | unfold eX9_measures_0
    | unfold eX9_measures_16
    | unfold eX9_measures_43
    | unfold eX9_measures_52
    | unfold eX9_measures_61
    | unfold eX9_measures_151
    | unfold ev_X9_ends
    | unfold eX9_ends_0
    | unfold eX9_ends_26
    | unfold eX9_ends_52
    | unfold ev_X9_keeps
    | unfold eX9_keeps_0
    | unfold eX9_keeps_52
    | unfold eX9_keeps_11
    | unfold ev_X9_costsTo
    | unfold eX9_costsTo_0
    | unfold ev_X9_mayAsk
    | unfold eX9_mayAsk_0
    | unfold eX9_mayAsk_22
    | unfold ev_X9_isCell
    | unfold eX9_isCell_0
    | unfold ev_L_move
    | unfold eL_move_0
    | unfold ev_X8_move
    | unfold eX8_move_0
    | unfold eX8_move_56
    | unfold ev_X2_walk
    | unfold eX2_walk_0
    | unfold eX2_walk_33
    | unfold eX2_walk_95
    | unfold ev_X2_settle
    | unfold eX2_settle_0
    | unfold ev_X2_passTurn
    | unfold eX2_passTurn_0
    | unfold eX2_passTurn_12
    | unfold eX2_passTurn_49
    | unfold ev_X2_beginTurn
    | unfold eX2_beginTurn_0
    | unfold eX2_beginTurn_43
    | unfold ev_X1_note
    | unfold eX1_note_0
    | unfold eX1_note_66
    | unfold ev_X7_lives
    | unfold eX7_lives_0
    | unfold ev_X7_lose
    | unfold eX7_lose_0
    | unfold ev_X2_beginRound
    | unfold eX2_beginRound_0
    | unfold eX2_beginRound_36
    | unfold ev_X2_insertByRoll
    | unfold eX2_insertByRoll_0
    | unfold eX2_insertByRoll_5
    | unfold eX2_insertByRoll_52
    | unfold ev_X2_rollDie
    | unfold eX2_rollDie_0
    | unfold ev_X2_goesOn
    | unfold eX2_goesOn_0
    | unfold ev_X2_hasLiving
    | unfold eX2_hasLiving_0
    | unfold eX2_hasLiving_2
    | unfold eX2_walk_82
    | unfold ev_X2_isStoppedIn
    | unfold eX2_isStoppedIn_0
    | unfold eX2_isStoppedIn_24
    | unfold ev_X2_strike
    | unfold eX2_strike_0
    | unfold ev_X2_damageOf
    | unfold eX2_damageOf_0
    | unfold ev_X2_isHit
    | unfold eX2_isHit_0
    | unfold ev_X2_neededResult
    | unfold eX2_neededResult_0
    | unfold eX2_neededResult_48
    | unfold ev_X3_coverOf
    | unfold eX3_coverOf_0
    | unfold eX3_coverOf_52
    | unfold eX3_coverOf_57
    | unfold eX3_coverOf_80
    | unfold eX3_coverOf_85
    | unfold ev_X3_ground
    | unfold eX3_ground_0
    | unfold ev_X3_columnOf
    | unfold eX3_columnOf_0
    | unfold ev_X3_rowOf
    | unfold eX3_rowOf_0
    | unfold ev_X3_distance
    | unfold eX3_distance_0
    | unfold ev_X2_canStrike
    | unfold eX2_canStrike_0
    | unfold ev_X3_isClear
    | unfold eX3_isClear_0
    | unfold eX3_isClear_21
    | unfold ev_X3_isInWay
    | unfold eX3_isInWay_0
    | unfold eX3_isInWay_72
    | unfold eX3_isInWay_86
    | unfold eX3_isInWay_98
    | unfold eX3_isInWay_112
    | unfold ev_X5_next
    | unfold eX5_next_0
    | unfold eX5_next_14
    | unfold ev_X3_neighbor
    | unfold eX3_neighbor_0
    | unfold ev_X5_costsFrom
    | unfold eX5_costsFrom_0
    | unfold ev_X5_measure
    | unfold eX5_measure_0
    | unfold eX5_measure_26
    | unfold eX5_measure_27
    | unfold eX5_measure_56
    | unfold eX5_measure_69
    | unfold ev_X5_findCheapest
    | unfold eX5_findCheapest_0
    | unfold eX5_findCheapest_7
    | unfold ev_X5_spread
    | unfold eX5_spread_0
    | unfold eX5_spread_27
    | unfold ev_X2_onTurn
    | unfold eX2_onTurn_0
    | unfold ev_X5_clear
    | unfold eX5_clear_0
    | unfold eX5_clear_25
    | unfold eX5_clear_62
    | unfold eX5_clear_76
    | unfold eX5_clear_57
    | unfold eX5_clear_99
    | unfold ev_X8_remember
    | unfold eX8_remember_0
    | unfold ev_X0_add
    | unfold eX0_add_0
    | unfold ev_X4_save
    | unfold eX4_save_0
    | unfold ev_X2_copyFrom
    | unfold eX2_copyFrom_0
    | unfold eX2_copyFrom_21
    | unfold ev_X7_copyFrom
    | unfold eX7_copyFrom_0
    | unfold ev_X1_copyFrom
    | unfold eX1_copyFrom_0
    | unfold ev_X3_copyFrom
    | unfold eX3_copyFrom_0
    | unfold ev_X8_requireActions
    | unfold eX8_requireActions_0
    | unfold ev_X8_requireTurn
    | unfold eX8_requireTurn_0
    | unfold ev_X8_requireCell
    | unfold eX8_requireCell_0
    | unfold ev_X3_hasCell
    | unfold eX3_hasCell_0
  all_goals first
    | exact gd_KR
    | (exfalso; try simp only [Int32.lt_iff_toInt_lt, Int32.le_iff_toInt_le] at *; omega)
set_option maxHeartbeats 4000000 in
set_option maxRecDepth 100000 in
theorem ok_1366 (xs : Nat → Int32) : gd (eL_law_1366 400 4 xs KR W0 0 207 222 223 0) AT BT := by
  unfold eL_law_1366
  generalize xs _ = x1
  have v0 : (1 : Int32).toInt = 1 := by decide +kernel
  have v1 : (vI W0 3 1 * vI W0 3 2).toInt = 25 := by decide +kernel
  have v2 : (vI W0 208 (Int32.toNatClampNeg 0) * vI W0 208 (Int32.toNatClampNeg 1) - 1).toInt = 24 := by decide +kernel
  have v3 : (vI W0 208 (Int32.toNatClampNeg 157) - 1).toInt = -1 := by decide +kernel
  have v4 : (0 : Int32).toInt = 0 := by decide +kernel
  have v5 : (11 : Int32).toInt = 11 := by decide +kernel
  have v6 : (6 : Int32).toInt = 6 := by decide +kernel
  have v7 : (vI W0 2 2).toInt = 0 := by decide +kernel
  have v8 : (vI (wI W0 207 0 0) 208 (Int32.toNatClampNeg 66) - 1).toInt = -1 := by decide +kernel
  repeat' first
    | with_reducible exact gi_rt trivial
    | with_reducible refine gi_rt ?_
    | with_reducible refine gi_th ?_
    | with_reducible refine gi_sq ?_
    | with_reducible refine gi_bd ?_
    | with_reducible refine gi_om0 ?_
    | with_reducible refine gi_om1 ?_
    | with_reducible refine gi_un ?_
    | with_reducible refine gi_t (by decide +kernel) ?_
    | with_reducible refine gi_f (by decide +kernel) ?_
    | (refine gi_rd (by with_unfolding_all rfl) ?_)
    | with_reducible refine gi_t (by assumption) ?_
    | with_reducible refine gi_f (by assumption) ?_
    | with_reducible refine gi_if (fun _ => ?_) (fun _ => ?_)
    | unfold ev_X9_thrown
    | unfold eX9_thrown_0
    | unfold ev_X9_throwAt
    | unfold eX9_throwAt_0
    | unfold ev_X9_carries
    | unfold eX9_carries_0
    | unfold ev_X9_does
    | unfold eX9_does_0
    | unfold eX9_does_62
    | unfold ev_X9_sets
    | unfold eX9_sets_0
    | unfold ev_X9_kindly
    | unfold eX9_kindly_0
    | unfold ev_X9_number
    | unfold eX9_number_0
    | unfold ev_X9_of
    | unfold eX9_of_0
    | unfold eX9_does_195
    | unfold ev_X9_settles
    | unfold eX9_settles_0
    | unfold ev_X9_goesOn
    | unfold eX9_goesOn_0
    | unfold eX9_goesOn_27
    | unfold eX9_goesOn_37
    | unfold ev_X9_conditions
    | unfold eX9_conditions_0
    | unfold eX9_conditions_33
    | unfold ev_X9_living
    | unfold eX9_living_0
    | unfold eX9_living_4
    | unfold eX9_living_38
    | unfold eX9_living_39
    | unfold ev_X9_lives
    | unfold eX9_lives_0
    | unfold ev_X9_hasBegun
    | unfold eX9_hasBegun_0
    | unfold ev_X9_hasTurn
    | unfold eX9_hasTurn_0
    | unfold eX9_hasTurn_54
    | unfold ev_X9_dies
    | unfold eX9_dies_0
    | unfold ev_X9_tells
    | unfold eX9_tells_0
    | unfold eX9_tells_65
    | unfold eX9_tells_16
    | unfold ev_X9_loses
    | unfold eX9_loses_0
    | unfold eX9_loses_21
    | unfold ev_X9_begins
    | unfold eX9_begins_0
    | unfold eX9_begins_38
    | unfold eX9_begins_97
    | unfold eX9_begins_157
    | unfold ev_X9_roll
    | unfold eX9_roll_0
    | unfold ev_X9_placeOfTurn
    | unfold eX9_placeOfTurn_0
    | unfold eX9_placeOfTurn_2
    | unfold ev_X9_throwsAt
    | unfold eX9_throwsAt_0
    | unfold eX9_throwsAt_27
    | unfold ev_X9_apart
    | unfold eX9_apart_0
    | unfold eX9_apart_38
    | unfold eX9_apart_77
    | unfold ev_X9_column
    | unfold eX9_column_0
    | unfold ev_X9_row
    | unfold eX9_row_0
    | unfold ev_X9_attacks
    | unfold eX9_attacks_0
    | unfold ev_X9_damage
    | unfold eX9_damage_0
    | unfold eX9_damage_31
    | unfold ev_X9_hits
    | unfold eX9_hits_0
    | unfold ev_X9_covers
    | unfold eX9_covers_0
    | unfold eX9_covers_60
    | unfold eX9_covers_115
    | unfold ev_X9_moves
    | unfold eX9_moves_0
    | unfold eX9_moves_15
    | unfold eX9_moves_69
    | unfold eX9_moves_58
    | unfold ev_X9_isStopped
    | unfold eX9_isStopped_0
    | unfold eX9_isStopped_2
    | unfold eX9_isStopped_46
    | unfold eX9_isStopped_47
    | unfold ev_X9_canAttack
    | unfold eX9_canAttack_0
    | unfold ev_X9_sees
    | unfold eX9_sees_0
    | unfold eX9_sees_17
    | unfold ev_X9_isMet
    | unfold eX9_isMet_0
    | unfold eX9_isMet_76
    | unfold eX9_isMet_94
    | unfold eX9_isMet_108
    | unfold eX9_isMet_128
    | unfold eX9_isMet_137
    | unfold eX9_isMet_194
    | unfold eX9_isMet_209
    | unfold ev_X9_next
    | unfold eX9_next_0
    | unfold eX9_next_9
    | unfold eX9_next_51
    | unfold ev_X9_step
    | unfold eX9_step_0
    | unfold eX9_step_23
    | unfold eX9_step_49
    | unfold ev_X9_isIn
    | unfold eX9_isIn_0
    | unfold ev_X9_price
    | unfold eX9_price_0
    | unfold ev_X9_isFree
    | unfold eX9_isFree_0
    | unfold ev_X9_unitOn
    | unfold eX9_unitOn_0
    | unfold eX9_unitOn_2
    | unfold ev_X9_measures
    | unfold eX9_measures_0
    | unfold eX9_measures_16
    | unfold eX9_measures_43
    | unfold eX9_measures_52
    | unfold eX9_measures_61
    | unfold eX9_measures_151
    | unfold ev_X9_ends
    | unfold eX9_ends_0
    | unfold eX9_ends_26
    | unfold eX9_ends_52
    | unfold ev_X9_keeps
    | unfold eX9_keeps_0
    | unfold eX9_keeps_52
    | unfold eX9_keeps_11
    | unfold eX9_throwAt_101
    | unfold ev_X9_no
    | unfold eX9_no_0
    | unfold eX9_throwAt_41
    | unfold ev_X9_mayAsk
    | unfold eX9_mayAsk_0
    | unfold eX9_mayAsk_22
    | unfold ev_X9_isCell
    | unfold eX9_isCell_0
    | unfold ev_L_throwAt
    | unfold eL_throwAt_0
    | unfold ev_X8_throwAt
    | unfold eX8_throwAt_0
    | unfold ev_X2_hurl
    | unfold eX2_hurl_0
    | unfold eX2_hurl_50
    | unfold ev_X2_suffer
    | unfold eX2_suffer_0
    | unfold ev_X1_note
    | unfold eX1_note_0
    | unfold eX1_note_66
    | unfold ev_X2_rollDie
    | unfold eX2_rollDie_0
    | unfold ev_X7_lives
    | unfold eX7_lives_0
    | unfold ev_X7_lose
    | unfold eX7_lose_0
    | unfold ev_X3_distance
    | unfold eX3_distance_0
    | unfold ev_X3_columnOf
    | unfold eX3_columnOf_0
    | unfold ev_X3_rowOf
    | unfold eX3_rowOf_0
    | unfold ev_X2_settle
    | unfold eX2_settle_0
    | unfold ev_X2_passTurn
    | unfold eX2_passTurn_0
    | unfold eX2_passTurn_12
    | unfold eX2_passTurn_49
    | unfold ev_X2_beginTurn
    | unfold eX2_beginTurn_0
    | unfold eX2_beginTurn_43
    | unfold ev_X2_beginRound
    | unfold eX2_beginRound_0
    | unfold eX2_beginRound_36
    | unfold ev_X2_insertByRoll
    | unfold eX2_insertByRoll_0
    | unfold eX2_insertByRoll_5
    | unfold eX2_insertByRoll_52
    | unfold ev_X2_goesOn
    | unfold eX2_goesOn_0
    | unfold ev_X2_hasLiving
    | unfold eX2_hasLiving_0
    | unfold eX2_hasLiving_2
    | unfold ev_X2_onTurn
    | unfold eX2_onTurn_0
    | unfold ev_X8_remember
    | unfold eX8_remember_0
    | unfold ev_X0_add
    | unfold eX0_add_0
    | unfold ev_X4_save
    | unfold eX4_save_0
    | unfold ev_X2_copyFrom
    | unfold eX2_copyFrom_0
    | unfold eX2_copyFrom_21
    | unfold ev_X7_copyFrom
    | unfold eX7_copyFrom_0
    | unfold ev_X1_copyFrom
    | unfold eX1_copyFrom_0
    | unfold ev_X3_copyFrom
    | unfold eX3_copyFrom_0
    | unfold ev_X2_canHurl
    | unfold eX2_canHurl_0
    | unfold ev_X3_isClear
    | unfold eX3_isClear_0
    | unfold eX3_isClear_21
    | unfold ev_X3_isInWay
    | unfold eX3_isInWay_0
    | unfold eX3_isInWay_72
    | unfold eX3_isInWay_86
    | unfold eX3_isInWay_98
    | unfold eX3_isInWay_112
    | unfold ev_X3_ground
    | unfold eX3_ground_0
    | unfold ev_X8_requireActions
    | unfold eX8_requireActions_0
    | unfold ev_X8_requireTurn
    | unfold eX8_requireTurn_0
    | unfold ev_X8_requireCell
    | unfold eX8_requireCell_0
    | unfold ev_X3_hasCell
    | unfold eX3_hasCell_0
  all_goals first
    | exact gd_KR
    | (exfalso; try simp only [Int32.lt_iff_toInt_lt, Int32.le_iff_toInt_le] at *; omega)
