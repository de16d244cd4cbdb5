/-! the law of p38; compared: restore -/
section
variable {i n L : Nat} {xs : Nat → Int32} {V : VS} {K : VS → Nat → Nat → Nat → Nat → Int32 → Rs Unit}
theorem bl_208 (hn : 2100 < n) (hI : Inv i V) (hi : i < 512) (g : GI L i) (hK : KO K i) : gd (eL_law_208 n L xs K V 0 207 222 223 (Int32.ofNat (4 * i))) AT BT := by
  unfold eL_law_208
  rw [if_pos g.1]
  obtain ⟨c, T, r, U, e1, e2, iU, tU, jU⟩ : PairI i (ev_L_append n V 0 ((((xs (((Int32.ofNat (4 * i)) + 1) : Int32).toNatClampNeg) : Int32).toUInt32 % 65536).toInt32) 222) (fun T => (ev_X9_append n T 207 ((((xs (((Int32.ofNat (4 * i)) + 1) : Int32).toNatClampNeg) : Int32).toUInt32 % 65536).toInt32))) gI := by first | exact p_append hn hI hi | exact p_append (by omega) hI hi | exact p_append hI hi
  have e2 : (ev_X9_append n T 207 ((((xs (((Int32.ofNat (4 * i)) + 1) : Int32).toNatClampNeg) : Int32).toUInt32 % 65536).toInt32)) = rt r U := e2
  rw [e1, bd_rt, if_pos g.1, e2, bd_rt]
  exact hK U iU
theorem bl_238 (hn : 2100 < n) (hI : Inv i V) (hi : i < 512) (g : GI L i) (hK : KO K i) : gd (eL_law_238 n L xs K V 0 207 222 223 (Int32.ofNat (4 * i))) AT BT := by
  unfold eL_law_238
  rw [if_pos g.1]
  obtain ⟨c, T, r, U, e1, e2, iU, tU, jU⟩ : PairI i (ev_L_load n V 0 (xs (((Int32.ofNat (4 * i)) + 1) : Int32).toNatClampNeg) 222) (fun T => (ev_X9_load n T 207 (xs (((Int32.ofNat (4 * i)) + 1) : Int32).toNatClampNeg))) gI := by first | exact p_load hn hI hi | exact p_load (by omega) hI hi | exact p_load hI hi
  have e2 : (ev_X9_load n T 207 (xs (((Int32.ofNat (4 * i)) + 1) : Int32).toNatClampNeg)) = rt r U := e2
  rw [e1, bd_rt, if_pos g.1, e2, bd_rt]
  exact hK U iU
theorem bl_266 (hn : 2100 < n) (hI : Inv i V) (hi : i < 512) (g : GI L i) (hK : KO K i) : gd (eL_law_266 n L xs K V 0 207 222 223 (Int32.ofNat (4 * i))) AT BT := by
  unfold eL_law_266
  obtain ⟨c, T, r, U, e1, e2, iU, tU, jU⟩ : PairI i (ev_L_errorPosition n V 0 222) (fun T => (ev_X9_errorPosition n T 207)) gI := by first | exact p_errorPosition hn hI hi | exact p_errorPosition (by omega) hI hi | exact p_errorPosition hI hi
  have e2 : (ev_X9_errorPosition n T 207) = rt r U := e2
  rw [e1, bd_rt, e2, bd_rt]
  exact hK U iU
theorem bl_282 (hn : 2100 < n) (hI : Inv i V) (hi : i < 512) (g : GI L i) (hK : KO K i) : gd (eL_law_282 n L xs K V 0 207 222 223 (Int32.ofNat (4 * i))) AT BT := by
  unfold eL_law_282
  rw [if_pos g.1, if_pos g.2.1]
  obtain ⟨c, T, r, U, e1, e2, iU, tU, jU⟩ : PairI i (ev_L_terrain n V 0 (xs (((Int32.ofNat (4 * i)) + 1) : Int32).toNatClampNeg) (xs (((Int32.ofNat (4 * i)) + 2) : Int32).toNatClampNeg) 222) (fun T => (ev_X9_terrain n T 207 (xs (((Int32.ofNat (4 * i)) + 1) : Int32).toNatClampNeg) (xs (((Int32.ofNat (4 * i)) + 2) : Int32).toNatClampNeg))) gI := by first | exact p_terrain hn hI hi | exact p_terrain (by omega) hI hi | exact p_terrain hI hi
  have e2 : (ev_X9_terrain n T 207 (xs (((Int32.ofNat (4 * i)) + 1) : Int32).toNatClampNeg) (xs (((Int32.ofNat (4 * i)) + 2) : Int32).toNatClampNeg)) = rt r U := e2
  rw [e1, bd_rt, if_pos g.1, if_pos g.2.1, e2, bd_rt]
  exact hK U iU
theorem bl_322 (hn : 2100 < n) (hI : Inv i V) (hi : i < 512) (g : GI L i) (hK : KO K i) : gd (eL_law_322 n L xs K V 0 207 222 223 (Int32.ofNat (4 * i))) AT BT := by
  unfold eL_law_322
  rw [if_pos g.1, if_pos g.2.1]
  obtain ⟨c, T, r, U, e1, e2, iU, tU, jU⟩ : PairI i (ev_L_isSeen n V 0 (xs (((Int32.ofNat (4 * i)) + 1) : Int32).toNatClampNeg) (xs (((Int32.ofNat (4 * i)) + 2) : Int32).toNatClampNeg) 222) (fun T => (ev_X9_isSeen n T 207 (xs (((Int32.ofNat (4 * i)) + 1) : Int32).toNatClampNeg) (xs (((Int32.ofNat (4 * i)) + 2) : Int32).toNatClampNeg))) gB := by first | exact p_isSeen hn hI hi | exact p_isSeen (by omega) hI hi | exact p_isSeen hI hi
  have e2 : (ev_X9_isSeen n T 207 (xs (((Int32.ofNat (4 * i)) + 1) : Int32).toNatClampNeg) (xs (((Int32.ofNat (4 * i)) + 2) : Int32).toNatClampNeg)) = rt r U := e2
  rw [e1, bd_rt, if_pos g.1, if_pos g.2.1, e2, bd_rt]
  exact hK U iU
theorem bl_362 (hn : 2100 < n) (hI : Inv i V) (hi : i < 512) (g : GI L i) (hK : KO K i) : gd (eL_law_362 n L xs K V 0 207 222 223 (Int32.ofNat (4 * i))) AT BT := by
  unfold eL_law_362
  rw [if_pos g.1, if_pos g.2.1]
  obtain ⟨c, T, r, U, e1, e2, iU, tU, jU⟩ : PairI i (ev_L_cover n V 0 (xs (((Int32.ofNat (4 * i)) + 1) : Int32).toNatClampNeg) (xs (((Int32.ofNat (4 * i)) + 2) : Int32).toNatClampNeg) 222) (fun T => (ev_X9_cover n T 207 (xs (((Int32.ofNat (4 * i)) + 1) : Int32).toNatClampNeg) (xs (((Int32.ofNat (4 * i)) + 2) : Int32).toNatClampNeg))) gI := by first | exact p_cover hn hI hi | exact p_cover (by omega) hI hi | exact p_cover hI hi
  have e2 : (ev_X9_cover n T 207 (xs (((Int32.ofNat (4 * i)) + 1) : Int32).toNatClampNeg) (xs (((Int32.ofNat (4 * i)) + 2) : Int32).toNatClampNeg)) = rt r U := e2
  rw [e1, bd_rt, if_pos g.1, if_pos g.2.1, e2, bd_rt]
  exact hK U iU
theorem bl_402 (hn : 2100 < n) (hI : Inv i V) (hi : i < 512) (g : GI L i) (hK : KO K i) : gd (eL_law_402 n L xs K V 0 207 222 223 (Int32.ofNat (4 * i))) AT BT := by
  unfold eL_law_402
  rw [if_pos g.1, if_pos g.2.1, if_pos g.2.2]
  obtain ⟨c, T, r, U, e1, e2, iU⟩ : PairU i (ev_L_addUnit n V 0 (xs (((Int32.ofNat (4 * i)) + 1) : Int32).toNatClampNeg) (xs (((Int32.ofNat (4 * i)) + 2) : Int32).toNatClampNeg) (xs (((Int32.ofNat (4 * i)) + 3) : Int32).toNatClampNeg) 222) (fun T => (ev_X9_addUnit n T 207 (xs (((Int32.ofNat (4 * i)) + 1) : Int32).toNatClampNeg) (xs (((Int32.ofNat (4 * i)) + 2) : Int32).toNatClampNeg) (xs (((Int32.ofNat (4 * i)) + 3) : Int32).toNatClampNeg))) := by first | exact p_addUnit hn hI hi | exact p_addUnit (by omega) hI hi | exact p_addUnit hI hi
  have e2 : (ev_X9_addUnit n T 207 (xs (((Int32.ofNat (4 * i)) + 1) : Int32).toNatClampNeg) (xs (((Int32.ofNat (4 * i)) + 2) : Int32).toNatClampNeg) (xs (((Int32.ofNat (4 * i)) + 3) : Int32).toNatClampNeg)) = rt r U := e2
  rw [e1, bd_rt, if_pos g.1, if_pos g.2.1, if_pos g.2.2, e2, bd_rt]
  exact hK U iU
theorem bl_454 (hn : 2100 < n) (hI : Inv i V) (hi : i < 512) (g : GI L i) (hK : KO K i) : gd (eL_law_454 n L xs K V 0 207 222 223 (Int32.ofNat (4 * i))) AT BT := by
  unfold eL_law_454
  obtain ⟨c, T, U, e1, e2, iU⟩ : PairV i (ev_X8_unitCount n V 0) (fun T => (ev_X9_unitCount n T 207)) := by first | exact p_unitCount hn hI hi | exact p_unitCount (by omega) hI hi | exact p_unitCount hI hi
  have e2 : (ev_X9_unitCount n T 207) = rt c U := e2
  rw [e1, bd_rt, e2, bd_rt]
  exact hK U iU
theorem bl_467 (hn : 2100 < n) (hI : Inv i V) (hi : i < 512) (g : GI L i) (hK : KO K i) : gd (eL_law_467 n L xs K V 0 207 222 223 (Int32.ofNat (4 * i))) AT BT := by
  unfold eL_law_467
  rw [if_pos g.1, if_pos g.2.1]
  obtain ⟨c, T, r, U, e1, e2, iU, tU, jU⟩ : PairI i (ev_L_unit n V 0 (xs (((Int32.ofNat (4 * i)) + 1) : Int32).toNatClampNeg) (xs (((Int32.ofNat (4 * i)) + 2) : Int32).toNatClampNeg) 222) (fun T => (ev_X9_unit n T 207 (xs (((Int32.ofNat (4 * i)) + 1) : Int32).toNatClampNeg) (xs (((Int32.ofNat (4 * i)) + 2) : Int32).toNatClampNeg))) gI := by first | exact p_unit hn hI hi | exact p_unit (by omega) hI hi | exact p_unit hI hi
  have e2 : (ev_X9_unit n T 207 (xs (((Int32.ofNat (4 * i)) + 1) : Int32).toNatClampNeg) (xs (((Int32.ofNat (4 * i)) + 2) : Int32).toNatClampNeg)) = rt r U := e2
  rw [e1, bd_rt, if_pos g.1, if_pos g.2.1, e2, bd_rt]
  exact hK U iU
theorem bl_507 (hn : 2100 < n) (hI : Inv i V) (hi : i < 512) (g : GI L i) (hK : KO K i) : gd (eL_law_507 n L xs K V 0 207 222 223 (Int32.ofNat (4 * i))) AT BT := by
  unfold eL_law_507
  obtain ⟨c, T, r, U, e1, e2, iU, tU, jU⟩ : PairI i (ev_L_begin n V 0 222) (fun T => (ev_X9_begin n T 207)) gI := by first | exact p_begin hn hI hi | exact p_begin (by omega) hI hi | exact p_begin hI hi
  have e2 : (ev_X9_begin n T 207) = rt r U := e2
  rw [e1, bd_rt, e2, bd_rt]
  exact hK U iU
theorem bl_523 (hn : 2100 < n) (hI : Inv i V) (hi : i < 512) (g : GI L i) (hK : KO K i) : gd (eL_law_523 n L xs K V 0 207 222 223 (Int32.ofNat (4 * i))) AT BT := by
  unfold eL_law_523
  obtain ⟨c, T, U, e1, e2, iU⟩ : PairV i (ev_X8_condition n V 0) (fun T => (ev_X9_condition n T 207)) := by first | exact p_condition hn hI hi | exact p_condition (by omega) hI hi | exact p_condition hI hi
  have e2 : (ev_X9_condition n T 207) = rt c U := e2
  rw [e1, bd_rt, e2, bd_rt]
  exact hK U iU
theorem bl_536 (hn : 2100 < n) (hI : Inv i V) (hi : i < 512) (g : GI L i) (hK : KO K i) : gd (eL_law_536 n L xs K V 0 207 222 223 (Int32.ofNat (4 * i))) AT BT := by
  unfold eL_law_536
  obtain ⟨c, T, U, e1, e2, iU⟩ : PairV i (ev_X8_round n V 0) (fun T => (ev_X9_round n T 207)) := by first | exact p_round hn hI hi | exact p_round (by omega) hI hi | exact p_round hI hi
  have e2 : (ev_X9_round n T 207) = rt c U := e2
  rw [e1, bd_rt, e2, bd_rt]
  exact hK U iU
theorem bl_549 (hn : 2100 < n) (hI : Inv i V) (hi : i < 512) (g : GI L i) (hK : KO K i) : gd (eL_law_549 n L xs K V 0 207 222 223 (Int32.ofNat (4 * i))) AT BT := by
  unfold eL_law_549
  obtain ⟨c, T, r, U, e1, e2, iU, tU, jU⟩ : PairI i (ev_L_current n V 0 222) (fun T => (ev_X9_current n T 207)) gI := by first | exact p_current hn hI hi | exact p_current (by omega) hI hi | exact p_current hI hi
  have e2 : (ev_X9_current n T 207) = rt r U := e2
  rw [e1, bd_rt, e2, bd_rt]
  exact hK U iU
theorem bl_565 (hn : 2100 < n) (hI : Inv i V) (hi : i < 512) (g : GI L i) (hK : KO K i) : gd (eL_law_565 n L xs K V 0 207 222 223 (Int32.ofNat (4 * i))) AT BT := by
  unfold eL_law_565
  rw [if_pos g.1]
  obtain ⟨c, T, r, U, e1, e2, iU, tU, jU⟩ : PairI i (ev_L_order n V 0 (xs (((Int32.ofNat (4 * i)) + 1) : Int32).toNatClampNeg) 222) (fun T => (ev_X9_order n T 207 (xs (((Int32.ofNat (4 * i)) + 1) : Int32).toNatClampNeg))) gI := by first | exact p_order hn hI hi | exact p_order (by omega) hI hi | exact p_order hI hi
  have e2 : (ev_X9_order n T 207 (xs (((Int32.ofNat (4 * i)) + 1) : Int32).toNatClampNeg)) = rt r U := e2
  rw [e1, bd_rt, if_pos g.1, e2, bd_rt]
  exact hK U iU
theorem bl_593 (hn : 2100 < n) (hI : Inv i V) (hi : i < 512) (g : GI L i) (hK : KO K i) : gd (eL_law_593 n L xs K V 0 207 222 223 (Int32.ofNat (4 * i))) AT BT := by
  unfold eL_law_593
  rw [if_pos g.1]
  obtain ⟨c, T, r, U, e1, e2, iU, tU, jU⟩ : PairI i (ev_L_costs n V 0 (xs (((Int32.ofNat (4 * i)) + 1) : Int32).toNatClampNeg) 222) (fun T => (ev_X9_costs n T 207 (xs (((Int32.ofNat (4 * i)) + 1) : Int32).toNatClampNeg))) gI := by first | exact p_costs hn hI hi | exact p_costs (by omega) hI hi | exact p_costs hI hi
  have e2 : (ev_X9_costs n T 207 (xs (((Int32.ofNat (4 * i)) + 1) : Int32).toNatClampNeg)) = rt r U := e2
  rw [e1, bd_rt, if_pos g.1, e2, bd_rt]
  exact hK U iU
theorem bl_621 (hn : 2100 < n) (hI : Inv i V) (hi : i < 512) (g : GI L i) (hK : KO K i) : gd (eL_law_621 n L xs K V 0 207 222 223 (Int32.ofNat (4 * i))) AT BT := by
  unfold eL_law_621
  rw [if_pos g.1, if_pos g.2.1]
  obtain ⟨c, T, r, U, e1, e2, iU, tU, jU⟩ : PairI i (ev_L_pathCell n V 0 (xs (((Int32.ofNat (4 * i)) + 1) : Int32).toNatClampNeg) (xs (((Int32.ofNat (4 * i)) + 2) : Int32).toNatClampNeg) 222) (fun T => (ev_X9_pathCell n T 207 (xs (((Int32.ofNat (4 * i)) + 1) : Int32).toNatClampNeg) (xs (((Int32.ofNat (4 * i)) + 2) : Int32).toNatClampNeg))) gI := by first | exact p_pathCell hn hI hi | exact p_pathCell (by omega) hI hi | exact p_pathCell hI hi
  have e2 : (ev_X9_pathCell n T 207 (xs (((Int32.ofNat (4 * i)) + 1) : Int32).toNatClampNeg) (xs (((Int32.ofNat (4 * i)) + 2) : Int32).toNatClampNeg)) = rt r U := e2
  rw [e1, bd_rt, if_pos g.1, if_pos g.2.1, e2, bd_rt]
  exact hK U iU
theorem bl_661 (hn : 2100 < n) (hI : Inv i V) (hi : i < 512) (g : GI L i) (hK : KO K i) : gd (eL_law_661 n L xs K V 0 207 222 223 (Int32.ofNat (4 * i))) AT BT := by
  unfold eL_law_661
  rw [if_pos g.1, if_pos g.2.1]
  obtain ⟨c, T, r, U, e1, e2, iU, tU, jU⟩ : PairD i (ev_L_chance n V 0 (xs (((Int32.ofNat (4 * i)) + 1) : Int32).toNatClampNeg) (xs (((Int32.ofNat (4 * i)) + 2) : Int32).toNatClampNeg) 223) (fun T => (ev_X9_chance n T 207 (xs (((Int32.ofNat (4 * i)) + 1) : Int32).toNatClampNeg) (xs (((Int32.ofNat (4 * i)) + 2) : Int32).toNatClampNeg))) := by first | exact p_chance hn hI hi | exact p_chance (by omega) hI hi | exact p_chance hI hi
  have e2 : (ev_X9_chance n T 207 (xs (((Int32.ofNat (4 * i)) + 1) : Int32).toNatClampNeg) (xs (((Int32.ofNat (4 * i)) + 2) : Int32).toNatClampNeg)) = rt r U := e2
  rw [e1, bd_rt, if_pos g.1, if_pos g.2.1, e2, bd_rt]
  exact hK U iU
theorem bl_702 (hn : 2100 < n) (hI : Inv i V) (hi : i < 512) (g : GI L i) (hK : KO K i) : gd (eL_law_702 n L xs K V 0 207 222 223 (Int32.ofNat (4 * i))) AT BT := by
  unfold eL_law_702
  rw [if_pos g.1, if_pos g.2.1]
  obtain ⟨c, T, r, U, e1, e2, iU, tU, jU⟩ : PairD i (ev_L_meanDamage n V 0 (xs (((Int32.ofNat (4 * i)) + 1) : Int32).toNatClampNeg) (xs (((Int32.ofNat (4 * i)) + 2) : Int32).toNatClampNeg) 223) (fun T => (ev_X9_meanDamage n T 207 (xs (((Int32.ofNat (4 * i)) + 1) : Int32).toNatClampNeg) (xs (((Int32.ofNat (4 * i)) + 2) : Int32).toNatClampNeg))) := by first | exact p_meanDamage hn hI hi | exact p_meanDamage (by omega) hI hi | exact p_meanDamage hI hi
  have e2 : (ev_X9_meanDamage n T 207 (xs (((Int32.ofNat (4 * i)) + 1) : Int32).toNatClampNeg) (xs (((Int32.ofNat (4 * i)) + 2) : Int32).toNatClampNeg)) = rt r U := e2
  rw [e1, bd_rt, if_pos g.1, if_pos g.2.1, e2, bd_rt]
  exact hK U iU
theorem bl_743 (hn : 2100 < n) (hI : Inv i V) (hi : i < 512) (g : GI L i) (hK : KO K i) : gd (eL_law_743 n L xs K V 0 207 222 223 (Int32.ofNat (4 * i))) AT BT := by
  unfold eL_law_743
  obtain ⟨c, T, r, U, e1, e2, iU, tU, jU⟩ : PairI i (ev_L_bestTarget n V 0 222) (fun T => (ev_X9_bestTarget n T 207)) gI := by first | exact p_bestTarget hn hI hi | exact p_bestTarget (by omega) hI hi | exact p_bestTarget hI hi
  have e2 : (ev_X9_bestTarget n T 207) = rt r U := e2
  rw [e1, bd_rt, e2, bd_rt]
  exact hK U iU
theorem bl_759 (hn : 2100 < n) (hI : Inv i V) (hi : i < 512) (g : GI L i) (hK : KO K i) : gd (eL_law_759 n L xs K V 0 207 222 223 (Int32.ofNat (4 * i))) AT BT := by
  unfold eL_law_759
  rw [if_pos g.1]
  obtain ⟨c, T, r, U, e1, e2, iU, tU, jU⟩ : PairI i (ev_L_move n V 0 (xs (((Int32.ofNat (4 * i)) + 1) : Int32).toNatClampNeg) 222) (fun T => (ev_X9_move n T 207 (xs (((Int32.ofNat (4 * i)) + 1) : Int32).toNatClampNeg))) gI := by first | exact p_move hn hI hi | exact p_move (by omega) hI hi | exact p_move hI hi
  have e2 : (ev_X9_move n T 207 (xs (((Int32.ofNat (4 * i)) + 1) : Int32).toNatClampNeg)) = rt r U := e2
  rw [e1, bd_rt, if_pos g.1, e2, bd_rt]
  exact hK U iU
theorem bl_787 (hn : 2100 < n) (hI : Inv i V) (hi : i < 512) (g : GI L i) (hK : KO K i) : gd (eL_law_787 n L xs K V 0 207 222 223 (Int32.ofNat (4 * i))) AT BT := by
  unfold eL_law_787
  rw [if_pos g.1]
  obtain ⟨c, T, r, U, e1, e2, iU, tU, jU⟩ : PairI i (ev_L_attack n V 0 (xs (((Int32.ofNat (4 * i)) + 1) : Int32).toNatClampNeg) 222) (fun T => (ev_X9_attack n T 207 (xs (((Int32.ofNat (4 * i)) + 1) : Int32).toNatClampNeg))) gI := by first | exact p_attack hn hI hi | exact p_attack (by omega) hI hi | exact p_attack hI hi
  have e2 : (ev_X9_attack n T 207 (xs (((Int32.ofNat (4 * i)) + 1) : Int32).toNatClampNeg)) = rt r U := e2
  rw [e1, bd_rt, if_pos g.1, e2, bd_rt]
  exact hK U iU
theorem bl_815 (hn : 2100 < n) (hI : Inv i V) (hi : i < 512) (g : GI L i) (hK : KO K i) : gd (eL_law_815 n L xs K V 0 207 222 223 (Int32.ofNat (4 * i))) AT BT := by
  unfold eL_law_815
  rw [if_pos g.1]
  obtain ⟨c, T, r, U, e1, e2, iU, tU, jU⟩ : PairI i (ev_L_throwAt n V 0 (xs (((Int32.ofNat (4 * i)) + 1) : Int32).toNatClampNeg) 222) (fun T => (ev_X9_throwAt n T 207 (xs (((Int32.ofNat (4 * i)) + 1) : Int32).toNatClampNeg))) gI := by first | exact p_throwAt hn hI hi | exact p_throwAt (by omega) hI hi | exact p_throwAt hI hi
  have e2 : (ev_X9_throwAt n T 207 (xs (((Int32.ofNat (4 * i)) + 1) : Int32).toNatClampNeg)) = rt r U := e2
  rw [e1, bd_rt, if_pos g.1, e2, bd_rt]
  exact hK U iU
theorem bl_843 (hn : 2100 < n) (hI : Inv i V) (hi : i < 512) (g : GI L i) (hK : KO K i) : gd (eL_law_843 n L xs K V 0 207 222 223 (Int32.ofNat (4 * i))) AT BT := by
  unfold eL_law_843
  obtain ⟨c, T, r, U, e1, e2, iU, tU, jU⟩ : PairI i (ev_L_guard n V 0 222) (fun T => (ev_X9_guard n T 207)) gI := by first | exact p_guard hn hI hi | exact p_guard (by omega) hI hi | exact p_guard hI hi
  have e2 : (ev_X9_guard n T 207) = rt r U := e2
  rw [e1, bd_rt, e2, bd_rt]
  exact hK U iU
theorem bl_859 (hn : 2100 < n) (hI : Inv i V) (hi : i < 512) (g : GI L i) (hK : KO K i) : gd (eL_law_859 n L xs K V 0 207 222 223 (Int32.ofNat (4 * i))) AT BT := by
  unfold eL_law_859
  obtain ⟨c, T, r, U, e1, e2, iU, tU, jU⟩ : PairI i (ev_L_watch n V 0 222) (fun T => (ev_X9_watch n T 207)) gI := by first | exact p_watch hn hI hi | exact p_watch (by omega) hI hi | exact p_watch hI hi
  have e2 : (ev_X9_watch n T 207) = rt r U := e2
  rw [e1, bd_rt, e2, bd_rt]
  exact hK U iU
theorem bl_875 (hn : 2100 < n) (hI : Inv i V) (hi : i < 512) (g : GI L i) (hK : KO K i) : gd (eL_law_875 n L xs K V 0 207 222 223 (Int32.ofNat (4 * i))) AT BT := by
  unfold eL_law_875
  obtain ⟨c, T, r, U, e1, e2, iU, tU, jU⟩ : PairI i (ev_L_reload n V 0 222) (fun T => (ev_X9_reload n T 207)) gI := by first | exact p_reload hn hI hi | exact p_reload (by omega) hI hi | exact p_reload hI hi
  have e2 : (ev_X9_reload n T 207) = rt r U := e2
  rw [e1, bd_rt, e2, bd_rt]
  exact hK U iU
theorem bl_891 (hn : 2100 < n) (hI : Inv i V) (hi : i < 512) (g : GI L i) (hK : KO K i) : gd (eL_law_891 n L xs K V 0 207 222 223 (Int32.ofNat (4 * i))) AT BT := by
  unfold eL_law_891
  obtain ⟨c, T, r, U, e1, e2, iU, tU, jU⟩ : PairI i (ev_L_endTurn n V 0 222) (fun T => (ev_X9_endTurn n T 207)) gI := by first | exact p_endTurn hn hI hi | exact p_endTurn (by omega) hI hi | exact p_endTurn hI hi
  have e2 : (ev_X9_endTurn n T 207) = rt r U := e2
  rw [e1, bd_rt, e2, bd_rt]
  exact hK U iU
theorem bl_907 (hn : 2100 < n) (hI : Inv i V) (hi : i < 512) (g : GI L i) (hK : KO K i) : gd (eL_law_907 n L xs K V 0 207 222 223 (Int32.ofNat (4 * i))) AT BT := by
  unfold eL_law_907
  obtain ⟨c, T, U, e1, e2, iU⟩ : PairV i (ev_X8_eventCount n V 0) (fun T => (ev_X9_eventCount n T 207)) := by first | exact p_eventCount hn hI hi | exact p_eventCount (by omega) hI hi | exact p_eventCount hI hi
  have e2 : (ev_X9_eventCount n T 207) = rt c U := e2
  rw [e1, bd_rt, e2, bd_rt]
  exact hK U iU
theorem bl_920 (hn : 2100 < n) (hI : Inv i V) (hi : i < 512) (g : GI L i) (hK : KO K i) : gd (eL_law_920 n L xs K V 0 207 222 223 (Int32.ofNat (4 * i))) AT BT := by
  unfold eL_law_920
  rw [if_pos g.1, if_pos g.2.1]
  obtain ⟨c, T, r, U, e1, e2, iU, tU, jU⟩ : PairI i (ev_L_event n V 0 (xs (((Int32.ofNat (4 * i)) + 1) : Int32).toNatClampNeg) (xs (((Int32.ofNat (4 * i)) + 2) : Int32).toNatClampNeg) 222) (fun T => (ev_X9_event n T 207 (xs (((Int32.ofNat (4 * i)) + 1) : Int32).toNatClampNeg) (xs (((Int32.ofNat (4 * i)) + 2) : Int32).toNatClampNeg))) gI := by first | exact p_event hn hI hi | exact p_event (by omega) hI hi | exact p_event hI hi
  have e2 : (ev_X9_event n T 207 (xs (((Int32.ofNat (4 * i)) + 1) : Int32).toNatClampNeg) (xs (((Int32.ofNat (4 * i)) + 2) : Int32).toNatClampNeg)) = rt r U := e2
  rw [e1, bd_rt, if_pos g.1, if_pos g.2.1, e2, bd_rt]
  exact hK U iU
theorem bl_960 (hn : 2100 < n) (hI : Inv i V) (hi : i < 512) (g : GI L i) (hK : KO K i) : gd (eL_law_960 n L xs K V 0 207 222 223 (Int32.ofNat (4 * i))) AT BT := by
  unfold eL_law_960
  obtain ⟨c, T, U, e1, e2, iU⟩ : PairV i (ev_X8_commandCount n V 0) (fun T => (ev_X9_commandCount n T 207)) := by first | exact p_commandCount hn hI hi | exact p_commandCount (by omega) hI hi | exact p_commandCount hI hi
  have e2 : (ev_X9_commandCount n T 207) = rt c U := e2
  rw [e1, bd_rt, e2, bd_rt]
  exact hK U iU
theorem bl_973 (hn : 2100 < n) (hI : Inv i V) (hi : i < 512) (g : GI L i) (hK : KO K i) : gd (eL_law_973 n L xs K V 0 207 222 223 (Int32.ofNat (4 * i))) AT BT := by
  unfold eL_law_973
  obtain ⟨c, T, r, U, e1, e2, iU, tU, jU⟩ : PairI i (ev_L_undo n V 0 222) (fun T => (ev_X9_undo n T 207)) gI := by first | exact p_undo hn hI hi | exact p_undo (by omega) hI hi | exact p_undo hI hi
  have e2 : (ev_X9_undo n T 207) = rt r U := e2
  rw [e1, bd_rt, e2, bd_rt]
  exact hK U iU
theorem bl_989 (hn : 2100 < n) (hI : Inv i V) (hi : i < 512) (g : GI L i) (hK : KO K i) : gd (eL_law_989 n L xs K V 0 207 222 223 (Int32.ofNat (4 * i))) AT BT := by
  unfold eL_law_989
  obtain ⟨c, T, r, U, e1, e2, iU, tU, jU⟩ : PairI i (ev_L_isReplayed n V 0 222) (fun T => (ev_X9_isReplayed n T 207)) gB := by first | exact p_isReplayed hn hI hi | exact p_isReplayed (by omega) hI hi | exact p_isReplayed hI hi
  have e2 : (ev_X9_isReplayed n T 207) = rt r U := e2
  rw [e1, bd_rt, e2, bd_rt]
  exact hK U iU
theorem bl_1005 (hn : 2100 < n) (hI : Inv i V) (hi : i < 512) (g : GI L i) (hK : KO K i) : gd (eL_law_1005 n L xs K V 0 207 222 223 (Int32.ofNat (4 * i))) AT BT := by
  unfold eL_law_1005
  rw [if_pos g.1]
  obtain ⟨c, T, r, U, e1, e2, iU, tU, jU⟩ : PairF i (ev_L_meanHealth n V 0 (xs (((Int32.ofNat (4 * i)) + 1) : Int32).toNatClampNeg) 223) (fun T => (ev_X9_meanHealth n T 207 (xs (((Int32.ofNat (4 * i)) + 1) : Int32).toNatClampNeg))) := by first | exact p_meanHealth hn hI hi | exact p_meanHealth (by omega) hI hi | exact p_meanHealth hI hi
  have e2 : (ev_X9_meanHealth n T 207 (xs (((Int32.ofNat (4 * i)) + 1) : Int32).toNatClampNeg)) = rt r U := e2
  rw [e1, bd_rt, if_pos g.1, e2, bd_rt]
  exact hK U iU
theorem bl_1034 (hn : 2100 < n) (hI : Inv i V) (hi : i < 512) (g : GI L i) (hK : KO K i) : gd (eL_law_1034 n L xs K V 0 207 222 223 (Int32.ofNat (4 * i))) AT BT := by
  unfold eL_law_1034 eL_law_1055
  rw [if_pos g.1, if_pos g.2.1]
  by_cases z : (xs (((Int32.ofNat (4 * i)) + 2) : Int32).toNatClampNeg) = 0
  · rw [if_pos z]
    obtain ⟨c, T, r, U, e1, e2, iU, tU, jU⟩ := p_storeHealths (n := n) (x := (xs (((Int32.ofNat (4 * i)) + 1) : Int32).toNatClampNeg)) (y := 0) hn hI hi (.inl rfl)
    have e2 : ev_X9_storeHealths n T 207 (xs (((Int32.ofNat (4 * i)) + 1) : Int32).toNatClampNeg) 0 = rt r U := e2
    rw [e1, bd_rt, if_pos g.1, if_pos g.2.1, if_pos z]
    unfold eL_law_1082
    rw [e2, bd_rt]
    exact hK U iU
  · rw [if_neg z]
    obtain ⟨c, T, r, U, e1, e2, iU, tU, jU⟩ := p_storeHealths (n := n) (x := (xs (((Int32.ofNat (4 * i)) + 1) : Int32).toNatClampNeg)) (y := 1) hn hI hi (.inr rfl)
    have e2 : ev_X9_storeHealths n T 207 (xs (((Int32.ofNat (4 * i)) + 1) : Int32).toNatClampNeg) 1 = rt r U := e2
    rw [e1, bd_rt, if_pos g.1, if_pos g.2.1, if_neg z]
    unfold eL_law_1082
    rw [e2, bd_rt]
    exact hK U iU
theorem bl_1090 (hn : 2100 < n) (hI : Inv i V) (hi : i < 512) (g : GI L i) (hK : KO K i) : gd (eL_law_1090 n L xs K V 0 207 222 223 (Int32.ofNat (4 * i))) AT BT := by
  unfold eL_law_1090
  rw [if_pos g.1, if_pos g.2.1]
  obtain ⟨c, T, r, U, e1, e2, iU, tU, jU⟩ : PairI i (ev_L_copyHealths n V 0 (xs (((Int32.ofNat (4 * i)) + 1) : Int32).toNatClampNeg) (xs (((Int32.ofNat (4 * i)) + 2) : Int32).toNatClampNeg) 222) (fun T => (ev_X9_copyHealths n T 207 (xs (((Int32.ofNat (4 * i)) + 1) : Int32).toNatClampNeg) (xs (((Int32.ofNat (4 * i)) + 2) : Int32).toNatClampNeg))) gB := by first | exact p_copyHealths hn hI hi | exact p_copyHealths (by omega) hI hi | exact p_copyHealths hI hi
  have e2 : (ev_X9_copyHealths n T 207 (xs (((Int32.ofNat (4 * i)) + 1) : Int32).toNatClampNeg) (xs (((Int32.ofNat (4 * i)) + 2) : Int32).toNatClampNeg)) = rt r U := e2
  rw [e1, bd_rt, if_pos g.1, if_pos g.2.1, e2, bd_rt]
  exact hK U iU
theorem bl_1130 (hn : 2100 < n) (hI : Inv i V) (hi : i < 512) (g : GI L i) (hK : KO K i) : gd (eL_law_1130 n L xs K V 0 207 222 223 (Int32.ofNat (4 * i))) AT BT := by
  unfold eL_law_1130
  rw [if_pos g.1, if_pos g.2.1]
  obtain ⟨c, T, r, U, e1, e2, iU, tU, jU⟩ : PairI i (ev_L_storedBits n V 0 (xs (((Int32.ofNat (4 * i)) + 1) : Int32).toNatClampNeg) (xs (((Int32.ofNat (4 * i)) + 2) : Int32).toNatClampNeg) 222) (fun T => (ev_X9_storedBits n T 207 (xs (((Int32.ofNat (4 * i)) + 1) : Int32).toNatClampNeg) (xs (((Int32.ofNat (4 * i)) + 2) : Int32).toNatClampNeg))) gI := by first | exact p_storedBits hn hI hi | exact p_storedBits (by omega) hI hi | exact p_storedBits hI hi
  have e2 : (ev_X9_storedBits n T 207 (xs (((Int32.ofNat (4 * i)) + 1) : Int32).toNatClampNeg) (xs (((Int32.ofNat (4 * i)) + 2) : Int32).toNatClampNeg)) = rt r U := e2
  rw [e1, bd_rt, if_pos g.1, if_pos g.2.1, e2, bd_rt]
  exact hK U iU
theorem bl_1170 (hn : 2100 < n) (hI : Inv i V) (hi : i < 512) (g : GI L i) (hK : KO K i) : gd (eL_law_1170 n L xs K V 0 207 222 223 (Int32.ofNat (4 * i))) AT BT := by
  unfold eL_law_1170
  obtain ⟨c, T, U, e1, e2, iU⟩ : PairV i (ev_X8_snapshot n V 0) (fun T => (ev_X9_snapshot n T 207)) := by first | exact p_snapshot hn hI hi | exact p_snapshot (by omega) hI hi | exact p_snapshot hI hi
  have e2 : (ev_X9_snapshot n T 207) = rt c U := e2
  rw [e1, bd_rt, e2, bd_rt]
  exact hK U iU
theorem bl_1183 (hn : 2100 < n) (hI : Inv i V) (hi : i < 512) (g : GI L i) (hK : KO K i) : gd (eL_law_1183 n L xs K V 0 207 222 223 (Int32.ofNat (4 * i))) AT BT := by
  unfold eL_law_1183
  obtain ⟨c, T, r, U, e1, e2, iU, tU, jU⟩ : PairI i (ev_L_restore n V 0 222) (fun T => (ev_X9_restore n T 207)) gI := by first | exact p_restore hn hI hi | exact p_restore (by omega) hI hi | exact p_restore hI hi
  have e2 : (ev_X9_restore n T 207) = rt r U := e2
  rw [e1, bd_rt, e2, bd_rt]
  rw [r_thr, bd_rt, tU, if_pos rfl]
  by_cases c0 : c = 0
  · have j1 : vJ U 222 0 = r.toInt64 := jU c0
    rw [if_pos c0, n222 iU.L, if_pos (by decide), t0n, j1, lg_self, if_pos rfl]
    exact hK U iU
  · rw [if_neg c0]; exact hK U iU
theorem bl_all (hn : 2100 < n) (hI : Inv i V) (hi : i < 512) (g : GI L i) (hK : KO K i) (h0 : gd (K V 0 207 222 223 (Int32.ofNat (4 * i) + 4)) AT BT) (he : ¬ (Int32.ofNat L - 4 < Int32.ofNat (4 * i))) (hL : gvp_in (Int32.ofNat (4 * i)) L = true) : gd (eL_law_28 n L xs K V 0 207 222 223 (Int32.ofNat (4 * i))) AT BT := by
  unfold eL_law_28
  rw [if_neg he, if_pos hL]
  generalize (((xs ((Int32.ofNat (4 * i)) : Int32).toNatClampNeg) &&& 63) : Int32).toInt = t
  refine gi_if2 (fun _ => h0) (fun hn0 => ?_)
  refine gi_if2 (fun _ => bl_208 hn hI hi g hK) (fun n0 => ?_)
  refine gi_if2 (fun _ => bl_238 hn hI hi g hK) (fun n1 => ?_)
  refine gi_if2 (fun _ => bl_266 hn hI hi g hK) (fun n2 => ?_)
  refine gi_if2 (fun _ => bl_282 hn hI hi g hK) (fun n3 => ?_)
  refine gi_if2 (fun _ => bl_322 hn hI hi g hK) (fun n4 => ?_)
  refine gi_if2 (fun _ => bl_362 hn hI hi g hK) (fun n5 => ?_)
  refine gi_if2 (fun _ => bl_402 hn hI hi g hK) (fun n6 => ?_)
  refine gi_if2 (fun _ => bl_454 hn hI hi g hK) (fun n7 => ?_)
  refine gi_if2 (fun _ => bl_467 hn hI hi g hK) (fun n8 => ?_)
  refine gi_if2 (fun _ => bl_507 hn hI hi g hK) (fun n9 => ?_)
  refine gi_if2 (fun _ => bl_523 hn hI hi g hK) (fun n10 => ?_)
  refine gi_if2 (fun _ => bl_536 hn hI hi g hK) (fun n11 => ?_)
  refine gi_if2 (fun _ => bl_549 hn hI hi g hK) (fun n12 => ?_)
  refine gi_if2 (fun _ => bl_565 hn hI hi g hK) (fun n13 => ?_)
  refine gi_if2 (fun _ => bl_593 hn hI hi g hK) (fun n14 => ?_)
  refine gi_if2 (fun _ => bl_621 hn hI hi g hK) (fun n15 => ?_)
  refine gi_if2 (fun _ => bl_661 hn hI hi g hK) (fun n16 => ?_)
  refine gi_if2 (fun _ => bl_702 hn hI hi g hK) (fun n17 => ?_)
  refine gi_if2 (fun _ => bl_743 hn hI hi g hK) (fun n18 => ?_)
  refine gi_if2 (fun _ => bl_759 hn hI hi g hK) (fun n19 => ?_)
  refine gi_if2 (fun _ => bl_787 hn hI hi g hK) (fun n20 => ?_)
  refine gi_if2 (fun _ => bl_815 hn hI hi g hK) (fun n21 => ?_)
  refine gi_if2 (fun _ => bl_843 hn hI hi g hK) (fun n22 => ?_)
  refine gi_if2 (fun _ => bl_859 hn hI hi g hK) (fun n23 => ?_)
  refine gi_if2 (fun _ => bl_875 hn hI hi g hK) (fun n24 => ?_)
  refine gi_if2 (fun _ => bl_891 hn hI hi g hK) (fun n25 => ?_)
  refine gi_if2 (fun _ => bl_907 hn hI hi g hK) (fun n26 => ?_)
  refine gi_if2 (fun _ => bl_920 hn hI hi g hK) (fun n27 => ?_)
  refine gi_if2 (fun _ => bl_960 hn hI hi g hK) (fun n28 => ?_)
  refine gi_if2 (fun _ => bl_973 hn hI hi g hK) (fun n29 => ?_)
  refine gi_if2 (fun _ => bl_989 hn hI hi g hK) (fun n30 => ?_)
  refine gi_if2 (fun _ => bl_1005 hn hI hi g hK) (fun n31 => ?_)
  refine gi_if2 (fun _ => bl_1034 hn hI hi g hK) (fun n32 => ?_)
  refine gi_if2 (fun _ => bl_1090 hn hI hi g hK) (fun n33 => ?_)
  refine gi_if2 (fun _ => bl_1130 hn hI hi g hK) (fun n34 => ?_)
  refine gi_if2 (fun _ => bl_1170 hn hI hi g hK) (fun n35 => ?_)
  refine gi_if2 (fun _ => bl_1183 hn hI hi g hK) (fun n36 => ?_)
  exfalso; omega
end
theorem law_loop (n : Nat) (hn : 2100 < n) (L : Nat) (xs : Nat → Int32) (hL : L ≤ 2048) : ∀ (m i : Nat) (V : VS), Inv i V → 512 - i < m → gd (elL_law_28 n L xs m V 0 207 222 223 (Int32.ofNat (4 * i))) AT BT
  | m + 1, i, V, hI, h => by
    have i5 := hI.1
    show gd (eL_law_28 n L xs (elL_law_28 n L xs m) V 0 207 222 223 (Int32.ofNat (4 * i))) AT BT
    by_cases he : L < 4 * i + 4
    · unfold eL_law_28
      rw [if_pos ((lt_4 (by omega) (by omega)).mpr he)]
      exact gd_1 trivial
    have hi : i < 512 := by omega
    have nx : Int32.ofNat (4 * i) + 4 = Int32.ofNat (4 * (i + 1)) := of_add (b := 4)
    refine bl_all hn hI hi (GI_of (by omega) (by omega)) (fun U iU => ?_) ?_ (fun e => he ((lt_4 (by omega) (by omega)).mp e)) (in_of (by omega) (by omega))
    · rw [nx]; exact law_loop n hn L xs hL m (i + 1) U iU (by omega)
    · rw [nx]; exact law_loop n hn L xs hL m (i + 1) V ((FrQ.rf hI.L hI.M).inv hI (by omega) (by omega)) (by omega)
theorem e3_ok (L : Nat) (xs : Nat → Int32) : eL_law_0 3000 L xs [] = elL_law_28 3000 L xs 513 W0 0 207 222 223 0 := by
  unfold eL_law_0 nwV bd
  rw [show ([] : VS) ++ [c0 0] = [c0 0] from rfl, show ([] : VS).length = 0 from rfl]
  dsimp only
  rw [w31_ok]
  dsimp only
  rw [w1_len, w32_ok]
  dsimp only
  rw [w2_len, w3_len]
  simp only [W0, List.append_assoc, List.singleton_append, List.cons_append, List.nil_append]
theorem law_wp (L : Nat) (xs : Nat → Int32) (hL : L ≤ 2048) : wL_law_0 L xs S_0 := sL_law_0 3000 L xs sm0 Ex_rf (by
  rw [e3_ok]
  exact law_loop 3000 (by omega) L xs hL 513 0 W0 inv_0 (by omega))
