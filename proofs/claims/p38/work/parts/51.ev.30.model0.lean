def eX9_init_0 (n : Nat) (V : VS) (a0v : Nat) : Rs Unit := nwV V 290 (fun V2 a1v => sq (wR V2 a0v 1 (some a1v)) (fun V3 => nwV V3 290 (fun V5 a4v => sq (wR V5 a0v 2 (some a4v)) (fun V6 => nwV V6 290 (fun V8 a7v => sq (wR V8 a0v 3 (some a7v)) (fun V9 => nwV V9 290 (fun V11 a10v => sq (wR V11 a0v 4 (some a10v)) (fun V12 => nwV V12 290 (fun V14 a13v => sq (wR V14 a0v 5 (some a13v)) (fun V15 => nwV V15 2320 (fun V17 a16v => sq (wR V17 a0v 6 (some a16v)) (fun V18 => nwV V18 6000 (fun V20 a19v => sq (wR V20 a0v 7 (some a19v)) (fun V21 => nwV V21 6000 (fun V23 a22v => sq (wR V23 a0v 8 (some a22v)) (fun V24 => nwV V24 71 (fun V26 a25v => sq (wR V26 a0v 11 (some a25v)) (fun V27 => sq (wI V27 a0v 13 (-1)) (fun V28 => nwV V28 64 (fun V30 a29v => sq (wR V30 a0v 17 (some a29v)) (fun V31 => nwV V31 16 (fun V33 a32v => sq (wR V33 a0v 19 (some a32v)) (fun V34 => nwV V34 2 (fun V36 a35v => sq (wR V36 a0v 20 (some a35v)) (fun V37 => nwV V37 2 (fun V39 a38v => sq (wR V39 a0v 21 (some a38v)) (fun V40 => nwV V40 16 (fun V42 a41v => sq (wR V42 a0v 22 (some a41v)) (fun V43 => (vR V43 a0v 1).bind (fun a44v => (if gvp_in 0 (vN V43 a44v) = true then sq (wI V43 a44v ((0 : Int32).toNatClampNeg) 5) (fun V45 => (vR V45 a0v 1).bind (fun a46v => (if gvp_in 1 (vN V45 a46v) = true then sq (wI V45 a46v ((1 : Int32).toNatClampNeg) 5) (fun V47 => (vR V47 a0v 1).bind (fun a48v => (if gvp_in 155 (vN V47 a48v) = true then sq (wI V47 a48v ((155 : Int32).toNatClampNeg) 1) (fun V49 => (vR V49 a0v 1).bind (fun a50v => (if gvp_in 166 (vN V49 a50v) = true then sq (wI V49 a50v ((166 : Int32).toNatClampNeg) (-1)) (fun V51 => rt () V51) else none))) else none))) else none))) else none)))))))))))))))))))))))))))))))
set_option maxHeartbeats 4000000 in
set_option maxRecDepth 100000 in
theorem sX9_init_0 (n : Nat) {S0 : MS} {Q : MS → Prop} {QX : String → MS → Prop} {S : MS} {V : VS} {a0 a0v : Nat} (hS : SM S V) (hx : Ex S0 S) (h_a0 : Ad S a0 a0v) (hQ : gd (eX9_init_0 n V a0v) (SU Q S0) (SX QX S0)) : wX9_init_0 Q QX S a0 := by
  unfold wX9_init_0
  unfold eX9_init_0 at hQ
  intro a1 q_a1 S2 eS
  obtain ⟨V2, a1v, hS2, xS, h2_a1, hQ⟩ := st_nw hS q_a1 eS rfl hQ
  have hx2 : Ex S0 S2 := Ex_tr hx xS
  have h2_a0 := xS _ _ h_a0
  intro S3 eS
  obtain ⟨V3, hS3, xS, hQ⟩ := st_sR hS2 h2_a0 eS rfl h2_a1 hQ
  have hx3 : Ex S0 S3 := Ex_tr hx2 xS
  have h3_a0 := xS _ _ h2_a0
  intro a4 q_a4 S5 eS
  obtain ⟨V5, a4v, hS5, xS, h5_a4, hQ⟩ := st_nw hS3 q_a4 eS rfl hQ
  have hx5 : Ex S0 S5 := Ex_tr hx3 xS
  have h5_a0 := xS _ _ h3_a0
  intro S6 eS
  obtain ⟨V6, hS6, xS, hQ⟩ := st_sR hS5 h5_a0 eS rfl h5_a4 hQ
  have hx6 : Ex S0 S6 := Ex_tr hx5 xS
  have h6_a0 := xS _ _ h5_a0
  intro a7 q_a7 S8 eS
  obtain ⟨V8, a7v, hS8, xS, h8_a7, hQ⟩ := st_nw hS6 q_a7 eS rfl hQ
  have hx8 : Ex S0 S8 := Ex_tr hx6 xS
  have h8_a0 := xS _ _ h6_a0
  intro S9 eS
  obtain ⟨V9, hS9, xS, hQ⟩ := st_sR hS8 h8_a0 eS rfl h8_a7 hQ
  have hx9 : Ex S0 S9 := Ex_tr hx8 xS
  have h9_a0 := xS _ _ h8_a0
  intro a10 q_a10 S11 eS
  obtain ⟨V11, a10v, hS11, xS, h11_a10, hQ⟩ := st_nw hS9 q_a10 eS rfl hQ
  have hx11 : Ex S0 S11 := Ex_tr hx9 xS
  have h11_a0 := xS _ _ h9_a0
  intro S12 eS
  obtain ⟨V12, hS12, xS, hQ⟩ := st_sR hS11 h11_a0 eS rfl h11_a10 hQ
  have hx12 : Ex S0 S12 := Ex_tr hx11 xS
  have h12_a0 := xS _ _ h11_a0
  intro a13 q_a13 S14 eS
  obtain ⟨V14, a13v, hS14, xS, h14_a13, hQ⟩ := st_nw hS12 q_a13 eS rfl hQ
  have hx14 : Ex S0 S14 := Ex_tr hx12 xS
  have h14_a0 := xS _ _ h12_a0
  intro S15 eS
  obtain ⟨V15, hS15, xS, hQ⟩ := st_sR hS14 h14_a0 eS rfl h14_a13 hQ
  have hx15 : Ex S0 S15 := Ex_tr hx14 xS
  have h15_a0 := xS _ _ h14_a0
  intro a16 q_a16 S17 eS
  obtain ⟨V17, a16v, hS17, xS, h17_a16, hQ⟩ := st_nw hS15 q_a16 eS rfl hQ
  have hx17 : Ex S0 S17 := Ex_tr hx15 xS
  have h17_a0 := xS _ _ h15_a0
  intro S18 eS
  obtain ⟨V18, hS18, xS, hQ⟩ := st_sR hS17 h17_a0 eS rfl h17_a16 hQ
  have hx18 : Ex S0 S18 := Ex_tr hx17 xS
  have h18_a0 := xS _ _ h17_a0
  intro a19 q_a19 S20 eS
  obtain ⟨V20, a19v, hS20, xS, h20_a19, hQ⟩ := st_nw hS18 q_a19 eS rfl hQ
  have hx20 : Ex S0 S20 := Ex_tr hx18 xS
  have h20_a0 := xS _ _ h18_a0
  intro S21 eS
  obtain ⟨V21, hS21, xS, hQ⟩ := st_sR hS20 h20_a0 eS rfl h20_a19 hQ
  have hx21 : Ex S0 S21 := Ex_tr hx20 xS
  have h21_a0 := xS _ _ h20_a0
  intro a22 q_a22 S23 eS
  obtain ⟨V23, a22v, hS23, xS, h23_a22, hQ⟩ := st_nw hS21 q_a22 eS rfl hQ
  have hx23 : Ex S0 S23 := Ex_tr hx21 xS
  have h23_a0 := xS _ _ h21_a0
  intro S24 eS
  obtain ⟨V24, hS24, xS, hQ⟩ := st_sR hS23 h23_a0 eS rfl h23_a22 hQ
  have hx24 : Ex S0 S24 := Ex_tr hx23 xS
  have h24_a0 := xS _ _ h23_a0
  intro a25 q_a25 S26 eS
  obtain ⟨V26, a25v, hS26, xS, h26_a25, hQ⟩ := st_nw hS24 q_a25 eS rfl hQ
  have hx26 : Ex S0 S26 := Ex_tr hx24 xS
  have h26_a0 := xS _ _ h24_a0
  intro S27 eS
  obtain ⟨V27, hS27, xS, hQ⟩ := st_sR hS26 h26_a0 eS rfl h26_a25 hQ
  have hx27 : Ex S0 S27 := Ex_tr hx26 xS
  have h27_a0 := xS _ _ h26_a0
  intro S28 eS
  obtain ⟨V28, hS28, xS, hQ⟩ := st_sI hS27 h27_a0 eS rfl rfl hQ
  have hx28 : Ex S0 S28 := Ex_tr hx27 xS
  have h28_a0 := xS _ _ h27_a0
  intro a29 q_a29 S30 eS
  obtain ⟨V30, a29v, hS30, xS, h30_a29, hQ⟩ := st_nw hS28 q_a29 eS rfl hQ
  have hx30 : Ex S0 S30 := Ex_tr hx28 xS
  have h30_a0 := xS _ _ h28_a0
  intro S31 eS
  obtain ⟨V31, hS31, xS, hQ⟩ := st_sR hS30 h30_a0 eS rfl h30_a29 hQ
  have hx31 : Ex S0 S31 := Ex_tr hx30 xS
  have h31_a0 := xS _ _ h30_a0
  intro a32 q_a32 S33 eS
  obtain ⟨V33, a32v, hS33, xS, h33_a32, hQ⟩ := st_nw hS31 q_a32 eS rfl hQ
  have hx33 : Ex S0 S33 := Ex_tr hx31 xS
  have h33_a0 := xS _ _ h31_a0
  intro S34 eS
  obtain ⟨V34, hS34, xS, hQ⟩ := st_sR hS33 h33_a0 eS rfl h33_a32 hQ
  have hx34 : Ex S0 S34 := Ex_tr hx33 xS
  have h34_a0 := xS _ _ h33_a0
  intro a35 q_a35 S36 eS
  obtain ⟨V36, a35v, hS36, xS, h36_a35, hQ⟩ := st_nw hS34 q_a35 eS rfl hQ
  have hx36 : Ex S0 S36 := Ex_tr hx34 xS
  have h36_a0 := xS _ _ h34_a0
  intro S37 eS
  obtain ⟨V37, hS37, xS, hQ⟩ := st_sR hS36 h36_a0 eS rfl h36_a35 hQ
  have hx37 : Ex S0 S37 := Ex_tr hx36 xS
  have h37_a0 := xS _ _ h36_a0
  intro a38 q_a38 S39 eS
  obtain ⟨V39, a38v, hS39, xS, h39_a38, hQ⟩ := st_nw hS37 q_a38 eS rfl hQ
  have hx39 : Ex S0 S39 := Ex_tr hx37 xS
  have h39_a0 := xS _ _ h37_a0
  intro S40 eS
  obtain ⟨V40, hS40, xS, hQ⟩ := st_sR hS39 h39_a0 eS rfl h39_a38 hQ
  have hx40 : Ex S0 S40 := Ex_tr hx39 xS
  have h40_a0 := xS _ _ h39_a0
  intro a41 q_a41 S42 eS
  obtain ⟨V42, a41v, hS42, xS, h42_a41, hQ⟩ := st_nw hS40 q_a41 eS rfl hQ
  have hx42 : Ex S0 S42 := Ex_tr hx40 xS
  have h42_a0 := xS _ _ h40_a0
  intro S43 eS
  obtain ⟨V43, hS43, xS, hQ⟩ := st_sR hS42 h42_a0 eS rfl h42_a41 hQ
  have hx43 : Ex S0 S43 := Ex_tr hx42 xS
  have h43_a0 := xS _ _ h42_a0
  refine st_rd hS43 h43_a0 rfl hQ (fun a44 a44v h43_a44 hQ => ?_)
  refine st_gd (fun h => by simp only [SM_N hS43 h43_a44]; exact gvp_in_of h) hQ (fun hQ => ?_)
  intro S45 eS
  obtain ⟨V45, hS45, xS, hQ⟩ := st_sI hS43 h43_a44 eS rfl rfl hQ
  have hx45 : Ex S0 S45 := Ex_tr hx43 xS
  have h45_a0 := xS _ _ h43_a0
  refine st_rd hS45 h45_a0 rfl hQ (fun a46 a46v h45_a46 hQ => ?_)
  refine st_gd (fun h => by simp only [SM_N hS45 h45_a46]; exact gvp_in_of h) hQ (fun hQ => ?_)
  intro S47 eS
  obtain ⟨V47, hS47, xS, hQ⟩ := st_sI hS45 h45_a46 eS rfl rfl hQ
  have hx47 : Ex S0 S47 := Ex_tr hx45 xS
  have h47_a0 := xS _ _ h45_a0
  refine st_rd hS47 h47_a0 rfl hQ (fun a48 a48v h47_a48 hQ => ?_)
  refine st_gd (fun h => by simp only [SM_N hS47 h47_a48]; exact gvp_in_of h) hQ (fun hQ => ?_)
  intro S49 eS
  obtain ⟨V49, hS49, xS, hQ⟩ := st_sI hS47 h47_a48 eS rfl rfl hQ
  have hx49 : Ex S0 S49 := Ex_tr hx47 xS
  have h49_a0 := xS _ _ h47_a0
  refine st_rd hS49 h49_a0 rfl hQ (fun a50 a50v h49_a50 hQ => ?_)
  refine st_gd (fun h => by simp only [SM_N hS49 h49_a50]; exact gvp_in_of h) hQ (fun hQ => ?_)
  intro S51 eS
  obtain ⟨V51, hS51, xS, hQ⟩ := st_sI hS49 h49_a50 eS rfl rfl hQ
  have hx51 : Ex S0 S51 := Ex_tr hx49 xS
  exact gd_rt hQ _ hS51 hx51
def ev_X9_init (n : Nat) (V : VS) (a0v : Nat) : Rs Unit := eX9_init_0 n V a0v
theorem sim_X9_init (n : Nat) {Q : MS → Prop} {QX : String → MS → Prop} {S : MS} {V : VS} {a0 a0v : Nat} (hS : SM S V) (h_a0 : Ad S a0 a0v) (hQ : gd (ev_X9_init n V a0v) (SU Q S) (SX QX S)) : wp_X9_init Q QX S a0 := by
  exact sX9_init_0 n hS Ex_rf h_a0 hQ
def eX9_thrown_0 (n : Nat) (V : VS) (a0v : Nat) : Rs Int32 := rt (vI V a0v 0) V
set_option maxHeartbeats 4000000 in
set_option maxRecDepth 100000 in
theorem sX9_thrown_0 (n : Nat) {S0 : MS} {Q : Int32 → MS → Prop} {QX : String → MS → Prop} {S : MS} {V : VS} {a0 a0v : Nat} (hS : SM S V) (hx : Ex S0 S) (h_a0 : Ad S a0 a0v) (hQ : gd (eX9_thrown_0 n V a0v) (SQ Q S0) (SX QX S0)) : wX9_thrown_0 Q QX S a0 := by
  unfold wX9_thrown_0
  unfold eX9_thrown_0 at hQ
  simp only [SM_I hS h_a0]
  exact gd_rt hQ _ hS hx
def ev_X9_thrown (n : Nat) (V : VS) (a0v : Nat) : Rs Int32 := eX9_thrown_0 n V a0v
theorem sim_X9_thrown (n : Nat) {Q : Int32 → MS → Prop} {QX : String → MS → Prop} {S : MS} {V : VS} {a0 a0v : Nat} (hS : SM S V) (h_a0 : Ad S a0 a0v) (hQ : gd (ev_X9_thrown n V a0v) (SQ Q S) (SX QX S)) : wp_X9_thrown Q QX S a0 := by
  exact sX9_thrown_0 n hS Ex_rf h_a0 hQ
def eX9_no_0 (n : Nat) (V : VS) (a0v : Nat) (x1 : Int32) : Rs Int32 := sq (wI V a0v 0 x1) (fun V1 => rt 0 V1)
set_option maxHeartbeats 4000000 in
set_option maxRecDepth 100000 in
theorem sX9_no_0 (n : Nat) {S0 : MS} {Q : Int32 → MS → Prop} {QX : String → MS → Prop} {S : MS} {V : VS} {a0 a0v : Nat} {x1 : Int32} (hS : SM S V) (hx : Ex S0 S) (h_a0 : Ad S a0 a0v) (hQ : gd (eX9_no_0 n V a0v x1) (SQ Q S0) (SX QX S0)) : wX9_no_0 Q QX S a0 x1 := by
  unfold wX9_no_0
  unfold eX9_no_0 at hQ
  intro S1 eS
  obtain ⟨V1, hS1, xS, hQ⟩ := st_sI hS h_a0 eS rfl rfl hQ
  have hx1 : Ex S0 S1 := Ex_tr hx xS
  exact gd_rt hQ _ hS1 hx1
def ev_X9_no (n : Nat) (V : VS) (a0v : Nat) (x1 : Int32) : Rs Int32 := eX9_no_0 n V a0v x1
theorem sim_X9_no (n : Nat) {Q : Int32 → MS → Prop} {QX : String → MS → Prop} {S : MS} {V : VS} {a0 a0v : Nat} {x1 x1z : Int32} (hS : SM S V) (h_a0 : Ad S a0 a0v) (e_x1 : x1 = x1z) (hQ : gd (ev_X9_no n V a0v x1z) (SQ Q S) (SX QX S)) : wp_X9_no Q QX S a0 x1 := by
  subst e_x1
  exact sX9_no_0 n hS Ex_rf h_a0 hQ
def eX9_isIn_0 (n : Nat) (V : VS) (x1 : Int32) (x2 : Int32) (x3 : Int32) : Rs Int32 := (if x1 < x2 then rt 0 V else (if x3 < x1 then rt 0 V else rt 1 V))
set_option maxHeartbeats 4000000 in
set_option maxRecDepth 100000 in
theorem sX9_isIn_0 (n : Nat) {S0 : MS} {Q : Int32 → MS → Prop} {QX : String → MS → Prop} {S : MS} {V : VS} {x1 : Int32} {x2 : Int32} {x3 : Int32} (hS : SM S V) (hx : Ex S0 S) (hQ : gd (eX9_isIn_0 n V x1 x2 x3) (SQ Q S0) (SX QX S0)) : wX9_isIn_0 Q QX S x1 x2 x3 := by
  unfold wX9_isIn_0
  unfold eX9_isIn_0 at hQ
  refine st_if rfl hQ (fun hQ => ?_) (fun hQ => ?_)
  · exact gd_rt hQ _ hS hx
  · refine st_if rfl hQ (fun hQ => ?_) (fun hQ => ?_)
    · exact gd_rt hQ _ hS hx
    · exact gd_rt hQ _ hS hx
def ev_X9_isIn (n : Nat) (V : VS) (x1 : Int32) (x2 : Int32) (x3 : Int32) : Rs Int32 := eX9_isIn_0 n V x1 x2 x3
theorem sim_X9_isIn (n : Nat) {Q : Int32 → MS → Prop} {QX : String → MS → Prop} {S : MS} {V : VS} {x1 x1z : Int32} {x2 x2z : Int32} {x3 x3z : Int32} (hS : SM S V) (e_x1 : x1 = x1z) (e_x2 : x2 = x2z) (e_x3 : x3 = x3z) (hQ : gd (ev_X9_isIn n V x1z x2z x3z) (SQ Q S) (SX QX S)) : wp_X9_isIn Q QX S x1 x2 x3 := by
  subst e_x1 e_x2 e_x3
  exact sX9_isIn_0 n hS Ex_rf hQ
def eX9_copies_2 (n : Nat) (k2v : VS → Nat → Nat → Int32 → Int32 → Rs Unit) (V : VS) (u0v : Nat) (u1v : Nat) (y2 : Int32) (y3 : Int32) : Rs Unit := (if y2 ≤ y3 then rt () V else (if gvp_in y3 (vN V u0v) = true then (if gvp_in y3 (vN V u1v) = true then sq (wI V u1v ((y3 : Int32).toNatClampNeg) (vI V u0v (y3 : Int32).toNatClampNeg)) (fun V1 => k2v V1 u0v u1v y2 (y3 + 1)) else none) else none))
set_option maxHeartbeats 4000000 in
set_option maxRecDepth 100000 in
theorem sX9_copies_2 (n : Nat) {S0 : MS} {Q : MS → Prop} {QX : String → MS → Prop} {k2 : MS → Nat → Nat → Int32 → Int32 → Prop} {k2v : VS → Nat → Nat → Int32 → Int32 → Rs Unit} (hk2 : ∀ (S : MS) (V : VS) (p0 p0v : Nat) (p1 p1v : Nat) (p2 : Int32) (p3 : Int32), SM S V → Ex S0 S → Ad S p0 p0v → Ad S p1 p1v → gd (k2v V p0v p1v p2 p3) (SU Q S0) (SX QX S0) → k2 S p0 p1 p2 p3) {S : MS} {V : VS} {u0 u0v : Nat} {u1 u1v : Nat} {y2 : Int32} {y3 : Int32} (hS : SM S V) (hx : Ex S0 S) (h_u0 : Ad S u0 u0v) (h_u1 : Ad S u1 u1v) (hQ : gd (eX9_copies_2 n k2v V u0v u1v y2 y3) (SU Q S0) (SX QX S0)) : wX9_copies_2 Q QX k2 S u0 u1 y2 y3 := by
  unfold wX9_copies_2
  unfold eX9_copies_2 at hQ
  refine st_if rfl hQ (fun hQ => ?_) (fun hQ => ?_)
  · exact gd_rt hQ _ hS hx
  · refine st_gd (fun h => by simp only [SM_N hS h_u0]; exact gvp_in_of h) hQ (fun hQ => ?_)
    refine st_gd (fun h => by simp only [SM_N hS h_u1]; exact gvp_in_of h) hQ (fun hQ => ?_)
    intro S1 eS
    obtain ⟨V1, hS1, xS, hQ⟩ := st_sI hS h_u1 eS rfl (show ((mI S u0 (y3 : Int32).toNatClampNeg)) = ((vI V u0v (y3 : Int32).toNatClampNeg)) from by simp only [SM_I hS h_u0]) hQ
    have hx1 : Ex S0 S1 := Ex_tr hx xS
    have h1_u0 := xS _ _ h_u0
    have h1_u1 := xS _ _ h_u1
    exact hk2 _ _ _ _ _ _ _ _ hS1 hx1 h1_u0 h1_u1 hQ
def elX9_copies_2 (n : Nat) : Nat → VS → Nat → Nat → Int32 → Int32 → Rs Unit
  | 0 => fun _ _ _ _ _ => none
  | m + 1 => fun V u0v u1v y2 y3 => eX9_copies_2 n (elX9_copies_2 n m) V u0v u1v y2 y3
theorem selX9_copies_2 (n : Nat) {S0 : MS} {Q : MS → Prop} {QX : String → MS → Prop} : ∀ (m : Nat), ∀ (S : MS) (V : VS) (p0 p0v : Nat) (p1 p1v : Nat) (p2 : Int32) (p3 : Int32), SM S V → Ex S0 S → Ad S p0 p0v → Ad S p1 p1v → gd (elX9_copies_2 n m V p0v p1v p2 p3) (SU Q S0) (SX QX S0) → lX9_copies_2 Q QX m S p0 p1 p2 p3 := by
  intro m
  induction m with
  | zero => intro S V p0 p0v p1 p1v p2 p3 hS hx q0 q1 hQ; exact (gd_none hQ).elim
  | succ m ih => intro S V p0 p0v p1 p1v p2 p3 hS hx q0 q1 hQ; exact sX9_copies_2 n ih hS hx q0 q1 hQ
def eX9_copies_0 (n : Nat) (V : VS) (b1v : Nat) (b2v : Nat) (x3 : Int32) : Rs Unit := elX9_copies_2 n n V b1v b2v x3 0
set_option maxHeartbeats 4000000 in
set_option maxRecDepth 100000 in
theorem sX9_copies_0 (n : Nat) {S0 : MS} {Q : MS → Prop} {QX : String → MS → Prop} {S : MS} {V : VS} {b1 b1v : Nat} {b2 b2v : Nat} {x3 : Int32} (hS : SM S V) (hx : Ex S0 S) (h_b1 : Ad S b1 b1v) (h_b2 : Ad S b2 b2v) (hQ : gd (eX9_copies_0 n V b1v b2v x3) (SU Q S0) (SX QX S0)) : wX9_copies_0 Q QX S b1 b2 x3 := by
  unfold wX9_copies_0
  unfold eX9_copies_0 at hQ
  refine ⟨n, ?_⟩
  exact selX9_copies_2 n n _ _ _ _ _ _ _ _ hS hx h_b1 h_b2 hQ
def ev_X9_copies (n : Nat) (V : VS) (b1v : Nat) (b2v : Nat) (x3 : Int32) : Rs Unit := eX9_copies_0 n V b1v b2v x3
theorem sim_X9_copies (n : Nat) {Q : MS → Prop} {QX : String → MS → Prop} {S : MS} {V : VS} {b1 b1v : Nat} {b2 b2v : Nat} {x3 x3z : Int32} (hS : SM S V) (h_b1 : Ad S b1 b1v) (h_b2 : Ad S b2 b2v) (e_x3 : x3 = x3z) (hQ : gd (ev_X9_copies n V b1v b2v x3z) (SU Q S) (SX QX S)) : wp_X9_copies Q QX S b1 b2 x3 := by
  subst e_x3
  exact sX9_copies_0 n hS Ex_rf h_b1 h_b2 hQ
def eX9_number_0 (n : Nat) (V : VS) (x1 : Int32) (x2 : Int32) : Rs Int32 := (if (x2 : Int32).toInt < 0 ∨ 7 < (x2 : Int32).toInt then (if x1 = 3 then rt 0 V else rt 1 V) else (if (x2 : Int32).toInt = 0 then (if x1 = 0 then rt 8 V else (if x1 = 1 then rt 12 V else (if x1 = 2 then rt 18 V else rt 7 V))) else (if (x2 : Int32).toInt = 1 then (if x1 = 1 then rt 1 V else (if x1 = 2 then rt 3 V else rt 0 V)) else (if (x2 : Int32).toInt = 2 then (if x1 = 0 then rt 4 V else (if x1 = 1 then rt 5 V else (if x1 = 2 then rt 3 V else rt 9 V))) else (if (x2 : Int32).toInt = 3 then (if x1 = 0 then rt 5 V else (if x1 = 1 then rt 6 V else (if x1 = 2 then rt 4 V else rt 8 V))) else (if (x2 : Int32).toInt = 4 then (if x1 = 0 then rt 6 V else (if x1 = 1 then rt 4 V else rt 3 V)) else (if (x2 : Int32).toInt = 5 then (if x1 = 0 then rt 8 V else (if x1 = 1 then rt 5 V else (if x1 = 2 then rt 2 V else rt 6 V))) else (if (x2 : Int32).toInt = 6 then (if x1 = 0 then rt 2 V else (if x1 = 1 then rt 3 V else (if x1 = 2 then rt 5 V else rt 4 V))) else (if (x2 : Int32).toInt = 7 then (if x1 = 0 then rt 6 V else (if x1 = 1 then rt 5 V else (if x1 = 2 then rt 4 V else rt 3 V))) else none)))))))))
set_option maxHeartbeats 4000000 in
set_option maxRecDepth 100000 in
theorem sX9_number_0 (n : Nat) {S0 : MS} {Q : Int32 → MS → Prop} {QX : String → MS → Prop} {S : MS} {V : VS} {x1 : Int32} {x2 : Int32} (hS : SM S V) (hx : Ex S0 S) (hQ : gd (eX9_number_0 n V x1 x2) (SQ Q S0) (SX QX S0)) : wX9_number_0 Q QX S x1 x2 := by
  unfold wX9_number_0
  unfold eX9_number_0 at hQ
  refine ⟨fun hc => ?_, fun hc => ?_, fun hc => ?_, fun hc => ?_, fun hc => ?_, fun hc => ?_, fun hc => ?_, fun hc => ?_, fun hc => ?_⟩
  · have hQ := gd_yes hQ hc
    refine st_ifn rfl hQ (fun hQ => ?_) (fun hQ => ?_)
    · exact gd_rt hQ _ hS hx
    · exact gd_rt hQ _ hS hx
  · have hQ := gd_no hQ (by omega)
    have hQ := gd_yes hQ hc
    refine st_ifn rfl hQ (fun hQ => ?_) (fun hQ => ?_)
    · refine st_ifn rfl hQ (fun hQ => ?_) (fun hQ => ?_)
      · refine st_ifn rfl hQ (fun hQ => ?_) (fun hQ => ?_)
        · exact gd_rt hQ _ hS hx
        · exact gd_rt hQ _ hS hx
      · exact gd_rt hQ _ hS hx
    · exact gd_rt hQ _ hS hx
  · have hQ := gd_no hQ (by omega)
    have hQ := gd_no hQ (by omega)
    have hQ := gd_yes hQ hc
    refine st_ifn rfl hQ (fun hQ => ?_) (fun hQ => ?_)
    · refine st_ifn rfl hQ (fun hQ => ?_) (fun hQ => ?_)
      · exact gd_rt hQ _ hS hx
      · exact gd_rt hQ _ hS hx
    · exact gd_rt hQ _ hS hx
  · have hQ := gd_no hQ (by omega)
    have hQ := gd_no hQ (by omega)
    have hQ := gd_no hQ (by omega)
    have hQ := gd_yes hQ hc
    refine st_ifn rfl hQ (fun hQ => ?_) (fun hQ => ?_)
    · refine st_ifn rfl hQ (fun hQ => ?_) (fun hQ => ?_)
      · refine st_ifn rfl hQ (fun hQ => ?_) (fun hQ => ?_)
        · exact gd_rt hQ _ hS hx
        · exact gd_rt hQ _ hS hx
      · exact gd_rt hQ _ hS hx
    · exact gd_rt hQ _ hS hx
  · have hQ := gd_no hQ (by omega)
    have hQ := gd_no hQ (by omega)
    have hQ := gd_no hQ (by omega)
    have hQ := gd_no hQ (by omega)
    have hQ := gd_yes hQ hc
    refine st_ifn rfl hQ (fun hQ => ?_) (fun hQ => ?_)
    · refine st_ifn rfl hQ (fun hQ => ?_) (fun hQ => ?_)
      · refine st_ifn rfl hQ (fun hQ => ?_) (fun hQ => ?_)
        · exact gd_rt hQ _ hS hx
        · exact gd_rt hQ _ hS hx
      · exact gd_rt hQ _ hS hx
    · exact gd_rt hQ _ hS hx
  · have hQ := gd_no hQ (by omega)
    have hQ := gd_no hQ (by omega)
    have hQ := gd_no hQ (by omega)
    have hQ := gd_no hQ (by omega)
    have hQ := gd_no hQ (by omega)
    have hQ := gd_yes hQ hc
    refine st_ifn rfl hQ (fun hQ => ?_) (fun hQ => ?_)
    · refine st_ifn rfl hQ (fun hQ => ?_) (fun hQ => ?_)
      · exact gd_rt hQ _ hS hx
      · exact gd_rt hQ _ hS hx
    · exact gd_rt hQ _ hS hx
  · have hQ := gd_no hQ (by omega)
    have hQ := gd_no hQ (by omega)
    have hQ := gd_no hQ (by omega)
    have hQ := gd_no hQ (by omega)
    have hQ := gd_no hQ (by omega)
    have hQ := gd_no hQ (by omega)
    have hQ := gd_yes hQ hc
    refine st_ifn rfl hQ (fun hQ => ?_) (fun hQ => ?_)
    · refine st_ifn rfl hQ (fun hQ => ?_) (fun hQ => ?_)
      · refine st_ifn rfl hQ (fun hQ => ?_) (fun hQ => ?_)
        · exact gd_rt hQ _ hS hx
        · exact gd_rt hQ _ hS hx
      · exact gd_rt hQ _ hS hx
    · exact gd_rt hQ _ hS hx
  · have hQ := gd_no hQ (by omega)
    have hQ := gd_no hQ (by omega)
    have hQ := gd_no hQ (by omega)
    have hQ := gd_no hQ (by omega)
    have hQ := gd_no hQ (by omega)
    have hQ := gd_no hQ (by omega)
    have hQ := gd_no hQ (by omega)
    have hQ := gd_yes hQ hc
    refine st_ifn rfl hQ (fun hQ => ?_) (fun hQ => ?_)
    · refine st_ifn rfl hQ (fun hQ => ?_) (fun hQ => ?_)
      · refine st_ifn rfl hQ (fun hQ => ?_) (fun hQ => ?_)
        · exact gd_rt hQ _ hS hx
        · exact gd_rt hQ _ hS hx
      · exact gd_rt hQ _ hS hx
    · exact gd_rt hQ _ hS hx
  · have hQ := gd_no hQ (by omega)
    have hQ := gd_no hQ (by omega)
    have hQ := gd_no hQ (by omega)
    have hQ := gd_no hQ (by omega)
    have hQ := gd_no hQ (by omega)
    have hQ := gd_no hQ (by omega)
    have hQ := gd_no hQ (by omega)
    have hQ := gd_no hQ (by omega)
    have hQ := gd_yes hQ hc
    refine st_ifn rfl hQ (fun hQ => ?_) (fun hQ => ?_)
    · refine st_ifn rfl hQ (fun hQ => ?_) (fun hQ => ?_)
      · refine st_ifn rfl hQ (fun hQ => ?_) (fun hQ => ?_)
        · exact gd_rt hQ _ hS hx
        · exact gd_rt hQ _ hS hx
      · exact gd_rt hQ _ hS hx
    · exact gd_rt hQ _ hS hx
def ev_X9_number (n : Nat) (V : VS) (x1 : Int32) (x2 : Int32) : Rs Int32 := eX9_number_0 n V x1 x2
theorem sim_X9_number (n : Nat) {Q : Int32 → MS → Prop} {QX : String → MS → Prop} {S : MS} {V : VS} {x1 x1z : Int32} {x2 x2z : Int32} (hS : SM S V) (e_x1 : x1 = x1z) (e_x2 : x2 = x2z) (hQ : gd (ev_X9_number n V x1z x2z) (SQ Q S) (SX QX S)) : wp_X9_number Q QX S x1 x2 := by
  subst e_x1 e_x2
  exact sX9_number_0 n hS Ex_rf hQ
def eX9_of_0 (n : Nat) (V : VS) (a0v : Nat) (x1 : Int32) (x2 : Int32) : Rs Int32 := (vR V a0v 1).bind (fun a1v => (if gvp_in ((67 + (11 * x1)) + x2) (vN V a1v) = true then rt (vI V a1v (((67 + (11 * x1)) + x2) : Int32).toNatClampNeg) V else none))
set_option maxHeartbeats 4000000 in
set_option maxRecDepth 100000 in
theorem sX9_of_0 (n : Nat) {S0 : MS} {Q : Int32 → MS → Prop} {QX : String → MS → Prop} {S : MS} {V : VS} {a0 a0v : Nat} {x1 : Int32} {x2 : Int32} (hS : SM S V) (hx : Ex S0 S) (h_a0 : Ad S a0 a0v) (hQ : gd (eX9_of_0 n V a0v x1 x2) (SQ Q S0) (SX QX S0)) : wX9_of_0 Q QX S a0 x1 x2 := by
  unfold wX9_of_0
  unfold eX9_of_0 at hQ
  refine st_rd hS h_a0 rfl hQ (fun a1 a1v h_a1 hQ => ?_)
  refine st_gd (fun h => by simp only [SM_N hS h_a1]; exact gvp_in_of h) hQ (fun hQ => ?_)
  simp only [SM_I hS h_a1]
  exact gd_rt hQ _ hS hx
def ev_X9_of (n : Nat) (V : VS) (a0v : Nat) (x1 : Int32) (x2 : Int32) : Rs Int32 := eX9_of_0 n V a0v x1 x2
theorem sim_X9_of (n : Nat) {Q : Int32 → MS → Prop} {QX : String → MS → Prop} {S : MS} {V : VS} {a0 a0v : Nat} {x1 x1z : Int32} {x2 x2z : Int32} (hS : SM S V) (h_a0 : Ad S a0 a0v) (e_x1 : x1 = x1z) (e_x2 : x2 = x2z) (hQ : gd (ev_X9_of n V a0v x1z x2z) (SQ Q S) (SX QX S)) : wp_X9_of Q QX S a0 x1 x2 := by
  subst e_x1 e_x2
  exact sX9_of_0 n hS Ex_rf h_a0 hQ
def eX9_sets_0 (n : Nat) (V : VS) (a0v : Nat) (x1 : Int32) (x2 : Int32) (x3 : Int32) : Rs Unit := (vR V a0v 1).bind (fun a1v => (if gvp_in ((67 + (11 * x1)) + x2) (vN V a1v) = true then sq (wI V a1v ((((67 + (11 * x1)) + x2) : Int32).toNatClampNeg) x3) (fun V2 => rt () V2) else none))
set_option maxHeartbeats 4000000 in
set_option maxRecDepth 100000 in
theorem sX9_sets_0 (n : Nat) {S0 : MS} {Q : MS → Prop} {QX : String → MS → Prop} {S : MS} {V : VS} {a0 a0v : Nat} {x1 : Int32} {x2 : Int32} {x3 : Int32} (hS : SM S V) (hx : Ex S0 S) (h_a0 : Ad S a0 a0v) (hQ : gd (eX9_sets_0 n V a0v x1 x2 x3) (SU Q S0) (SX QX S0)) : wX9_sets_0 Q QX S a0 x1 x2 x3 := by
  unfold wX9_sets_0
  unfold eX9_sets_0 at hQ
  refine st_rd hS h_a0 rfl hQ (fun a1 a1v h_a1 hQ => ?_)
  refine st_gd (fun h => by simp only [SM_N hS h_a1]; exact gvp_in_of h) hQ (fun hQ => ?_)
  intro S2 eS
  obtain ⟨V2, hS2, xS, hQ⟩ := st_sI hS h_a1 eS rfl rfl hQ
  have hx2 : Ex S0 S2 := Ex_tr hx xS
  exact gd_rt hQ _ hS2 hx2
def ev_X9_sets (n : Nat) (V : VS) (a0v : Nat) (x1 : Int32) (x2 : Int32) (x3 : Int32) : Rs Unit := eX9_sets_0 n V a0v x1 x2 x3
theorem sim_X9_sets (n : Nat) {Q : MS → Prop} {QX : String → MS → Prop} {S : MS} {V : VS} {a0 a0v : Nat} {x1 x1z : Int32} {x2 x2z : Int32} {x3 x3z : Int32} (hS : SM S V) (h_a0 : Ad S a0 a0v) (e_x1 : x1 = x1z) (e_x2 : x2 = x2z) (e_x3 : x3 = x3z) (hQ : gd (ev_X9_sets n V a0v x1z x2z x3z) (SU Q S) (SX QX S)) : wp_X9_sets Q QX S a0 x1 x2 x3 := by
  subst e_x1 e_x2 e_x3
  exact sX9_sets_0 n hS Ex_rf h_a0 hQ
def eX9_kindly_0 (n : Nat) (V : VS) (a0v : Nat) (x1 : Int32) (x2 : Int32) : Rs Int32 := bd (ev_X9_of n V a0v x1 1) (fun r2 V1 => bd (ev_X9_number n V1 r2 x2) (fun r4 V3 => rt r4 V3) th) th
set_option maxHeartbeats 4000000 in
set_option maxRecDepth 100000 in
theorem sX9_kindly_0 (n : Nat) {S0 : MS} {Q : Int32 → MS → Prop} {QX : String → MS → Prop} {S : MS} {V : VS} {a0 a0v : Nat} {x1 : Int32} {x2 : Int32} (hS : SM S V) (hx : Ex S0 S) (h_a0 : Ad S a0 a0v) (hQ : gd (eX9_kindly_0 n V a0v x1 x2) (SQ Q S0) (SX QX S0)) : wX9_kindly_0 Q QX S a0 x1 x2 := by
  unfold wX9_kindly_0
  unfold eX9_kindly_0 at hQ
  refine sim_X9_of n hS h_a0 rfl rfl ?_
  refine gd_mono (gd_bd hQ) (fun r2 V1 hQ S1 hS1 xS => ?_) (fun E V9 hQ S9 hS9 xS9 => gd_th hQ S9 hS9 (Ex_tr hx xS9))
  have hx1 : Ex S0 S1 := Ex_tr hx xS
  refine sim_X9_number n hS1 rfl rfl ?_
  refine gd_mono (gd_bd hQ) (fun r4 V3 hQ S3 hS3 xS => ?_) (fun E V9 hQ S9 hS9 xS9 => gd_th hQ S9 hS9 (Ex_tr hx1 xS9))
  have hx3 : Ex S0 S3 := Ex_tr hx1 xS
  exact gd_rt hQ _ hS3 hx3
def ev_X9_kindly (n : Nat) (V : VS) (a0v : Nat) (x1 : Int32) (x2 : Int32) : Rs Int32 := eX9_kindly_0 n V a0v x1 x2
theorem sim_X9_kindly (n : Nat) {Q : Int32 → MS → Prop} {QX : String → MS → Prop} {S : MS} {V : VS} {a0 a0v : Nat} {x1 x1z : Int32} {x2 x2z : Int32} (hS : SM S V) (h_a0 : Ad S a0 a0v) (e_x1 : x1 = x1z) (e_x2 : x2 = x2z) (hQ : gd (ev_X9_kindly n V a0v x1z x2z) (SQ Q S) (SX QX S)) : wp_X9_kindly Q QX S a0 x1 x2 := by
  subst e_x1 e_x2
  exact sX9_kindly_0 n hS Ex_rf h_a0 hQ
def eX9_lives_0 (n : Nat) (V : VS) (a0v : Nat) (x1 : Int32) : Rs Int32 := bd (ev_X9_of n V a0v x1 3) (fun r2 V1 => (if r2 ≤ 0 then rt 0 V1 else rt 1 V1)) th
set_option maxHeartbeats 4000000 in
set_option maxRecDepth 100000 in
theorem sX9_lives_0 (n : Nat) {S0 : MS} {Q : Int32 → MS → Prop} {QX : String → MS → Prop} {S : MS} {V : VS} {a0 a0v : Nat} {x1 : Int32} (hS : SM S V) (hx : Ex S0 S) (h_a0 : Ad S a0 a0v) (hQ : gd (eX9_lives_0 n V a0v x1) (SQ Q S0) (SX QX S0)) : wX9_lives_0 Q QX S a0 x1 := by
  unfold wX9_lives_0
  unfold eX9_lives_0 at hQ
  refine sim_X9_of n hS h_a0 rfl rfl ?_
  refine gd_mono (gd_bd hQ) (fun r2 V1 hQ S1 hS1 xS => ?_) (fun E V9 hQ S9 hS9 xS9 => gd_th hQ S9 hS9 (Ex_tr hx xS9))
  have hx1 : Ex S0 S1 := Ex_tr hx xS
  refine st_if rfl hQ (fun hQ => ?_) (fun hQ => ?_)
  · exact gd_rt hQ _ hS1 hx1
  · exact gd_rt hQ _ hS1 hx1
def ev_X9_lives (n : Nat) (V : VS) (a0v : Nat) (x1 : Int32) : Rs Int32 := eX9_lives_0 n V a0v x1
theorem sim_X9_lives (n : Nat) {Q : Int32 → MS → Prop} {QX : String → MS → Prop} {S : MS} {V : VS} {a0 a0v : Nat} {x1 x1z : Int32} (hS : SM S V) (h_a0 : Ad S a0 a0v) (e_x1 : x1 = x1z) (hQ : gd (ev_X9_lives n V a0v x1z) (SQ Q S) (SX QX S)) : wp_X9_lives Q QX S a0 x1 := by
  subst e_x1
  exact sX9_lives_0 n hS Ex_rf h_a0 hQ
def eX9_isUnit_0 (n : Nat) (V : VS) (a0v : Nat) (x1 : Int32) : Rs Int32 := (vR V a0v 1).bind (fun a1v => (if gvp_in 66 (vN V a1v) = true then bd (ev_X9_isIn n V x1 0 ((vI V a1v (66 : Int32).toNatClampNeg) - 1)) (fun r3 V2 => (if gisZ r3 = true then rt r3 V2 else none)) th else none))
set_option maxHeartbeats 4000000 in
set_option maxRecDepth 100000 in
theorem sX9_isUnit_0 (n : Nat) {S0 : MS} {Q : Int32 → MS → Prop} {QX : String → MS → Prop} {S : MS} {V : VS} {a0 a0v : Nat} {x1 : Int32} (hS : SM S V) (hx : Ex S0 S) (h_a0 : Ad S a0 a0v) (hQ : gd (eX9_isUnit_0 n V a0v x1) (SQ Q S0) (SX QX S0)) : wX9_isUnit_0 Q QX S a0 x1 := by
  unfold wX9_isUnit_0
  unfold eX9_isUnit_0 at hQ
  refine st_rd hS h_a0 rfl hQ (fun a1 a1v h_a1 hQ => ?_)
  refine st_gd (fun h => by simp only [SM_N hS h_a1]; exact gvp_in_of h) hQ (fun hQ => ?_)
  refine sim_X9_isIn n hS rfl rfl (show (((mI S a1 (66 : Int32).toNatClampNeg) - 1)) = (((vI V a1v (66 : Int32).toNatClampNeg) - 1)) from by simp only [SM_I hS h_a1]) ?_
  refine gd_mono (gd_bd hQ) (fun r3 V2 hQ S2 hS2 xS => ?_) (fun E V9 hQ S9 hS9 xS9 => gd_th hQ S9 hS9 (Ex_tr hx xS9))
  have hx2 : Ex S0 S2 := Ex_tr hx xS
  refine st_gd (fun h => by exact gisZ_of h) hQ (fun hQ => ?_)
  exact gd_rt hQ _ hS2 hx2
def ev_X9_isUnit (n : Nat) (V : VS) (a0v : Nat) (x1 : Int32) : Rs Int32 := eX9_isUnit_0 n V a0v x1
theorem sim_X9_isUnit (n : Nat) {Q : Int32 → MS → Prop} {QX : String → MS → Prop} {S : MS} {V : VS} {a0 a0v : Nat} {x1 x1z : Int32} (hS : SM S V) (h_a0 : Ad S a0 a0v) (e_x1 : x1 = x1z) (hQ : gd (ev_X9_isUnit n V a0v x1z) (SQ Q S) (SX QX S)) : wp_X9_isUnit Q QX S a0 x1 := by
  subst e_x1
  exact sX9_isUnit_0 n hS Ex_rf h_a0 hQ
def eX9_isCell_0 (n : Nat) (V : VS) (a0v : Nat) (x1 : Int32) : Rs Int32 := (vR V a0v 1).bind (fun a1v => (if gvp_in 0 (vN V a1v) = true then (vR V a0v 1).bind (fun a2v => (if gvp_in 1 (vN V a2v) = true then bd (ev_X9_isIn n V x1 0 (((vI V a1v (0 : Int32).toNatClampNeg) * (vI V a2v (1 : Int32).toNatClampNeg)) - 1)) (fun r4 V3 => (if gisZ r4 = true then rt r4 V3 else none)) th else none)) else none))
set_option maxHeartbeats 4000000 in
set_option maxRecDepth 100000 in
theorem sX9_isCell_0 (n : Nat) {S0 : MS} {Q : Int32 → MS → Prop} {QX : String → MS → Prop} {S : MS} {V : VS} {a0 a0v : Nat} {x1 : Int32} (hS : SM S V) (hx : Ex S0 S) (h_a0 : Ad S a0 a0v) (hQ : gd (eX9_isCell_0 n V a0v x1) (SQ Q S0) (SX QX S0)) : wX9_isCell_0 Q QX S a0 x1 := by
  unfold wX9_isCell_0
  unfold eX9_isCell_0 at hQ
  refine st_rd hS h_a0 rfl hQ (fun a1 a1v h_a1 hQ => ?_)
  refine st_gd (fun h => by simp only [SM_N hS h_a1]; exact gvp_in_of h) hQ (fun hQ => ?_)
  refine st_rd hS h_a0 rfl hQ (fun a2 a2v h_a2 hQ => ?_)
  refine st_gd (fun h => by simp only [SM_N hS h_a2]; exact gvp_in_of h) hQ (fun hQ => ?_)
  refine sim_X9_isIn n hS rfl rfl (show ((((mI S a1 (0 : Int32).toNatClampNeg) * (mI S a2 (1 : Int32).toNatClampNeg)) - 1)) = ((((vI V a1v (0 : Int32).toNatClampNeg) * (vI V a2v (1 : Int32).toNatClampNeg)) - 1)) from by simp only [SM_I hS h_a1, SM_I hS h_a2]) ?_
  refine gd_mono (gd_bd hQ) (fun r4 V3 hQ S3 hS3 xS => ?_) (fun E V9 hQ S9 hS9 xS9 => gd_th hQ S9 hS9 (Ex_tr hx xS9))
  have hx3 : Ex S0 S3 := Ex_tr hx xS
  refine st_gd (fun h => by exact gisZ_of h) hQ (fun hQ => ?_)
  exact gd_rt hQ _ hS3 hx3
def ev_X9_isCell (n : Nat) (V : VS) (a0v : Nat) (x1 : Int32) : Rs Int32 := eX9_isCell_0 n V a0v x1
theorem sim_X9_isCell (n : Nat) {Q : Int32 → MS → Prop} {QX : String → MS → Prop} {S : MS} {V : VS} {a0 a0v : Nat} {x1 x1z : Int32} (hS : SM S V) (h_a0 : Ad S a0 a0v) (e_x1 : x1 = x1z) (hQ : gd (ev_X9_isCell n V a0v x1z) (SQ Q S) (SX QX S)) : wp_X9_isCell Q QX S a0 x1 := by
  subst e_x1
  exact sX9_isCell_0 n hS Ex_rf h_a0 hQ
def eX9_row_0 (n : Nat) (V : VS) (a0v : Nat) (x1 : Int32) : Rs Int32 := (vR V a0v 1).bind (fun a1v => (if gvp_in 1 (vN V a1v) = true then (if ¬ (vI V a1v (1 : Int32).toNatClampNeg) = 0 then rt (x1 / (vI V a1v (1 : Int32).toNatClampNeg)) V else none) else none))
set_option maxHeartbeats 4000000 in
set_option maxRecDepth 100000 in
theorem sX9_row_0 (n : Nat) {S0 : MS} {Q : Int32 → MS → Prop} {QX : String → MS → Prop} {S : MS} {V : VS} {a0 a0v : Nat} {x1 : Int32} (hS : SM S V) (hx : Ex S0 S) (h_a0 : Ad S a0 a0v) (hQ : gd (eX9_row_0 n V a0v x1) (SQ Q S0) (SX QX S0)) : wX9_row_0 Q QX S a0 x1 := by
  unfold wX9_row_0
  unfold eX9_row_0 at hQ
  refine st_rd hS h_a0 rfl hQ (fun a1 a1v h_a1 hQ => ?_)
  refine st_gd (fun h => by simp only [SM_N hS h_a1]; exact gvp_in_of h) hQ (fun hQ => ?_)
  refine st_gd (fun h => by simp only [SM_I hS h_a1]; exact h) hQ (fun hQ => ?_)
  simp only [SM_I hS h_a1]
  exact gd_rt hQ _ hS hx
def ev_X9_row (n : Nat) (V : VS) (a0v : Nat) (x1 : Int32) : Rs Int32 := eX9_row_0 n V a0v x1
theorem sim_X9_row (n : Nat) {Q : Int32 → MS → Prop} {QX : String → MS → Prop} {S : MS} {V : VS} {a0 a0v : Nat} {x1 x1z : Int32} (hS : SM S V) (h_a0 : Ad S a0 a0v) (e_x1 : x1 = x1z) (hQ : gd (ev_X9_row n V a0v x1z) (SQ Q S) (SX QX S)) : wp_X9_row Q QX S a0 x1 := by
  subst e_x1
  exact sX9_row_0 n hS Ex_rf h_a0 hQ
def eX9_column_0 (n : Nat) (V : VS) (a0v : Nat) (x1 : Int32) : Rs Int32 := (vR V a0v 1).bind (fun a1v => (if gvp_in 1 (vN V a1v) = true then (if ¬ (vI V a1v (1 : Int32).toNatClampNeg) = 0 then rt (x1 - x1 / (vI V a1v (1 : Int32).toNatClampNeg) * (vI V a1v (1 : Int32).toNatClampNeg)) V else none) else none))
set_option maxHeartbeats 4000000 in
set_option maxRecDepth 100000 in
theorem sX9_column_0 (n : Nat) {S0 : MS} {Q : Int32 → MS → Prop} {QX : String → MS → Prop} {S : MS} {V : VS} {a0 a0v : Nat} {x1 : Int32} (hS : SM S V) (hx : Ex S0 S) (h_a0 : Ad S a0 a0v) (hQ : gd (eX9_column_0 n V a0v x1) (SQ Q S0) (SX QX S0)) : wX9_column_0 Q QX S a0 x1 := by
  unfold wX9_column_0
  unfold eX9_column_0 at hQ
  refine st_rd hS h_a0 rfl hQ (fun a1 a1v h_a1 hQ => ?_)
  refine st_gd (fun h => by simp only [SM_N hS h_a1]; exact gvp_in_of h) hQ (fun hQ => ?_)
  refine st_gd (fun h => by simp only [SM_I hS h_a1]; exact h) hQ (fun hQ => ?_)
  simp only [SM_I hS h_a1]
  exact gd_rt hQ _ hS hx
def ev_X9_column (n : Nat) (V : VS) (a0v : Nat) (x1 : Int32) : Rs Int32 := eX9_column_0 n V a0v x1
theorem sim_X9_column (n : Nat) {Q : Int32 → MS → Prop} {QX : String → MS → Prop} {S : MS} {V : VS} {a0 a0v : Nat} {x1 x1z : Int32} (hS : SM S V) (h_a0 : Ad S a0 a0v) (e_x1 : x1 = x1z) (hQ : gd (ev_X9_column n V a0v x1z) (SQ Q S) (SX QX S)) : wp_X9_column Q QX S a0 x1 := by
  subst e_x1
  exact sX9_column_0 n hS Ex_rf h_a0 hQ
def eX9_apart_77 (n : Nat) (V : VS) (y3 : Int32) (z0 : Int32) : Rs Int32 := (if y3 ≤ z0 then rt z0 V else rt y3 V)
set_option maxHeartbeats 4000000 in
set_option maxRecDepth 100000 in
theorem sX9_apart_77 (n : Nat) {S0 : MS} {Q : Int32 → MS → Prop} {QX : String → MS → Prop} {S : MS} {V : VS} {y3 : Int32} {z0 : Int32} (hS : SM S V) (hx : Ex S0 S) (hQ : gd (eX9_apart_77 n V y3 z0) (SQ Q S0) (SX QX S0)) : wX9_apart_77 Q QX S y3 z0 := by
  unfold wX9_apart_77
  unfold eX9_apart_77 at hQ
  refine st_if rfl hQ (fun hQ => ?_) (fun hQ => ?_)
  · exact gd_rt hQ _ hS hx
  · exact gd_rt hQ _ hS hx
def eX9_apart_38 (n : Nat) (V : VS) (a0v : Nat) (y1 : Int32) (y2 : Int32) (z0 : Int32) : Rs Int32 := bd (ev_X9_column n V a0v y1) (fun r2 V1 => bd (ev_X9_column n V1 a0v y2) (fun r4 V3 => (if r2 ≤ r4 then bd (ev_X9_column n V3 a0v y2) (fun r6 V5 => bd (ev_X9_column n V5 a0v y1) (fun r8 V7 => eX9_apart_77 n V7 z0 (r6 - r8)) th) th else bd (ev_X9_column n V3 a0v y1) (fun r10 V9 => bd (ev_X9_column n V9 a0v y2) (fun r12 V11 => eX9_apart_77 n V11 z0 (r10 - r12)) th) th)) th) th
set_option maxHeartbeats 4000000 in
set_option maxRecDepth 100000 in
theorem sX9_apart_38 (n : Nat) {S0 : MS} {Q : Int32 → MS → Prop} {QX : String → MS → Prop} {S : MS} {V : VS} {a0 a0v : Nat} {y1 : Int32} {y2 : Int32} {z0 : Int32} (hS : SM S V) (hx : Ex S0 S) (h_a0 : Ad S a0 a0v) (hQ : gd (eX9_apart_38 n V a0v y1 y2 z0) (SQ Q S0) (SX QX S0)) : wX9_apart_38 Q QX S a0 y1 y2 z0 := by
  unfold wX9_apart_38
  unfold eX9_apart_38 at hQ
  refine sim_X9_column n hS h_a0 rfl ?_
  refine gd_mono (gd_bd hQ) (fun r2 V1 hQ S1 hS1 xS => ?_) (fun E V9 hQ S9 hS9 xS9 => gd_th hQ S9 hS9 (Ex_tr hx xS9))
  have hx1 : Ex S0 S1 := Ex_tr hx xS
  have h1_a0 := xS _ _ h_a0
  refine sim_X9_column n hS1 h1_a0 rfl ?_
  refine gd_mono (gd_bd hQ) (fun r4 V3 hQ S3 hS3 xS => ?_) (fun E V9 hQ S9 hS9 xS9 => gd_th hQ S9 hS9 (Ex_tr hx1 xS9))
  have hx3 : Ex S0 S3 := Ex_tr hx1 xS
  have h3_a0 := xS _ _ h1_a0
  refine st_if rfl hQ (fun hQ => ?_) (fun hQ => ?_)
  · refine sim_X9_column n hS3 h3_a0 rfl ?_
    refine gd_mono (gd_bd hQ) (fun r6 V5 hQ S5 hS5 xS => ?_) (fun E V9 hQ S9 hS9 xS9 => gd_th hQ S9 hS9 (Ex_tr hx3 xS9))
    have hx5 : Ex S0 S5 := Ex_tr hx3 xS
    have h5_a0 := xS _ _ h3_a0
    refine sim_X9_column n hS5 h5_a0 rfl ?_
    refine gd_mono (gd_bd hQ) (fun r8 V7 hQ S7 hS7 xS => ?_) (fun E V9 hQ S9 hS9 xS9 => gd_th hQ S9 hS9 (Ex_tr hx5 xS9))
    have hx7 : Ex S0 S7 := Ex_tr hx5 xS
    exact sX9_apart_77 n hS7 hx7 hQ
  · refine sim_X9_column n hS3 h3_a0 rfl ?_
    refine gd_mono (gd_bd hQ) (fun r10 V9 hQ S9 hS9 xS => ?_) (fun E V9 hQ S9 hS9 xS9 => gd_th hQ S9 hS9 (Ex_tr hx3 xS9))
    have hx9 : Ex S0 S9 := Ex_tr hx3 xS
    have h9_a0 := xS _ _ h3_a0
    refine sim_X9_column n hS9 h9_a0 rfl ?_
    refine gd_mono (gd_bd hQ) (fun r12 V11 hQ S11 hS11 xS => ?_) (fun E V9 hQ S9 hS9 xS9 => gd_th hQ S9 hS9 (Ex_tr hx9 xS9))
    have hx11 : Ex S0 S11 := Ex_tr hx9 xS
    exact sX9_apart_77 n hS11 hx11 hQ
def eX9_apart_0 (n : Nat) (V : VS) (a0v : Nat) (x1 : Int32) (x2 : Int32) : Rs Int32 := bd (ev_X9_row n V a0v x1) (fun r2 V1 => bd (ev_X9_row n V1 a0v x2) (fun r4 V3 => (if r2 ≤ r4 then bd (ev_X9_row n V3 a0v x2) (fun r6 V5 => bd (ev_X9_row n V5 a0v x1) (fun r8 V7 => eX9_apart_38 n V7 a0v x1 x2 (r6 - r8)) th) th else bd (ev_X9_row n V3 a0v x1) (fun r10 V9 => bd (ev_X9_row n V9 a0v x2) (fun r12 V11 => eX9_apart_38 n V11 a0v x1 x2 (r10 - r12)) th) th)) th) th
set_option maxHeartbeats 4000000 in
set_option maxRecDepth 100000 in
theorem sX9_apart_0 (n : Nat) {S0 : MS} {Q : Int32 → MS → Prop} {QX : String → MS → Prop} {S : MS} {V : VS} {a0 a0v : Nat} {x1 : Int32} {x2 : Int32} (hS : SM S V) (hx : Ex S0 S) (h_a0 : Ad S a0 a0v) (hQ : gd (eX9_apart_0 n V a0v x1 x2) (SQ Q S0) (SX QX S0)) : wX9_apart_0 Q QX S a0 x1 x2 := by
  unfold wX9_apart_0
  unfold eX9_apart_0 at hQ
  refine sim_X9_row n hS h_a0 rfl ?_
  refine gd_mono (gd_bd hQ) (fun r2 V1 hQ S1 hS1 xS => ?_) (fun E V9 hQ S9 hS9 xS9 => gd_th hQ S9 hS9 (Ex_tr hx xS9))
  have hx1 : Ex S0 S1 := Ex_tr hx xS
  have h1_a0 := xS _ _ h_a0
  refine sim_X9_row n hS1 h1_a0 rfl ?_
  refine gd_mono (gd_bd hQ) (fun r4 V3 hQ S3 hS3 xS => ?_) (fun E V9 hQ S9 hS9 xS9 => gd_th hQ S9 hS9 (Ex_tr hx1 xS9))
  have hx3 : Ex S0 S3 := Ex_tr hx1 xS
  have h3_a0 := xS _ _ h1_a0
  refine st_if rfl hQ (fun hQ => ?_) (fun hQ => ?_)
  · refine sim_X9_row n hS3 h3_a0 rfl ?_
    refine gd_mono (gd_bd hQ) (fun r6 V5 hQ S5 hS5 xS => ?_) (fun E V9 hQ S9 hS9 xS9 => gd_th hQ S9 hS9 (Ex_tr hx3 xS9))
    have hx5 : Ex S0 S5 := Ex_tr hx3 xS
    have h5_a0 := xS _ _ h3_a0
    refine sim_X9_row n hS5 h5_a0 rfl ?_
    refine gd_mono (gd_bd hQ) (fun r8 V7 hQ S7 hS7 xS => ?_) (fun E V9 hQ S9 hS9 xS9 => gd_th hQ S9 hS9 (Ex_tr hx5 xS9))
    have hx7 : Ex S0 S7 := Ex_tr hx5 xS
    have h7_a0 := xS _ _ h5_a0
    exact sX9_apart_38 n hS7 hx7 h7_a0 hQ
  · refine sim_X9_row n hS3 h3_a0 rfl ?_
    refine gd_mono (gd_bd hQ) (fun r10 V9 hQ S9 hS9 xS => ?_) (fun E V9 hQ S9 hS9 xS9 => gd_th hQ S9 hS9 (Ex_tr hx3 xS9))
    have hx9 : Ex S0 S9 := Ex_tr hx3 xS
    have h9_a0 := xS _ _ h3_a0
    refine sim_X9_row n hS9 h9_a0 rfl ?_
    refine gd_mono (gd_bd hQ) (fun r12 V11 hQ S11 hS11 xS => ?_) (fun E V9 hQ S9 hS9 xS9 => gd_th hQ S9 hS9 (Ex_tr hx9 xS9))
    have hx11 : Ex S0 S11 := Ex_tr hx9 xS
    have h11_a0 := xS _ _ h9_a0
    exact sX9_apart_38 n hS11 hx11 h11_a0 hQ
def ev_X9_apart (n : Nat) (V : VS) (a0v : Nat) (x1 : Int32) (x2 : Int32) : Rs Int32 := eX9_apart_0 n V a0v x1 x2
theorem sim_X9_apart (n : Nat) {Q : Int32 → MS → Prop} {QX : String → MS → Prop} {S : MS} {V : VS} {a0 a0v : Nat} {x1 x1z : Int32} {x2 x2z : Int32} (hS : SM S V) (h_a0 : Ad S a0 a0v) (e_x1 : x1 = x1z) (e_x2 : x2 = x2z) (hQ : gd (ev_X9_apart n V a0v x1z x2z) (SQ Q S) (SX QX S)) : wp_X9_apart Q QX S a0 x1 x2 := by
  subst e_x1 e_x2
  exact sX9_apart_0 n hS Ex_rf h_a0 hQ
def eX9_append_0 (n : Nat) (V : VS) (a0v : Nat) (x1 : Int32) : Rs Int32 := sq (wI V a0v 0 0) (fun V1 => bd (ev_X9_isIn n V1 x1 32 126) (fun r3 V2 => (if r3 = 0 then bd (ev_X9_no n V2 a0v 1) (fun r10 V9 => rt r10 V9) th else (if (vI V2 a0v 12) = 71 then bd (ev_X9_no n V2 a0v 2) (fun r8 V7 => rt r8 V7) th else (vR V2 a0v 11).bind (fun a4v => (if gvp_in (vI V2 a0v 12) (vN V2 a4v) = true then sq (wI V2 a4v (((vI V2 a0v 12) : Int32).toNatClampNeg) x1) (fun V5 => sq (wI V5 a0v 12 ((vI V5 a0v 12) + 1)) (fun V6 => rt (vI V6 a0v 12) V6)) else none))))) th)
set_option maxHeartbeats 4000000 in
set_option maxRecDepth 100000 in
theorem sX9_append_0 (n : Nat) {S0 : MS} {Q : Int32 → MS → Prop} {QX : String → MS → Prop} {S : MS} {V : VS} {a0 a0v : Nat} {x1 : Int32} (hS : SM S V) (hx : Ex S0 S) (h_a0 : Ad S a0 a0v) (hQ : gd (eX9_append_0 n V a0v x1) (SQ Q S0) (SX QX S0)) : wX9_append_0 Q QX S a0 x1 := by
  unfold wX9_append_0
  unfold eX9_append_0 at hQ
  intro S1 eS
  obtain ⟨V1, hS1, xS, hQ⟩ := st_sI hS h_a0 eS rfl rfl hQ
  have hx1 : Ex S0 S1 := Ex_tr hx xS
  have h1_a0 := xS _ _ h_a0
  refine sim_X9_isIn n hS1 rfl rfl rfl ?_
  refine gd_mono (gd_bd hQ) (fun r3 V2 hQ S2 hS2 xS => ?_) (fun E V9 hQ S9 hS9 xS9 => gd_th hQ S9 hS9 (Ex_tr hx1 xS9))
  have hx2 : Ex S0 S2 := Ex_tr hx1 xS
  have h2_a0 := xS _ _ h1_a0
  refine st_ifn rfl hQ (fun hQ => ?_) (fun hQ => ?_)
  · refine st_ifn (show ((mI S2 a0 12) = 71) = ((vI V2 a0v 12) = 71) from by simp only [SM_I hS2 h2_a0]) hQ (fun hQ => ?_) (fun hQ => ?_)
    · refine st_rd hS2 h2_a0 rfl hQ (fun a4 a4v h2_a4 hQ => ?_)
      refine st_gd (fun h => by simp only [SM_I hS2 h2_a0, SM_N hS2 h2_a4]; exact gvp_in_of h) hQ (fun hQ => ?_)
      intro S5 eS
      obtain ⟨V5, hS5, xS, hQ⟩ := st_sI hS2 h2_a4 eS (show (((mI S2 a0 12) : Int32).toNatClampNeg) = (((vI V2 a0v 12) : Int32).toNatClampNeg) from by simp only [SM_I hS2 h2_a0]) rfl hQ
      have hx5 : Ex S0 S5 := Ex_tr hx2 xS
      have h5_a0 := xS _ _ h2_a0
      intro S6 eS
      obtain ⟨V6, hS6, xS, hQ⟩ := st_sI hS5 h5_a0 eS rfl (show (((mI S5 a0 12) + 1)) = (((vI V5 a0v 12) + 1)) from by simp only [SM_I hS5 h5_a0]) hQ
      have hx6 : Ex S0 S6 := Ex_tr hx5 xS
      have h6_a0 := xS _ _ h5_a0
      simp only [SM_I hS6 h6_a0]
      exact gd_rt hQ _ hS6 hx6
    · refine sim_X9_no n hS2 h2_a0 rfl ?_
      refine gd_mono (gd_bd hQ) (fun r8 V7 hQ S7 hS7 xS => ?_) (fun E V9 hQ S9 hS9 xS9 => gd_th hQ S9 hS9 (Ex_tr hx2 xS9))
      have hx7 : Ex S0 S7 := Ex_tr hx2 xS
      exact gd_rt hQ _ hS7 hx7
  · refine sim_X9_no n hS2 h2_a0 rfl ?_
    refine gd_mono (gd_bd hQ) (fun r10 V9 hQ S9 hS9 xS => ?_) (fun E V9 hQ S9 hS9 xS9 => gd_th hQ S9 hS9 (Ex_tr hx2 xS9))
    have hx9 : Ex S0 S9 := Ex_tr hx2 xS
    exact gd_rt hQ _ hS9 hx9
def ev_X9_append (n : Nat) (V : VS) (a0v : Nat) (x1 : Int32) : Rs Int32 := eX9_append_0 n V a0v x1
theorem sim_X9_append (n : Nat) {Q : Int32 → MS → Prop} {QX : String → MS → Prop} {S : MS} {V : VS} {a0 a0v : Nat} {x1 x1z : Int32} (hS : SM S V) (h_a0 : Ad S a0 a0v) (e_x1 : x1 = x1z) (hQ : gd (ev_X9_append n V a0v x1z) (SQ Q S) (SX QX S)) : wp_X9_append Q QX S a0 x1 := by
  subst e_x1
  exact sX9_append_0 n hS Ex_rf h_a0 hQ
def eX9_terrainOf_0 (n : Nat) (V : VS) (x1 : Int32) : Rs Int32 := (if x1 = 46 then rt 0 V else (if x1 = 35 then rt 1 V else (if x1 = 111 then rt 2 V else (if x1 = 126 then rt 3 V else (if x1 = 94 then rt 4 V else rt (-1) V)))))
set_option maxHeartbeats 4000000 in
set_option maxRecDepth 100000 in
theorem sX9_terrainOf_0 (n : Nat) {S0 : MS} {Q : Int32 → MS → Prop} {QX : String → MS → Prop} {S : MS} {V : VS} {x1 : Int32} (hS : SM S V) (hx : Ex S0 S) (hQ : gd (eX9_terrainOf_0 n V x1) (SQ Q S0) (SX QX S0)) : wX9_terrainOf_0 Q QX S x1 := by
  unfold wX9_terrainOf_0
  unfold eX9_terrainOf_0 at hQ
  refine st_ifn rfl hQ (fun hQ => ?_) (fun hQ => ?_)
  · refine st_ifn rfl hQ (fun hQ => ?_) (fun hQ => ?_)
    · refine st_ifn rfl hQ (fun hQ => ?_) (fun hQ => ?_)
      · refine st_ifn rfl hQ (fun hQ => ?_) (fun hQ => ?_)
        · refine st_ifn rfl hQ (fun hQ => ?_) (fun hQ => ?_)
          · exact gd_rt hQ _ hS hx
          · exact gd_rt hQ _ hS hx
        · exact gd_rt hQ _ hS hx
      · exact gd_rt hQ _ hS hx
    · exact gd_rt hQ _ hS hx
  · exact gd_rt hQ _ hS hx
def ev_X9_terrainOf (n : Nat) (V : VS) (x1 : Int32) : Rs Int32 := eX9_terrainOf_0 n V x1
theorem sim_X9_terrainOf (n : Nat) {Q : Int32 → MS → Prop} {QX : String → MS → Prop} {S : MS} {V : VS} {x1 x1z : Int32} (hS : SM S V) (e_x1 : x1 = x1z) (hQ : gd (ev_X9_terrainOf n V x1z) (SQ Q S) (SX QX S)) : wp_X9_terrainOf Q QX S x1 := by
  subst e_x1
  exact sX9_terrainOf_0 n hS Ex_rf hQ
def eX9_wrong_46 (n : Nat) (k9v : VS → Nat → Int32 → Int32 → Int32 → Int32 → Rs Int32) (V : VS) (a0v : Nat) (y2 : Int32) (y3 : Int32) (y4 : Int32) : Rs Int32 := k9v V a0v y2 0 (y3 + 1) (y4 + 1)
set_option maxHeartbeats 4000000 in
set_option maxRecDepth 100000 in
theorem sX9_wrong_46 (n : Nat) {S0 : MS} {Q : Int32 → MS → Prop} {QX : String → MS → Prop} {k9 : MS → Nat → Int32 → Int32 → Int32 → Int32 → Prop} {k9v : VS → Nat → Int32 → Int32 → Int32 → Int32 → Rs Int32} (hk9 : ∀ (S : MS) (V : VS) (p0 p0v : Nat) (p1 : Int32) (p2 : Int32) (p3 : Int32) (p4 : Int32), SM S V → Ex S0 S → Ad S p0 p0v → gd (k9v V p0v p1 p2 p3 p4) (SQ Q S0) (SX QX S0) → k9 S p0 p1 p2 p3 p4) {S : MS} {V : VS} {a0 a0v : Nat} {y2 : Int32} {y3 : Int32} {y4 : Int32} (hS : SM S V) (hx : Ex S0 S) (h_a0 : Ad S a0 a0v) (hQ : gd (eX9_wrong_46 n k9v V a0v y2 y3 y4) (SQ Q S0) (SX QX S0)) : wX9_wrong_46 Q QX k9 S a0 y2 y3 y4 := by
  unfold wX9_wrong_46
  unfold eX9_wrong_46 at hQ
  exact hk9 _ _ _ _ _ _ _ _ hS hx h_a0 hQ
def eX9_wrong_9 (n : Nat) (k9v : VS → Nat → Int32 → Int32 → Int32 → Int32 → Rs Int32) (V : VS) (a0v : Nat) (y1 : Int32) (y2 : Int32) (y3 : Int32) (y4 : Int32) : Rs Int32 := (if (vI V a0v 12) ≤ y4 then sq (wI V a0v 14 y3) (fun V1 => sq (wI V1 a0v 15 y2) (fun V2 => (if y2 = 0 then rt (vI V2 a0v 12) V2 else (if y1 < 0 then rt (-1) V2 else (if y1 ≤ y2 then rt (-1) V2 else rt (vI V2 a0v 12) V2))))) else (vR V a0v 11).bind (fun a3v => (if gvp_in y4 (vN V a3v) = true then (if (vI V a3v (y4 : Int32).toNatClampNeg) = 47 then (if y2 = 0 then rt y4 V else (if y1 < 0 then eX9_wrong_46 n k9v V a0v y2 y3 y4 else (if y1 ≤ y2 then eX9_wrong_46 n k9v V a0v y2 y3 y4 else rt y4 V))) else (vR V a0v 11).bind (fun a4v => (if gvp_in y4 (vN V a4v) = true then bd (ev_X9_terrainOf n V (vI V a4v (y4 : Int32).toNatClampNeg)) (fun r6 V5 => (if r6 < 0 then rt y4 V5 else (if y2 = y1 then rt y4 V5 else k9v V5 a0v y1 (y2 + 1) y3 (y4 + 1)))) th else none))) else none)))
set_option maxHeartbeats 4000000 in
set_option maxRecDepth 100000 in
theorem sX9_wrong_9 (n : Nat) {S0 : MS} {Q : Int32 → MS → Prop} {QX : String → MS → Prop} {k9 : MS → Nat → Int32 → Int32 → Int32 → Int32 → Prop} {k9v : VS → Nat → Int32 → Int32 → Int32 → Int32 → Rs Int32} (hk9 : ∀ (S : MS) (V : VS) (p0 p0v : Nat) (p1 : Int32) (p2 : Int32) (p3 : Int32) (p4 : Int32), SM S V → Ex S0 S → Ad S p0 p0v → gd (k9v V p0v p1 p2 p3 p4) (SQ Q S0) (SX QX S0) → k9 S p0 p1 p2 p3 p4) {S : MS} {V : VS} {a0 a0v : Nat} {y1 : Int32} {y2 : Int32} {y3 : Int32} {y4 : Int32} (hS : SM S V) (hx : Ex S0 S) (h_a0 : Ad S a0 a0v) (hQ : gd (eX9_wrong_9 n k9v V a0v y1 y2 y3 y4) (SQ Q S0) (SX QX S0)) : wX9_wrong_9 Q QX k9 S a0 y1 y2 y3 y4 := by
  unfold wX9_wrong_9
  unfold eX9_wrong_9 at hQ
  refine st_if (show ((mI S a0 12) ≤ y4) = ((vI V a0v 12) ≤ y4) from by simp only [SM_I hS h_a0]) hQ (fun hQ => ?_) (fun hQ => ?_)
  · intro S1 eS
    obtain ⟨V1, hS1, xS, hQ⟩ := st_sI hS h_a0 eS rfl rfl hQ
    have hx1 : Ex S0 S1 := Ex_tr hx xS
    have h1_a0 := xS _ _ h_a0
    intro S2 eS
    obtain ⟨V2, hS2, xS, hQ⟩ := st_sI hS1 h1_a0 eS rfl rfl hQ
    have hx2 : Ex S0 S2 := Ex_tr hx1 xS
    have h2_a0 := xS _ _ h1_a0
    refine st_if rfl hQ (fun hQ => ?_) (fun hQ => ?_)
    · simp only [SM_I hS2 h2_a0]
      exact gd_rt hQ _ hS2 hx2
    · refine st_if rfl hQ (fun hQ => ?_) (fun hQ => ?_)
      · exact gd_rt hQ _ hS2 hx2
      · refine st_if rfl hQ (fun hQ => ?_) (fun hQ => ?_)
        · exact gd_rt hQ _ hS2 hx2
        · simp only [SM_I hS2 h2_a0]
          exact gd_rt hQ _ hS2 hx2
  · refine st_rd hS h_a0 rfl hQ (fun a3 a3v h_a3 hQ => ?_)
    refine st_gd (fun h => by simp only [SM_N hS h_a3]; exact gvp_in_of h) hQ (fun hQ => ?_)
    refine st_ifn (show ((mI S a3 (y4 : Int32).toNatClampNeg) = 47) = ((vI V a3v (y4 : Int32).toNatClampNeg) = 47) from by simp only [SM_I hS h_a3]) hQ (fun hQ => ?_) (fun hQ => ?_)
    · refine st_rd hS h_a0 rfl hQ (fun a4 a4v h_a4 hQ => ?_)
      refine st_gd (fun h => by simp only [SM_N hS h_a4]; exact gvp_in_of h) hQ (fun hQ => ?_)
      refine sim_X9_terrainOf n hS (show ((mI S a4 (y4 : Int32).toNatClampNeg)) = ((vI V a4v (y4 : Int32).toNatClampNeg)) from by simp only [SM_I hS h_a4]) ?_
      refine gd_mono (gd_bd hQ) (fun r6 V5 hQ S5 hS5 xS => ?_) (fun E V9 hQ S9 hS9 xS9 => gd_th hQ S9 hS9 (Ex_tr hx xS9))
      have hx5 : Ex S0 S5 := Ex_tr hx xS
      have h5_a0 := xS _ _ h_a0
      refine st_if rfl hQ (fun hQ => ?_) (fun hQ => ?_)
      · exact gd_rt hQ _ hS5 hx5
      · refine st_ifn rfl hQ (fun hQ => ?_) (fun hQ => ?_)
        · exact hk9 _ _ _ _ _ _ _ _ hS5 hx5 h5_a0 hQ
        · exact gd_rt hQ _ hS5 hx5
    · refine st_if rfl hQ (fun hQ => ?_) (fun hQ => ?_)
      · exact gd_rt hQ _ hS hx
      · refine st_if rfl hQ (fun hQ => ?_) (fun hQ => ?_)
        · exact sX9_wrong_46 n hk9 hS hx h_a0 hQ
        · refine st_if rfl hQ (fun hQ => ?_) (fun hQ => ?_)
          · exact sX9_wrong_46 n hk9 hS hx h_a0 hQ
          · exact gd_rt hQ _ hS hx
def elX9_wrong_9 (n : Nat) : Nat → VS → Nat → Int32 → Int32 → Int32 → Int32 → Rs Int32
  | 0 => fun _ _ _ _ _ _ => none
  | m + 1 => fun V a0v y1 y2 y3 y4 => eX9_wrong_9 n (elX9_wrong_9 n m) V a0v y1 y2 y3 y4
theorem selX9_wrong_9 (n : Nat) {S0 : MS} {Q : Int32 → MS → Prop} {QX : String → MS → Prop} : ∀ (m : Nat), ∀ (S : MS) (V : VS) (p0 p0v : Nat) (p1 : Int32) (p2 : Int32) (p3 : Int32) (p4 : Int32), SM S V → Ex S0 S → Ad S p0 p0v → gd (elX9_wrong_9 n m V p0v p1 p2 p3 p4) (SQ Q S0) (SX QX S0) → lX9_wrong_9 Q QX m S p0 p1 p2 p3 p4 := by
  intro m
  induction m with
  | zero => intro S V p0 p0v p1 p2 p3 p4 hS hx q0 hQ; exact (gd_none hQ).elim
  | succ m ih => intro S V p0 p0v p1 p2 p3 p4 hS hx q0 hQ; exact sX9_wrong_9 n ih hS hx q0 hQ
def eX9_wrong_0 (n : Nat) (V : VS) (a0v : Nat) : Rs Int32 := elX9_wrong_9 n n V a0v (-1) 0 1 0
set_option maxHeartbeats 4000000 in
set_option maxRecDepth 100000 in
theorem sX9_wrong_0 (n : Nat) {S0 : MS} {Q : Int32 → MS → Prop} {QX : String → MS → Prop} {S : MS} {V : VS} {a0 a0v : Nat} (hS : SM S V) (hx : Ex S0 S) (h_a0 : Ad S a0 a0v) (hQ : gd (eX9_wrong_0 n V a0v) (SQ Q S0) (SX QX S0)) : wX9_wrong_0 Q QX S a0 := by
  unfold wX9_wrong_0
  unfold eX9_wrong_0 at hQ
  refine ⟨n, ?_⟩
  exact selX9_wrong_9 n n _ _ _ _ _ _ _ _ hS hx h_a0 hQ
def ev_X9_wrong (n : Nat) (V : VS) (a0v : Nat) : Rs Int32 := eX9_wrong_0 n V a0v
theorem sim_X9_wrong (n : Nat) {Q : Int32 → MS → Prop} {QX : String → MS → Prop} {S : MS} {V : VS} {a0 a0v : Nat} (hS : SM S V) (h_a0 : Ad S a0 a0v) (hQ : gd (ev_X9_wrong n V a0v) (SQ Q S) (SX QX S)) : wp_X9_wrong Q QX S a0 := by
  exact sX9_wrong_0 n hS Ex_rf h_a0 hQ
def eX9_load_61 (n : Nat) (V : VS) (a0v : Nat) : Rs Int32 := bd (ev_X9_no n V a0v 2) (fun r2 V1 => rt r2 V1) th
set_option maxHeartbeats 4000000 in
set_option maxRecDepth 100000 in
theorem sX9_load_61 (n : Nat) {S0 : MS} {Q : Int32 → MS → Prop} {QX : String → MS → Prop} {S : MS} {V : VS} {a0 a0v : Nat} (hS : SM S V) (hx : Ex S0 S) (h_a0 : Ad S a0 a0v) (hQ : gd (eX9_load_61 n V a0v) (SQ Q S0) (SX QX S0)) : wX9_load_61 Q QX S a0 := by
  unfold wX9_load_61
  unfold eX9_load_61 at hQ
  refine sim_X9_no n hS h_a0 rfl ?_
  refine gd_mono (gd_bd hQ) (fun r2 V1 hQ S1 hS1 xS => ?_) (fun E V9 hQ S9 hS9 xS9 => gd_th hQ S9 hS9 (Ex_tr hx xS9))
  have hx1 : Ex S0 S1 := Ex_tr hx xS
  exact gd_rt hQ _ hS1 hx1
def eX9_load_98 (n : Nat) (k98v : VS → Nat → Int32 → Int32 → Int32 → Int32 → Rs Int32) (V : VS) (a0v : Nat) (y1 : Int32) (y3 : Int32) (y4 : Int32) (y5 : Int32) : Rs Int32 := (if y3 ≤ y5 then (vR V a0v 1).bind (fun a1v => (if gvp_in 0 (vN V a1v) = true then sq (wI V a1v ((0 : Int32).toNatClampNeg) (vI V a0v 14)) (fun V2 => (vR V2 a0v 1).bind (fun a3v => (if gvp_in 1 (vN V2 a3v) = true then sq (wI V2 a3v ((1 : Int32).toNatClampNeg) (vI V2 a0v 15)) (fun V4 => (vR V4 a0v 1).bind (fun a5v => (if gvp_in 155 (vN V4 a5v) = true then sq (wI V4 a5v ((155 : Int32).toNatClampNeg) y1) (fun V6 => (vR V6 a0v 1).bind (fun a7v => (if gvp_in 166 (vN V6 a7v) = true then sq (wI V6 a7v ((166 : Int32).toNatClampNeg) (-1)) (fun V8 => sq (wI V8 a0v 9 0) (fun V9 => rt ((10 * (vI V9 a0v 14)) + (vI V9 a0v 15)) V9)) else none))) else none))) else none))) else none)) else (vR V a0v 11).bind (fun a10v => (if gvp_in y5 (vN V a10v) = true then (if (vI V a10v (y5 : Int32).toNatClampNeg) = 47 then k98v V a0v y1 y3 y4 (y5 + 1) else (vR V a0v 1).bind (fun a11v => (vR V a0v 11).bind (fun a12v => (if gvp_in y5 (vN V a12v) = true then bd (ev_X9_terrainOf n V (vI V a12v (y5 : Int32).toNatClampNeg)) (fun r14 V13 => (if gvp_in y4 (vN V13 a11v) = true then sq (wI V13 a11v ((y4 : Int32).toNatClampNeg) r14) (fun V15 => k98v V15 a0v y1 y3 (y4 + 1) (y5 + 1)) else none)) th else none)))) else none)))
set_option maxHeartbeats 4000000 in
set_option maxRecDepth 100000 in
theorem sX9_load_98 (n : Nat) {S0 : MS} {Q : Int32 → MS → Prop} {QX : String → MS → Prop} {k98 : MS → Nat → Int32 → Int32 → Int32 → Int32 → Prop} {k98v : VS → Nat → Int32 → Int32 → Int32 → Int32 → Rs Int32} (hk98 : ∀ (S : MS) (V : VS) (p0 p0v : Nat) (p1 : Int32) (p2 : Int32) (p3 : Int32) (p4 : Int32), SM S V → Ex S0 S → Ad S p0 p0v → gd (k98v V p0v p1 p2 p3 p4) (SQ Q S0) (SX QX S0) → k98 S p0 p1 p2 p3 p4) {S : MS} {V : VS} {a0 a0v : Nat} {y1 : Int32} {y3 : Int32} {y4 : Int32} {y5 : Int32} (hS : SM S V) (hx : Ex S0 S) (h_a0 : Ad S a0 a0v) (hQ : gd (eX9_load_98 n k98v V a0v y1 y3 y4 y5) (SQ Q S0) (SX QX S0)) : wX9_load_98 Q QX k98 S a0 y1 y3 y4 y5 := by
  unfold wX9_load_98
  unfold eX9_load_98 at hQ
  refine st_if rfl hQ (fun hQ => ?_) (fun hQ => ?_)
  · refine st_rd hS h_a0 rfl hQ (fun a1 a1v h_a1 hQ => ?_)
    refine st_gd (fun h => by simp only [SM_N hS h_a1]; exact gvp_in_of h) hQ (fun hQ => ?_)
    intro S2 eS
    obtain ⟨V2, hS2, xS, hQ⟩ := st_sI hS h_a1 eS rfl (show ((mI S a0 14)) = ((vI V a0v 14)) from by simp only [SM_I hS h_a0]) hQ
    have hx2 : Ex S0 S2 := Ex_tr hx xS
    have h2_a0 := xS _ _ h_a0
    refine st_rd hS2 h2_a0 rfl hQ (fun a3 a3v h2_a3 hQ => ?_)
    refine st_gd (fun h => by simp only [SM_N hS2 h2_a3]; exact gvp_in_of h) hQ (fun hQ => ?_)
    intro S4 eS
    obtain ⟨V4, hS4, xS, hQ⟩ := st_sI hS2 h2_a3 eS rfl (show ((mI S2 a0 15)) = ((vI V2 a0v 15)) from by simp only [SM_I hS2 h2_a0]) hQ
    have hx4 : Ex S0 S4 := Ex_tr hx2 xS
    have h4_a0 := xS _ _ h2_a0
    refine st_rd hS4 h4_a0 rfl hQ (fun a5 a5v h4_a5 hQ => ?_)
    refine st_gd (fun h => by simp only [SM_N hS4 h4_a5]; exact gvp_in_of h) hQ (fun hQ => ?_)
    intro S6 eS
    obtain ⟨V6, hS6, xS, hQ⟩ := st_sI hS4 h4_a5 eS rfl rfl hQ
    have hx6 : Ex S0 S6 := Ex_tr hx4 xS
    have h6_a0 := xS _ _ h4_a0
    refine st_rd hS6 h6_a0 rfl hQ (fun a7 a7v h6_a7 hQ => ?_)
    refine st_gd (fun h => by simp only [SM_N hS6 h6_a7]; exact gvp_in_of h) hQ (fun hQ => ?_)
    intro S8 eS
    obtain ⟨V8, hS8, xS, hQ⟩ := st_sI hS6 h6_a7 eS rfl rfl hQ
    have hx8 : Ex S0 S8 := Ex_tr hx6 xS
    have h8_a0 := xS _ _ h6_a0
    intro S9 eS
    obtain ⟨V9, hS9, xS, hQ⟩ := st_sI hS8 h8_a0 eS rfl rfl hQ
    have hx9 : Ex S0 S9 := Ex_tr hx8 xS
    have h9_a0 := xS _ _ h8_a0
    simp only [SM_I hS9 h9_a0]
    exact gd_rt hQ _ hS9 hx9
  · refine st_rd hS h_a0 rfl hQ (fun a10 a10v h_a10 hQ => ?_)
    refine st_gd (fun h => by simp only [SM_N hS h_a10]; exact gvp_in_of h) hQ (fun hQ => ?_)
    refine st_ifn (show ((mI S a10 (y5 : Int32).toNatClampNeg) = 47) = ((vI V a10v (y5 : Int32).toNatClampNeg) = 47) from by simp only [SM_I hS h_a10]) hQ (fun hQ => ?_) (fun hQ => ?_)
    · refine st_rd hS h_a0 rfl hQ (fun a11 a11v h_a11 hQ => ?_)
      refine st_rd hS h_a0 rfl hQ (fun a12 a12v h_a12 hQ => ?_)
      refine st_gd (fun h => by simp only [SM_N hS h_a12]; exact gvp_in_of h) hQ (fun hQ => ?_)
      refine sim_X9_terrainOf n hS (show ((mI S a12 (y5 : Int32).toNatClampNeg)) = ((vI V a12v (y5 : Int32).toNatClampNeg)) from by simp only [SM_I hS h_a12]) ?_
      refine gd_mono (gd_bd hQ) (fun r14 V13 hQ S13 hS13 xS => ?_) (fun E V9 hQ S9 hS9 xS9 => gd_th hQ S9 hS9 (Ex_tr hx xS9))
      have hx13 : Ex S0 S13 := Ex_tr hx xS
      have h13_a0 := xS _ _ h_a0
      have h13_a11 := xS _ _ h_a11
      refine st_gd (fun h => by simp only [SM_N hS13 h13_a11]; exact gvp_in_of h) hQ (fun hQ => ?_)
      intro S15 eS
      obtain ⟨V15, hS15, xS, hQ⟩ := st_sI hS13 h13_a11 eS rfl rfl hQ
      have hx15 : Ex S0 S15 := Ex_tr hx13 xS
      have h15_a0 := xS _ _ h13_a0
      exact hk98 _ _ _ _ _ _ _ _ hS15 hx15 h15_a0 hQ
    · exact hk98 _ _ _ _ _ _ _ _ hS hx h_a0 hQ
def elX9_load_98 (n : Nat) : Nat → VS → Nat → Int32 → Int32 → Int32 → Int32 → Rs Int32
  | 0 => fun _ _ _ _ _ _ => none
  | m + 1 => fun V a0v y1 y3 y4 y5 => eX9_load_98 n (elX9_load_98 n m) V a0v y1 y3 y4 y5
theorem selX9_load_98 (n : Nat) {S0 : MS} {Q : Int32 → MS → Prop} {QX : String → MS → Prop} : ∀ (m : Nat), ∀ (S : MS) (V : VS) (p0 p0v : Nat) (p1 : Int32) (p2 : Int32) (p3 : Int32) (p4 : Int32), SM S V → Ex S0 S → Ad S p0 p0v → gd (elX9_load_98 n m V p0v p1 p2 p3 p4) (SQ Q S0) (SX QX S0) → lX9_load_98 Q QX m S p0 p1 p2 p3 p4 := by
  intro m
  induction m with
  | zero => intro S V p0 p0v p1 p2 p3 p4 hS hx q0 hQ; exact (gd_none hQ).elim
  | succ m ih => intro S V p0 p0v p1 p2 p3 p4 hS hx q0 hQ; exact sX9_load_98 n ih hS hx q0 hQ
def eX9_load_70 (n : Nat) (k70v : VS → Nat → Int32 → Int32 → Int32 → Rs Int32) (V : VS) (a0v : Nat) (y1 : Int32) (y3 : Int32) (y4 : Int32) : Rs Int32 := (if 290 ≤ y4 then elX9_load_98 n n V a0v y1 y3 2 0 else (vR V a0v 1).bind (fun a1v => (if gvp_in y4 (vN V a1v) = true then sq (wI V a1v ((y4 : Int32).toNatClampNeg) 0) (fun V2 => k70v V2 a0v y1 y3 (y4 + 1)) else none)))
set_option maxHeartbeats 4000000 in
set_option maxRecDepth 100000 in
theorem sX9_load_70 (n : Nat) {S0 : MS} {Q : Int32 → MS → Prop} {QX : String → MS → Prop} {k70 : MS → Nat → Int32 → Int32 → Int32 → Prop} {k70v : VS → Nat → Int32 → Int32 → Int32 → Rs Int32} (hk70 : ∀ (S : MS) (V : VS) (p0 p0v : Nat) (p1 : Int32) (p2 : Int32) (p3 : Int32), SM S V → Ex S0 S → Ad S p0 p0v → gd (k70v V p0v p1 p2 p3) (SQ Q S0) (SX QX S0) → k70 S p0 p1 p2 p3) {S : MS} {V : VS} {a0 a0v : Nat} {y1 : Int32} {y3 : Int32} {y4 : Int32} (hS : SM S V) (hx : Ex S0 S) (h_a0 : Ad S a0 a0v) (hQ : gd (eX9_load_70 n k70v V a0v y1 y3 y4) (SQ Q S0) (SX QX S0)) : wX9_load_70 Q QX k70 S a0 y1 y3 y4 := by
  unfold wX9_load_70
  unfold eX9_load_70 at hQ
  refine st_if rfl hQ (fun hQ => ?_) (fun hQ => ?_)
  · refine ⟨n, ?_⟩
    exact selX9_load_98 n n _ _ _ _ _ _ _ _ hS hx h_a0 hQ
  · refine st_rd hS h_a0 rfl hQ (fun a1 a1v h_a1 hQ => ?_)
    refine st_gd (fun h => by simp only [SM_N hS h_a1]; exact gvp_in_of h) hQ (fun hQ => ?_)
    intro S2 eS
    obtain ⟨V2, hS2, xS, hQ⟩ := st_sI hS h_a1 eS rfl rfl hQ
    have hx2 : Ex S0 S2 := Ex_tr hx xS
    have h2_a0 := xS _ _ h_a0
    exact hk70 _ _ _ _ _ _ _ hS2 hx2 h2_a0 hQ
def elX9_load_70 (n : Nat) : Nat → VS → Nat → Int32 → Int32 → Int32 → Rs Int32
  | 0 => fun _ _ _ _ _ => none
  | m + 1 => fun V a0v y1 y3 y4 => eX9_load_70 n (elX9_load_70 n m) V a0v y1 y3 y4
theorem selX9_load_70 (n : Nat) {S0 : MS} {Q : Int32 → MS → Prop} {QX : String → MS → Prop} : ∀ (m : Nat), ∀ (S : MS) (V : VS) (p0 p0v : Nat) (p1 : Int32) (p2 : Int32) (p3 : Int32), SM S V → Ex S0 S → Ad S p0 p0v → gd (elX9_load_70 n m V p0v p1 p2 p3) (SQ Q S0) (SX QX S0) → lX9_load_70 Q QX m S p0 p1 p2 p3 := by
  intro m
  induction m with
  | zero => intro S V p0 p0v p1 p2 p3 hS hx q0 hQ; exact (gd_none hQ).elim
  | succ m ih => intro S V p0 p0v p1 p2 p3 hS hx q0 hQ; exact sX9_load_70 n ih hS hx q0 hQ
def eX9_load_0 (n : Nat) (V : VS) (a0v : Nat) (x1 : Int32) : Rs Int32 := sq (wI V a0v 0 0) (fun V1 => bd (ev_X9_wrong n V1 a0v) (fun r3 V2 => sq (wI V2 a0v 12 0) (fun V4 => (if r3 < 0 then bd (ev_X9_isIn n V4 (vI V4 a0v 14) 3 8) (fun r6 V5 => (if r6 = 0 then eX9_load_61 n V5 a0v else bd (ev_X9_isIn n V5 (vI V5 a0v 15) 3 8) (fun r8 V7 => (if r8 = 0 then eX9_load_61 n V7 a0v else elX9_load_70 n n V7 a0v x1 (vI V2 a0v 12) 0)) th)) th else sq (wI V4 a0v 13 r3) (fun V9 => bd (ev_X9_no n V9 a0v 1) (fun r11 V10 => rt r11 V10) th)))) th)
set_option maxHeartbeats 4000000 in
set_option maxRecDepth 100000 in
theorem sX9_load_0 (n : Nat) {S0 : MS} {Q : Int32 → MS → Prop} {QX : String → MS → Prop} {S : MS} {V : VS} {a0 a0v : Nat} {x1 : Int32} (hS : SM S V) (hx : Ex S0 S) (h_a0 : Ad S a0 a0v) (hQ : gd (eX9_load_0 n V a0v x1) (SQ Q S0) (SX QX S0)) : wX9_load_0 Q QX S a0 x1 := by
  unfold wX9_load_0
  unfold eX9_load_0 at hQ
  intro S1 eS
  obtain ⟨V1, hS1, xS, hQ⟩ := st_sI hS h_a0 eS rfl rfl hQ
  have hx1 : Ex S0 S1 := Ex_tr hx xS
  have h1_a0 := xS _ _ h_a0
  refine sim_X9_wrong n hS1 h1_a0 ?_
  refine gd_mono (gd_bd hQ) (fun r3 V2 hQ S2 hS2 xS => ?_) (fun E V9 hQ S9 hS9 xS9 => gd_th hQ S9 hS9 (Ex_tr hx1 xS9))
  have hx2 : Ex S0 S2 := Ex_tr hx1 xS
  have h2_a0 := xS _ _ h1_a0
  intro S4 eS
  obtain ⟨V4, hS4, xS, hQ⟩ := st_sI hS2 h2_a0 eS rfl rfl hQ
  have hx4 : Ex S0 S4 := Ex_tr hx2 xS
  have h4_a0 := xS _ _ h2_a0
  refine st_if rfl hQ (fun hQ => ?_) (fun hQ => ?_)
  · refine sim_X9_isIn n hS4 (show ((mI S4 a0 14)) = ((vI V4 a0v 14)) from by simp only [SM_I hS4 h4_a0]) rfl rfl ?_
    refine gd_mono (gd_bd hQ) (fun r6 V5 hQ S5 hS5 xS => ?_) (fun E V9 hQ S9 hS9 xS9 => gd_th hQ S9 hS9 (Ex_tr hx4 xS9))
    have hx5 : Ex S0 S5 := Ex_tr hx4 xS
    have h5_a0 := xS _ _ h4_a0
    refine st_if rfl hQ (fun hQ => ?_) (fun hQ => ?_)
    · exact sX9_load_61 n hS5 hx5 h5_a0 hQ
    · refine sim_X9_isIn n hS5 (show ((mI S5 a0 15)) = ((vI V5 a0v 15)) from by simp only [SM_I hS5 h5_a0]) rfl rfl ?_
      refine gd_mono (gd_bd hQ) (fun r8 V7 hQ S7 hS7 xS => ?_) (fun E V9 hQ S9 hS9 xS9 => gd_th hQ S9 hS9 (Ex_tr hx5 xS9))
      have hx7 : Ex S0 S7 := Ex_tr hx5 xS
      have h7_a0 := xS _ _ h5_a0
      refine st_ifn rfl hQ (fun hQ => ?_) (fun hQ => ?_)
      · refine ⟨n, ?_⟩
        simp only [SM_I hS2 h2_a0]
        exact selX9_load_70 n n _ _ _ _ _ _ _ hS7 hx7 h7_a0 hQ
      · exact sX9_load_61 n hS7 hx7 h7_a0 hQ
  · intro S9 eS
    obtain ⟨V9, hS9, xS, hQ⟩ := st_sI hS4 h4_a0 eS rfl rfl hQ
    have hx9 : Ex S0 S9 := Ex_tr hx4 xS
    have h9_a0 := xS _ _ h4_a0
    refine sim_X9_no n hS9 h9_a0 rfl ?_
    refine gd_mono (gd_bd hQ) (fun r11 V10 hQ S10 hS10 xS => ?_) (fun E V9 hQ S9 hS9 xS9 => gd_th hQ S9 hS9 (Ex_tr hx9 xS9))
    have hx10 : Ex S0 S10 := Ex_tr hx9 xS
    exact gd_rt hQ _ hS10 hx10
def ev_X9_load (n : Nat) (V : VS) (a0v : Nat) (x1 : Int32) : Rs Int32 := eX9_load_0 n V a0v x1
theorem sim_X9_load (n : Nat) {Q : Int32 → MS → Prop} {QX : String → MS → Prop} {S : MS} {V : VS} {a0 a0v : Nat} {x1 x1z : Int32} (hS : SM S V) (h_a0 : Ad S a0 a0v) (e_x1 : x1 = x1z) (hQ : gd (ev_X9_load n V a0v x1z) (SQ Q S) (SX QX S)) : wp_X9_load Q QX S a0 x1 := by
  subst e_x1
  exact sX9_load_0 n hS Ex_rf h_a0 hQ
def eX9_errorPosition_13 (n : Nat) (V : VS) (a0v : Nat) (z0 : Int32) (w1v : Nat) : Rs Int32 := sq (wI V w1v 0 z0) (fun V1 => (if 0 ≤ (vI V1 a0v 13) then rt (vI V1 a0v 13) V1 else rt 0 V1))
set_option maxHeartbeats 4000000 in
set_option maxRecDepth 100000 in
theorem sX9_errorPosition_13 (n : Nat) {S0 : MS} {Q : Int32 → MS → Prop} {QX : String → MS → Prop} {S : MS} {V : VS} {a0 a0v : Nat} {z0 : Int32} {w1 w1v : Nat} (hS : SM S V) (hx : Ex S0 S) (h_a0 : Ad S a0 a0v) (h_w1 : Ad S w1 w1v) (hQ : gd (eX9_errorPosition_13 n V a0v z0 w1v) (SQ Q S0) (SX QX S0)) : wX9_errorPosition_13 Q QX S a0 z0 w1 := by
  unfold wX9_errorPosition_13
  unfold eX9_errorPosition_13 at hQ
  intro S1 eS
  obtain ⟨V1, hS1, xS, hQ⟩ := st_sI hS h_w1 eS rfl rfl hQ
  have hx1 : Ex S0 S1 := Ex_tr hx xS
  have h1_a0 := xS _ _ h_a0
  refine st_if (show (0 ≤ (mI S1 a0 13)) = (0 ≤ (vI V1 a0v 13)) from by simp only [SM_I hS1 h1_a0]) hQ (fun hQ => ?_) (fun hQ => ?_)
  · simp only [SM_I hS1 h1_a0]
    exact gd_rt hQ _ hS1 hx1
  · exact gd_rt hQ _ hS1 hx1
def eX9_errorPosition_0 (n : Nat) (V : VS) (a0v : Nat) : Rs Int32 := (if 0 ≤ (vI V a0v 13) then eX9_errorPosition_13 n V a0v 0 a0v else eX9_errorPosition_13 n V a0v 1 a0v)
set_option maxHeartbeats 4000000 in
set_option maxRecDepth 100000 in
theorem sX9_errorPosition_0 (n : Nat) {S0 : MS} {Q : Int32 → MS → Prop} {QX : String → MS → Prop} {S : MS} {V : VS} {a0 a0v : Nat} (hS : SM S V) (hx : Ex S0 S) (h_a0 : Ad S a0 a0v) (hQ : gd (eX9_errorPosition_0 n V a0v) (SQ Q S0) (SX QX S0)) : wX9_errorPosition_0 Q QX S a0 := by
  unfold wX9_errorPosition_0
  unfold eX9_errorPosition_0 at hQ
  refine st_if (show (0 ≤ (mI S a0 13)) = (0 ≤ (vI V a0v 13)) from by simp only [SM_I hS h_a0]) hQ (fun hQ => ?_) (fun hQ => ?_)
  · exact sX9_errorPosition_13 n hS hx h_a0 h_a0 hQ
  · exact sX9_errorPosition_13 n hS hx h_a0 h_a0 hQ
def ev_X9_errorPosition (n : Nat) (V : VS) (a0v : Nat) : Rs Int32 := eX9_errorPosition_0 n V a0v
theorem sim_X9_errorPosition (n : Nat) {Q : Int32 → MS → Prop} {QX : String → MS → Prop} {S : MS} {V : VS} {a0 a0v : Nat} (hS : SM S V) (h_a0 : Ad S a0 a0v) (hQ : gd (ev_X9_errorPosition n V a0v) (SQ Q S) (SX QX S)) : wp_X9_errorPosition Q QX S a0 := by
  exact sX9_errorPosition_0 n hS Ex_rf h_a0 hQ
def eX9_terrain_38 (n : Nat) (V : VS) (a0v : Nat) (y1 : Int32) (y2 : Int32) (z0 : Int32) (w1v : Nat) : Rs Int32 := sq (wI V w1v 0 z0) (fun V1 => (if (vI V1 a0v 0) = 1 then rt 0 V1 else (vR V1 a0v 1).bind (fun a2v => (vR V1 a0v 1).bind (fun a3v => (if gvp_in 1 (vN V1 a3v) = true then (if gvp_in ((2 + (y1 * (vI V1 a3v (1 : Int32).toNatClampNeg))) + y2) (vN V1 a2v) = true then (if (vI V1 a2v (((2 + (y1 * (vI V1 a3v (1 : Int32).toNatClampNeg))) + y2) : Int32).toNatClampNeg) = 0 then rt 46 V1 else (if (vI V1 a2v (((2 + (y1 * (vI V1 a3v (1 : Int32).toNatClampNeg))) + y2) : Int32).toNatClampNeg) = 1 then rt 35 V1 else (if (vI V1 a2v (((2 + (y1 * (vI V1 a3v (1 : Int32).toNatClampNeg))) + y2) : Int32).toNatClampNeg) = 2 then rt 111 V1 else (if (vI V1 a2v (((2 + (y1 * (vI V1 a3v (1 : Int32).toNatClampNeg))) + y2) : Int32).toNatClampNeg) = 3 then rt 126 V1 else rt 94 V1)))) else none) else none)))))
set_option maxHeartbeats 4000000 in
set_option maxRecDepth 100000 in
theorem sX9_terrain_38 (n : Nat) {S0 : MS} {Q : Int32 → MS → Prop} {QX : String → MS → Prop} {S : MS} {V : VS} {a0 a0v : Nat} {y1 : Int32} {y2 : Int32} {z0 : Int32} {w1 w1v : Nat} (hS : SM S V) (hx : Ex S0 S) (h_a0 : Ad S a0 a0v) (h_w1 : Ad S w1 w1v) (hQ : gd (eX9_terrain_38 n V a0v y1 y2 z0 w1v) (SQ Q S0) (SX QX S0)) : wX9_terrain_38 Q QX S a0 y1 y2 z0 w1 := by
  unfold wX9_terrain_38
  unfold eX9_terrain_38 at hQ
  intro S1 eS
  obtain ⟨V1, hS1, xS, hQ⟩ := st_sI hS h_w1 eS rfl rfl hQ
  have hx1 : Ex S0 S1 := Ex_tr hx xS
  have h1_a0 := xS _ _ h_a0
  refine st_ifn (show ((mI S1 a0 0) = 1) = ((vI V1 a0v 0) = 1) from by simp only [SM_I hS1 h1_a0]) hQ (fun hQ => ?_) (fun hQ => ?_)
  · refine st_rd hS1 h1_a0 rfl hQ (fun a2 a2v h1_a2 hQ => ?_)
    refine st_rd hS1 h1_a0 rfl hQ (fun a3 a3v h1_a3 hQ => ?_)
    refine st_gd (fun h => by simp only [SM_N hS1 h1_a3]; exact gvp_in_of h) hQ (fun hQ => ?_)
    refine st_gd (fun h => by simp only [SM_I hS1 h1_a3, SM_N hS1 h1_a2]; exact gvp_in_of h) hQ (fun hQ => ?_)
    refine st_ifn (show ((mI S1 a2 (((2 + (y1 * (mI S1 a3 (1 : Int32).toNatClampNeg))) + y2) : Int32).toNatClampNeg) = 0) = ((vI V1 a2v (((2 + (y1 * (vI V1 a3v (1 : Int32).toNatClampNeg))) + y2) : Int32).toNatClampNeg) = 0) from by simp only [SM_I hS1 h1_a2, SM_I hS1 h1_a3]) hQ (fun hQ => ?_) (fun hQ => ?_)
    · refine st_ifn (show ((mI S1 a2 (((2 + (y1 * (mI S1 a3 (1 : Int32).toNatClampNeg))) + y2) : Int32).toNatClampNeg) = 1) = ((vI V1 a2v (((2 + (y1 * (vI V1 a3v (1 : Int32).toNatClampNeg))) + y2) : Int32).toNatClampNeg) = 1) from by simp only [SM_I hS1 h1_a2, SM_I hS1 h1_a3]) hQ (fun hQ => ?_) (fun hQ => ?_)
      · refine st_ifn (show ((mI S1 a2 (((2 + (y1 * (mI S1 a3 (1 : Int32).toNatClampNeg))) + y2) : Int32).toNatClampNeg) = 2) = ((vI V1 a2v (((2 + (y1 * (vI V1 a3v (1 : Int32).toNatClampNeg))) + y2) : Int32).toNatClampNeg) = 2) from by simp only [SM_I hS1 h1_a2, SM_I hS1 h1_a3]) hQ (fun hQ => ?_) (fun hQ => ?_)
        · refine st_ifn (show ((mI S1 a2 (((2 + (y1 * (mI S1 a3 (1 : Int32).toNatClampNeg))) + y2) : Int32).toNatClampNeg) = 3) = ((vI V1 a2v (((2 + (y1 * (vI V1 a3v (1 : Int32).toNatClampNeg))) + y2) : Int32).toNatClampNeg) = 3) from by simp only [SM_I hS1 h1_a2, SM_I hS1 h1_a3]) hQ (fun hQ => ?_) (fun hQ => ?_)
          · exact gd_rt hQ _ hS1 hx1
          · exact gd_rt hQ _ hS1 hx1
        · exact gd_rt hQ _ hS1 hx1
      · exact gd_rt hQ _ hS1 hx1
    · exact gd_rt hQ _ hS1 hx1
  · exact gd_rt hQ _ hS1 hx1
def eX9_terrain_37 (n : Nat) (V : VS) (a0v : Nat) (y1 : Int32) (y2 : Int32) (w0v : Nat) : Rs Int32 := eX9_terrain_38 n V a0v y1 y2 1 w0v
set_option maxHeartbeats 4000000 in
set_option maxRecDepth 100000 in
theorem sX9_terrain_37 (n : Nat) {S0 : MS} {Q : Int32 → MS → Prop} {QX : String → MS → Prop} {S : MS} {V : VS} {a0 a0v : Nat} {y1 : Int32} {y2 : Int32} {w0 w0v : Nat} (hS : SM S V) (hx : Ex S0 S) (h_a0 : Ad S a0 a0v) (h_w0 : Ad S w0 w0v) (hQ : gd (eX9_terrain_37 n V a0v y1 y2 w0v) (SQ Q S0) (SX QX S0)) : wX9_terrain_37 Q QX S a0 y1 y2 w0 := by
  unfold wX9_terrain_37
  unfold eX9_terrain_37 at hQ
  exact sX9_terrain_38 n hS hx h_a0 h_w0 hQ
def eX9_terrain_0 (n : Nat) (V : VS) (a0v : Nat) (x1 : Int32) (x2 : Int32) : Rs Int32 := (vR V a0v 1).bind (fun a1v => (if gvp_in 0 (vN V a1v) = true then bd (ev_X9_isIn n V x1 0 ((vI V a1v (0 : Int32).toNatClampNeg) - 1)) (fun r3 V2 => (if r3 = 0 then eX9_terrain_37 n V2 a0v x1 x2 a0v else (vR V2 a0v 1).bind (fun a4v => (if gvp_in 1 (vN V2 a4v) = true then bd (ev_X9_isIn n V2 x2 0 ((vI V2 a4v (1 : Int32).toNatClampNeg) - 1)) (fun r6 V5 => (if r6 = 0 then eX9_terrain_37 n V5 a0v x1 x2 a0v else eX9_terrain_38 n V5 a0v x1 x2 0 a0v)) th else none)))) th else none))
set_option maxHeartbeats 4000000 in
set_option maxRecDepth 100000 in
theorem sX9_terrain_0 (n : Nat) {S0 : MS} {Q : Int32 → MS → Prop} {QX : String → MS → Prop} {S : MS} {V : VS} {a0 a0v : Nat} {x1 : Int32} {x2 : Int32} (hS : SM S V) (hx : Ex S0 S) (h_a0 : Ad S a0 a0v) (hQ : gd (eX9_terrain_0 n V a0v x1 x2) (SQ Q S0) (SX QX S0)) : wX9_terrain_0 Q QX S a0 x1 x2 := by
  unfold wX9_terrain_0
  unfold eX9_terrain_0 at hQ
  refine st_rd hS h_a0 rfl hQ (fun a1 a1v h_a1 hQ => ?_)
  refine st_gd (fun h => by simp only [SM_N hS h_a1]; exact gvp_in_of h) hQ (fun hQ => ?_)
  refine sim_X9_isIn n hS rfl rfl (show (((mI S a1 (0 : Int32).toNatClampNeg) - 1)) = (((vI V a1v (0 : Int32).toNatClampNeg) - 1)) from by simp only [SM_I hS h_a1]) ?_
  refine gd_mono (gd_bd hQ) (fun r3 V2 hQ S2 hS2 xS => ?_) (fun E V9 hQ S9 hS9 xS9 => gd_th hQ S9 hS9 (Ex_tr hx xS9))
  have hx2 : Ex S0 S2 := Ex_tr hx xS
  have h2_a0 := xS _ _ h_a0
  refine st_if rfl hQ (fun hQ => ?_) (fun hQ => ?_)
  · exact sX9_terrain_37 n hS2 hx2 h2_a0 h2_a0 hQ
  · refine st_rd hS2 h2_a0 rfl hQ (fun a4 a4v h2_a4 hQ => ?_)
    refine st_gd (fun h => by simp only [SM_N hS2 h2_a4]; exact gvp_in_of h) hQ (fun hQ => ?_)
    refine sim_X9_isIn n hS2 rfl rfl (show (((mI S2 a4 (1 : Int32).toNatClampNeg) - 1)) = (((vI V2 a4v (1 : Int32).toNatClampNeg) - 1)) from by simp only [SM_I hS2 h2_a4]) ?_
    refine gd_mono (gd_bd hQ) (fun r6 V5 hQ S5 hS5 xS => ?_) (fun E V9 hQ S9 hS9 xS9 => gd_th hQ S9 hS9 (Ex_tr hx2 xS9))
    have hx5 : Ex S0 S5 := Ex_tr hx2 xS
    have h5_a0 := xS _ _ h2_a0
    refine st_if rfl hQ (fun hQ => ?_) (fun hQ => ?_)
    · exact sX9_terrain_37 n hS5 hx5 h5_a0 h5_a0 hQ
    · exact sX9_terrain_38 n hS5 hx5 h5_a0 h5_a0 hQ
def ev_X9_terrain (n : Nat) (V : VS) (a0v : Nat) (x1 : Int32) (x2 : Int32) : Rs Int32 := eX9_terrain_0 n V a0v x1 x2
theorem sim_X9_terrain (n : Nat) {Q : Int32 → MS → Prop} {QX : String → MS → Prop} {S : MS} {V : VS} {a0 a0v : Nat} {x1 x1z : Int32} {x2 x2z : Int32} (hS : SM S V) (h_a0 : Ad S a0 a0v) (e_x1 : x1 = x1z) (e_x2 : x2 = x2z) (hQ : gd (ev_X9_terrain n V a0v x1z x2z) (SQ Q S) (SX QX S)) : wp_X9_terrain Q QX S a0 x1 x2 := by
  subst e_x1 e_x2
  exact sX9_terrain_0 n hS Ex_rf h_a0 hQ
def eX9_isMet_209 (n : Nat) (k137v : VS → Int32 → Int32 → Int32 → Int32 → Int32 → Int32 → Int32 → Int32 → Int32 → Rs Int32) (V : VS) (y4 : Int32) (y5 : Int32) (y6 : Int32) (y7 : Int32) (y8 : Int32) (y9 : Int32) (y10 : Int32) (y12 : Int32) (z0 : Int32) (z1 : Int32) : Rs Int32 := k137v V y4 y5 y6 y7 y8 y9 y10 (z1 + z0) (y12 + 1)
set_option maxHeartbeats 4000000 in
set_option maxRecDepth 100000 in
theorem sX9_isMet_209 (n : Nat) {S0 : MS} {Q : Int32 → MS → Prop} {QX : String → MS → Prop} {k137 : MS → Int32 → Int32 → Int32 → Int32 → Int32 → Int32 → Int32 → Int32 → Int32 → Prop} {k137v : VS → Int32 → Int32 → Int32 → Int32 → Int32 → Int32 → Int32 → Int32 → Int32 → Rs Int32} (hk137 : ∀ (S : MS) (V : VS) (p0 : Int32) (p1 : Int32) (p2 : Int32) (p3 : Int32) (p4 : Int32) (p5 : Int32) (p6 : Int32) (p7 : Int32) (p8 : Int32), SM S V → Ex S0 S → gd (k137v V p0 p1 p2 p3 p4 p5 p6 p7 p8) (SQ Q S0) (SX QX S0) → k137 S p0 p1 p2 p3 p4 p5 p6 p7 p8) {S : MS} {V : VS} {y4 : Int32} {y5 : Int32} {y6 : Int32} {y7 : Int32} {y8 : Int32} {y9 : Int32} {y10 : Int32} {y12 : Int32} {z0 : Int32} {z1 : Int32} (hS : SM S V) (hx : Ex S0 S) (hQ : gd (eX9_isMet_209 n k137v V y4 y5 y6 y7 y8 y9 y10 y12 z0 z1) (SQ Q S0) (SX QX S0)) : wX9_isMet_209 Q QX k137 S y4 y5 y6 y7 y8 y9 y10 y12 z0 z1 := by
  unfold wX9_isMet_209
  unfold eX9_isMet_209 at hQ
  exact hk137 _ _ _ _ _ _ _ _ _ _ _ hS hx hQ
def eX9_isMet_194 (n : Nat) (k137v : VS → Int32 → Int32 → Int32 → Int32 → Int32 → Int32 → Int32 → Int32 → Int32 → Rs Int32) (V : VS) (y4 : Int32) (y5 : Int32) (y6 : Int32) (y7 : Int32) (y8 : Int32) (y9 : Int32) (y11 : Int32) (y12 : Int32) (y13 : Int32) (z0 : Int32) (z1 : Int32) : Rs Int32 := (if 0 ≤ y13 then eX9_isMet_209 n k137v V y4 y5 y6 y7 y8 y9 (z1 + z0) y12 0 y11 else eX9_isMet_209 n k137v V y4 y5 y6 y7 y8 y9 (z1 + z0) y12 1 y11)
set_option maxHeartbeats 4000000 in
set_option maxRecDepth 100000 in
theorem sX9_isMet_194 (n : Nat) {S0 : MS} {Q : Int32 → MS → Prop} {QX : String → MS → Prop} {k137 : MS → Int32 → Int32 → Int32 → Int32 → Int32 → Int32 → Int32 → Int32 → Int32 → Prop} {k137v : VS → Int32 → Int32 → Int32 → Int32 → Int32 → Int32 → Int32 → Int32 → Int32 → Rs Int32} (hk137 : ∀ (S : MS) (V : VS) (p0 : Int32) (p1 : Int32) (p2 : Int32) (p3 : Int32) (p4 : Int32) (p5 : Int32) (p6 : Int32) (p7 : Int32) (p8 : Int32), SM S V → Ex S0 S → gd (k137v V p0 p1 p2 p3 p4 p5 p6 p7 p8) (SQ Q S0) (SX QX S0) → k137 S p0 p1 p2 p3 p4 p5 p6 p7 p8) {S : MS} {V : VS} {y4 : Int32} {y5 : Int32} {y6 : Int32} {y7 : Int32} {y8 : Int32} {y9 : Int32} {y11 : Int32} {y12 : Int32} {y13 : Int32} {z0 : Int32} {z1 : Int32} (hS : SM S V) (hx : Ex S0 S) (hQ : gd (eX9_isMet_194 n k137v V y4 y5 y6 y7 y8 y9 y11 y12 y13 z0 z1) (SQ Q S0) (SX QX S0)) : wX9_isMet_194 Q QX k137 S y4 y5 y6 y7 y8 y9 y11 y12 y13 z0 z1 := by
  unfold wX9_isMet_194
  unfold eX9_isMet_194 at hQ
  refine st_if rfl hQ (fun hQ => ?_) (fun hQ => ?_)
  · exact sX9_isMet_209 n hk137 hS hx hQ
  · exact sX9_isMet_209 n hk137 hS hx hQ
def eX9_isMet_137 (n : Nat) (k137v : VS → Int32 → Int32 → Int32 → Int32 → Int32 → Int32 → Int32 → Int32 → Int32 → Rs Int32) (V : VS) (y4 : Int32) (y5 : Int32) (y6 : Int32) (y7 : Int32) (y8 : Int32) (y9 : Int32) (y10 : Int32) (y11 : Int32) (y12 : Int32) : Rs Int32 := (if 4 ≤ y12 then (if y10 ≤ 0 then rt 0 V else (if y11 ≤ 0 then rt 0 V else rt 1 V)) else (if (((y6 - y4) * ((y9 + ((y12 / 2) * 2)) - y5)) - ((y7 - y5) * ((y8 + ((y12 - y12 / 2 * 2) * 2)) - y4))) ≤ 0 then eX9_isMet_194 n k137v V y4 y5 y6 y7 y8 y9 y11 y12 (((y6 - y4) * ((y9 + ((y12 / 2) * 2)) - y5)) - ((y7 - y5) * ((y8 + ((y12 - y12 / 2 * 2) * 2)) - y4))) 0 y10 else eX9_isMet_194 n k137v V y4 y5 y6 y7 y8 y9 y11 y12 (((y6 - y4) * ((y9 + ((y12 / 2) * 2)) - y5)) - ((y7 - y5) * ((y8 + ((y12 - y12 / 2 * 2) * 2)) - y4))) 1 y10))
set_option maxHeartbeats 4000000 in
set_option maxRecDepth 100000 in
theorem sX9_isMet_137 (n : Nat) {S0 : MS} {Q : Int32 → MS → Prop} {QX : String → MS → Prop} {k137 : MS → Int32 → Int32 → Int32 → Int32 → Int32 → Int32 → Int32 → Int32 → Int32 → Prop} {k137v : VS → Int32 → Int32 → Int32 → Int32 → Int32 → Int32 → Int32 → Int32 → Int32 → Rs Int32} (hk137 : ∀ (S : MS) (V : VS) (p0 : Int32) (p1 : Int32) (p2 : Int32) (p3 : Int32) (p4 : Int32) (p5 : Int32) (p6 : Int32) (p7 : Int32) (p8 : Int32), SM S V → Ex S0 S → gd (k137v V p0 p1 p2 p3 p4 p5 p6 p7 p8) (SQ Q S0) (SX QX S0) → k137 S p0 p1 p2 p3 p4 p5 p6 p7 p8) {S : MS} {V : VS} {y4 : Int32} {y5 : Int32} {y6 : Int32} {y7 : Int32} {y8 : Int32} {y9 : Int32} {y10 : Int32} {y11 : Int32} {y12 : Int32} (hS : SM S V) (hx : Ex S0 S) (hQ : gd (eX9_isMet_137 n k137v V y4 y5 y6 y7 y8 y9 y10 y11 y12) (SQ Q S0) (SX QX S0)) : wX9_isMet_137 Q QX k137 S y4 y5 y6 y7 y8 y9 y10 y11 y12 := by
  unfold wX9_isMet_137
  unfold eX9_isMet_137 at hQ
  refine st_if rfl hQ (fun hQ => ?_) (fun hQ => ?_)
  · refine st_if rfl hQ (fun hQ => ?_) (fun hQ => ?_)
    · exact gd_rt hQ _ hS hx
    · refine st_if rfl hQ (fun hQ => ?_) (fun hQ => ?_)
      · exact gd_rt hQ _ hS hx
      · exact gd_rt hQ _ hS hx
  · refine st_if rfl hQ (fun hQ => ?_) (fun hQ => ?_)
    · exact sX9_isMet_194 n hk137 hS hx hQ
    · exact sX9_isMet_194 n hk137 hS hx hQ
def elX9_isMet_137 (n : Nat) : Nat → VS → Int32 → Int32 → Int32 → Int32 → Int32 → Int32 → Int32 → Int32 → Int32 → Rs Int32
  | 0 => fun _ _ _ _ _ _ _ _ _ _ => none
  | m + 1 => fun V y4 y5 y6 y7 y8 y9 y10 y11 y12 => eX9_isMet_137 n (elX9_isMet_137 n m) V y4 y5 y6 y7 y8 y9 y10 y11 y12
theorem selX9_isMet_137 (n : Nat) {S0 : MS} {Q : Int32 → MS → Prop} {QX : String → MS → Prop} : ∀ (m : Nat), ∀ (S : MS) (V : VS) (p0 : Int32) (p1 : Int32) (p2 : Int32) (p3 : Int32) (p4 : Int32) (p5 : Int32) (p6 : Int32) (p7 : Int32) (p8 : Int32), SM S V → Ex S0 S → gd (elX9_isMet_137 n m V p0 p1 p2 p3 p4 p5 p6 p7 p8) (SQ Q S0) (SX QX S0) → lX9_isMet_137 Q QX m S p0 p1 p2 p3 p4 p5 p6 p7 p8 := by
  intro m
  induction m with
  | zero => intro S V p0 p1 p2 p3 p4 p5 p6 p7 p8 hS hx hQ; exact (gd_none hQ).elim
  | succ m ih => intro S V p0 p1 p2 p3 p4 p5 p6 p7 p8 hS hx hQ; exact sX9_isMet_137 n ih hS hx hQ
def eX9_isMet_128 (n : Nat) (V : VS) (y4 : Int32) (y5 : Int32) (y6 : Int32) (y7 : Int32) (y8 : Int32) (y9 : Int32) : Rs Int32 := elX9_isMet_137 n n V y4 y5 y6 y7 y8 y9 0 0 0
set_option maxHeartbeats 4000000 in
set_option maxRecDepth 100000 in
theorem sX9_isMet_128 (n : Nat) {S0 : MS} {Q : Int32 → MS → Prop} {QX : String → MS → Prop} {S : MS} {V : VS} {y4 : Int32} {y5 : Int32} {y6 : Int32} {y7 : Int32} {y8 : Int32} {y9 : Int32} (hS : SM S V) (hx : Ex S0 S) (hQ : gd (eX9_isMet_128 n V y4 y5 y6 y7 y8 y9) (SQ Q S0) (SX QX S0)) : wX9_isMet_128 Q QX S y4 y5 y6 y7 y8 y9 := by
  unfold wX9_isMet_128
  unfold eX9_isMet_128 at hQ
  refine ⟨n, ?_⟩
  exact selX9_isMet_137 n n _ _ _ _ _ _ _ _ _ _ _ hS hx hQ
def eX9_isMet_108 (n : Nat) (V : VS) (y4 : Int32) (y5 : Int32) (y6 : Int32) (y7 : Int32) (y8 : Int32) (y9 : Int32) : Rs Int32 := (if y5 < (y9 + 2) then eX9_isMet_128 n V y4 y5 y6 y7 y8 y9 else (if y7 < (y9 + 2) then eX9_isMet_128 n V y4 y5 y6 y7 y8 y9 else rt 0 V))
set_option maxHeartbeats 4000000 in
set_option maxRecDepth 100000 in
theorem sX9_isMet_108 (n : Nat) {S0 : MS} {Q : Int32 → MS → Prop} {QX : String → MS → Prop} {S : MS} {V : VS} {y4 : Int32} {y5 : Int32} {y6 : Int32} {y7 : Int32} {y8 : Int32} {y9 : Int32} (hS : SM S V) (hx : Ex S0 S) (hQ : gd (eX9_isMet_108 n V y4 y5 y6 y7 y8 y9) (SQ Q S0) (SX QX S0)) : wX9_isMet_108 Q QX S y4 y5 y6 y7 y8 y9 := by
  unfold wX9_isMet_108
  unfold eX9_isMet_108 at hQ
  refine st_if rfl hQ (fun hQ => ?_) (fun hQ => ?_)
  · exact sX9_isMet_128 n hS hx hQ
  · refine st_if rfl hQ (fun hQ => ?_) (fun hQ => ?_)
    · exact sX9_isMet_128 n hS hx hQ
    · exact gd_rt hQ _ hS hx
def eX9_isMet_94 (n : Nat) (V : VS) (y4 : Int32) (y5 : Int32) (y6 : Int32) (y7 : Int32) (y8 : Int32) (y9 : Int32) : Rs Int32 := (if y9 < y5 then eX9_isMet_108 n V y4 y5 y6 y7 y8 y9 else (if y7 ≤ y9 then rt 0 V else eX9_isMet_108 n V y4 y5 y6 y7 y8 y9))
set_option maxHeartbeats 4000000 in
set_option maxRecDepth 100000 in
theorem sX9_isMet_94 (n : Nat) {S0 : MS} {Q : Int32 → MS → Prop} {QX : String → MS → Prop} {S : MS} {V : VS} {y4 : Int32} {y5 : Int32} {y6 : Int32} {y7 : Int32} {y8 : Int32} {y9 : Int32} (hS : SM S V) (hx : Ex S0 S) (hQ : gd (eX9_isMet_94 n V y4 y5 y6 y7 y8 y9) (SQ Q S0) (SX QX S0)) : wX9_isMet_94 Q QX S y4 y5 y6 y7 y8 y9 := by
  unfold wX9_isMet_94
  unfold eX9_isMet_94 at hQ
  refine st_if rfl hQ (fun hQ => ?_) (fun hQ => ?_)
  · exact sX9_isMet_108 n hS hx hQ
  · refine st_if rfl hQ (fun hQ => ?_) (fun hQ => ?_)
    · exact gd_rt hQ _ hS hx
    · exact sX9_isMet_108 n hS hx hQ
def eX9_isMet_76 (n : Nat) (V : VS) (y4 : Int32) (y5 : Int32) (y6 : Int32) (y7 : Int32) (y8 : Int32) (y9 : Int32) : Rs Int32 := (if y4 < (y8 + 2) then eX9_isMet_94 n V y4 y5 y6 y7 y8 y9 else (if (y8 + 2) ≤ y6 then rt 0 V else eX9_isMet_94 n V y4 y5 y6 y7 y8 y9))
set_option maxHeartbeats 4000000 in
set_option maxRecDepth 100000 in
theorem sX9_isMet_76 (n : Nat) {S0 : MS} {Q : Int32 → MS → Prop} {QX : String → MS → Prop} {S : MS} {V : VS} {y4 : Int32} {y5 : Int32} {y6 : Int32} {y7 : Int32} {y8 : Int32} {y9 : Int32} (hS : SM S V) (hx : Ex S0 S) (hQ : gd (eX9_isMet_76 n V y4 y5 y6 y7 y8 y9) (SQ Q S0) (SX QX S0)) : wX9_isMet_76 Q QX S y4 y5 y6 y7 y8 y9 := by
  unfold wX9_isMet_76
  unfold eX9_isMet_76 at hQ
  refine st_if rfl hQ (fun hQ => ?_) (fun hQ => ?_)
  · exact sX9_isMet_94 n hS hx hQ
  · refine st_if rfl hQ (fun hQ => ?_) (fun hQ => ?_)
    · exact gd_rt hQ _ hS hx
    · exact sX9_isMet_94 n hS hx hQ
def eX9_isMet_0 (n : Nat) (V : VS) (a0v : Nat) (x1 : Int32) (x2 : Int32) (x3 : Int32) : Rs Int32 := bd (ev_X9_column n V a0v x2) (fun r2 V1 => bd (ev_X9_row n V1 a0v x2) (fun r4 V3 => bd (ev_X9_column n V3 a0v x3) (fun r6 V5 => bd (ev_X9_row n V5 a0v x3) (fun r8 V7 => bd (ev_X9_column n V7 a0v x1) (fun r10 V9 => bd (ev_X9_row n V9 a0v x1) (fun r12 V11 => (if (2 * r10) < ((2 * r2) + 1) then eX9_isMet_76 n V11 ((2 * r2) + 1) ((2 * r4) + 1) ((2 * r6) + 1) ((2 * r8) + 1) (2 * r10) (2 * r12) else (if ((2 * r6) + 1) ≤ (2 * r10) then rt 0 V11 else eX9_isMet_76 n V11 ((2 * r2) + 1) ((2 * r4) + 1) ((2 * r6) + 1) ((2 * r8) + 1) (2 * r10) (2 * r12)))) th) th) th) th) th) th
set_option maxHeartbeats 4000000 in
set_option maxRecDepth 100000 in
theorem sX9_isMet_0 (n : Nat) {S0 : MS} {Q : Int32 → MS → Prop} {QX : String → MS → Prop} {S : MS} {V : VS} {a0 a0v : Nat} {x1 : Int32} {x2 : Int32} {x3 : Int32} (hS : SM S V) (hx : Ex S0 S) (h_a0 : Ad S a0 a0v) (hQ : gd (eX9_isMet_0 n V a0v x1 x2 x3) (SQ Q S0) (SX QX S0)) : wX9_isMet_0 Q QX S a0 x1 x2 x3 := by
  unfold wX9_isMet_0
  unfold eX9_isMet_0 at hQ
  refine sim_X9_column n hS h_a0 rfl ?_
  refine gd_mono (gd_bd hQ) (fun r2 V1 hQ S1 hS1 xS => ?_) (fun E V9 hQ S9 hS9 xS9 => gd_th hQ S9 hS9 (Ex_tr hx xS9))
  have hx1 : Ex S0 S1 := Ex_tr hx xS
  have h1_a0 := xS _ _ h_a0
  refine sim_X9_row n hS1 h1_a0 rfl ?_
  refine gd_mono (gd_bd hQ) (fun r4 V3 hQ S3 hS3 xS => ?_) (fun E V9 hQ S9 hS9 xS9 => gd_th hQ S9 hS9 (Ex_tr hx1 xS9))
  have hx3 : Ex S0 S3 := Ex_tr hx1 xS
  have h3_a0 := xS _ _ h1_a0
  refine sim_X9_column n hS3 h3_a0 rfl ?_
  refine gd_mono (gd_bd hQ) (fun r6 V5 hQ S5 hS5 xS => ?_) (fun E V9 hQ S9 hS9 xS9 => gd_th hQ S9 hS9 (Ex_tr hx3 xS9))
  have hx5 : Ex S0 S5 := Ex_tr hx3 xS
  have h5_a0 := xS _ _ h3_a0
  refine sim_X9_row n hS5 h5_a0 rfl ?_
  refine gd_mono (gd_bd hQ) (fun r8 V7 hQ S7 hS7 xS => ?_) (fun E V9 hQ S9 hS9 xS9 => gd_th hQ S9 hS9 (Ex_tr hx5 xS9))
  have hx7 : Ex S0 S7 := Ex_tr hx5 xS
  have h7_a0 := xS _ _ h5_a0
  refine sim_X9_column n hS7 h7_a0 rfl ?_
  refine gd_mono (gd_bd hQ) (fun r10 V9 hQ S9 hS9 xS => ?_) (fun E V9 hQ S9 hS9 xS9 => gd_th hQ S9 hS9 (Ex_tr hx7 xS9))
  have hx9 : Ex S0 S9 := Ex_tr hx7 xS
  have h9_a0 := xS _ _ h7_a0
  refine sim_X9_row n hS9 h9_a0 rfl ?_
  refine gd_mono (gd_bd hQ) (fun r12 V11 hQ S11 hS11 xS => ?_) (fun E V9 hQ S9 hS9 xS9 => gd_th hQ S9 hS9 (Ex_tr hx9 xS9))
  have hx11 : Ex S0 S11 := Ex_tr hx9 xS
  refine st_if rfl hQ (fun hQ => ?_) (fun hQ => ?_)
  · exact sX9_isMet_76 n hS11 hx11 hQ
  · refine st_if rfl hQ (fun hQ => ?_) (fun hQ => ?_)
    · exact gd_rt hQ _ hS11 hx11
    · exact sX9_isMet_76 n hS11 hx11 hQ
def ev_X9_isMet (n : Nat) (V : VS) (a0v : Nat) (x1 : Int32) (x2 : Int32) (x3 : Int32) : Rs Int32 := eX9_isMet_0 n V a0v x1 x2 x3
theorem sim_X9_isMet (n : Nat) {Q : Int32 → MS → Prop} {QX : String → MS → Prop} {S : MS} {V : VS} {a0 a0v : Nat} {x1 x1z : Int32} {x2 x2z : Int32} {x3 x3z : Int32} (hS : SM S V) (h_a0 : Ad S a0 a0v) (e_x1 : x1 = x1z) (e_x2 : x2 = x2z) (e_x3 : x3 = x3z) (hQ : gd (ev_X9_isMet n V a0v x1z x2z x3z) (SQ Q S) (SX QX S)) : wp_X9_isMet Q QX S a0 x1 x2 x3 := by
  subst e_x1 e_x2 e_x3
  exact sX9_isMet_0 n hS Ex_rf h_a0 hQ
