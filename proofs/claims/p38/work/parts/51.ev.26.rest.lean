def eX4_init_0 (n : Nat) (V : VS) (a0v : Nat) : Rs Unit := nwV V 8 (fun V2 a1v => sq (wR V2 a0v 0 (some a1v)) (fun V3 => (vR V3 a0v 0).bind (fun a4v => nwV V3 0 (fun V6 a5v => bd (ev_X2_init n V6 a5v) (fun _ V7 => (if gvp_in 0 (vN V7 a4v) = true then sq (wR V7 a4v ((0 : Int32).toNatClampNeg) (some a5v)) (fun V8 => (vR V8 a0v 0).bind (fun a9v => nwV V8 0 (fun V11 a10v => bd (ev_X2_init n V11 a10v) (fun _ V12 => (if gvp_in 1 (vN V12 a9v) = true then sq (wR V12 a9v ((1 : Int32).toNatClampNeg) (some a10v)) (fun V13 => (vR V13 a0v 0).bind (fun a14v => nwV V13 0 (fun V16 a15v => bd (ev_X2_init n V16 a15v) (fun _ V17 => (if gvp_in 2 (vN V17 a14v) = true then sq (wR V17 a14v ((2 : Int32).toNatClampNeg) (some a15v)) (fun V18 => (vR V18 a0v 0).bind (fun a19v => nwV V18 0 (fun V21 a20v => bd (ev_X2_init n V21 a20v) (fun _ V22 => (if gvp_in 3 (vN V22 a19v) = true then sq (wR V22 a19v ((3 : Int32).toNatClampNeg) (some a20v)) (fun V23 => (vR V23 a0v 0).bind (fun a24v => nwV V23 0 (fun V26 a25v => bd (ev_X2_init n V26 a25v) (fun _ V27 => (if gvp_in 4 (vN V27 a24v) = true then sq (wR V27 a24v ((4 : Int32).toNatClampNeg) (some a25v)) (fun V28 => (vR V28 a0v 0).bind (fun a29v => nwV V28 0 (fun V31 a30v => bd (ev_X2_init n V31 a30v) (fun _ V32 => (if gvp_in 5 (vN V32 a29v) = true then sq (wR V32 a29v ((5 : Int32).toNatClampNeg) (some a30v)) (fun V33 => (vR V33 a0v 0).bind (fun a34v => nwV V33 0 (fun V36 a35v => bd (ev_X2_init n V36 a35v) (fun _ V37 => (if gvp_in 6 (vN V37 a34v) = true then sq (wR V37 a34v ((6 : Int32).toNatClampNeg) (some a35v)) (fun V38 => (vR V38 a0v 0).bind (fun a39v => nwV V38 0 (fun V41 a40v => bd (ev_X2_init n V41 a40v) (fun _ V42 => (if gvp_in 7 (vN V42 a39v) = true then sq (wR V42 a39v ((7 : Int32).toNatClampNeg) (some a40v)) (fun V43 => rt () V43) else none)) th))) else none)) th))) else none)) th))) else none)) th))) else none)) th))) else none)) th))) else none)) th))) else none)) th))))
set_option maxHeartbeats 4000000 in
set_option maxRecDepth 100000 in
theorem sX4_init_0 (n : Nat) {S0 : MS} {Q : MS → Prop} {QX : String → MS → Prop} {S : MS} {V : VS} {a0 a0v : Nat} (hS : SM S V) (hx : Ex S0 S) (h_a0 : Ad S a0 a0v) (hQ : gd (eX4_init_0 n V a0v) (SU Q S0) (SX QX S0)) : wX4_init_0 Q QX S a0 := by
  unfold wX4_init_0
  unfold eX4_init_0 at hQ
  intro a1 q_a1 S2 eS
  obtain ⟨V2, a1v, hS2, xS, h2_a1, hQ⟩ := st_nw hS q_a1 eS rfl hQ
  have hx2 : Ex S0 S2 := Ex_tr hx xS
  have h2_a0 := xS _ _ h_a0
  intro S3 eS
  obtain ⟨V3, hS3, xS, hQ⟩ := st_sR hS2 h2_a0 eS rfl h2_a1 hQ
  have hx3 : Ex S0 S3 := Ex_tr hx2 xS
  have h3_a0 := xS _ _ h2_a0
  refine st_rd hS3 h3_a0 rfl hQ (fun a4 a4v h3_a4 hQ => ?_)
  intro a5 q_a5 S6 eS
  obtain ⟨V6, a5v, hS6, xS, h6_a5, hQ⟩ := st_nw hS3 q_a5 eS rfl hQ
  have hx6 : Ex S0 S6 := Ex_tr hx3 xS
  have h6_a0 := xS _ _ h3_a0
  have h6_a4 := xS _ _ h3_a4
  refine sim_X2_init n hS6 h6_a5 ?_
  refine gd_mono (gd_bd hQ) (fun _ V7 hQ S7 hS7 xS => ?_) (fun E V9 hQ S9 hS9 xS9 => gd_th hQ S9 hS9 (Ex_tr hx6 xS9))
  have hx7 : Ex S0 S7 := Ex_tr hx6 xS
  have h7_a0 := xS _ _ h6_a0
  have h7_a4 := xS _ _ h6_a4
  have h7_a5 := xS _ _ h6_a5
  refine st_gd (fun h => by simp only [SM_N hS7 h7_a4]; exact gvp_in_of h) hQ (fun hQ => ?_)
  intro S8 eS
  obtain ⟨V8, hS8, xS, hQ⟩ := st_sR hS7 h7_a4 eS rfl h7_a5 hQ
  have hx8 : Ex S0 S8 := Ex_tr hx7 xS
  have h8_a0 := xS _ _ h7_a0
  refine st_rd hS8 h8_a0 rfl hQ (fun a9 a9v h8_a9 hQ => ?_)
  intro a10 q_a10 S11 eS
  obtain ⟨V11, a10v, hS11, xS, h11_a10, hQ⟩ := st_nw hS8 q_a10 eS rfl hQ
  have hx11 : Ex S0 S11 := Ex_tr hx8 xS
  have h11_a0 := xS _ _ h8_a0
  have h11_a9 := xS _ _ h8_a9
  refine sim_X2_init n hS11 h11_a10 ?_
  refine gd_mono (gd_bd hQ) (fun _ V12 hQ S12 hS12 xS => ?_) (fun E V9 hQ S9 hS9 xS9 => gd_th hQ S9 hS9 (Ex_tr hx11 xS9))
  have hx12 : Ex S0 S12 := Ex_tr hx11 xS
  have h12_a0 := xS _ _ h11_a0
  have h12_a9 := xS _ _ h11_a9
  have h12_a10 := xS _ _ h11_a10
  refine st_gd (fun h => by simp only [SM_N hS12 h12_a9]; exact gvp_in_of h) hQ (fun hQ => ?_)
  intro S13 eS
  obtain ⟨V13, hS13, xS, hQ⟩ := st_sR hS12 h12_a9 eS rfl h12_a10 hQ
  have hx13 : Ex S0 S13 := Ex_tr hx12 xS
  have h13_a0 := xS _ _ h12_a0
  refine st_rd hS13 h13_a0 rfl hQ (fun a14 a14v h13_a14 hQ => ?_)
  intro a15 q_a15 S16 eS
  obtain ⟨V16, a15v, hS16, xS, h16_a15, hQ⟩ := st_nw hS13 q_a15 eS rfl hQ
  have hx16 : Ex S0 S16 := Ex_tr hx13 xS
  have h16_a0 := xS _ _ h13_a0
  have h16_a14 := xS _ _ h13_a14
  refine sim_X2_init n hS16 h16_a15 ?_
  refine gd_mono (gd_bd hQ) (fun _ V17 hQ S17 hS17 xS => ?_) (fun E V9 hQ S9 hS9 xS9 => gd_th hQ S9 hS9 (Ex_tr hx16 xS9))
  have hx17 : Ex S0 S17 := Ex_tr hx16 xS
  have h17_a0 := xS _ _ h16_a0
  have h17_a14 := xS _ _ h16_a14
  have h17_a15 := xS _ _ h16_a15
  refine st_gd (fun h => by simp only [SM_N hS17 h17_a14]; exact gvp_in_of h) hQ (fun hQ => ?_)
  intro S18 eS
  obtain ⟨V18, hS18, xS, hQ⟩ := st_sR hS17 h17_a14 eS rfl h17_a15 hQ
  have hx18 : Ex S0 S18 := Ex_tr hx17 xS
  have h18_a0 := xS _ _ h17_a0
  refine st_rd hS18 h18_a0 rfl hQ (fun a19 a19v h18_a19 hQ => ?_)
  intro a20 q_a20 S21 eS
  obtain ⟨V21, a20v, hS21, xS, h21_a20, hQ⟩ := st_nw hS18 q_a20 eS rfl hQ
  have hx21 : Ex S0 S21 := Ex_tr hx18 xS
  have h21_a0 := xS _ _ h18_a0
  have h21_a19 := xS _ _ h18_a19
  refine sim_X2_init n hS21 h21_a20 ?_
  refine gd_mono (gd_bd hQ) (fun _ V22 hQ S22 hS22 xS => ?_) (fun E V9 hQ S9 hS9 xS9 => gd_th hQ S9 hS9 (Ex_tr hx21 xS9))
  have hx22 : Ex S0 S22 := Ex_tr hx21 xS
  have h22_a0 := xS _ _ h21_a0
  have h22_a19 := xS _ _ h21_a19
  have h22_a20 := xS _ _ h21_a20
  refine st_gd (fun h => by simp only [SM_N hS22 h22_a19]; exact gvp_in_of h) hQ (fun hQ => ?_)
  intro S23 eS
  obtain ⟨V23, hS23, xS, hQ⟩ := st_sR hS22 h22_a19 eS rfl h22_a20 hQ
  have hx23 : Ex S0 S23 := Ex_tr hx22 xS
  have h23_a0 := xS _ _ h22_a0
  refine st_rd hS23 h23_a0 rfl hQ (fun a24 a24v h23_a24 hQ => ?_)
  intro a25 q_a25 S26 eS
  obtain ⟨V26, a25v, hS26, xS, h26_a25, hQ⟩ := st_nw hS23 q_a25 eS rfl hQ
  have hx26 : Ex S0 S26 := Ex_tr hx23 xS
  have h26_a0 := xS _ _ h23_a0
  have h26_a24 := xS _ _ h23_a24
  refine sim_X2_init n hS26 h26_a25 ?_
  refine gd_mono (gd_bd hQ) (fun _ V27 hQ S27 hS27 xS => ?_) (fun E V9 hQ S9 hS9 xS9 => gd_th hQ S9 hS9 (Ex_tr hx26 xS9))
  have hx27 : Ex S0 S27 := Ex_tr hx26 xS
  have h27_a0 := xS _ _ h26_a0
  have h27_a24 := xS _ _ h26_a24
  have h27_a25 := xS _ _ h26_a25
  refine st_gd (fun h => by simp only [SM_N hS27 h27_a24]; exact gvp_in_of h) hQ (fun hQ => ?_)
  intro S28 eS
  obtain ⟨V28, hS28, xS, hQ⟩ := st_sR hS27 h27_a24 eS rfl h27_a25 hQ
  have hx28 : Ex S0 S28 := Ex_tr hx27 xS
  have h28_a0 := xS _ _ h27_a0
  refine st_rd hS28 h28_a0 rfl hQ (fun a29 a29v h28_a29 hQ => ?_)
  intro a30 q_a30 S31 eS
  obtain ⟨V31, a30v, hS31, xS, h31_a30, hQ⟩ := st_nw hS28 q_a30 eS rfl hQ
  have hx31 : Ex S0 S31 := Ex_tr hx28 xS
  have h31_a0 := xS _ _ h28_a0
  have h31_a29 := xS _ _ h28_a29
  refine sim_X2_init n hS31 h31_a30 ?_
  refine gd_mono (gd_bd hQ) (fun _ V32 hQ S32 hS32 xS => ?_) (fun E V9 hQ S9 hS9 xS9 => gd_th hQ S9 hS9 (Ex_tr hx31 xS9))
  have hx32 : Ex S0 S32 := Ex_tr hx31 xS
  have h32_a0 := xS _ _ h31_a0
  have h32_a29 := xS _ _ h31_a29
  have h32_a30 := xS _ _ h31_a30
  refine st_gd (fun h => by simp only [SM_N hS32 h32_a29]; exact gvp_in_of h) hQ (fun hQ => ?_)
  intro S33 eS
  obtain ⟨V33, hS33, xS, hQ⟩ := st_sR hS32 h32_a29 eS rfl h32_a30 hQ
  have hx33 : Ex S0 S33 := Ex_tr hx32 xS
  have h33_a0 := xS _ _ h32_a0
  refine st_rd hS33 h33_a0 rfl hQ (fun a34 a34v h33_a34 hQ => ?_)
  intro a35 q_a35 S36 eS
  obtain ⟨V36, a35v, hS36, xS, h36_a35, hQ⟩ := st_nw hS33 q_a35 eS rfl hQ
  have hx36 : Ex S0 S36 := Ex_tr hx33 xS
  have h36_a0 := xS _ _ h33_a0
  have h36_a34 := xS _ _ h33_a34
  refine sim_X2_init n hS36 h36_a35 ?_
  refine gd_mono (gd_bd hQ) (fun _ V37 hQ S37 hS37 xS => ?_) (fun E V9 hQ S9 hS9 xS9 => gd_th hQ S9 hS9 (Ex_tr hx36 xS9))
  have hx37 : Ex S0 S37 := Ex_tr hx36 xS
  have h37_a0 := xS _ _ h36_a0
  have h37_a34 := xS _ _ h36_a34
  have h37_a35 := xS _ _ h36_a35
  refine st_gd (fun h => by simp only [SM_N hS37 h37_a34]; exact gvp_in_of h) hQ (fun hQ => ?_)
  intro S38 eS
  obtain ⟨V38, hS38, xS, hQ⟩ := st_sR hS37 h37_a34 eS rfl h37_a35 hQ
  have hx38 : Ex S0 S38 := Ex_tr hx37 xS
  have h38_a0 := xS _ _ h37_a0
  refine st_rd hS38 h38_a0 rfl hQ (fun a39 a39v h38_a39 hQ => ?_)
  intro a40 q_a40 S41 eS
  obtain ⟨V41, a40v, hS41, xS, h41_a40, hQ⟩ := st_nw hS38 q_a40 eS rfl hQ
  have hx41 : Ex S0 S41 := Ex_tr hx38 xS
  have h41_a39 := xS _ _ h38_a39
  refine sim_X2_init n hS41 h41_a40 ?_
  refine gd_mono (gd_bd hQ) (fun _ V42 hQ S42 hS42 xS => ?_) (fun E V9 hQ S9 hS9 xS9 => gd_th hQ S9 hS9 (Ex_tr hx41 xS9))
  have hx42 : Ex S0 S42 := Ex_tr hx41 xS
  have h42_a39 := xS _ _ h41_a39
  have h42_a40 := xS _ _ h41_a40
  refine st_gd (fun h => by simp only [SM_N hS42 h42_a39]; exact gvp_in_of h) hQ (fun hQ => ?_)
  intro S43 eS
  obtain ⟨V43, hS43, xS, hQ⟩ := st_sR hS42 h42_a39 eS rfl h42_a40 hQ
  have hx43 : Ex S0 S43 := Ex_tr hx42 xS
  exact gd_rt hQ _ hS43 hx43
def ev_X4_init (n : Nat) (V : VS) (a0v : Nat) : Rs Unit := eX4_init_0 n V a0v
theorem sim_X4_init (n : Nat) {Q : MS → Prop} {QX : String → MS → Prop} {S : MS} {V : VS} {a0 a0v : Nat} (hS : SM S V) (h_a0 : Ad S a0 a0v) (hQ : gd (ev_X4_init n V a0v) (SU Q S) (SX QX S)) : wp_X4_init Q QX S a0 := by
  exact sX4_init_0 n hS Ex_rf h_a0 hQ
def eX4_clear_0 (n : Nat) (V : VS) (a0v : Nat) : Rs Unit := sq (wI V a0v 2 0) (fun V1 => rt () V1)
set_option maxHeartbeats 4000000 in
set_option maxRecDepth 100000 in
theorem sX4_clear_0 (n : Nat) {S0 : MS} {Q : MS → Prop} {QX : String → MS → Prop} {S : MS} {V : VS} {a0 a0v : Nat} (hS : SM S V) (hx : Ex S0 S) (h_a0 : Ad S a0 a0v) (hQ : gd (eX4_clear_0 n V a0v) (SU Q S0) (SX QX S0)) : wX4_clear_0 Q QX S a0 := by
  unfold wX4_clear_0
  unfold eX4_clear_0 at hQ
  intro S1 eS
  obtain ⟨V1, hS1, xS, hQ⟩ := st_sI hS h_a0 eS rfl rfl hQ
  have hx1 : Ex S0 S1 := Ex_tr hx xS
  exact gd_rt hQ _ hS1 hx1
def ev_X4_clear (n : Nat) (V : VS) (a0v : Nat) : Rs Unit := eX4_clear_0 n V a0v
theorem sim_X4_clear (n : Nat) {Q : MS → Prop} {QX : String → MS → Prop} {S : MS} {V : VS} {a0 a0v : Nat} (hS : SM S V) (h_a0 : Ad S a0 a0v) (hQ : gd (ev_X4_clear n V a0v) (SU Q S) (SX QX S)) : wp_X4_clear Q QX S a0 := by
  exact sX4_clear_0 n hS Ex_rf h_a0 hQ
def eX4_save_0 (n : Nat) (V : VS) (a0v : Nat) (b1v : Nat) : Rs Unit := sq (wI V a0v 1 (((vI V a0v 1) + 1) - ((vI V a0v 1) + 1) / 8 * 8)) (fun V1 => (vR V1 a0v 0).bind (fun a2v => (if gvp_in (vI V1 a0v 1) (vN V1 a2v) = true then (vR V1 a2v (((vI V1 a0v 1) : Int32).toNatClampNeg)).bind (fun a3v => bd (ev_X2_copyFrom n V1 a3v b1v) (fun _ V4 => sq (wI V4 a0v 2 (if 8 < ((vI V4 a0v 2) + 1) then 8 else ((vI V4 a0v 2) + 1))) (fun V5 => rt () V5)) th) else none)))
set_option maxHeartbeats 4000000 in
set_option maxRecDepth 100000 in
theorem sX4_save_0 (n : Nat) {S0 : MS} {Q : MS → Prop} {QX : String → MS → Prop} {S : MS} {V : VS} {a0 a0v : Nat} {b1 b1v : Nat} (hS : SM S V) (hx : Ex S0 S) (h_a0 : Ad S a0 a0v) (h_b1 : Ad S b1 b1v) (hQ : gd (eX4_save_0 n V a0v b1v) (SU Q S0) (SX QX S0)) : wX4_save_0 Q QX S a0 b1 := by
  unfold wX4_save_0
  unfold eX4_save_0 at hQ
  intro S1 eS
  obtain ⟨V1, hS1, xS, hQ⟩ := st_sI hS h_a0 eS rfl (show ((((mI S a0 1) + 1) - ((mI S a0 1) + 1) / 8 * 8)) = ((((vI V a0v 1) + 1) - ((vI V a0v 1) + 1) / 8 * 8)) from by simp only [SM_I hS h_a0]) hQ
  have hx1 : Ex S0 S1 := Ex_tr hx xS
  have h1_a0 := xS _ _ h_a0
  have h1_b1 := xS _ _ h_b1
  refine st_rd hS1 h1_a0 rfl hQ (fun a2 a2v h1_a2 hQ => ?_)
  refine st_gd (fun h => by simp only [SM_I hS1 h1_a0, SM_N hS1 h1_a2]; exact gvp_in_of h) hQ (fun hQ => ?_)
  refine st_rd hS1 h1_a2 (show (((mI S1 a0 1) : Int32).toNatClampNeg) = (((vI V1 a0v 1) : Int32).toNatClampNeg) from by simp only [SM_I hS1 h1_a0]) hQ (fun a3 a3v h1_a3 hQ => ?_)
  refine sim_X2_copyFrom n hS1 h1_a3 h1_b1 ?_
  refine gd_mono (gd_bd hQ) (fun _ V4 hQ S4 hS4 xS => ?_) (fun E V9 hQ S9 hS9 xS9 => gd_th hQ S9 hS9 (Ex_tr hx1 xS9))
  have hx4 : Ex S0 S4 := Ex_tr hx1 xS
  have h4_a0 := xS _ _ h1_a0
  intro S5 eS
  obtain ⟨V5, hS5, xS, hQ⟩ := st_sI hS4 h4_a0 eS rfl (show ((if 8 < ((mI S4 a0 2) + 1) then 8 else ((mI S4 a0 2) + 1))) = ((if 8 < ((vI V4 a0v 2) + 1) then 8 else ((vI V4 a0v 2) + 1))) from by simp only [SM_I hS4 h4_a0]) hQ
  have hx5 : Ex S0 S5 := Ex_tr hx4 xS
  exact gd_rt hQ _ hS5 hx5
def ev_X4_save (n : Nat) (V : VS) (a0v : Nat) (b1v : Nat) : Rs Unit := eX4_save_0 n V a0v b1v
theorem sim_X4_save (n : Nat) {Q : MS → Prop} {QX : String → MS → Prop} {S : MS} {V : VS} {a0 a0v : Nat} {b1 b1v : Nat} (hS : SM S V) (h_a0 : Ad S a0 a0v) (h_b1 : Ad S b1 b1v) (hQ : gd (ev_X4_save n V a0v b1v) (SU Q S) (SX QX S)) : wp_X4_save Q QX S a0 b1 := by
  exact sX4_save_0 n hS Ex_rf h_a0 h_b1 hQ
def eX4_takeBack_0 (n : Nat) (V : VS) (a0v : Nat) (b1v : Nat) : Rs Unit := (vR V a0v 0).bind (fun a1v => (if gvp_in (vI V a0v 1) (vN V a1v) = true then (vR V a1v (((vI V a0v 1) : Int32).toNatClampNeg)).bind (fun a2v => bd (ev_X2_copyFrom n V b1v a2v) (fun _ V3 => sq (wI V3 a0v 1 ((((vI V3 a0v 1) + 8) - 1) - (((vI V3 a0v 1) + 8) - 1) / 8 * 8)) (fun V4 => sq (wI V4 a0v 2 ((vI V4 a0v 2) - 1)) (fun V5 => rt () V5))) th) else none))
set_option maxHeartbeats 4000000 in
set_option maxRecDepth 100000 in
theorem sX4_takeBack_0 (n : Nat) {S0 : MS} {Q : MS → Prop} {QX : String → MS → Prop} {S : MS} {V : VS} {a0 a0v : Nat} {b1 b1v : Nat} (hS : SM S V) (hx : Ex S0 S) (h_a0 : Ad S a0 a0v) (h_b1 : Ad S b1 b1v) (hQ : gd (eX4_takeBack_0 n V a0v b1v) (SU Q S0) (SX QX S0)) : wX4_takeBack_0 Q QX S a0 b1 := by
  unfold wX4_takeBack_0
  unfold eX4_takeBack_0 at hQ
  refine st_rd hS h_a0 rfl hQ (fun a1 a1v h_a1 hQ => ?_)
  refine st_gd (fun h => by simp only [SM_I hS h_a0, SM_N hS h_a1]; exact gvp_in_of h) hQ (fun hQ => ?_)
  refine st_rd hS h_a1 (show (((mI S a0 1) : Int32).toNatClampNeg) = (((vI V a0v 1) : Int32).toNatClampNeg) from by simp only [SM_I hS h_a0]) hQ (fun a2 a2v h_a2 hQ => ?_)
  refine sim_X2_copyFrom n hS h_b1 h_a2 ?_
  refine gd_mono (gd_bd hQ) (fun _ V3 hQ S3 hS3 xS => ?_) (fun E V9 hQ S9 hS9 xS9 => gd_th hQ S9 hS9 (Ex_tr hx xS9))
  have hx3 : Ex S0 S3 := Ex_tr hx xS
  have h3_a0 := xS _ _ h_a0
  intro S4 eS
  obtain ⟨V4, hS4, xS, hQ⟩ := st_sI hS3 h3_a0 eS rfl (show (((((mI S3 a0 1) + 8) - 1) - (((mI S3 a0 1) + 8) - 1) / 8 * 8)) = (((((vI V3 a0v 1) + 8) - 1) - (((vI V3 a0v 1) + 8) - 1) / 8 * 8)) from by simp only [SM_I hS3 h3_a0]) hQ
  have hx4 : Ex S0 S4 := Ex_tr hx3 xS
  have h4_a0 := xS _ _ h3_a0
  intro S5 eS
  obtain ⟨V5, hS5, xS, hQ⟩ := st_sI hS4 h4_a0 eS rfl (show (((mI S4 a0 2) - 1)) = (((vI V4 a0v 2) - 1)) from by simp only [SM_I hS4 h4_a0]) hQ
  have hx5 : Ex S0 S5 := Ex_tr hx4 xS
  exact gd_rt hQ _ hS5 hx5
def ev_X4_takeBack (n : Nat) (V : VS) (a0v : Nat) (b1v : Nat) : Rs Unit := eX4_takeBack_0 n V a0v b1v
theorem sim_X4_takeBack (n : Nat) {Q : MS → Prop} {QX : String → MS → Prop} {S : MS} {V : VS} {a0 a0v : Nat} {b1 b1v : Nat} (hS : SM S V) (h_a0 : Ad S a0 a0v) (h_b1 : Ad S b1 b1v) (hQ : gd (ev_X4_takeBack n V a0v b1v) (SU Q S) (SX QX S)) : wp_X4_takeBack Q QX S a0 b1 := by
  exact sX4_takeBack_0 n hS Ex_rf h_a0 h_b1 hQ
def eX6_init_0 (n : Nat) (V : VS) (a0v : Nat) : Rs Unit := nwV V 8 (fun V2 a1v => sq (wR V2 a0v 0 (some a1v)) (fun V3 => nwV V3 8 (fun V5 a4v => sq (wR V5 a0v 1 (some a4v)) (fun V6 => rt () V6))))
set_option maxHeartbeats 4000000 in
set_option maxRecDepth 100000 in
theorem sX6_init_0 (n : Nat) {S0 : MS} {Q : MS → Prop} {QX : String → MS → Prop} {S : MS} {V : VS} {a0 a0v : Nat} (hS : SM S V) (hx : Ex S0 S) (h_a0 : Ad S a0 a0v) (hQ : gd (eX6_init_0 n V a0v) (SU Q S0) (SX QX S0)) : wX6_init_0 Q QX S a0 := by
  unfold wX6_init_0
  unfold eX6_init_0 at hQ
  intro a1 q_a1 S2 eS
  obtain ⟨V2, a1v, hS2, xS, h2_a1, hQ⟩ := st_nw hS q_a1 eS rfl hQ
  have hx2 : Ex S0 S2 := Ex_tr hx xS
  have h2_a0 := xS _ _ h_a0
  intro S3 eS
  obtain ⟨V3, hS3, xS, hQ⟩ := st_sR hS2 h2_a0 eS rfl h2_a1 hQ
  have hx3 : Ex S0 S3 := Ex_tr hx2 xS
  have h3_a0 := xS _ _ h2_a0
  intro a4 q_a4 S5 eS
  obtain ⟨V5, a4v, hS5, xS, h5_a4, hQ⟩ := st_nw hS3 q_a4 eS rfl hQ
  have hx5 : Ex S0 S5 := Ex_tr hx3 xS
  have h5_a0 := xS _ _ h3_a0
  intro S6 eS
  obtain ⟨V6, hS6, xS, hQ⟩ := st_sR hS5 h5_a0 eS rfl h5_a4 hQ
  have hx6 : Ex S0 S6 := Ex_tr hx5 xS
  exact gd_rt hQ _ hS6 hx6
def ev_X6_init (n : Nat) (V : VS) (a0v : Nat) : Rs Unit := eX6_init_0 n V a0v
theorem sim_X6_init (n : Nat) {Q : MS → Prop} {QX : String → MS → Prop} {S : MS} {V : VS} {a0 a0v : Nat} (hS : SM S V) (h_a0 : Ad S a0 a0v) (hQ : gd (ev_X6_init n V a0v) (SU Q S) (SX QX S)) : wp_X6_init Q QX S a0 := by
  exact sX6_init_0 n hS Ex_rf h_a0 hQ
def eX6_store_20 (n : Nat) (k20v : VS → Nat → Nat → Int32 → Rs Unit) (V : VS) (a0v : Nat) (u1v : Nat) (y3 : Int32) : Rs Unit := (if (vI V a0v 4) ≤ y3 then rt () V else (vR V u1v 1).bind (fun a1v => (if gvp_in y3 (vN V a1v) = true then (vR V a1v ((y3 : Int32).toNatClampNeg)).bind (fun a2v => (vR V a0v 0).bind (fun a3v => (if gvp_in y3 (vN V a3v) = true then sq (wI V a3v ((y3 : Int32).toNatClampNeg) (vI V a2v 5)) (fun V4 => (vR V4 a0v 1).bind (fun a5v => (if gvp_in (vI V4 a2v 2) 4 = true then (if gvf_n32 (FP.fdiv (FP.i2f (vI V4 a2v 5)) (FP.i2f (tbI 0 (vI V4 a2v 2)))) = true then (if gvp_in y3 (vN V4 a5v) = true then sq (wF V4 a5v ((y3 : Int32).toNatClampNeg) (FP.fdiv (FP.i2f (vI V4 a2v 5)) (FP.i2f (tbI 0 (vI V4 a2v 2))))) (fun V7 => k20v V7 a0v u1v (y3 + 1)) else none) else none) else none))) else none))) else none)))
set_option maxHeartbeats 4000000 in
set_option maxRecDepth 100000 in
theorem sX6_store_20 (n : Nat) {S0 : MS} {Q : MS → Prop} {QX : String → MS → Prop} {k20 : MS → Nat → Nat → Int32 → Prop} {k20v : VS → Nat → Nat → Int32 → Rs Unit} (hk20 : ∀ (S : MS) (V : VS) (p0 p0v : Nat) (p1 p1v : Nat) (p2 : Int32), SM S V → Ex S0 S → Ad S p0 p0v → Ad S p1 p1v → gd (k20v V p0v p1v p2) (SU Q S0) (SX QX S0) → k20 S p0 p1 p2) {S : MS} {V : VS} {a0 a0v : Nat} {u1 u1v : Nat} {y3 : Int32} (hS : SM S V) (hx : Ex S0 S) (h_a0 : Ad S a0 a0v) (h_u1 : Ad S u1 u1v) (hQ : gd (eX6_store_20 n k20v V a0v u1v y3) (SU Q S0) (SX QX S0)) : wX6_store_20 Q QX k20 S a0 u1 y3 := by
  unfold wX6_store_20
  unfold eX6_store_20 at hQ
  refine st_if (show ((mI S a0 4) ≤ y3) = ((vI V a0v 4) ≤ y3) from by simp only [SM_I hS h_a0]) hQ (fun hQ => ?_) (fun hQ => ?_)
  · exact gd_rt hQ _ hS hx
  · refine st_rd hS h_u1 rfl hQ (fun a1 a1v h_a1 hQ => ?_)
    refine st_gd (fun h => by simp only [SM_N hS h_a1]; exact gvp_in_of h) hQ (fun hQ => ?_)
    refine st_rd hS h_a1 rfl hQ (fun a2 a2v h_a2 hQ => ?_)
    refine st_rd hS h_a0 rfl hQ (fun a3 a3v h_a3 hQ => ?_)
    refine st_gd (fun h => by simp only [SM_N hS h_a3]; exact gvp_in_of h) hQ (fun hQ => ?_)
    intro S4 eS
    obtain ⟨V4, hS4, xS, hQ⟩ := st_sI hS h_a3 eS rfl (show ((mI S a2 5)) = ((vI V a2v 5)) from by simp only [SM_I hS h_a2]) hQ
    have hx4 : Ex S0 S4 := Ex_tr hx xS
    have h4_a0 := xS _ _ h_a0
    have h4_u1 := xS _ _ h_u1
    have h4_a2 := xS _ _ h_a2
    refine st_rd hS4 h4_a0 rfl hQ (fun a5 a5v h4_a5 hQ => ?_)
    refine st_gd (fun h => by simp only [SM_I hS4 h4_a2]; exact gvp_in_of h) hQ (fun hQ => ?_)
    refine st_gd (fun h => by simp only [SM_I hS4 h4_a2]; exact gvf_n32_of h) hQ (fun hQ => ?_)
    refine st_gd (fun h => by simp only [SM_N hS4 h4_a5]; exact gvp_in_of h) hQ (fun hQ => ?_)
    intro S7 eS
    obtain ⟨V7, hS7, xS, hQ⟩ := st_sF hS4 h4_a5 eS rfl (show ((FP.fdiv (FP.i2f (mI S4 a2 5)) (FP.i2f (tbI 0 (mI S4 a2 2))))) = ((FP.fdiv (FP.i2f (vI V4 a2v 5)) (FP.i2f (tbI 0 (vI V4 a2v 2))))) from by simp only [SM_I hS4 h4_a2]) hQ
    have hx7 : Ex S0 S7 := Ex_tr hx4 xS
    have h7_a0 := xS _ _ h4_a0
    have h7_u1 := xS _ _ h4_u1
    exact hk20 _ _ _ _ _ _ _ hS7 hx7 h7_a0 h7_u1 hQ
def elX6_store_20 (n : Nat) : Nat → VS → Nat → Nat → Int32 → Rs Unit
  | 0 => fun _ _ _ _ => none
  | m + 1 => fun V a0v u1v y3 => eX6_store_20 n (elX6_store_20 n m) V a0v u1v y3
theorem selX6_store_20 (n : Nat) {S0 : MS} {Q : MS → Prop} {QX : String → MS → Prop} : ∀ (m : Nat), ∀ (S : MS) (V : VS) (p0 p0v : Nat) (p1 p1v : Nat) (p2 : Int32), SM S V → Ex S0 S → Ad S p0 p0v → Ad S p1 p1v → gd (elX6_store_20 n m V p0v p1v p2) (SU Q S0) (SX QX S0) → lX6_store_20 Q QX m S p0 p1 p2 := by
  intro m
  induction m with
  | zero => intro S V p0 p0v p1 p1v p2 hS hx q0 q1 hQ; exact (gd_none hQ).elim
  | succ m ih => intro S V p0 p0v p1 p1v p2 hS hx q0 q1 hQ; exact sX6_store_20 n ih hS hx q0 q1 hQ
def eX6_store_0 (n : Nat) (V : VS) (a0v : Nat) (b1v : Nat) (x2 : Int32) : Rs Unit := sq (wI V a0v 2 1) (fun V1 => (if gisZ x2 = true then sq (wI V1 a0v 3 x2) (fun V2 => sq (wI V2 a0v 4 (vI V2 b1v 2)) (fun V3 => elX6_store_20 n n V3 a0v b1v 0)) else none))
set_option maxHeartbeats 4000000 in
set_option maxRecDepth 100000 in
theorem sX6_store_0 (n : Nat) {S0 : MS} {Q : MS → Prop} {QX : String → MS → Prop} {S : MS} {V : VS} {a0 a0v : Nat} {b1 b1v : Nat} {x2 : Int32} (hS : SM S V) (hx : Ex S0 S) (h_a0 : Ad S a0 a0v) (h_b1 : Ad S b1 b1v) (hQ : gd (eX6_store_0 n V a0v b1v x2) (SU Q S0) (SX QX S0)) : wX6_store_0 Q QX S a0 b1 x2 := by
  unfold wX6_store_0
  unfold eX6_store_0 at hQ
  intro S1 eS
  obtain ⟨V1, hS1, xS, hQ⟩ := st_sI hS h_a0 eS rfl rfl hQ
  have hx1 : Ex S0 S1 := Ex_tr hx xS
  have h1_a0 := xS _ _ h_a0
  have h1_b1 := xS _ _ h_b1
  refine st_gd (fun h => by exact gisZ_of h) hQ (fun hQ => ?_)
  intro S2 eS
  obtain ⟨V2, hS2, xS, hQ⟩ := st_sI hS1 h1_a0 eS rfl rfl hQ
  have hx2 : Ex S0 S2 := Ex_tr hx1 xS
  have h2_a0 := xS _ _ h1_a0
  have h2_b1 := xS _ _ h1_b1
  intro S3 eS
  obtain ⟨V3, hS3, xS, hQ⟩ := st_sI hS2 h2_a0 eS rfl (show ((mI S2 b1 2)) = ((vI V2 b1v 2)) from by simp only [SM_I hS2 h2_b1]) hQ
  have hx3 : Ex S0 S3 := Ex_tr hx2 xS
  have h3_a0 := xS _ _ h2_a0
  have h3_b1 := xS _ _ h2_b1
  refine ⟨n, ?_⟩
  exact selX6_store_20 n n _ _ _ _ _ _ _ hS3 hx3 h3_a0 h3_b1 hQ
def ev_X6_store (n : Nat) (V : VS) (a0v : Nat) (b1v : Nat) (x2 : Int32) : Rs Unit := eX6_store_0 n V a0v b1v x2
theorem sim_X6_store (n : Nat) {Q : MS → Prop} {QX : String → MS → Prop} {S : MS} {V : VS} {a0 a0v : Nat} {b1 b1v : Nat} {x2 x2z : Int32} (hS : SM S V) (h_a0 : Ad S a0 a0v) (h_b1 : Ad S b1 b1v) (e_x2 : x2 = x2z) (hQ : gd (ev_X6_store n V a0v b1v x2z) (SU Q S) (SX QX S)) : wp_X6_store Q QX S a0 b1 x2 := by
  subst e_x2
  exact sX6_store_0 n hS Ex_rf h_a0 h_b1 hQ
def eX6_takeFrom_58 (n : Nat) (k5v : VS → Nat → Nat → Int32 → Int32 → Int32 → Rs Int32) (V : VS) (a0v : Nat) (u1v : Nat) (y2 : Int32) (y3 : Int32) (y4 : Int32) : Rs Int32 := (vR V a0v 0).bind (fun a1v => (vR V u1v 0).bind (fun a2v => (if gvp_in y4 (vN V a2v) = true then (if gvp_in y4 (vN V a1v) = true then sq (wI V a1v ((y4 : Int32).toNatClampNeg) (vI V a2v (y4 : Int32).toNatClampNeg)) (fun V3 => (vR V3 a0v 1).bind (fun a4v => (vR V3 u1v 1).bind (fun a5v => (if gvp_in y4 (vN V3 a5v) = true then (if gvp_in y4 (vN V3 a4v) = true then sq (wF V3 a4v ((y4 : Int32).toNatClampNeg) (vF V3 a5v (y4 : Int32).toNatClampNeg)) (fun V6 => k5v V6 a0v u1v y2 y3 (y4 + 1)) else none) else none)))) else none) else none)))
set_option maxHeartbeats 4000000 in
set_option maxRecDepth 100000 in
theorem sX6_takeFrom_58 (n : Nat) {S0 : MS} {Q : Int32 → MS → Prop} {QX : String → MS → Prop} {k5 : MS → Nat → Nat → Int32 → Int32 → Int32 → Prop} {k5v : VS → Nat → Nat → Int32 → Int32 → Int32 → Rs Int32} (hk5 : ∀ (S : MS) (V : VS) (p0 p0v : Nat) (p1 p1v : Nat) (p2 : Int32) (p3 : Int32) (p4 : Int32), SM S V → Ex S0 S → Ad S p0 p0v → Ad S p1 p1v → gd (k5v V p0v p1v p2 p3 p4) (SQ Q S0) (SX QX S0) → k5 S p0 p1 p2 p3 p4) {S : MS} {V : VS} {a0 a0v : Nat} {u1 u1v : Nat} {y2 : Int32} {y3 : Int32} {y4 : Int32} (hS : SM S V) (hx : Ex S0 S) (h_a0 : Ad S a0 a0v) (h_u1 : Ad S u1 u1v) (hQ : gd (eX6_takeFrom_58 n k5v V a0v u1v y2 y3 y4) (SQ Q S0) (SX QX S0)) : wX6_takeFrom_58 Q QX k5 S a0 u1 y2 y3 y4 := by
  unfold wX6_takeFrom_58
  unfold eX6_takeFrom_58 at hQ
  refine st_rd hS h_a0 rfl hQ (fun a1 a1v h_a1 hQ => ?_)
  refine st_rd hS h_u1 rfl hQ (fun a2 a2v h_a2 hQ => ?_)
  refine st_gd (fun h => by simp only [SM_N hS h_a2]; exact gvp_in_of h) hQ (fun hQ => ?_)
  refine st_gd (fun h => by simp only [SM_N hS h_a1]; exact gvp_in_of h) hQ (fun hQ => ?_)
  intro S3 eS
  obtain ⟨V3, hS3, xS, hQ⟩ := st_sI hS h_a1 eS rfl (show ((mI S a2 (y4 : Int32).toNatClampNeg)) = ((vI V a2v (y4 : Int32).toNatClampNeg)) from by simp only [SM_I hS h_a2]) hQ
  have hx3 : Ex S0 S3 := Ex_tr hx xS
  have h3_a0 := xS _ _ h_a0
  have h3_u1 := xS _ _ h_u1
  refine st_rd hS3 h3_a0 rfl hQ (fun a4 a4v h3_a4 hQ => ?_)
  refine st_rd hS3 h3_u1 rfl hQ (fun a5 a5v h3_a5 hQ => ?_)
  refine st_gd (fun h => by simp only [SM_N hS3 h3_a5]; exact gvp_in_of h) hQ (fun hQ => ?_)
  refine st_gd (fun h => by simp only [SM_N hS3 h3_a4]; exact gvp_in_of h) hQ (fun hQ => ?_)
  intro S6 eS
  obtain ⟨V6, hS6, xS, hQ⟩ := st_sF hS3 h3_a4 eS rfl (show ((mF S3 a5 (y4 : Int32).toNatClampNeg)) = ((vF V3 a5v (y4 : Int32).toNatClampNeg)) from by simp only [SM_F hS3 h3_a5]) hQ
  have hx6 : Ex S0 S6 := Ex_tr hx3 xS
  have h6_a0 := xS _ _ h3_a0
  have h6_u1 := xS _ _ h3_u1
  exact hk5 _ _ _ _ _ _ _ _ _ hS6 hx6 h6_a0 h6_u1 hQ
def eX6_takeFrom_56 (n : Nat) (k5v : VS → Nat → Nat → Int32 → Int32 → Int32 → Rs Int32) (V : VS) (a0v : Nat) (u1v : Nat) (y2 : Int32) (y4 : Int32) : Rs Int32 := eX6_takeFrom_58 n k5v V a0v u1v y2 1 y4
set_option maxHeartbeats 4000000 in
set_option maxRecDepth 100000 in
theorem sX6_takeFrom_56 (n : Nat) {S0 : MS} {Q : Int32 → MS → Prop} {QX : String → MS → Prop} {k5 : MS → Nat → Nat → Int32 → Int32 → Int32 → Prop} {k5v : VS → Nat → Nat → Int32 → Int32 → Int32 → Rs Int32} (hk5 : ∀ (S : MS) (V : VS) (p0 p0v : Nat) (p1 p1v : Nat) (p2 : Int32) (p3 : Int32) (p4 : Int32), SM S V → Ex S0 S → Ad S p0 p0v → Ad S p1 p1v → gd (k5v V p0v p1v p2 p3 p4) (SQ Q S0) (SX QX S0) → k5 S p0 p1 p2 p3 p4) {S : MS} {V : VS} {a0 a0v : Nat} {u1 u1v : Nat} {y2 : Int32} {y4 : Int32} (hS : SM S V) (hx : Ex S0 S) (h_a0 : Ad S a0 a0v) (h_u1 : Ad S u1 u1v) (hQ : gd (eX6_takeFrom_56 n k5v V a0v u1v y2 y4) (SQ Q S0) (SX QX S0)) : wX6_takeFrom_56 Q QX k5 S a0 u1 y2 y4 := by
  unfold wX6_takeFrom_56
  unfold eX6_takeFrom_56 at hQ
  exact sX6_takeFrom_58 n hk5 hS hx h_a0 h_u1 hQ
def eX6_takeFrom_5 (n : Nat) (k5v : VS → Nat → Nat → Int32 → Int32 → Int32 → Rs Int32) (V : VS) (a0v : Nat) (u1v : Nat) (y2 : Int32) (y3 : Int32) (y4 : Int32) : Rs Int32 := (if y2 ≤ y4 then (if gisZ y3 = true then rt y3 V else none) else (if (vI V a0v 3) = 0 then (vR V a0v 1).bind (fun a1v => (if gvp_in y4 (vN V a1v) = true then (vR V u1v 1).bind (fun a2v => (if gvp_in y4 (vN V a2v) = true then (if (Op.cmpValue (FP.fcmp (vF V a1v (y4 : Int32).toNatClampNeg) (vF V a2v (y4 : Int32).toNatClampNeg)) CmpOp.l) = 0 then eX6_takeFrom_58 n k5v V a0v u1v y2 y3 y4 else eX6_takeFrom_56 n k5v V a0v u1v y2 y4) else none)) else none)) else (vR V a0v 0).bind (fun a3v => (if gvp_in y4 (vN V a3v) = true then (vR V u1v 0).bind (fun a4v => (if gvp_in y4 (vN V a4v) = true then (if (vI V a3v (y4 : Int32).toNatClampNeg) = (vI V a4v (y4 : Int32).toNatClampNeg) then eX6_takeFrom_58 n k5v V a0v u1v y2 y3 y4 else eX6_takeFrom_56 n k5v V a0v u1v y2 y4) else none)) else none))))
set_option maxHeartbeats 4000000 in
set_option maxRecDepth 100000 in
theorem sX6_takeFrom_5 (n : Nat) {S0 : MS} {Q : Int32 → MS → Prop} {QX : String → MS → Prop} {k5 : MS → Nat → Nat → Int32 → Int32 → Int32 → Prop} {k5v : VS → Nat → Nat → Int32 → Int32 → Int32 → Rs Int32} (hk5 : ∀ (S : MS) (V : VS) (p0 p0v : Nat) (p1 p1v : Nat) (p2 : Int32) (p3 : Int32) (p4 : Int32), SM S V → Ex S0 S → Ad S p0 p0v → Ad S p1 p1v → gd (k5v V p0v p1v p2 p3 p4) (SQ Q S0) (SX QX S0) → k5 S p0 p1 p2 p3 p4) {S : MS} {V : VS} {a0 a0v : Nat} {u1 u1v : Nat} {y2 : Int32} {y3 : Int32} {y4 : Int32} (hS : SM S V) (hx : Ex S0 S) (h_a0 : Ad S a0 a0v) (h_u1 : Ad S u1 u1v) (hQ : gd (eX6_takeFrom_5 n k5v V a0v u1v y2 y3 y4) (SQ Q S0) (SX QX S0)) : wX6_takeFrom_5 Q QX k5 S a0 u1 y2 y3 y4 := by
  unfold wX6_takeFrom_5
  unfold eX6_takeFrom_5 at hQ
  refine st_if rfl hQ (fun hQ => ?_) (fun hQ => ?_)
  · refine st_gd (fun h => by exact gisZ_of h) hQ (fun hQ => ?_)
    exact gd_rt hQ _ hS hx
  · refine st_if (show ((mI S a0 3) = 0) = ((vI V a0v 3) = 0) from by simp only [SM_I hS h_a0]) hQ (fun hQ => ?_) (fun hQ => ?_)
    · refine st_rd hS h_a0 rfl hQ (fun a1 a1v h_a1 hQ => ?_)
      refine st_gd (fun h => by simp only [SM_N hS h_a1]; exact gvp_in_of h) hQ (fun hQ => ?_)
      refine st_rd hS h_u1 rfl hQ (fun a2 a2v h_a2 hQ => ?_)
      refine st_gd (fun h => by simp only [SM_N hS h_a2]; exact gvp_in_of h) hQ (fun hQ => ?_)
      refine st_if (show ((Op.cmpValue (FP.fcmp (mF S a1 (y4 : Int32).toNatClampNeg) (mF S a2 (y4 : Int32).toNatClampNeg)) CmpOp.l) = 0) = ((Op.cmpValue (FP.fcmp (vF V a1v (y4 : Int32).toNatClampNeg) (vF V a2v (y4 : Int32).toNatClampNeg)) CmpOp.l) = 0) from by simp only [SM_F hS h_a1, SM_F hS h_a2]) hQ (fun hQ => ?_) (fun hQ => ?_)
      · exact sX6_takeFrom_58 n hk5 hS hx h_a0 h_u1 hQ
      · exact sX6_takeFrom_56 n hk5 hS hx h_a0 h_u1 hQ
    · refine st_rd hS h_a0 rfl hQ (fun a3 a3v h_a3 hQ => ?_)
      refine st_gd (fun h => by simp only [SM_N hS h_a3]; exact gvp_in_of h) hQ (fun hQ => ?_)
      refine st_rd hS h_u1 rfl hQ (fun a4 a4v h_a4 hQ => ?_)
      refine st_gd (fun h => by simp only [SM_N hS h_a4]; exact gvp_in_of h) hQ (fun hQ => ?_)
      refine st_if (show ((mI S a3 (y4 : Int32).toNatClampNeg) = (mI S a4 (y4 : Int32).toNatClampNeg)) = ((vI V a3v (y4 : Int32).toNatClampNeg) = (vI V a4v (y4 : Int32).toNatClampNeg)) from by simp only [SM_I hS h_a3, SM_I hS h_a4]) hQ (fun hQ => ?_) (fun hQ => ?_)
      · exact sX6_takeFrom_58 n hk5 hS hx h_a0 h_u1 hQ
      · exact sX6_takeFrom_56 n hk5 hS hx h_a0 h_u1 hQ
def elX6_takeFrom_5 (n : Nat) : Nat → VS → Nat → Nat → Int32 → Int32 → Int32 → Rs Int32
  | 0 => fun _ _ _ _ _ _ => none
  | m + 1 => fun V a0v u1v y2 y3 y4 => eX6_takeFrom_5 n (elX6_takeFrom_5 n m) V a0v u1v y2 y3 y4
theorem selX6_takeFrom_5 (n : Nat) {S0 : MS} {Q : Int32 → MS → Prop} {QX : String → MS → Prop} : ∀ (m : Nat), ∀ (S : MS) (V : VS) (p0 p0v : Nat) (p1 p1v : Nat) (p2 : Int32) (p3 : Int32) (p4 : Int32), SM S V → Ex S0 S → Ad S p0 p0v → Ad S p1 p1v → gd (elX6_takeFrom_5 n m V p0v p1v p2 p3 p4) (SQ Q S0) (SX QX S0) → lX6_takeFrom_5 Q QX m S p0 p1 p2 p3 p4 := by
  intro m
  induction m with
  | zero => intro S V p0 p0v p1 p1v p2 p3 p4 hS hx q0 q1 hQ; exact (gd_none hQ).elim
  | succ m ih => intro S V p0 p0v p1 p1v p2 p3 p4 hS hx q0 q1 hQ; exact sX6_takeFrom_5 n ih hS hx q0 q1 hQ
def eX6_takeFrom_0 (n : Nat) (V : VS) (a0v : Nat) (b1v : Nat) (x2 : Int32) : Rs Int32 := elX6_takeFrom_5 n n V a0v b1v x2 0 0
set_option maxHeartbeats 4000000 in
set_option maxRecDepth 100000 in
theorem sX6_takeFrom_0 (n : Nat) {S0 : MS} {Q : Int32 → MS → Prop} {QX : String → MS → Prop} {S : MS} {V : VS} {a0 a0v : Nat} {b1 b1v : Nat} {x2 : Int32} (hS : SM S V) (hx : Ex S0 S) (h_a0 : Ad S a0 a0v) (h_b1 : Ad S b1 b1v) (hQ : gd (eX6_takeFrom_0 n V a0v b1v x2) (SQ Q S0) (SX QX S0)) : wX6_takeFrom_0 Q QX S a0 b1 x2 := by
  unfold wX6_takeFrom_0
  unfold eX6_takeFrom_0 at hQ
  refine ⟨n, ?_⟩
  exact selX6_takeFrom_5 n n _ _ _ _ _ _ _ _ _ hS hx h_a0 h_b1 hQ
def ev_X6_takeFrom (n : Nat) (V : VS) (a0v : Nat) (b1v : Nat) (x2 : Int32) : Rs Int32 := eX6_takeFrom_0 n V a0v b1v x2
theorem sim_X6_takeFrom (n : Nat) {Q : Int32 → MS → Prop} {QX : String → MS → Prop} {S : MS} {V : VS} {a0 a0v : Nat} {b1 b1v : Nat} {x2 x2z : Int32} (hS : SM S V) (h_a0 : Ad S a0 a0v) (h_b1 : Ad S b1 b1v) (e_x2 : x2 = x2z) (hQ : gd (ev_X6_takeFrom n V a0v b1v x2z) (SQ Q S) (SX QX S)) : wp_X6_takeFrom Q QX S a0 b1 x2 := by
  subst e_x2
  exact sX6_takeFrom_0 n hS Ex_rf h_a0 h_b1 hQ
