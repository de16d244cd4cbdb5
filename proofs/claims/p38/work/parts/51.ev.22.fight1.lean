def eX2_init_0 (n : Nat) (V : VS) (a0v : Nat) : Rs Unit := nwV V 0 (fun V2 a1v => bd (ev_X3_init n V2 a1v) (fun _ V3 => sq (wR V3 a0v 0 (some a1v)) (fun V4 => nwV V4 8 (fun V6 a5v => sq (wR V6 a0v 1 (some a5v)) (fun V7 => nwV V7 8 (fun V9 a8v => sq (wR V9 a0v 3 (some a8v)) (fun V10 => sq (wI V10 a0v 6 (-1)) (fun V11 => sq (wI V11 a0v 9 1) (fun V12 => sq (wI V12 a0v 10 1) (fun V13 => nwV V13 0 (fun V15 a14v => bd (ev_X1_init n V15 a14v) (fun _ V16 => sq (wR V16 a0v 11 (some a14v)) (fun V17 => (vR V17 a0v 1).bind (fun a18v => nwV V17 0 (fun V20 a19v => bd (ev_X7_init n V20 a19v 0) (fun _ V21 => (if gvp_in 0 (vN V21 a18v) = true then sq (wR V21 a18v ((0 : Int32).toNatClampNeg) (some a19v)) (fun V22 => (vR V22 a0v 1).bind (fun a23v => nwV V22 0 (fun V25 a24v => bd (ev_X7_init n V25 a24v 1) (fun _ V26 => (if gvp_in 1 (vN V26 a23v) = true then sq (wR V26 a23v ((1 : Int32).toNatClampNeg) (some a24v)) (fun V27 => (vR V27 a0v 1).bind (fun a28v => nwV V27 0 (fun V30 a29v => bd (ev_X7_init n V30 a29v 2) (fun _ V31 => (if gvp_in 2 (vN V31 a28v) = true then sq (wR V31 a28v ((2 : Int32).toNatClampNeg) (some a29v)) (fun V32 => (vR V32 a0v 1).bind (fun a33v => nwV V32 0 (fun V35 a34v => bd (ev_X7_init n V35 a34v 3) (fun _ V36 => (if gvp_in 3 (vN V36 a33v) = true then sq (wR V36 a33v ((3 : Int32).toNatClampNeg) (some a34v)) (fun V37 => (vR V37 a0v 1).bind (fun a38v => nwV V37 0 (fun V40 a39v => bd (ev_X7_init n V40 a39v 4) (fun _ V41 => (if gvp_in 4 (vN V41 a38v) = true then sq (wR V41 a38v ((4 : Int32).toNatClampNeg) (some a39v)) (fun V42 => (vR V42 a0v 1).bind (fun a43v => nwV V42 0 (fun V45 a44v => bd (ev_X7_init n V45 a44v 5) (fun _ V46 => (if gvp_in 5 (vN V46 a43v) = true then sq (wR V46 a43v ((5 : Int32).toNatClampNeg) (some a44v)) (fun V47 => (vR V47 a0v 1).bind (fun a48v => nwV V47 0 (fun V50 a49v => bd (ev_X7_init n V50 a49v 6) (fun _ V51 => (if gvp_in 6 (vN V51 a48v) = true then sq (wR V51 a48v ((6 : Int32).toNatClampNeg) (some a49v)) (fun V52 => (vR V52 a0v 1).bind (fun a53v => nwV V52 0 (fun V55 a54v => bd (ev_X7_init n V55 a54v 7) (fun _ V56 => (if gvp_in 7 (vN V56 a53v) = true then sq (wR V56 a53v ((7 : Int32).toNatClampNeg) (some a54v)) (fun V57 => rt () V57) else none)) th))) else none)) th))) else none)) th))) else none)) th))) else none)) th))) else none)) th))) else none)) th))) else none)) th)))) th)))))))))) th)
set_option maxHeartbeats 4000000 in
set_option maxRecDepth 100000 in
theorem sX2_init_0 (n : Nat) {S0 : MS} {Q : MS → Prop} {QX : String → MS → Prop} {S : MS} {V : VS} {a0 a0v : Nat} (hS : SM S V) (hx : Ex S0 S) (h_a0 : Ad S a0 a0v) (hQ : gd (eX2_init_0 n V a0v) (SU Q S0) (SX QX S0)) : wX2_init_0 Q QX S a0 := by
  unfold wX2_init_0
  unfold eX2_init_0 at hQ
  intro a1 q_a1 S2 eS
  obtain ⟨V2, a1v, hS2, xS, h2_a1, hQ⟩ := st_nw hS q_a1 eS rfl hQ
  have hx2 : Ex S0 S2 := Ex_tr hx xS
  have h2_a0 := xS _ _ h_a0
  refine sim_X3_init n hS2 h2_a1 ?_
  refine gd_mono (gd_bd hQ) (fun _ V3 hQ S3 hS3 xS => ?_) (fun E V9 hQ S9 hS9 xS9 => gd_th hQ S9 hS9 (Ex_tr hx2 xS9))
  have hx3 : Ex S0 S3 := Ex_tr hx2 xS
  have h3_a0 := xS _ _ h2_a0
  have h3_a1 := xS _ _ h2_a1
  intro S4 eS
  obtain ⟨V4, hS4, xS, hQ⟩ := st_sR hS3 h3_a0 eS rfl h3_a1 hQ
  have hx4 : Ex S0 S4 := Ex_tr hx3 xS
  have h4_a0 := xS _ _ h3_a0
  intro a5 q_a5 S6 eS
  obtain ⟨V6, a5v, hS6, xS, h6_a5, hQ⟩ := st_nw hS4 q_a5 eS rfl hQ
  have hx6 : Ex S0 S6 := Ex_tr hx4 xS
  have h6_a0 := xS _ _ h4_a0
  intro S7 eS
  obtain ⟨V7, hS7, xS, hQ⟩ := st_sR hS6 h6_a0 eS rfl h6_a5 hQ
  have hx7 : Ex S0 S7 := Ex_tr hx6 xS
  have h7_a0 := xS _ _ h6_a0
  intro a8 q_a8 S9 eS
  obtain ⟨V9, a8v, hS9, xS, h9_a8, hQ⟩ := st_nw hS7 q_a8 eS rfl hQ
  have hx9 : Ex S0 S9 := Ex_tr hx7 xS
  have h9_a0 := xS _ _ h7_a0
  intro S10 eS
  obtain ⟨V10, hS10, xS, hQ⟩ := st_sR hS9 h9_a0 eS rfl h9_a8 hQ
  have hx10 : Ex S0 S10 := Ex_tr hx9 xS
  have h10_a0 := xS _ _ h9_a0
  intro S11 eS
  obtain ⟨V11, hS11, xS, hQ⟩ := st_sI hS10 h10_a0 eS rfl rfl hQ
  have hx11 : Ex S0 S11 := Ex_tr hx10 xS
  have h11_a0 := xS _ _ h10_a0
  intro S12 eS
  obtain ⟨V12, hS12, xS, hQ⟩ := st_sI hS11 h11_a0 eS rfl rfl hQ
  have hx12 : Ex S0 S12 := Ex_tr hx11 xS
  have h12_a0 := xS _ _ h11_a0
  intro S13 eS
  obtain ⟨V13, hS13, xS, hQ⟩ := st_sI hS12 h12_a0 eS rfl rfl hQ
  have hx13 : Ex S0 S13 := Ex_tr hx12 xS
  have h13_a0 := xS _ _ h12_a0
  intro a14 q_a14 S15 eS
  obtain ⟨V15, a14v, hS15, xS, h15_a14, hQ⟩ := st_nw hS13 q_a14 eS rfl hQ
  have hx15 : Ex S0 S15 := Ex_tr hx13 xS
  have h15_a0 := xS _ _ h13_a0
  refine sim_X1_init n hS15 h15_a14 ?_
  refine gd_mono (gd_bd hQ) (fun _ V16 hQ S16 hS16 xS => ?_) (fun E V9 hQ S9 hS9 xS9 => gd_th hQ S9 hS9 (Ex_tr hx15 xS9))
  have hx16 : Ex S0 S16 := Ex_tr hx15 xS
  have h16_a0 := xS _ _ h15_a0
  have h16_a14 := xS _ _ h15_a14
  intro S17 eS
  obtain ⟨V17, hS17, xS, hQ⟩ := st_sR hS16 h16_a0 eS rfl h16_a14 hQ
  have hx17 : Ex S0 S17 := Ex_tr hx16 xS
  have h17_a0 := xS _ _ h16_a0
  refine st_rd hS17 h17_a0 rfl hQ (fun a18 a18v h17_a18 hQ => ?_)
  intro a19 q_a19 S20 eS
  obtain ⟨V20, a19v, hS20, xS, h20_a19, hQ⟩ := st_nw hS17 q_a19 eS rfl hQ
  have hx20 : Ex S0 S20 := Ex_tr hx17 xS
  have h20_a0 := xS _ _ h17_a0
  have h20_a18 := xS _ _ h17_a18
  refine sim_X7_init n hS20 h20_a19 rfl ?_
  refine gd_mono (gd_bd hQ) (fun _ V21 hQ S21 hS21 xS => ?_) (fun E V9 hQ S9 hS9 xS9 => gd_th hQ S9 hS9 (Ex_tr hx20 xS9))
  have hx21 : Ex S0 S21 := Ex_tr hx20 xS
  have h21_a0 := xS _ _ h20_a0
  have h21_a18 := xS _ _ h20_a18
  have h21_a19 := xS _ _ h20_a19
  refine st_gd (fun h => by simp only [SM_N hS21 h21_a18]; exact gvp_in_of h) hQ (fun hQ => ?_)
  intro S22 eS
  obtain ⟨V22, hS22, xS, hQ⟩ := st_sR hS21 h21_a18 eS rfl h21_a19 hQ
  have hx22 : Ex S0 S22 := Ex_tr hx21 xS
  have h22_a0 := xS _ _ h21_a0
  refine st_rd hS22 h22_a0 rfl hQ (fun a23 a23v h22_a23 hQ => ?_)
  intro a24 q_a24 S25 eS
  obtain ⟨V25, a24v, hS25, xS, h25_a24, hQ⟩ := st_nw hS22 q_a24 eS rfl hQ
  have hx25 : Ex S0 S25 := Ex_tr hx22 xS
  have h25_a0 := xS _ _ h22_a0
  have h25_a23 := xS _ _ h22_a23
  refine sim_X7_init n hS25 h25_a24 rfl ?_
  refine gd_mono (gd_bd hQ) (fun _ V26 hQ S26 hS26 xS => ?_) (fun E V9 hQ S9 hS9 xS9 => gd_th hQ S9 hS9 (Ex_tr hx25 xS9))
  have hx26 : Ex S0 S26 := Ex_tr hx25 xS
  have h26_a0 := xS _ _ h25_a0
  have h26_a23 := xS _ _ h25_a23
  have h26_a24 := xS _ _ h25_a24
  refine st_gd (fun h => by simp only [SM_N hS26 h26_a23]; exact gvp_in_of h) hQ (fun hQ => ?_)
  intro S27 eS
  obtain ⟨V27, hS27, xS, hQ⟩ := st_sR hS26 h26_a23 eS rfl h26_a24 hQ
  have hx27 : Ex S0 S27 := Ex_tr hx26 xS
  have h27_a0 := xS _ _ h26_a0
  refine st_rd hS27 h27_a0 rfl hQ (fun a28 a28v h27_a28 hQ => ?_)
  intro a29 q_a29 S30 eS
  obtain ⟨V30, a29v, hS30, xS, h30_a29, hQ⟩ := st_nw hS27 q_a29 eS rfl hQ
  have hx30 : Ex S0 S30 := Ex_tr hx27 xS
  have h30_a0 := xS _ _ h27_a0
  have h30_a28 := xS _ _ h27_a28
  refine sim_X7_init n hS30 h30_a29 rfl ?_
  refine gd_mono (gd_bd hQ) (fun _ V31 hQ S31 hS31 xS => ?_) (fun E V9 hQ S9 hS9 xS9 => gd_th hQ S9 hS9 (Ex_tr hx30 xS9))
  have hx31 : Ex S0 S31 := Ex_tr hx30 xS
  have h31_a0 := xS _ _ h30_a0
  have h31_a28 := xS _ _ h30_a28
  have h31_a29 := xS _ _ h30_a29
  refine st_gd (fun h => by simp only [SM_N hS31 h31_a28]; exact gvp_in_of h) hQ (fun hQ => ?_)
  intro S32 eS
  obtain ⟨V32, hS32, xS, hQ⟩ := st_sR hS31 h31_a28 eS rfl h31_a29 hQ
  have hx32 : Ex S0 S32 := Ex_tr hx31 xS
  have h32_a0 := xS _ _ h31_a0
  refine st_rd hS32 h32_a0 rfl hQ (fun a33 a33v h32_a33 hQ => ?_)
  intro a34 q_a34 S35 eS
  obtain ⟨V35, a34v, hS35, xS, h35_a34, hQ⟩ := st_nw hS32 q_a34 eS rfl hQ
  have hx35 : Ex S0 S35 := Ex_tr hx32 xS
  have h35_a0 := xS _ _ h32_a0
  have h35_a33 := xS _ _ h32_a33
  refine sim_X7_init n hS35 h35_a34 rfl ?_
  refine gd_mono (gd_bd hQ) (fun _ V36 hQ S36 hS36 xS => ?_) (fun E V9 hQ S9 hS9 xS9 => gd_th hQ S9 hS9 (Ex_tr hx35 xS9))
  have hx36 : Ex S0 S36 := Ex_tr hx35 xS
  have h36_a0 := xS _ _ h35_a0
  have h36_a33 := xS _ _ h35_a33
  have h36_a34 := xS _ _ h35_a34
  refine st_gd (fun h => by simp only [SM_N hS36 h36_a33]; exact gvp_in_of h) hQ (fun hQ => ?_)
  intro S37 eS
  obtain ⟨V37, hS37, xS, hQ⟩ := st_sR hS36 h36_a33 eS rfl h36_a34 hQ
  have hx37 : Ex S0 S37 := Ex_tr hx36 xS
  have h37_a0 := xS _ _ h36_a0
  refine st_rd hS37 h37_a0 rfl hQ (fun a38 a38v h37_a38 hQ => ?_)
  intro a39 q_a39 S40 eS
  obtain ⟨V40, a39v, hS40, xS, h40_a39, hQ⟩ := st_nw hS37 q_a39 eS rfl hQ
  have hx40 : Ex S0 S40 := Ex_tr hx37 xS
  have h40_a0 := xS _ _ h37_a0
  have h40_a38 := xS _ _ h37_a38
  refine sim_X7_init n hS40 h40_a39 rfl ?_
  refine gd_mono (gd_bd hQ) (fun _ V41 hQ S41 hS41 xS => ?_) (fun E V9 hQ S9 hS9 xS9 => gd_th hQ S9 hS9 (Ex_tr hx40 xS9))
  have hx41 : Ex S0 S41 := Ex_tr hx40 xS
  have h41_a0 := xS _ _ h40_a0
  have h41_a38 := xS _ _ h40_a38
  have h41_a39 := xS _ _ h40_a39
  refine st_gd (fun h => by simp only [SM_N hS41 h41_a38]; exact gvp_in_of h) hQ (fun hQ => ?_)
  intro S42 eS
  obtain ⟨V42, hS42, xS, hQ⟩ := st_sR hS41 h41_a38 eS rfl h41_a39 hQ
  have hx42 : Ex S0 S42 := Ex_tr hx41 xS
  have h42_a0 := xS _ _ h41_a0
  refine st_rd hS42 h42_a0 rfl hQ (fun a43 a43v h42_a43 hQ => ?_)
  intro a44 q_a44 S45 eS
  obtain ⟨V45, a44v, hS45, xS, h45_a44, hQ⟩ := st_nw hS42 q_a44 eS rfl hQ
  have hx45 : Ex S0 S45 := Ex_tr hx42 xS
  have h45_a0 := xS _ _ h42_a0
  have h45_a43 := xS _ _ h42_a43
  refine sim_X7_init n hS45 h45_a44 rfl ?_
  refine gd_mono (gd_bd hQ) (fun _ V46 hQ S46 hS46 xS => ?_) (fun E V9 hQ S9 hS9 xS9 => gd_th hQ S9 hS9 (Ex_tr hx45 xS9))
  have hx46 : Ex S0 S46 := Ex_tr hx45 xS
  have h46_a0 := xS _ _ h45_a0
  have h46_a43 := xS _ _ h45_a43
  have h46_a44 := xS _ _ h45_a44
  refine st_gd (fun h => by simp only [SM_N hS46 h46_a43]; exact gvp_in_of h) hQ (fun hQ => ?_)
  intro S47 eS
  obtain ⟨V47, hS47, xS, hQ⟩ := st_sR hS46 h46_a43 eS rfl h46_a44 hQ
  have hx47 : Ex S0 S47 := Ex_tr hx46 xS
  have h47_a0 := xS _ _ h46_a0
  refine st_rd hS47 h47_a0 rfl hQ (fun a48 a48v h47_a48 hQ => ?_)
  intro a49 q_a49 S50 eS
  obtain ⟨V50, a49v, hS50, xS, h50_a49, hQ⟩ := st_nw hS47 q_a49 eS rfl hQ
  have hx50 : Ex S0 S50 := Ex_tr hx47 xS
  have h50_a0 := xS _ _ h47_a0
  have h50_a48 := xS _ _ h47_a48
  refine sim_X7_init n hS50 h50_a49 rfl ?_
  refine gd_mono (gd_bd hQ) (fun _ V51 hQ S51 hS51 xS => ?_) (fun E V9 hQ S9 hS9 xS9 => gd_th hQ S9 hS9 (Ex_tr hx50 xS9))
  have hx51 : Ex S0 S51 := Ex_tr hx50 xS
  have h51_a0 := xS _ _ h50_a0
  have h51_a48 := xS _ _ h50_a48
  have h51_a49 := xS _ _ h50_a49
  refine st_gd (fun h => by simp only [SM_N hS51 h51_a48]; exact gvp_in_of h) hQ (fun hQ => ?_)
  intro S52 eS
  obtain ⟨V52, hS52, xS, hQ⟩ := st_sR hS51 h51_a48 eS rfl h51_a49 hQ
  have hx52 : Ex S0 S52 := Ex_tr hx51 xS
  have h52_a0 := xS _ _ h51_a0
  refine st_rd hS52 h52_a0 rfl hQ (fun a53 a53v h52_a53 hQ => ?_)
  intro a54 q_a54 S55 eS
  obtain ⟨V55, a54v, hS55, xS, h55_a54, hQ⟩ := st_nw hS52 q_a54 eS rfl hQ
  have hx55 : Ex S0 S55 := Ex_tr hx52 xS
  have h55_a53 := xS _ _ h52_a53
  refine sim_X7_init n hS55 h55_a54 rfl ?_
  refine gd_mono (gd_bd hQ) (fun _ V56 hQ S56 hS56 xS => ?_) (fun E V9 hQ S9 hS9 xS9 => gd_th hQ S9 hS9 (Ex_tr hx55 xS9))
  have hx56 : Ex S0 S56 := Ex_tr hx55 xS
  have h56_a53 := xS _ _ h55_a53
  have h56_a54 := xS _ _ h55_a54
  refine st_gd (fun h => by simp only [SM_N hS56 h56_a53]; exact gvp_in_of h) hQ (fun hQ => ?_)
  intro S57 eS
  obtain ⟨V57, hS57, xS, hQ⟩ := st_sR hS56 h56_a53 eS rfl h56_a54 hQ
  have hx57 : Ex S0 S57 := Ex_tr hx56 xS
  exact gd_rt hQ _ hS57 hx57
def ev_X2_init (n : Nat) (V : VS) (a0v : Nat) : Rs Unit := eX2_init_0 n V a0v
theorem sim_X2_init (n : Nat) {Q : MS → Prop} {QX : String → MS → Prop} {S : MS} {V : VS} {a0 a0v : Nat} (hS : SM S V) (h_a0 : Ad S a0 a0v) (hQ : gd (ev_X2_init n V a0v) (SU Q S) (SX QX S)) : wp_X2_init Q QX S a0 := by
  exact sX2_init_0 n hS Ex_rf h_a0 hQ
def eX2_reset_0 (n : Nat) (V : VS) (a0v : Nat) (x1 : Int32) : Rs Unit := sq (wI V a0v 2 0) (fun V1 => sq (wI V1 a0v 4 0) (fun V2 => sq (wI V2 a0v 5 0) (fun V3 => sq (wI V3 a0v 6 (-1)) (fun V4 => sq (wI V4 a0v 7 0) (fun V5 => sq (wI V5 a0v 8 0) (fun V6 => sq (wI V6 a0v 9 x1) (fun V7 => sq (wI V7 a0v 10 x1) (fun V8 => (vR V8 a0v 11).bind (fun a9v => sq (wI V8 a9v 3 0) (fun V10 => rt () V10))))))))))
set_option maxHeartbeats 4000000 in
set_option maxRecDepth 100000 in
theorem sX2_reset_0 (n : Nat) {S0 : MS} {Q : MS → Prop} {QX : String → MS → Prop} {S : MS} {V : VS} {a0 a0v : Nat} {x1 : Int32} (hS : SM S V) (hx : Ex S0 S) (h_a0 : Ad S a0 a0v) (hQ : gd (eX2_reset_0 n V a0v x1) (SU Q S0) (SX QX S0)) : wX2_reset_0 Q QX S a0 x1 := by
  unfold wX2_reset_0
  unfold eX2_reset_0 at hQ
  intro S1 eS
  obtain ⟨V1, hS1, xS, hQ⟩ := st_sI hS h_a0 eS rfl rfl hQ
  have hx1 : Ex S0 S1 := Ex_tr hx xS
  have h1_a0 := xS _ _ h_a0
  intro S2 eS
  obtain ⟨V2, hS2, xS, hQ⟩ := st_sI hS1 h1_a0 eS rfl rfl hQ
  have hx2 : Ex S0 S2 := Ex_tr hx1 xS
  have h2_a0 := xS _ _ h1_a0
  intro S3 eS
  obtain ⟨V3, hS3, xS, hQ⟩ := st_sI hS2 h2_a0 eS rfl rfl hQ
  have hx3 : Ex S0 S3 := Ex_tr hx2 xS
  have h3_a0 := xS _ _ h2_a0
  intro S4 eS
  obtain ⟨V4, hS4, xS, hQ⟩ := st_sI hS3 h3_a0 eS rfl rfl hQ
  have hx4 : Ex S0 S4 := Ex_tr hx3 xS
  have h4_a0 := xS _ _ h3_a0
  intro S5 eS
  obtain ⟨V5, hS5, xS, hQ⟩ := st_sI hS4 h4_a0 eS rfl rfl hQ
  have hx5 : Ex S0 S5 := Ex_tr hx4 xS
  have h5_a0 := xS _ _ h4_a0
  intro S6 eS
  obtain ⟨V6, hS6, xS, hQ⟩ := st_sI hS5 h5_a0 eS rfl rfl hQ
  have hx6 : Ex S0 S6 := Ex_tr hx5 xS
  have h6_a0 := xS _ _ h5_a0
  intro S7 eS
  obtain ⟨V7, hS7, xS, hQ⟩ := st_sI hS6 h6_a0 eS rfl rfl hQ
  have hx7 : Ex S0 S7 := Ex_tr hx6 xS
  have h7_a0 := xS _ _ h6_a0
  intro S8 eS
  obtain ⟨V8, hS8, xS, hQ⟩ := st_sI hS7 h7_a0 eS rfl rfl hQ
  have hx8 : Ex S0 S8 := Ex_tr hx7 xS
  have h8_a0 := xS _ _ h7_a0
  refine st_rd hS8 h8_a0 rfl hQ (fun a9 a9v h8_a9 hQ => ?_)
  intro S10 eS
  obtain ⟨V10, hS10, xS, hQ⟩ := st_sI hS8 h8_a9 eS rfl rfl hQ
  have hx10 : Ex S0 S10 := Ex_tr hx8 xS
  exact gd_rt hQ _ hS10 hx10
def ev_X2_reset (n : Nat) (V : VS) (a0v : Nat) (x1 : Int32) : Rs Unit := eX2_reset_0 n V a0v x1
theorem sim_X2_reset (n : Nat) {Q : MS → Prop} {QX : String → MS → Prop} {S : MS} {V : VS} {a0 a0v : Nat} {x1 x1z : Int32} (hS : SM S V) (h_a0 : Ad S a0 a0v) (e_x1 : x1 = x1z) (hQ : gd (ev_X2_reset n V a0v x1z) (SU Q S) (SX QX S)) : wp_X2_reset Q QX S a0 x1 := by
  subst e_x1
  exact sX2_reset_0 n hS Ex_rf h_a0 hQ
def eX2_copyFrom_21 (n : Nat) (k21v : VS → Nat → Nat → Int32 → Rs Unit) (V : VS) (a0v : Nat) (u1v : Nat) (y2 : Int32) : Rs Unit := (if (vI V a0v 2) ≤ y2 then (vR V u1v 3).bind (fun a1v => (vR V a0v 3).bind (fun a2v => (if (0 : Int32).toNatClampNeg + (8 : Int32).toNatClampNeg ≤ vN V a1v then (if (0 : Int32).toNatClampNeg + (8 : Int32).toNatClampNeg ≤ vN V a2v then sq (wC V a2v a1v ((0 : Int32).toNatClampNeg) ((0 : Int32).toNatClampNeg) ((8 : Int32).toNatClampNeg)) (fun V3 => sq (wI V3 a0v 4 (vI V3 u1v 4)) (fun V4 => sq (wI V4 a0v 5 (vI V4 u1v 5)) (fun V5 => sq (wI V5 a0v 6 (vI V5 u1v 6)) (fun V6 => sq (wI V6 a0v 7 (vI V6 u1v 7)) (fun V7 => sq (wI V7 a0v 8 (vI V7 u1v 8)) (fun V8 => sq (wI V8 a0v 9 (vI V8 u1v 9)) (fun V9 => sq (wI V9 a0v 10 (vI V9 u1v 10)) (fun V10 => (vR V10 a0v 11).bind (fun a11v => (vR V10 u1v 11).bind (fun a12v => bd (ev_X1_copyFrom n V10 a11v a12v) (fun _ V13 => rt () V13) th)))))))))) else none) else none))) else (vR V a0v 1).bind (fun a14v => (if gvp_in y2 (vN V a14v) = true then (vR V a14v ((y2 : Int32).toNatClampNeg)).bind (fun a15v => (vR V u1v 1).bind (fun a16v => (if gvp_in y2 (vN V a16v) = true then (vR V a16v ((y2 : Int32).toNatClampNeg)).bind (fun a17v => bd (ev_X7_copyFrom n V a15v a17v) (fun _ V18 => k21v V18 a0v u1v (y2 + 1)) th) else none))) else none)))
set_option maxHeartbeats 4000000 in
set_option maxRecDepth 100000 in
theorem sX2_copyFrom_21 (n : Nat) {S0 : MS} {Q : MS → Prop} {QX : String → MS → Prop} {k21 : MS → Nat → Nat → Int32 → Prop} {k21v : VS → Nat → Nat → Int32 → Rs Unit} (hk21 : ∀ (S : MS) (V : VS) (p0 p0v : Nat) (p1 p1v : Nat) (p2 : Int32), SM S V → Ex S0 S → Ad S p0 p0v → Ad S p1 p1v → gd (k21v V p0v p1v p2) (SU Q S0) (SX QX S0) → k21 S p0 p1 p2) {S : MS} {V : VS} {a0 a0v : Nat} {u1 u1v : Nat} {y2 : Int32} (hS : SM S V) (hx : Ex S0 S) (h_a0 : Ad S a0 a0v) (h_u1 : Ad S u1 u1v) (hQ : gd (eX2_copyFrom_21 n k21v V a0v u1v y2) (SU Q S0) (SX QX S0)) : wX2_copyFrom_21 Q QX k21 S a0 u1 y2 := by
  unfold wX2_copyFrom_21
  unfold eX2_copyFrom_21 at hQ
  refine st_if (show ((mI S a0 2) ≤ y2) = ((vI V a0v 2) ≤ y2) from by simp only [SM_I hS h_a0]) hQ (fun hQ => ?_) (fun hQ => ?_)
  · refine st_rd hS h_u1 rfl hQ (fun a1 a1v h_a1 hQ => ?_)
    refine st_rd hS h_a0 rfl hQ (fun a2 a2v h_a2 hQ => ?_)
    refine st_gd (fun h => by simp only [SM_N hS h_a1]; exact h) hQ (fun hQ => ?_)
    refine st_gd (fun h => by simp only [SM_N hS h_a2]; exact h) hQ (fun hQ => ?_)
    intro S3 eS
    obtain ⟨V3, hS3, xS, hQ⟩ := st_sIr hS h_a2 h_a1 eS rfl rfl rfl hQ
    have hx3 : Ex S0 S3 := Ex_tr hx xS
    have h3_a0 := xS _ _ h_a0
    have h3_u1 := xS _ _ h_u1
    intro S4 eS
    obtain ⟨V4, hS4, xS, hQ⟩ := st_sI hS3 h3_a0 eS rfl (show ((mI S3 u1 4)) = ((vI V3 u1v 4)) from by simp only [SM_I hS3 h3_u1]) hQ
    have hx4 : Ex S0 S4 := Ex_tr hx3 xS
    have h4_a0 := xS _ _ h3_a0
    have h4_u1 := xS _ _ h3_u1
    intro S5 eS
    obtain ⟨V5, hS5, xS, hQ⟩ := st_sI hS4 h4_a0 eS rfl (show ((mI S4 u1 5)) = ((vI V4 u1v 5)) from by simp only [SM_I hS4 h4_u1]) hQ
    have hx5 : Ex S0 S5 := Ex_tr hx4 xS
    have h5_a0 := xS _ _ h4_a0
    have h5_u1 := xS _ _ h4_u1
    intro S6 eS
    obtain ⟨V6, hS6, xS, hQ⟩ := st_sI hS5 h5_a0 eS rfl (show ((mI S5 u1 6)) = ((vI V5 u1v 6)) from by simp only [SM_I hS5 h5_u1]) hQ
    have hx6 : Ex S0 S6 := Ex_tr hx5 xS
    have h6_a0 := xS _ _ h5_a0
    have h6_u1 := xS _ _ h5_u1
    intro S7 eS
    obtain ⟨V7, hS7, xS, hQ⟩ := st_sI hS6 h6_a0 eS rfl (show ((mI S6 u1 7)) = ((vI V6 u1v 7)) from by simp only [SM_I hS6 h6_u1]) hQ
    have hx7 : Ex S0 S7 := Ex_tr hx6 xS
    have h7_a0 := xS _ _ h6_a0
    have h7_u1 := xS _ _ h6_u1
    intro S8 eS
    obtain ⟨V8, hS8, xS, hQ⟩ := st_sI hS7 h7_a0 eS rfl (show ((mI S7 u1 8)) = ((vI V7 u1v 8)) from by simp only [SM_I hS7 h7_u1]) hQ
    have hx8 : Ex S0 S8 := Ex_tr hx7 xS
    have h8_a0 := xS _ _ h7_a0
    have h8_u1 := xS _ _ h7_u1
    intro S9 eS
    obtain ⟨V9, hS9, xS, hQ⟩ := st_sI hS8 h8_a0 eS rfl (show ((mI S8 u1 9)) = ((vI V8 u1v 9)) from by simp only [SM_I hS8 h8_u1]) hQ
    have hx9 : Ex S0 S9 := Ex_tr hx8 xS
    have h9_a0 := xS _ _ h8_a0
    have h9_u1 := xS _ _ h8_u1
    intro S10 eS
    obtain ⟨V10, hS10, xS, hQ⟩ := st_sI hS9 h9_a0 eS rfl (show ((mI S9 u1 10)) = ((vI V9 u1v 10)) from by simp only [SM_I hS9 h9_u1]) hQ
    have hx10 : Ex S0 S10 := Ex_tr hx9 xS
    have h10_a0 := xS _ _ h9_a0
    have h10_u1 := xS _ _ h9_u1
    refine st_rd hS10 h10_a0 rfl hQ (fun a11 a11v h10_a11 hQ => ?_)
    refine st_rd hS10 h10_u1 rfl hQ (fun a12 a12v h10_a12 hQ => ?_)
    refine sim_X1_copyFrom n hS10 h10_a11 h10_a12 ?_
    refine gd_mono (gd_bd hQ) (fun _ V13 hQ S13 hS13 xS => ?_) (fun E V9 hQ S9 hS9 xS9 => gd_th hQ S9 hS9 (Ex_tr hx10 xS9))
    have hx13 : Ex S0 S13 := Ex_tr hx10 xS
    exact gd_rt hQ _ hS13 hx13
  · refine st_rd hS h_a0 rfl hQ (fun a14 a14v h_a14 hQ => ?_)
    refine st_gd (fun h => by simp only [SM_N hS h_a14]; exact gvp_in_of h) hQ (fun hQ => ?_)
    refine st_rd hS h_a14 rfl hQ (fun a15 a15v h_a15 hQ => ?_)
    refine st_rd hS h_u1 rfl hQ (fun a16 a16v h_a16 hQ => ?_)
    refine st_gd (fun h => by simp only [SM_N hS h_a16]; exact gvp_in_of h) hQ (fun hQ => ?_)
    refine st_rd hS h_a16 rfl hQ (fun a17 a17v h_a17 hQ => ?_)
    refine sim_X7_copyFrom n hS h_a15 h_a17 ?_
    refine gd_mono (gd_bd hQ) (fun _ V18 hQ S18 hS18 xS => ?_) (fun E V9 hQ S9 hS9 xS9 => gd_th hQ S9 hS9 (Ex_tr hx xS9))
    have hx18 : Ex S0 S18 := Ex_tr hx xS
    have h18_a0 := xS _ _ h_a0
    have h18_u1 := xS _ _ h_u1
    exact hk21 _ _ _ _ _ _ _ hS18 hx18 h18_a0 h18_u1 hQ
def elX2_copyFrom_21 (n : Nat) : Nat → VS → Nat → Nat → Int32 → Rs Unit
  | 0 => fun _ _ _ _ => none
  | m + 1 => fun V a0v u1v y2 => eX2_copyFrom_21 n (elX2_copyFrom_21 n m) V a0v u1v y2
theorem selX2_copyFrom_21 (n : Nat) {S0 : MS} {Q : MS → Prop} {QX : String → MS → Prop} : ∀ (m : Nat), ∀ (S : MS) (V : VS) (p0 p0v : Nat) (p1 p1v : Nat) (p2 : Int32), SM S V → Ex S0 S → Ad S p0 p0v → Ad S p1 p1v → gd (elX2_copyFrom_21 n m V p0v p1v p2) (SU Q S0) (SX QX S0) → lX2_copyFrom_21 Q QX m S p0 p1 p2 := by
  intro m
  induction m with
  | zero => intro S V p0 p0v p1 p1v p2 hS hx q0 q1 hQ; exact (gd_none hQ).elim
  | succ m ih => intro S V p0 p0v p1 p1v p2 hS hx q0 q1 hQ; exact sX2_copyFrom_21 n ih hS hx q0 q1 hQ
def eX2_copyFrom_0 (n : Nat) (V : VS) (a0v : Nat) (b1v : Nat) : Rs Unit := (vR V a0v 0).bind (fun a1v => (vR V b1v 0).bind (fun a2v => bd (ev_X3_copyFrom n V a1v a2v) (fun _ V3 => sq (wI V3 a0v 2 (vI V3 b1v 2)) (fun V4 => elX2_copyFrom_21 n n V4 a0v b1v 0)) th))
set_option maxHeartbeats 4000000 in
set_option maxRecDepth 100000 in
theorem sX2_copyFrom_0 (n : Nat) {S0 : MS} {Q : MS → Prop} {QX : String → MS → Prop} {S : MS} {V : VS} {a0 a0v : Nat} {b1 b1v : Nat} (hS : SM S V) (hx : Ex S0 S) (h_a0 : Ad S a0 a0v) (h_b1 : Ad S b1 b1v) (hQ : gd (eX2_copyFrom_0 n V a0v b1v) (SU Q S0) (SX QX S0)) : wX2_copyFrom_0 Q QX S a0 b1 := by
  unfold wX2_copyFrom_0
  unfold eX2_copyFrom_0 at hQ
  refine st_rd hS h_a0 rfl hQ (fun a1 a1v h_a1 hQ => ?_)
  refine st_rd hS h_b1 rfl hQ (fun a2 a2v h_a2 hQ => ?_)
  refine sim_X3_copyFrom n hS h_a1 h_a2 ?_
  refine gd_mono (gd_bd hQ) (fun _ V3 hQ S3 hS3 xS => ?_) (fun E V9 hQ S9 hS9 xS9 => gd_th hQ S9 hS9 (Ex_tr hx xS9))
  have hx3 : Ex S0 S3 := Ex_tr hx xS
  have h3_a0 := xS _ _ h_a0
  have h3_b1 := xS _ _ h_b1
  intro S4 eS
  obtain ⟨V4, hS4, xS, hQ⟩ := st_sI hS3 h3_a0 eS rfl (show ((mI S3 b1 2)) = ((vI V3 b1v 2)) from by simp only [SM_I hS3 h3_b1]) hQ
  have hx4 : Ex S0 S4 := Ex_tr hx3 xS
  have h4_a0 := xS _ _ h3_a0
  have h4_b1 := xS _ _ h3_b1
  refine ⟨n, ?_⟩
  exact selX2_copyFrom_21 n n _ _ _ _ _ _ _ hS4 hx4 h4_a0 h4_b1 hQ
def ev_X2_copyFrom (n : Nat) (V : VS) (a0v : Nat) (b1v : Nat) : Rs Unit := eX2_copyFrom_0 n V a0v b1v
theorem sim_X2_copyFrom (n : Nat) {Q : MS → Prop} {QX : String → MS → Prop} {S : MS} {V : VS} {a0 a0v : Nat} {b1 b1v : Nat} (hS : SM S V) (h_a0 : Ad S a0 a0v) (h_b1 : Ad S b1 b1v) (hQ : gd (ev_X2_copyFrom n V a0v b1v) (SU Q S) (SX QX S)) : wp_X2_copyFrom Q QX S a0 b1 := by
  exact sX2_copyFrom_0 n hS Ex_rf h_a0 h_b1 hQ
def eX2_enlist_0 (n : Nat) (V : VS) (a0v : Nat) (x1 : Int32) (x2 : Int32) (x3 : Int32) : Rs Int32 := (if (vI V a0v 2) < 8 then (vR V a0v 1).bind (fun a1v => (if gvp_in (vI V a0v 2) (vN V a1v) = true then (vR V a1v (((vI V a0v 2) : Int32).toNatClampNeg)).bind (fun a2v => bd (ev_X7_enter n V a2v x1 x2 x3) (fun _ V3 => sq (wI V3 a0v 2 ((vI V3 a0v 2) + 1)) (fun V4 => rt ((vI V4 a0v 2) - 1) V4)) th) else none)) else rt (-1) V)
set_option maxHeartbeats 4000000 in
set_option maxRecDepth 100000 in
theorem sX2_enlist_0 (n : Nat) {S0 : MS} {Q : Int32 → MS → Prop} {QX : String → MS → Prop} {S : MS} {V : VS} {a0 a0v : Nat} {x1 : Int32} {x2 : Int32} {x3 : Int32} (hS : SM S V) (hx : Ex S0 S) (h_a0 : Ad S a0 a0v) (hQ : gd (eX2_enlist_0 n V a0v x1 x2 x3) (SQ Q S0) (SX QX S0)) : wX2_enlist_0 Q QX S a0 x1 x2 x3 := by
  unfold wX2_enlist_0
  unfold eX2_enlist_0 at hQ
  refine st_if (show ((mI S a0 2) < 8) = ((vI V a0v 2) < 8) from by simp only [SM_I hS h_a0]) hQ (fun hQ => ?_) (fun hQ => ?_)
  · refine st_rd hS h_a0 rfl hQ (fun a1 a1v h_a1 hQ => ?_)
    refine st_gd (fun h => by simp only [SM_I hS h_a0, SM_N hS h_a1]; exact gvp_in_of h) hQ (fun hQ => ?_)
    refine st_rd hS h_a1 (show (((mI S a0 2) : Int32).toNatClampNeg) = (((vI V a0v 2) : Int32).toNatClampNeg) from by simp only [SM_I hS h_a0]) hQ (fun a2 a2v h_a2 hQ => ?_)
    refine sim_X7_enter n hS h_a2 rfl rfl rfl ?_
    refine gd_mono (gd_bd hQ) (fun _ V3 hQ S3 hS3 xS => ?_) (fun E V9 hQ S9 hS9 xS9 => gd_th hQ S9 hS9 (Ex_tr hx xS9))
    have hx3 : Ex S0 S3 := Ex_tr hx xS
    have h3_a0 := xS _ _ h_a0
    intro S4 eS
    obtain ⟨V4, hS4, xS, hQ⟩ := st_sI hS3 h3_a0 eS rfl (show (((mI S3 a0 2) + 1)) = (((vI V3 a0v 2) + 1)) from by simp only [SM_I hS3 h3_a0]) hQ
    have hx4 : Ex S0 S4 := Ex_tr hx3 xS
    have h4_a0 := xS _ _ h3_a0
    simp only [SM_I hS4 h4_a0]
    exact gd_rt hQ _ hS4 hx4
  · exact gd_rt hQ _ hS hx
def ev_X2_enlist (n : Nat) (V : VS) (a0v : Nat) (x1 : Int32) (x2 : Int32) (x3 : Int32) : Rs Int32 := eX2_enlist_0 n V a0v x1 x2 x3
theorem sim_X2_enlist (n : Nat) {Q : Int32 → MS → Prop} {QX : String → MS → Prop} {S : MS} {V : VS} {a0 a0v : Nat} {x1 x1z : Int32} {x2 x2z : Int32} {x3 x3z : Int32} (hS : SM S V) (h_a0 : Ad S a0 a0v) (e_x1 : x1 = x1z) (e_x2 : x2 = x2z) (e_x3 : x3 = x3z) (hQ : gd (ev_X2_enlist n V a0v x1z x2z x3z) (SQ Q S) (SX QX S)) : wp_X2_enlist Q QX S a0 x1 x2 x3 := by
  subst e_x1 e_x2 e_x3
  exact sX2_enlist_0 n hS Ex_rf h_a0 hQ
def eX2_prepareLike_21 (n : Nat) (k21v : VS → Nat → Nat → Int32 → Rs Unit) (V : VS) (a0v : Nat) (u1v : Nat) (y2 : Int32) : Rs Unit := (if (vI V u1v 2) ≤ y2 then rt () V else (vR V u1v 1).bind (fun a1v => (if gvp_in y2 (vN V a1v) = true then (vR V a1v ((y2 : Int32).toNatClampNeg)).bind (fun a2v => bd (ev_X2_enlist n V a0v (vI V a2v 1) (vI V a2v 2) (vI V a2v 3)) (fun r4 V3 => k21v V3 a0v u1v (y2 + 1)) th) else none)))
set_option maxHeartbeats 4000000 in
set_option maxRecDepth 100000 in
theorem sX2_prepareLike_21 (n : Nat) {S0 : MS} {Q : MS → Prop} {QX : String → MS → Prop} {k21 : MS → Nat → Nat → Int32 → Prop} {k21v : VS → Nat → Nat → Int32 → Rs Unit} (hk21 : ∀ (S : MS) (V : VS) (p0 p0v : Nat) (p1 p1v : Nat) (p2 : Int32), SM S V → Ex S0 S → Ad S p0 p0v → Ad S p1 p1v → gd (k21v V p0v p1v p2) (SU Q S0) (SX QX S0) → k21 S p0 p1 p2) {S : MS} {V : VS} {a0 a0v : Nat} {u1 u1v : Nat} {y2 : Int32} (hS : SM S V) (hx : Ex S0 S) (h_a0 : Ad S a0 a0v) (h_u1 : Ad S u1 u1v) (hQ : gd (eX2_prepareLike_21 n k21v V a0v u1v y2) (SU Q S0) (SX QX S0)) : wX2_prepareLike_21 Q QX k21 S a0 u1 y2 := by
  unfold wX2_prepareLike_21
  unfold eX2_prepareLike_21 at hQ
  refine st_if (show ((mI S u1 2) ≤ y2) = ((vI V u1v 2) ≤ y2) from by simp only [SM_I hS h_u1]) hQ (fun hQ => ?_) (fun hQ => ?_)
  · exact gd_rt hQ _ hS hx
  · refine st_rd hS h_u1 rfl hQ (fun a1 a1v h_a1 hQ => ?_)
    refine st_gd (fun h => by simp only [SM_N hS h_a1]; exact gvp_in_of h) hQ (fun hQ => ?_)
    refine st_rd hS h_a1 rfl hQ (fun a2 a2v h_a2 hQ => ?_)
    refine sim_X2_enlist n hS h_a0 (show ((mI S a2 1)) = ((vI V a2v 1)) from by simp only [SM_I hS h_a2]) (show ((mI S a2 2)) = ((vI V a2v 2)) from by simp only [SM_I hS h_a2]) (show ((mI S a2 3)) = ((vI V a2v 3)) from by simp only [SM_I hS h_a2]) ?_
    refine gd_mono (gd_bd hQ) (fun r4 V3 hQ S3 hS3 xS => ?_) (fun E V9 hQ S9 hS9 xS9 => gd_th hQ S9 hS9 (Ex_tr hx xS9))
    have hx3 : Ex S0 S3 := Ex_tr hx xS
    have h3_a0 := xS _ _ h_a0
    have h3_u1 := xS _ _ h_u1
    exact hk21 _ _ _ _ _ _ _ hS3 hx3 h3_a0 h3_u1 hQ
def elX2_prepareLike_21 (n : Nat) : Nat → VS → Nat → Nat → Int32 → Rs Unit
  | 0 => fun _ _ _ _ => none
  | m + 1 => fun V a0v u1v y2 => eX2_prepareLike_21 n (elX2_prepareLike_21 n m) V a0v u1v y2
theorem selX2_prepareLike_21 (n : Nat) {S0 : MS} {Q : MS → Prop} {QX : String → MS → Prop} : ∀ (m : Nat), ∀ (S : MS) (V : VS) (p0 p0v : Nat) (p1 p1v : Nat) (p2 : Int32), SM S V → Ex S0 S → Ad S p0 p0v → Ad S p1 p1v → gd (elX2_prepareLike_21 n m V p0v p1v p2) (SU Q S0) (SX QX S0) → lX2_prepareLike_21 Q QX m S p0 p1 p2 := by
  intro m
  induction m with
  | zero => intro S V p0 p0v p1 p1v p2 hS hx q0 q1 hQ; exact (gd_none hQ).elim
  | succ m ih => intro S V p0 p0v p1 p1v p2 hS hx q0 q1 hQ; exact sX2_prepareLike_21 n ih hS hx q0 q1 hQ
def eX2_prepareLike_0 (n : Nat) (V : VS) (a0v : Nat) (b1v : Nat) : Rs Unit := bd (ev_X2_reset n V a0v (vI V b1v 9)) (fun _ V1 => (vR V1 a0v 0).bind (fun a2v => (vR V1 b1v 0).bind (fun a3v => bd (ev_X3_copyFrom n V1 a2v a3v) (fun _ V4 => elX2_prepareLike_21 n n V4 a0v b1v 0) th))) th
set_option maxHeartbeats 4000000 in
set_option maxRecDepth 100000 in
theorem sX2_prepareLike_0 (n : Nat) {S0 : MS} {Q : MS → Prop} {QX : String → MS → Prop} {S : MS} {V : VS} {a0 a0v : Nat} {b1 b1v : Nat} (hS : SM S V) (hx : Ex S0 S) (h_a0 : Ad S a0 a0v) (h_b1 : Ad S b1 b1v) (hQ : gd (eX2_prepareLike_0 n V a0v b1v) (SU Q S0) (SX QX S0)) : wX2_prepareLike_0 Q QX S a0 b1 := by
  unfold wX2_prepareLike_0
  unfold eX2_prepareLike_0 at hQ
  refine sim_X2_reset n hS h_a0 (show ((mI S b1 9)) = ((vI V b1v 9)) from by simp only [SM_I hS h_b1]) ?_
  refine gd_mono (gd_bd hQ) (fun _ V1 hQ S1 hS1 xS => ?_) (fun E V9 hQ S9 hS9 xS9 => gd_th hQ S9 hS9 (Ex_tr hx xS9))
  have hx1 : Ex S0 S1 := Ex_tr hx xS
  have h1_a0 := xS _ _ h_a0
  have h1_b1 := xS _ _ h_b1
  refine st_rd hS1 h1_a0 rfl hQ (fun a2 a2v h1_a2 hQ => ?_)
  refine st_rd hS1 h1_b1 rfl hQ (fun a3 a3v h1_a3 hQ => ?_)
  refine sim_X3_copyFrom n hS1 h1_a2 h1_a3 ?_
  refine gd_mono (gd_bd hQ) (fun _ V4 hQ S4 hS4 xS => ?_) (fun E V9 hQ S9 hS9 xS9 => gd_th hQ S9 hS9 (Ex_tr hx1 xS9))
  have hx4 : Ex S0 S4 := Ex_tr hx1 xS
  have h4_a0 := xS _ _ h1_a0
  have h4_b1 := xS _ _ h1_b1
  refine ⟨n, ?_⟩
  exact selX2_prepareLike_21 n n _ _ _ _ _ _ _ hS4 hx4 h4_a0 h4_b1 hQ
def ev_X2_prepareLike (n : Nat) (V : VS) (a0v : Nat) (b1v : Nat) : Rs Unit := eX2_prepareLike_0 n V a0v b1v
theorem sim_X2_prepareLike (n : Nat) {Q : MS → Prop} {QX : String → MS → Prop} {S : MS} {V : VS} {a0 a0v : Nat} {b1 b1v : Nat} (hS : SM S V) (h_a0 : Ad S a0 a0v) (h_b1 : Ad S b1 b1v) (hQ : gd (ev_X2_prepareLike n V a0v b1v) (SU Q S) (SX QX S)) : wp_X2_prepareLike Q QX S a0 b1 := by
  exact sX2_prepareLike_0 n hS Ex_rf h_a0 h_b1 hQ
def eX2_isSameAs_117 (n : Nat) (k117v : VS → Nat → Nat → Int32 → Rs Int32) (V : VS) (a0v : Nat) (u1v : Nat) (y2 : Int32) : Rs Int32 := (if (vI V a0v 4) ≤ y2 then (vR V a0v 11).bind (fun a1v => (vR V u1v 11).bind (fun a2v => bd (ev_X1_isSameAs n V a1v a2v) (fun r4 V3 => (if gisZ r4 = true then rt r4 V3 else none)) th)) else (vR V a0v 3).bind (fun a5v => (if gvp_in y2 (vN V a5v) = true then (vR V u1v 3).bind (fun a6v => (if gvp_in y2 (vN V a6v) = true then (if (vI V a5v (y2 : Int32).toNatClampNeg) = (vI V a6v (y2 : Int32).toNatClampNeg) then k117v V a0v u1v (y2 + 1) else rt 0 V) else none)) else none)))
set_option maxHeartbeats 4000000 in
set_option maxRecDepth 100000 in
theorem sX2_isSameAs_117 (n : Nat) {S0 : MS} {Q : Int32 → MS → Prop} {QX : String → MS → Prop} {k117 : MS → Nat → Nat → Int32 → Prop} {k117v : VS → Nat → Nat → Int32 → Rs Int32} (hk117 : ∀ (S : MS) (V : VS) (p0 p0v : Nat) (p1 p1v : Nat) (p2 : Int32), SM S V → Ex S0 S → Ad S p0 p0v → Ad S p1 p1v → gd (k117v V p0v p1v p2) (SQ Q S0) (SX QX S0) → k117 S p0 p1 p2) {S : MS} {V : VS} {a0 a0v : Nat} {u1 u1v : Nat} {y2 : Int32} (hS : SM S V) (hx : Ex S0 S) (h_a0 : Ad S a0 a0v) (h_u1 : Ad S u1 u1v) (hQ : gd (eX2_isSameAs_117 n k117v V a0v u1v y2) (SQ Q S0) (SX QX S0)) : wX2_isSameAs_117 Q QX k117 S a0 u1 y2 := by
  unfold wX2_isSameAs_117
  unfold eX2_isSameAs_117 at hQ
  refine st_if (show ((mI S a0 4) ≤ y2) = ((vI V a0v 4) ≤ y2) from by simp only [SM_I hS h_a0]) hQ (fun hQ => ?_) (fun hQ => ?_)
  · refine st_rd hS h_a0 rfl hQ (fun a1 a1v h_a1 hQ => ?_)
    refine st_rd hS h_u1 rfl hQ (fun a2 a2v h_a2 hQ => ?_)
    refine sim_X1_isSameAs n hS h_a1 h_a2 ?_
    refine gd_mono (gd_bd hQ) (fun r4 V3 hQ S3 hS3 xS => ?_) (fun E V9 hQ S9 hS9 xS9 => gd_th hQ S9 hS9 (Ex_tr hx xS9))
    have hx3 : Ex S0 S3 := Ex_tr hx xS
    refine st_gd (fun h => by exact gisZ_of h) hQ (fun hQ => ?_)
    exact gd_rt hQ _ hS3 hx3
  · refine st_rd hS h_a0 rfl hQ (fun a5 a5v h_a5 hQ => ?_)
    refine st_gd (fun h => by simp only [SM_N hS h_a5]; exact gvp_in_of h) hQ (fun hQ => ?_)
    refine st_rd hS h_u1 rfl hQ (fun a6 a6v h_a6 hQ => ?_)
    refine st_gd (fun h => by simp only [SM_N hS h_a6]; exact gvp_in_of h) hQ (fun hQ => ?_)
    refine st_if (show ((mI S a5 (y2 : Int32).toNatClampNeg) = (mI S a6 (y2 : Int32).toNatClampNeg)) = ((vI V a5v (y2 : Int32).toNatClampNeg) = (vI V a6v (y2 : Int32).toNatClampNeg)) from by simp only [SM_I hS h_a5, SM_I hS h_a6]) hQ (fun hQ => ?_) (fun hQ => ?_)
    · exact hk117 _ _ _ _ _ _ _ hS hx h_a0 h_u1 hQ
    · exact gd_rt hQ _ hS hx
def elX2_isSameAs_117 (n : Nat) : Nat → VS → Nat → Nat → Int32 → Rs Int32
  | 0 => fun _ _ _ _ => none
  | m + 1 => fun V a0v u1v y2 => eX2_isSameAs_117 n (elX2_isSameAs_117 n m) V a0v u1v y2
theorem selX2_isSameAs_117 (n : Nat) {S0 : MS} {Q : Int32 → MS → Prop} {QX : String → MS → Prop} : ∀ (m : Nat), ∀ (S : MS) (V : VS) (p0 p0v : Nat) (p1 p1v : Nat) (p2 : Int32), SM S V → Ex S0 S → Ad S p0 p0v → Ad S p1 p1v → gd (elX2_isSameAs_117 n m V p0v p1v p2) (SQ Q S0) (SX QX S0) → lX2_isSameAs_117 Q QX m S p0 p1 p2 := by
  intro m
  induction m with
  | zero => intro S V p0 p0v p1 p1v p2 hS hx q0 q1 hQ; exact (gd_none hQ).elim
  | succ m ih => intro S V p0 p0v p1 p1v p2 hS hx q0 q1 hQ; exact sX2_isSameAs_117 n ih hS hx q0 q1 hQ
def eX2_isSameAs_81 (n : Nat) (k81v : VS → Nat → Nat → Int32 → Rs Int32) (V : VS) (a0v : Nat) (u1v : Nat) (y2 : Int32) : Rs Int32 := (if (vI V a0v 2) ≤ y2 then elX2_isSameAs_117 n n V a0v u1v 0 else (vR V a0v 1).bind (fun a1v => (if gvp_in y2 (vN V a1v) = true then (vR V a1v ((y2 : Int32).toNatClampNeg)).bind (fun a2v => (vR V u1v 1).bind (fun a3v => (if gvp_in y2 (vN V a3v) = true then (vR V a3v ((y2 : Int32).toNatClampNeg)).bind (fun a4v => bd (ev_X7_isSameAs n V a2v a4v) (fun r6 V5 => (if r6 = 0 then rt 0 V5 else k81v V5 a0v u1v (y2 + 1))) th) else none))) else none)))
set_option maxHeartbeats 4000000 in
set_option maxRecDepth 100000 in
theorem sX2_isSameAs_81 (n : Nat) {S0 : MS} {Q : Int32 → MS → Prop} {QX : String → MS → Prop} {k81 : MS → Nat → Nat → Int32 → Prop} {k81v : VS → Nat → Nat → Int32 → Rs Int32} (hk81 : ∀ (S : MS) (V : VS) (p0 p0v : Nat) (p1 p1v : Nat) (p2 : Int32), SM S V → Ex S0 S → Ad S p0 p0v → Ad S p1 p1v → gd (k81v V p0v p1v p2) (SQ Q S0) (SX QX S0) → k81 S p0 p1 p2) {S : MS} {V : VS} {a0 a0v : Nat} {u1 u1v : Nat} {y2 : Int32} (hS : SM S V) (hx : Ex S0 S) (h_a0 : Ad S a0 a0v) (h_u1 : Ad S u1 u1v) (hQ : gd (eX2_isSameAs_81 n k81v V a0v u1v y2) (SQ Q S0) (SX QX S0)) : wX2_isSameAs_81 Q QX k81 S a0 u1 y2 := by
  unfold wX2_isSameAs_81
  unfold eX2_isSameAs_81 at hQ
  refine st_if (show ((mI S a0 2) ≤ y2) = ((vI V a0v 2) ≤ y2) from by simp only [SM_I hS h_a0]) hQ (fun hQ => ?_) (fun hQ => ?_)
  · refine ⟨n, ?_⟩
    exact selX2_isSameAs_117 n n _ _ _ _ _ _ _ hS hx h_a0 h_u1 hQ
  · refine st_rd hS h_a0 rfl hQ (fun a1 a1v h_a1 hQ => ?_)
    refine st_gd (fun h => by simp only [SM_N hS h_a1]; exact gvp_in_of h) hQ (fun hQ => ?_)
    refine st_rd hS h_a1 rfl hQ (fun a2 a2v h_a2 hQ => ?_)
    refine st_rd hS h_u1 rfl hQ (fun a3 a3v h_a3 hQ => ?_)
    refine st_gd (fun h => by simp only [SM_N hS h_a3]; exact gvp_in_of h) hQ (fun hQ => ?_)
    refine st_rd hS h_a3 rfl hQ (fun a4 a4v h_a4 hQ => ?_)
    refine sim_X7_isSameAs n hS h_a2 h_a4 ?_
    refine gd_mono (gd_bd hQ) (fun r6 V5 hQ S5 hS5 xS => ?_) (fun E V9 hQ S9 hS9 xS9 => gd_th hQ S9 hS9 (Ex_tr hx xS9))
    have hx5 : Ex S0 S5 := Ex_tr hx xS
    have h5_a0 := xS _ _ h_a0
    have h5_u1 := xS _ _ h_u1
    refine st_ifn rfl hQ (fun hQ => ?_) (fun hQ => ?_)
    · exact hk81 _ _ _ _ _ _ _ hS5 hx5 h5_a0 h5_u1 hQ
    · exact gd_rt hQ _ hS5 hx5
def elX2_isSameAs_81 (n : Nat) : Nat → VS → Nat → Nat → Int32 → Rs Int32
  | 0 => fun _ _ _ _ => none
  | m + 1 => fun V a0v u1v y2 => eX2_isSameAs_81 n (elX2_isSameAs_81 n m) V a0v u1v y2
theorem selX2_isSameAs_81 (n : Nat) {S0 : MS} {Q : Int32 → MS → Prop} {QX : String → MS → Prop} : ∀ (m : Nat), ∀ (S : MS) (V : VS) (p0 p0v : Nat) (p1 p1v : Nat) (p2 : Int32), SM S V → Ex S0 S → Ad S p0 p0v → Ad S p1 p1v → gd (elX2_isSameAs_81 n m V p0v p1v p2) (SQ Q S0) (SX QX S0) → lX2_isSameAs_81 Q QX m S p0 p1 p2 := by
  intro m
  induction m with
  | zero => intro S V p0 p0v p1 p1v p2 hS hx q0 q1 hQ; exact (gd_none hQ).elim
  | succ m ih => intro S V p0 p0v p1 p1v p2 hS hx q0 q1 hQ; exact sX2_isSameAs_81 n ih hS hx q0 q1 hQ
def eX2_isSameAs_0 (n : Nat) (V : VS) (a0v : Nat) (b1v : Nat) : Rs Int32 := (if (vI V a0v 2) = (vI V b1v 2) then (if (vI V a0v 4) = (vI V b1v 4) then (if (vI V a0v 5) = (vI V b1v 5) then (if (vI V a0v 6) = (vI V b1v 6) then (if (vI V a0v 7) = (vI V b1v 7) then (if (vI V a0v 8) = (vI V b1v 8) then (if (vI V a0v 10) = (vI V b1v 10) then elX2_isSameAs_81 n n V a0v b1v 0 else rt 0 V) else rt 0 V) else rt 0 V) else rt 0 V) else rt 0 V) else rt 0 V) else rt 0 V)
set_option maxHeartbeats 4000000 in
set_option maxRecDepth 100000 in
theorem sX2_isSameAs_0 (n : Nat) {S0 : MS} {Q : Int32 → MS → Prop} {QX : String → MS → Prop} {S : MS} {V : VS} {a0 a0v : Nat} {b1 b1v : Nat} (hS : SM S V) (hx : Ex S0 S) (h_a0 : Ad S a0 a0v) (h_b1 : Ad S b1 b1v) (hQ : gd (eX2_isSameAs_0 n V a0v b1v) (SQ Q S0) (SX QX S0)) : wX2_isSameAs_0 Q QX S a0 b1 := by
  unfold wX2_isSameAs_0
  unfold eX2_isSameAs_0 at hQ
  refine st_ifn (show ((mI S a0 2) = (mI S b1 2)) = ((vI V a0v 2) = (vI V b1v 2)) from by simp only [SM_I hS h_a0, SM_I hS h_b1]) hQ (fun hQ => ?_) (fun hQ => ?_)
  · exact gd_rt hQ _ hS hx
  · refine st_ifn (show ((mI S a0 4) = (mI S b1 4)) = ((vI V a0v 4) = (vI V b1v 4)) from by simp only [SM_I hS h_a0, SM_I hS h_b1]) hQ (fun hQ => ?_) (fun hQ => ?_)
    · exact gd_rt hQ _ hS hx
    · refine st_ifn (show ((mI S a0 5) = (mI S b1 5)) = ((vI V a0v 5) = (vI V b1v 5)) from by simp only [SM_I hS h_a0, SM_I hS h_b1]) hQ (fun hQ => ?_) (fun hQ => ?_)
      · exact gd_rt hQ _ hS hx
      · refine st_ifn (show ((mI S a0 6) = (mI S b1 6)) = ((vI V a0v 6) = (vI V b1v 6)) from by simp only [SM_I hS h_a0, SM_I hS h_b1]) hQ (fun hQ => ?_) (fun hQ => ?_)
        · exact gd_rt hQ _ hS hx
        · refine st_ifn (show ((mI S a0 7) = (mI S b1 7)) = ((vI V a0v 7) = (vI V b1v 7)) from by simp only [SM_I hS h_a0, SM_I hS h_b1]) hQ (fun hQ => ?_) (fun hQ => ?_)
          · exact gd_rt hQ _ hS hx
          · refine st_ifn (show ((mI S a0 8) = (mI S b1 8)) = ((vI V a0v 8) = (vI V b1v 8)) from by simp only [SM_I hS h_a0, SM_I hS h_b1]) hQ (fun hQ => ?_) (fun hQ => ?_)
            · exact gd_rt hQ _ hS hx
            · refine st_if (show ((mI S a0 10) = (mI S b1 10)) = ((vI V a0v 10) = (vI V b1v 10)) from by simp only [SM_I hS h_a0, SM_I hS h_b1]) hQ (fun hQ => ?_) (fun hQ => ?_)
              · refine ⟨n, ?_⟩
                exact selX2_isSameAs_81 n n _ _ _ _ _ _ _ hS hx h_a0 h_b1 hQ
              · exact gd_rt hQ _ hS hx
def ev_X2_isSameAs (n : Nat) (V : VS) (a0v : Nat) (b1v : Nat) : Rs Int32 := eX2_isSameAs_0 n V a0v b1v
theorem sim_X2_isSameAs (n : Nat) {Q : Int32 → MS → Prop} {QX : String → MS → Prop} {S : MS} {V : VS} {a0 a0v : Nat} {b1 b1v : Nat} (hS : SM S V) (h_a0 : Ad S a0 a0v) (h_b1 : Ad S b1 b1v) (hQ : gd (ev_X2_isSameAs n V a0v b1v) (SQ Q S) (SX QX S)) : wp_X2_isSameAs Q QX S a0 b1 := by
  exact sX2_isSameAs_0 n hS Ex_rf h_a0 h_b1 hQ
def eX2_hasBegun_0 (n : Nat) (V : VS) (a0v : Nat) : Rs Int32 := (if (vI V a0v 8) ≤ 0 then rt 0 V else rt 1 V)
set_option maxHeartbeats 4000000 in
set_option maxRecDepth 100000 in
theorem sX2_hasBegun_0 (n : Nat) {S0 : MS} {Q : Int32 → MS → Prop} {QX : String → MS → Prop} {S : MS} {V : VS} {a0 a0v : Nat} (hS : SM S V) (hx : Ex S0 S) (h_a0 : Ad S a0 a0v) (hQ : gd (eX2_hasBegun_0 n V a0v) (SQ Q S0) (SX QX S0)) : wX2_hasBegun_0 Q QX S a0 := by
  unfold wX2_hasBegun_0
  unfold eX2_hasBegun_0 at hQ
  refine st_if (show ((mI S a0 8) ≤ 0) = ((vI V a0v 8) ≤ 0) from by simp only [SM_I hS h_a0]) hQ (fun hQ => ?_) (fun hQ => ?_)
  · exact gd_rt hQ _ hS hx
  · exact gd_rt hQ _ hS hx
def ev_X2_hasBegun (n : Nat) (V : VS) (a0v : Nat) : Rs Int32 := eX2_hasBegun_0 n V a0v
theorem sim_X2_hasBegun (n : Nat) {Q : Int32 → MS → Prop} {QX : String → MS → Prop} {S : MS} {V : VS} {a0 a0v : Nat} (hS : SM S V) (h_a0 : Ad S a0 a0v) (hQ : gd (ev_X2_hasBegun n V a0v) (SQ Q S) (SX QX S)) : wp_X2_hasBegun Q QX S a0 := by
  exact sX2_hasBegun_0 n hS Ex_rf h_a0 hQ
def eX2_hasLiving_2 (n : Nat) (k2v : VS → Nat → Int32 → Int32 → Rs Int32) (V : VS) (a0v : Nat) (y1 : Int32) (y2 : Int32) : Rs Int32 := (if (vI V a0v 2) ≤ y2 then rt 0 V else (vR V a0v 1).bind (fun a1v => (if gvp_in y2 (vN V a1v) = true then (vR V a1v ((y2 : Int32).toNatClampNeg)).bind (fun a2v => (if (vI V a2v 1) = y1 then (vR V a0v 1).bind (fun a3v => (if gvp_in y2 (vN V a3v) = true then (vR V a3v ((y2 : Int32).toNatClampNeg)).bind (fun a4v => bd (ev_X7_lives n V a4v) (fun r6 V5 => (if r6 = 0 then k2v V5 a0v y1 (y2 + 1) else rt 1 V5)) th) else none)) else k2v V a0v y1 (y2 + 1))) else none)))
set_option maxHeartbeats 4000000 in
set_option maxRecDepth 100000 in
theorem sX2_hasLiving_2 (n : Nat) {S0 : MS} {Q : Int32 → MS → Prop} {QX : String → MS → Prop} {k2 : MS → Nat → Int32 → Int32 → Prop} {k2v : VS → Nat → Int32 → Int32 → Rs Int32} (hk2 : ∀ (S : MS) (V : VS) (p0 p0v : Nat) (p1 : Int32) (p2 : Int32), SM S V → Ex S0 S → Ad S p0 p0v → gd (k2v V p0v p1 p2) (SQ Q S0) (SX QX S0) → k2 S p0 p1 p2) {S : MS} {V : VS} {a0 a0v : Nat} {y1 : Int32} {y2 : Int32} (hS : SM S V) (hx : Ex S0 S) (h_a0 : Ad S a0 a0v) (hQ : gd (eX2_hasLiving_2 n k2v V a0v y1 y2) (SQ Q S0) (SX QX S0)) : wX2_hasLiving_2 Q QX k2 S a0 y1 y2 := by
  unfold wX2_hasLiving_2
  unfold eX2_hasLiving_2 at hQ
  refine st_if (show ((mI S a0 2) ≤ y2) = ((vI V a0v 2) ≤ y2) from by simp only [SM_I hS h_a0]) hQ (fun hQ => ?_) (fun hQ => ?_)
  · exact gd_rt hQ _ hS hx
  · refine st_rd hS h_a0 rfl hQ (fun a1 a1v h_a1 hQ => ?_)
    refine st_gd (fun h => by simp only [SM_N hS h_a1]; exact gvp_in_of h) hQ (fun hQ => ?_)
    refine st_rd hS h_a1 rfl hQ (fun a2 a2v h_a2 hQ => ?_)
    refine st_ifn (show ((mI S a2 1) = y1) = ((vI V a2v 1) = y1) from by simp only [SM_I hS h_a2]) hQ (fun hQ => ?_) (fun hQ => ?_)
    · exact hk2 _ _ _ _ _ _ hS hx h_a0 hQ
    · refine st_rd hS h_a0 rfl hQ (fun a3 a3v h_a3 hQ => ?_)
      refine st_gd (fun h => by simp only [SM_N hS h_a3]; exact gvp_in_of h) hQ (fun hQ => ?_)
      refine st_rd hS h_a3 rfl hQ (fun a4 a4v h_a4 hQ => ?_)
      refine sim_X7_lives n hS h_a4 ?_
      refine gd_mono (gd_bd hQ) (fun r6 V5 hQ S5 hS5 xS => ?_) (fun E V9 hQ S9 hS9 xS9 => gd_th hQ S9 hS9 (Ex_tr hx xS9))
      have hx5 : Ex S0 S5 := Ex_tr hx xS
      have h5_a0 := xS _ _ h_a0
      refine st_if rfl hQ (fun hQ => ?_) (fun hQ => ?_)
      · exact hk2 _ _ _ _ _ _ hS5 hx5 h5_a0 hQ
      · exact gd_rt hQ _ hS5 hx5
def elX2_hasLiving_2 (n : Nat) : Nat → VS → Nat → Int32 → Int32 → Rs Int32
  | 0 => fun _ _ _ _ => none
  | m + 1 => fun V a0v y1 y2 => eX2_hasLiving_2 n (elX2_hasLiving_2 n m) V a0v y1 y2
theorem selX2_hasLiving_2 (n : Nat) {S0 : MS} {Q : Int32 → MS → Prop} {QX : String → MS → Prop} : ∀ (m : Nat), ∀ (S : MS) (V : VS) (p0 p0v : Nat) (p1 : Int32) (p2 : Int32), SM S V → Ex S0 S → Ad S p0 p0v → gd (elX2_hasLiving_2 n m V p0v p1 p2) (SQ Q S0) (SX QX S0) → lX2_hasLiving_2 Q QX m S p0 p1 p2 := by
  intro m
  induction m with
  | zero => intro S V p0 p0v p1 p2 hS hx q0 hQ; exact (gd_none hQ).elim
  | succ m ih => intro S V p0 p0v p1 p2 hS hx q0 hQ; exact sX2_hasLiving_2 n ih hS hx q0 hQ
def eX2_hasLiving_0 (n : Nat) (V : VS) (a0v : Nat) (x1 : Int32) : Rs Int32 := elX2_hasLiving_2 n n V a0v x1 0
set_option maxHeartbeats 4000000 in
set_option maxRecDepth 100000 in
theorem sX2_hasLiving_0 (n : Nat) {S0 : MS} {Q : Int32 → MS → Prop} {QX : String → MS → Prop} {S : MS} {V : VS} {a0 a0v : Nat} {x1 : Int32} (hS : SM S V) (hx : Ex S0 S) (h_a0 : Ad S a0 a0v) (hQ : gd (eX2_hasLiving_0 n V a0v x1) (SQ Q S0) (SX QX S0)) : wX2_hasLiving_0 Q QX S a0 x1 := by
  unfold wX2_hasLiving_0
  unfold eX2_hasLiving_0 at hQ
  refine ⟨n, ?_⟩
  exact selX2_hasLiving_2 n n _ _ _ _ _ _ hS hx h_a0 hQ
def ev_X2_hasLiving (n : Nat) (V : VS) (a0v : Nat) (x1 : Int32) : Rs Int32 := eX2_hasLiving_0 n V a0v x1
theorem sim_X2_hasLiving (n : Nat) {Q : Int32 → MS → Prop} {QX : String → MS → Prop} {S : MS} {V : VS} {a0 a0v : Nat} {x1 x1z : Int32} (hS : SM S V) (h_a0 : Ad S a0 a0v) (e_x1 : x1 = x1z) (hQ : gd (ev_X2_hasLiving n V a0v x1z) (SQ Q S) (SX QX S)) : wp_X2_hasLiving Q QX S a0 x1 := by
  subst e_x1
  exact sX2_hasLiving_0 n hS Ex_rf h_a0 hQ
def eX2_goesOn_0 (n : Nat) (V : VS) (a0v : Nat) : Rs Int32 := bd (ev_X2_hasLiving n V a0v 0) (fun r2 V1 => (if r2 = 0 then rt 0 V1 else bd (ev_X2_hasLiving n V1 a0v 1) (fun r4 V3 => (if r4 = 0 then rt 0 V3 else rt 1 V3)) th)) th
set_option maxHeartbeats 4000000 in
set_option maxRecDepth 100000 in
theorem sX2_goesOn_0 (n : Nat) {S0 : MS} {Q : Int32 → MS → Prop} {QX : String → MS → Prop} {S : MS} {V : VS} {a0 a0v : Nat} (hS : SM S V) (hx : Ex S0 S) (h_a0 : Ad S a0 a0v) (hQ : gd (eX2_goesOn_0 n V a0v) (SQ Q S0) (SX QX S0)) : wX2_goesOn_0 Q QX S a0 := by
  unfold wX2_goesOn_0
  unfold eX2_goesOn_0 at hQ
  refine sim_X2_hasLiving n hS h_a0 rfl ?_
  refine gd_mono (gd_bd hQ) (fun r2 V1 hQ S1 hS1 xS => ?_) (fun E V9 hQ S9 hS9 xS9 => gd_th hQ S9 hS9 (Ex_tr hx xS9))
  have hx1 : Ex S0 S1 := Ex_tr hx xS
  have h1_a0 := xS _ _ h_a0
  refine st_if rfl hQ (fun hQ => ?_) (fun hQ => ?_)
  · exact gd_rt hQ _ hS1 hx1
  · refine sim_X2_hasLiving n hS1 h1_a0 rfl ?_
    refine gd_mono (gd_bd hQ) (fun r4 V3 hQ S3 hS3 xS => ?_) (fun E V9 hQ S9 hS9 xS9 => gd_th hQ S9 hS9 (Ex_tr hx1 xS9))
    have hx3 : Ex S0 S3 := Ex_tr hx1 xS
    refine st_if rfl hQ (fun hQ => ?_) (fun hQ => ?_)
    · exact gd_rt hQ _ hS3 hx3
    · exact gd_rt hQ _ hS3 hx3
def ev_X2_goesOn (n : Nat) (V : VS) (a0v : Nat) : Rs Int32 := eX2_goesOn_0 n V a0v
theorem sim_X2_goesOn (n : Nat) {Q : Int32 → MS → Prop} {QX : String → MS → Prop} {S : MS} {V : VS} {a0 a0v : Nat} (hS : SM S V) (h_a0 : Ad S a0 a0v) (hQ : gd (ev_X2_goesOn n V a0v) (SQ Q S) (SX QX S)) : wp_X2_goesOn Q QX S a0 := by
  exact sX2_goesOn_0 n hS Ex_rf h_a0 hQ
def eX2_hasUnitOn_2 (n : Nat) (k2v : VS → Nat → Int32 → Int32 → Rs Int32) (V : VS) (a0v : Nat) (y1 : Int32) (y2 : Int32) : Rs Int32 := (if (vI V a0v 2) ≤ y2 then rt 0 V else (vR V a0v 1).bind (fun a1v => (if gvp_in y2 (vN V a1v) = true then (vR V a1v ((y2 : Int32).toNatClampNeg)).bind (fun a2v => (if (vI V a2v 4) = y1 then rt 1 V else k2v V a0v y1 (y2 + 1))) else none)))
set_option maxHeartbeats 4000000 in
set_option maxRecDepth 100000 in
theorem sX2_hasUnitOn_2 (n : Nat) {S0 : MS} {Q : Int32 → MS → Prop} {QX : String → MS → Prop} {k2 : MS → Nat → Int32 → Int32 → Prop} {k2v : VS → Nat → Int32 → Int32 → Rs Int32} (hk2 : ∀ (S : MS) (V : VS) (p0 p0v : Nat) (p1 : Int32) (p2 : Int32), SM S V → Ex S0 S → Ad S p0 p0v → gd (k2v V p0v p1 p2) (SQ Q S0) (SX QX S0) → k2 S p0 p1 p2) {S : MS} {V : VS} {a0 a0v : Nat} {y1 : Int32} {y2 : Int32} (hS : SM S V) (hx : Ex S0 S) (h_a0 : Ad S a0 a0v) (hQ : gd (eX2_hasUnitOn_2 n k2v V a0v y1 y2) (SQ Q S0) (SX QX S0)) : wX2_hasUnitOn_2 Q QX k2 S a0 y1 y2 := by
  unfold wX2_hasUnitOn_2
  unfold eX2_hasUnitOn_2 at hQ
  refine st_if (show ((mI S a0 2) ≤ y2) = ((vI V a0v 2) ≤ y2) from by simp only [SM_I hS h_a0]) hQ (fun hQ => ?_) (fun hQ => ?_)
  · exact gd_rt hQ _ hS hx
  · refine st_rd hS h_a0 rfl hQ (fun a1 a1v h_a1 hQ => ?_)
    refine st_gd (fun h => by simp only [SM_N hS h_a1]; exact gvp_in_of h) hQ (fun hQ => ?_)
    refine st_rd hS h_a1 rfl hQ (fun a2 a2v h_a2 hQ => ?_)
    refine st_ifn (show ((mI S a2 4) = y1) = ((vI V a2v 4) = y1) from by simp only [SM_I hS h_a2]) hQ (fun hQ => ?_) (fun hQ => ?_)
    · exact hk2 _ _ _ _ _ _ hS hx h_a0 hQ
    · exact gd_rt hQ _ hS hx
def elX2_hasUnitOn_2 (n : Nat) : Nat → VS → Nat → Int32 → Int32 → Rs Int32
  | 0 => fun _ _ _ _ => none
  | m + 1 => fun V a0v y1 y2 => eX2_hasUnitOn_2 n (elX2_hasUnitOn_2 n m) V a0v y1 y2
theorem selX2_hasUnitOn_2 (n : Nat) {S0 : MS} {Q : Int32 → MS → Prop} {QX : String → MS → Prop} : ∀ (m : Nat), ∀ (S : MS) (V : VS) (p0 p0v : Nat) (p1 : Int32) (p2 : Int32), SM S V → Ex S0 S → Ad S p0 p0v → gd (elX2_hasUnitOn_2 n m V p0v p1 p2) (SQ Q S0) (SX QX S0) → lX2_hasUnitOn_2 Q QX m S p0 p1 p2 := by
  intro m
  induction m with
  | zero => intro S V p0 p0v p1 p2 hS hx q0 hQ; exact (gd_none hQ).elim
  | succ m ih => intro S V p0 p0v p1 p2 hS hx q0 hQ; exact sX2_hasUnitOn_2 n ih hS hx q0 hQ
def eX2_hasUnitOn_0 (n : Nat) (V : VS) (a0v : Nat) (x1 : Int32) : Rs Int32 := elX2_hasUnitOn_2 n n V a0v x1 0
set_option maxHeartbeats 4000000 in
set_option maxRecDepth 100000 in
theorem sX2_hasUnitOn_0 (n : Nat) {S0 : MS} {Q : Int32 → MS → Prop} {QX : String → MS → Prop} {S : MS} {V : VS} {a0 a0v : Nat} {x1 : Int32} (hS : SM S V) (hx : Ex S0 S) (h_a0 : Ad S a0 a0v) (hQ : gd (eX2_hasUnitOn_0 n V a0v x1) (SQ Q S0) (SX QX S0)) : wX2_hasUnitOn_0 Q QX S a0 x1 := by
  unfold wX2_hasUnitOn_0
  unfold eX2_hasUnitOn_0 at hQ
  refine ⟨n, ?_⟩
  exact selX2_hasUnitOn_2 n n _ _ _ _ _ _ hS hx h_a0 hQ
def ev_X2_hasUnitOn (n : Nat) (V : VS) (a0v : Nat) (x1 : Int32) : Rs Int32 := eX2_hasUnitOn_0 n V a0v x1
theorem sim_X2_hasUnitOn (n : Nat) {Q : Int32 → MS → Prop} {QX : String → MS → Prop} {S : MS} {V : VS} {a0 a0v : Nat} {x1 x1z : Int32} (hS : SM S V) (h_a0 : Ad S a0 a0v) (e_x1 : x1 = x1z) (hQ : gd (ev_X2_hasUnitOn n V a0v x1z) (SQ Q S) (SX QX S)) : wp_X2_hasUnitOn Q QX S a0 x1 := by
  subst e_x1
  exact sX2_hasUnitOn_0 n hS Ex_rf h_a0 hQ
def eX2_find_0 (n : Nat) (V : VS) (a0v : Nat) (x1 : Int32) : Rs (Option Nat) := (if x1 < 0 then rt none V else (if (vI V a0v 2) ≤ x1 then rt none V else (vR V a0v 1).bind (fun a1v => (if gvp_in x1 (vN V a1v) = true then (vR V a1v ((x1 : Int32).toNatClampNeg)).bind (fun a2v => rt (some a2v) V) else none))))
set_option maxHeartbeats 4000000 in
set_option maxRecDepth 100000 in
theorem sX2_find_0 (n : Nat) {S0 : MS} {Q : Option Nat → MS → Prop} {QX : String → MS → Prop} {S : MS} {V : VS} {a0 a0v : Nat} {x1 : Int32} (hS : SM S V) (hx : Ex S0 S) (h_a0 : Ad S a0 a0v) (hQ : gd (eX2_find_0 n V a0v x1) (SO Q S0) (SX QX S0)) : wX2_find_0 Q QX S a0 x1 := by
  unfold wX2_find_0
  unfold eX2_find_0 at hQ
  refine st_if rfl hQ (fun hQ => ?_) (fun hQ => ?_)
  · exact gd_rt hQ _ _ hS hx rfl
  · refine st_if (show ((mI S a0 2) ≤ x1) = ((vI V a0v 2) ≤ x1) from by simp only [SM_I hS h_a0]) hQ (fun hQ => ?_) (fun hQ => ?_)
    · exact gd_rt hQ _ _ hS hx rfl
    · refine st_rd hS h_a0 rfl hQ (fun a1 a1v h_a1 hQ => ?_)
      refine st_gd (fun h => by simp only [SM_N hS h_a1]; exact gvp_in_of h) hQ (fun hQ => ?_)
      refine st_rd hS h_a1 rfl hQ (fun a2 a2v h_a2 hQ => ?_)
      exact gd_rt hQ _ _ hS hx ⟨_, rfl, h_a2⟩
def ev_X2_find (n : Nat) (V : VS) (a0v : Nat) (x1 : Int32) : Rs (Option Nat) := eX2_find_0 n V a0v x1
theorem sim_X2_find (n : Nat) {Q : Option Nat → MS → Prop} {QX : String → MS → Prop} {S : MS} {V : VS} {a0 a0v : Nat} {x1 x1z : Int32} (hS : SM S V) (h_a0 : Ad S a0 a0v) (e_x1 : x1 = x1z) (hQ : gd (ev_X2_find n V a0v x1z) (SO Q S) (SX QX S)) : wp_X2_find Q QX S a0 x1 := by
  subst e_x1
  exact sX2_find_0 n hS Ex_rf h_a0 hQ
def eX2_onTurn_0 (n : Nat) (V : VS) (a0v : Nat) : Rs (Option Nat) := (if (vI V a0v 6) < 0 then rt none V else (if (vI V a0v 2) ≤ (vI V a0v 6) then rt none V else (vR V a0v 1).bind (fun a1v => (if gvp_in (vI V a0v 6) (vN V a1v) = true then (vR V a1v (((vI V a0v 6) : Int32).toNatClampNeg)).bind (fun a2v => rt (some a2v) V) else none))))
set_option maxHeartbeats 4000000 in
set_option maxRecDepth 100000 in
theorem sX2_onTurn_0 (n : Nat) {S0 : MS} {Q : Option Nat → MS → Prop} {QX : String → MS → Prop} {S : MS} {V : VS} {a0 a0v : Nat} (hS : SM S V) (hx : Ex S0 S) (h_a0 : Ad S a0 a0v) (hQ : gd (eX2_onTurn_0 n V a0v) (SO Q S0) (SX QX S0)) : wX2_onTurn_0 Q QX S a0 := by
  unfold wX2_onTurn_0
  unfold eX2_onTurn_0 at hQ
  refine st_if (show ((mI S a0 6) < 0) = ((vI V a0v 6) < 0) from by simp only [SM_I hS h_a0]) hQ (fun hQ => ?_) (fun hQ => ?_)
  · exact gd_rt hQ _ _ hS hx rfl
  · refine st_if (show ((mI S a0 2) ≤ (mI S a0 6)) = ((vI V a0v 2) ≤ (vI V a0v 6)) from by simp only [SM_I hS h_a0]) hQ (fun hQ => ?_) (fun hQ => ?_)
    · exact gd_rt hQ _ _ hS hx rfl
    · refine st_rd hS h_a0 rfl hQ (fun a1 a1v h_a1 hQ => ?_)
      refine st_gd (fun h => by simp only [SM_I hS h_a0, SM_N hS h_a1]; exact gvp_in_of h) hQ (fun hQ => ?_)
      refine st_rd hS h_a1 (show (((mI S a0 6) : Int32).toNatClampNeg) = (((vI V a0v 6) : Int32).toNatClampNeg) from by simp only [SM_I hS h_a0]) hQ (fun a2 a2v h_a2 hQ => ?_)
      exact gd_rt hQ _ _ hS hx ⟨_, rfl, h_a2⟩
def ev_X2_onTurn (n : Nat) (V : VS) (a0v : Nat) : Rs (Option Nat) := eX2_onTurn_0 n V a0v
theorem sim_X2_onTurn (n : Nat) {Q : Option Nat → MS → Prop} {QX : String → MS → Prop} {S : MS} {V : VS} {a0 a0v : Nat} (hS : SM S V) (h_a0 : Ad S a0 a0v) (hQ : gd (ev_X2_onTurn n V a0v) (SO Q S) (SX QX S)) : wp_X2_onTurn Q QX S a0 := by
  exact sX2_onTurn_0 n hS Ex_rf h_a0 hQ
def eX2_rollDie_0 (n : Nat) (V : VS) (a0v : Nat) (x1 : Int32) : Rs Int32 := sq (wI V a0v 10 (((vI V a0v 10) * 1103515245) + 12345)) (fun V1 => (if 1 ≤ x1 then (if ¬ x1 = 0 then rt (((((vI V1 a0v 10).toUInt32 >>> ((16 : Int32).toUInt32 &&& Int32.toUInt32 31)).toInt32) - (((vI V1 a0v 10).toUInt32 >>> ((16 : Int32).toUInt32 &&& Int32.toUInt32 31)).toInt32) / x1 * x1) + 1) V1 else none) else rt 1 V1))
set_option maxHeartbeats 4000000 in
set_option maxRecDepth 100000 in
theorem sX2_rollDie_0 (n : Nat) {S0 : MS} {Q : Int32 → MS → Prop} {QX : String → MS → Prop} {S : MS} {V : VS} {a0 a0v : Nat} {x1 : Int32} (hS : SM S V) (hx : Ex S0 S) (h_a0 : Ad S a0 a0v) (hQ : gd (eX2_rollDie_0 n V a0v x1) (SQ Q S0) (SX QX S0)) : wX2_rollDie_0 Q QX S a0 x1 := by
  unfold wX2_rollDie_0
  unfold eX2_rollDie_0 at hQ
  intro S1 eS
  obtain ⟨V1, hS1, xS, hQ⟩ := st_sI hS h_a0 eS rfl (show ((((mI S a0 10) * 1103515245) + 12345)) = ((((vI V a0v 10) * 1103515245) + 12345)) from by simp only [SM_I hS h_a0]) hQ
  have hx1 : Ex S0 S1 := Ex_tr hx xS
  have h1_a0 := xS _ _ h_a0
  refine st_if rfl hQ (fun hQ => ?_) (fun hQ => ?_)
  · refine st_gd (fun h => by exact h) hQ (fun hQ => ?_)
    simp only [SM_I hS1 h1_a0]
    exact gd_rt hQ _ hS1 hx1
  · exact gd_rt hQ _ hS1 hx1
def ev_X2_rollDie (n : Nat) (V : VS) (a0v : Nat) (x1 : Int32) : Rs Int32 := eX2_rollDie_0 n V a0v x1
theorem sim_X2_rollDie (n : Nat) {Q : Int32 → MS → Prop} {QX : String → MS → Prop} {S : MS} {V : VS} {a0 a0v : Nat} {x1 x1z : Int32} (hS : SM S V) (h_a0 : Ad S a0 a0v) (e_x1 : x1 = x1z) (hQ : gd (ev_X2_rollDie n V a0v x1z) (SQ Q S) (SX QX S)) : wp_X2_rollDie Q QX S a0 x1 := by
  subst e_x1
  exact sX2_rollDie_0 n hS Ex_rf h_a0 hQ
