def eX8_init_0 (n : Nat) (V : VS) (a0v : Nat) : Rs Unit := nwV V 71 (fun V2 a1v => sq (wR V2 a0v 0 (some a1v)) (fun V3 => sq (wI V3 a0v 2 (-1)) (fun V4 => nwV V4 0 (fun V6 a5v => bd (ev_X2_init n V6 a5v) (fun _ V7 => sq (wR V7 a0v 3 (some a5v)) (fun V8 => nwV V8 0 (fun V10 a9v => bd (ev_X0_init n V10 a9v) (fun _ V11 => sq (wR V11 a0v 4 (some a9v)) (fun V12 => nwV V12 0 (fun V14 a13v => bd (ev_X4_init n V14 a13v) (fun _ V15 => sq (wR V15 a0v 5 (some a13v)) (fun V16 => nwV V16 0 (fun V18 a17v => bd (ev_X2_init n V18 a17v) (fun _ V19 => sq (wR V19 a0v 6 (some a17v)) (fun V20 => nwV V20 0 (fun V22 a21v => bd (ev_X0_init n V22 a21v) (fun _ V23 => sq (wR V23 a0v 7 (some a21v)) (fun V24 => nwV V24 0 (fun V26 a25v => bd (ev_X2_init n V26 a25v) (fun _ V27 => sq (wR V27 a0v 9 (some a25v)) (fun V28 => nwV V28 0 (fun V30 a29v => bd (ev_X5_init n V30 a29v) (fun _ V31 => sq (wR V31 a0v 10 (some a29v)) (fun V32 => nwV V32 0 (fun V34 a33v => bd (ev_X6_init n V34 a33v) (fun _ V35 => sq (wR V35 a0v 11 (some a33v)) (fun V36 => nwV V36 0 (fun V38 a37v => bd (ev_X6_init n V38 a37v) (fun _ V39 => sq (wR V39 a0v 12 (some a37v)) (fun V40 => rt () V40)) th))) th))) th))) th))) th))) th))) th))) th))) th))))
set_option maxHeartbeats 4000000 in
set_option maxRecDepth 100000 in
theorem sX8_init_0 (n : Nat) {S0 : MS} {Q : MS → Prop} {QX : String → MS → Prop} {S : MS} {V : VS} {a0 a0v : Nat} (hS : SM S V) (hx : Ex S0 S) (h_a0 : Ad S a0 a0v) (hQ : gd (eX8_init_0 n V a0v) (SU Q S0) (SX QX S0)) : wX8_init_0 Q QX S a0 := by
  unfold wX8_init_0
  unfold eX8_init_0 at hQ
  intro a1 q_a1 S2 eS
  obtain ⟨V2, a1v, hS2, xS, h2_a1, hQ⟩ := st_nw hS q_a1 eS rfl hQ
  have hx2 : Ex S0 S2 := Ex_tr hx xS
  have h2_a0 := xS _ _ h_a0
  intro S3 eS
  obtain ⟨V3, hS3, xS, hQ⟩ := st_sR hS2 h2_a0 eS rfl h2_a1 hQ
  have hx3 : Ex S0 S3 := Ex_tr hx2 xS
  have h3_a0 := xS _ _ h2_a0
  intro S4 eS
  obtain ⟨V4, hS4, xS, hQ⟩ := st_sI hS3 h3_a0 eS rfl rfl hQ
  have hx4 : Ex S0 S4 := Ex_tr hx3 xS
  have h4_a0 := xS _ _ h3_a0
  intro a5 q_a5 S6 eS
  obtain ⟨V6, a5v, hS6, xS, h6_a5, hQ⟩ := st_nw hS4 q_a5 eS rfl hQ
  have hx6 : Ex S0 S6 := Ex_tr hx4 xS
  have h6_a0 := xS _ _ h4_a0
  refine sim_X2_init n hS6 h6_a5 ?_
  refine gd_mono (gd_bd hQ) (fun _ V7 hQ S7 hS7 xS => ?_) (fun E V9 hQ S9 hS9 xS9 => gd_th hQ S9 hS9 (Ex_tr hx6 xS9))
  have hx7 : Ex S0 S7 := Ex_tr hx6 xS
  have h7_a0 := xS _ _ h6_a0
  have h7_a5 := xS _ _ h6_a5
  intro S8 eS
  obtain ⟨V8, hS8, xS, hQ⟩ := st_sR hS7 h7_a0 eS rfl h7_a5 hQ
  have hx8 : Ex S0 S8 := Ex_tr hx7 xS
  have h8_a0 := xS _ _ h7_a0
  intro a9 q_a9 S10 eS
  obtain ⟨V10, a9v, hS10, xS, h10_a9, hQ⟩ := st_nw hS8 q_a9 eS rfl hQ
  have hx10 : Ex S0 S10 := Ex_tr hx8 xS
  have h10_a0 := xS _ _ h8_a0
  refine sim_X0_init n hS10 h10_a9 ?_
  refine gd_mono (gd_bd hQ) (fun _ V11 hQ S11 hS11 xS => ?_) (fun E V9 hQ S9 hS9 xS9 => gd_th hQ S9 hS9 (Ex_tr hx10 xS9))
  have hx11 : Ex S0 S11 := Ex_tr hx10 xS
  have h11_a0 := xS _ _ h10_a0
  have h11_a9 := xS _ _ h10_a9
  intro S12 eS
  obtain ⟨V12, hS12, xS, hQ⟩ := st_sR hS11 h11_a0 eS rfl h11_a9 hQ
  have hx12 : Ex S0 S12 := Ex_tr hx11 xS
  have h12_a0 := xS _ _ h11_a0
  intro a13 q_a13 S14 eS
  obtain ⟨V14, a13v, hS14, xS, h14_a13, hQ⟩ := st_nw hS12 q_a13 eS rfl hQ
  have hx14 : Ex S0 S14 := Ex_tr hx12 xS
  have h14_a0 := xS _ _ h12_a0
  refine sim_X4_init n hS14 h14_a13 ?_
  refine gd_mono (gd_bd hQ) (fun _ V15 hQ S15 hS15 xS => ?_) (fun E V9 hQ S9 hS9 xS9 => gd_th hQ S9 hS9 (Ex_tr hx14 xS9))
  have hx15 : Ex S0 S15 := Ex_tr hx14 xS
  have h15_a0 := xS _ _ h14_a0
  have h15_a13 := xS _ _ h14_a13
  intro S16 eS
  obtain ⟨V16, hS16, xS, hQ⟩ := st_sR hS15 h15_a0 eS rfl h15_a13 hQ
  have hx16 : Ex S0 S16 := Ex_tr hx15 xS
  have h16_a0 := xS _ _ h15_a0
  intro a17 q_a17 S18 eS
  obtain ⟨V18, a17v, hS18, xS, h18_a17, hQ⟩ := st_nw hS16 q_a17 eS rfl hQ
  have hx18 : Ex S0 S18 := Ex_tr hx16 xS
  have h18_a0 := xS _ _ h16_a0
  refine sim_X2_init n hS18 h18_a17 ?_
  refine gd_mono (gd_bd hQ) (fun _ V19 hQ S19 hS19 xS => ?_) (fun E V9 hQ S9 hS9 xS9 => gd_th hQ S9 hS9 (Ex_tr hx18 xS9))
  have hx19 : Ex S0 S19 := Ex_tr hx18 xS
  have h19_a0 := xS _ _ h18_a0
  have h19_a17 := xS _ _ h18_a17
  intro S20 eS
  obtain ⟨V20, hS20, xS, hQ⟩ := st_sR hS19 h19_a0 eS rfl h19_a17 hQ
  have hx20 : Ex S0 S20 := Ex_tr hx19 xS
  have h20_a0 := xS _ _ h19_a0
  intro a21 q_a21 S22 eS
  obtain ⟨V22, a21v, hS22, xS, h22_a21, hQ⟩ := st_nw hS20 q_a21 eS rfl hQ
  have hx22 : Ex S0 S22 := Ex_tr hx20 xS
  have h22_a0 := xS _ _ h20_a0
  refine sim_X0_init n hS22 h22_a21 ?_
  refine gd_mono (gd_bd hQ) (fun _ V23 hQ S23 hS23 xS => ?_) (fun E V9 hQ S9 hS9 xS9 => gd_th hQ S9 hS9 (Ex_tr hx22 xS9))
  have hx23 : Ex S0 S23 := Ex_tr hx22 xS
  have h23_a0 := xS _ _ h22_a0
  have h23_a21 := xS _ _ h22_a21
  intro S24 eS
  obtain ⟨V24, hS24, xS, hQ⟩ := st_sR hS23 h23_a0 eS rfl h23_a21 hQ
  have hx24 : Ex S0 S24 := Ex_tr hx23 xS
  have h24_a0 := xS _ _ h23_a0
  intro a25 q_a25 S26 eS
  obtain ⟨V26, a25v, hS26, xS, h26_a25, hQ⟩ := st_nw hS24 q_a25 eS rfl hQ
  have hx26 : Ex S0 S26 := Ex_tr hx24 xS
  have h26_a0 := xS _ _ h24_a0
  refine sim_X2_init n hS26 h26_a25 ?_
  refine gd_mono (gd_bd hQ) (fun _ V27 hQ S27 hS27 xS => ?_) (fun E V9 hQ S9 hS9 xS9 => gd_th hQ S9 hS9 (Ex_tr hx26 xS9))
  have hx27 : Ex S0 S27 := Ex_tr hx26 xS
  have h27_a0 := xS _ _ h26_a0
  have h27_a25 := xS _ _ h26_a25
  intro S28 eS
  obtain ⟨V28, hS28, xS, hQ⟩ := st_sR hS27 h27_a0 eS rfl h27_a25 hQ
  have hx28 : Ex S0 S28 := Ex_tr hx27 xS
  have h28_a0 := xS _ _ h27_a0
  intro a29 q_a29 S30 eS
  obtain ⟨V30, a29v, hS30, xS, h30_a29, hQ⟩ := st_nw hS28 q_a29 eS rfl hQ
  have hx30 : Ex S0 S30 := Ex_tr hx28 xS
  have h30_a0 := xS _ _ h28_a0
  refine sim_X5_init n hS30 h30_a29 ?_
  refine gd_mono (gd_bd hQ) (fun _ V31 hQ S31 hS31 xS => ?_) (fun E V9 hQ S9 hS9 xS9 => gd_th hQ S9 hS9 (Ex_tr hx30 xS9))
  have hx31 : Ex S0 S31 := Ex_tr hx30 xS
  have h31_a0 := xS _ _ h30_a0
  have h31_a29 := xS _ _ h30_a29
  intro S32 eS
  obtain ⟨V32, hS32, xS, hQ⟩ := st_sR hS31 h31_a0 eS rfl h31_a29 hQ
  have hx32 : Ex S0 S32 := Ex_tr hx31 xS
  have h32_a0 := xS _ _ h31_a0
  intro a33 q_a33 S34 eS
  obtain ⟨V34, a33v, hS34, xS, h34_a33, hQ⟩ := st_nw hS32 q_a33 eS rfl hQ
  have hx34 : Ex S0 S34 := Ex_tr hx32 xS
  have h34_a0 := xS _ _ h32_a0
  refine sim_X6_init n hS34 h34_a33 ?_
  refine gd_mono (gd_bd hQ) (fun _ V35 hQ S35 hS35 xS => ?_) (fun E V9 hQ S9 hS9 xS9 => gd_th hQ S9 hS9 (Ex_tr hx34 xS9))
  have hx35 : Ex S0 S35 := Ex_tr hx34 xS
  have h35_a0 := xS _ _ h34_a0
  have h35_a33 := xS _ _ h34_a33
  intro S36 eS
  obtain ⟨V36, hS36, xS, hQ⟩ := st_sR hS35 h35_a0 eS rfl h35_a33 hQ
  have hx36 : Ex S0 S36 := Ex_tr hx35 xS
  have h36_a0 := xS _ _ h35_a0
  intro a37 q_a37 S38 eS
  obtain ⟨V38, a37v, hS38, xS, h38_a37, hQ⟩ := st_nw hS36 q_a37 eS rfl hQ
  have hx38 : Ex S0 S38 := Ex_tr hx36 xS
  have h38_a0 := xS _ _ h36_a0
  refine sim_X6_init n hS38 h38_a37 ?_
  refine gd_mono (gd_bd hQ) (fun _ V39 hQ S39 hS39 xS => ?_) (fun E V9 hQ S9 hS9 xS9 => gd_th hQ S9 hS9 (Ex_tr hx38 xS9))
  have hx39 : Ex S0 S39 := Ex_tr hx38 xS
  have h39_a0 := xS _ _ h38_a0
  have h39_a37 := xS _ _ h38_a37
  intro S40 eS
  obtain ⟨V40, hS40, xS, hQ⟩ := st_sR hS39 h39_a0 eS rfl h39_a37 hQ
  have hx40 : Ex S0 S40 := Ex_tr hx39 xS
  exact gd_rt hQ _ hS40 hx40
def ev_X8_init (n : Nat) (V : VS) (a0v : Nat) : Rs Unit := eX8_init_0 n V a0v
theorem sim_X8_init (n : Nat) {Q : MS → Prop} {QX : String → MS → Prop} {S : MS} {V : VS} {a0 a0v : Nat} (hS : SM S V) (h_a0 : Ad S a0 a0v) (hQ : gd (ev_X8_init n V a0v) (SU Q S) (SX QX S)) : wp_X8_init Q QX S a0 := by
  exact sX8_init_0 n hS Ex_rf h_a0 hQ
def eX8_append_12 (n : Nat) (V : VS) : Rs Int32 := th "java/lang/IllegalArgumentException" V
set_option maxHeartbeats 4000000 in
set_option maxRecDepth 100000 in
theorem sX8_append_12 (n : Nat) {S0 : MS} {Q : Int32 → MS → Prop} {QX : String → MS → Prop} {S : MS} {V : VS} (hS : SM S V) (hx : Ex S0 S) (hQ : gd (eX8_append_12 n V) (SQ Q S0) (SX QX S0)) : wX8_append_12 Q QX S := by
  unfold wX8_append_12
  unfold eX8_append_12 at hQ
  exact gd_th hQ _ hS hx
def eX8_append_0 (n : Nat) (V : VS) (a0v : Nat) (x1 : Int32) : Rs Int32 := (if x1 < 32 then eX8_append_12 n V else (if x1 ≤ 126 then (vR V a0v 0).bind (fun a1v => (if (vI V a0v 1) < (Int32.ofNat (vN V a1v)) then (vR V a0v 0).bind (fun a2v => (if gvp_in (vI V a0v 1) (vN V a2v) = true then (if vp_nar .char x1 = x1 then sq (wI V a2v (((vI V a0v 1) : Int32).toNatClampNeg) x1) (fun V3 => sq (wI V3 a0v 1 ((vI V3 a0v 1) + 1)) (fun V4 => rt (vI V4 a0v 1) V4)) else none) else none)) else th "java/lang/IllegalStateException" V)) else eX8_append_12 n V))
set_option maxHeartbeats 4000000 in
set_option maxRecDepth 100000 in
theorem sX8_append_0 (n : Nat) {S0 : MS} {Q : Int32 → MS → Prop} {QX : String → MS → Prop} {S : MS} {V : VS} {a0 a0v : Nat} {x1 : Int32} (hS : SM S V) (hx : Ex S0 S) (h_a0 : Ad S a0 a0v) (hQ : gd (eX8_append_0 n V a0v x1) (SQ Q S0) (SX QX S0)) : wX8_append_0 Q QX S a0 x1 := by
  unfold wX8_append_0
  unfold eX8_append_0 at hQ
  refine st_if rfl hQ (fun hQ => ?_) (fun hQ => ?_)
  · exact sX8_append_12 n hS hx hQ
  · refine st_if rfl hQ (fun hQ => ?_) (fun hQ => ?_)
    · refine st_rd hS h_a0 rfl hQ (fun a1 a1v h_a1 hQ => ?_)
      refine st_if (show ((mI S a0 1) < (Int32.ofNat (mN S a1))) = ((vI V a0v 1) < (Int32.ofNat (vN V a1v))) from by simp only [SM_I hS h_a0, SM_N hS h_a1]) hQ (fun hQ => ?_) (fun hQ => ?_)
      · refine st_rd hS h_a0 rfl hQ (fun a2 a2v h_a2 hQ => ?_)
        refine st_gd (fun h => by simp only [SM_I hS h_a0, SM_N hS h_a2]; exact gvp_in_of h) hQ (fun hQ => ?_)
        refine st_gd (fun h => by exact h) hQ (fun hQ => ?_)
        intro S3 eS
        obtain ⟨V3, hS3, xS, hQ⟩ := st_sI hS h_a2 eS (show (((mI S a0 1) : Int32).toNatClampNeg) = (((vI V a0v 1) : Int32).toNatClampNeg) from by simp only [SM_I hS h_a0]) rfl hQ
        have hx3 : Ex S0 S3 := Ex_tr hx xS
        have h3_a0 := xS _ _ h_a0
        intro S4 eS
        obtain ⟨V4, hS4, xS, hQ⟩ := st_sI hS3 h3_a0 eS rfl (show (((mI S3 a0 1) + 1)) = (((vI V3 a0v 1) + 1)) from by simp only [SM_I hS3 h3_a0]) hQ
        have hx4 : Ex S0 S4 := Ex_tr hx3 xS
        have h4_a0 := xS _ _ h3_a0
        simp only [SM_I hS4 h4_a0]
        exact gd_rt hQ _ hS4 hx4
      · exact gd_th hQ _ hS hx
    · exact sX8_append_12 n hS hx hQ
def ev_X8_append (n : Nat) (V : VS) (a0v : Nat) (x1 : Int32) : Rs Int32 := eX8_append_0 n V a0v x1
theorem sim_X8_append (n : Nat) {Q : Int32 → MS → Prop} {QX : String → MS → Prop} {S : MS} {V : VS} {a0 a0v : Nat} {x1 x1z : Int32} (hS : SM S V) (h_a0 : Ad S a0 a0v) (e_x1 : x1 = x1z) (hQ : gd (ev_X8_append n V a0v x1z) (SQ Q S) (SX QX S)) : wp_X8_append Q QX S a0 x1 := by
  subst e_x1
  exact sX8_append_0 n hS Ex_rf h_a0 hQ
def eX8_countColumns_2 (n : Nat) (k2v : VS → Nat → Int32 → Int32 → Rs Int32) (V : VS) (u0v : Nat) (y1 : Int32) (y2 : Int32) : Rs Int32 := (if y1 ≤ y2 then rt y2 V else (if (Int32.ofNat (vN V u0v)) ≤ y2 then rt y2 V else (if gvp_in y2 (vN V u0v) = true then (if (vI V u0v (y2 : Int32).toNatClampNeg) = 47 then rt y2 V else k2v V u0v y1 (y2 + 1)) else none)))
set_option maxHeartbeats 4000000 in
set_option maxRecDepth 100000 in
theorem sX8_countColumns_2 (n : Nat) {S0 : MS} {Q : Int32 → MS → Prop} {QX : String → MS → Prop} {k2 : MS → Nat → Int32 → Int32 → Prop} {k2v : VS → Nat → Int32 → Int32 → Rs Int32} (hk2 : ∀ (S : MS) (V : VS) (p0 p0v : Nat) (p1 : Int32) (p2 : Int32), SM S V → Ex S0 S → Ad S p0 p0v → gd (k2v V p0v p1 p2) (SQ Q S0) (SX QX S0) → k2 S p0 p1 p2) {S : MS} {V : VS} {u0 u0v : Nat} {y1 : Int32} {y2 : Int32} (hS : SM S V) (hx : Ex S0 S) (h_u0 : Ad S u0 u0v) (hQ : gd (eX8_countColumns_2 n k2v V u0v y1 y2) (SQ Q S0) (SX QX S0)) : wX8_countColumns_2 Q QX k2 S u0 y1 y2 := by
  unfold wX8_countColumns_2
  unfold eX8_countColumns_2 at hQ
  refine st_if rfl hQ (fun hQ => ?_) (fun hQ => ?_)
  · exact gd_rt hQ _ hS hx
  · refine st_if (show ((Int32.ofNat (mN S u0)) ≤ y2) = ((Int32.ofNat (vN V u0v)) ≤ y2) from by simp only [SM_N hS h_u0]) hQ (fun hQ => ?_) (fun hQ => ?_)
    · exact gd_rt hQ _ hS hx
    · refine st_gd (fun h => by simp only [SM_N hS h_u0]; exact gvp_in_of h) hQ (fun hQ => ?_)
      refine st_if (show ((mI S u0 (y2 : Int32).toNatClampNeg) = 47) = ((vI V u0v (y2 : Int32).toNatClampNeg) = 47) from by simp only [SM_I hS h_u0]) hQ (fun hQ => ?_) (fun hQ => ?_)
      · exact gd_rt hQ _ hS hx
      · exact hk2 _ _ _ _ _ _ hS hx h_u0 hQ
def elX8_countColumns_2 (n : Nat) : Nat → VS → Nat → Int32 → Int32 → Rs Int32
  | 0 => fun _ _ _ _ => none
  | m + 1 => fun V u0v y1 y2 => eX8_countColumns_2 n (elX8_countColumns_2 n m) V u0v y1 y2
theorem selX8_countColumns_2 (n : Nat) {S0 : MS} {Q : Int32 → MS → Prop} {QX : String → MS → Prop} : ∀ (m : Nat), ∀ (S : MS) (V : VS) (p0 p0v : Nat) (p1 : Int32) (p2 : Int32), SM S V → Ex S0 S → Ad S p0 p0v → gd (elX8_countColumns_2 n m V p0v p1 p2) (SQ Q S0) (SX QX S0) → lX8_countColumns_2 Q QX m S p0 p1 p2 := by
  intro m
  induction m with
  | zero => intro S V p0 p0v p1 p2 hS hx q0 hQ; exact (gd_none hQ).elim
  | succ m ih => intro S V p0 p0v p1 p2 hS hx q0 hQ; exact sX8_countColumns_2 n ih hS hx q0 hQ
def eX8_countColumns_0 (n : Nat) (V : VS) (b1v : Nat) (x2 : Int32) : Rs Int32 := elX8_countColumns_2 n n V b1v x2 0
set_option maxHeartbeats 4000000 in
set_option maxRecDepth 100000 in
theorem sX8_countColumns_0 (n : Nat) {S0 : MS} {Q : Int32 → MS → Prop} {QX : String → MS → Prop} {S : MS} {V : VS} {b1 b1v : Nat} {x2 : Int32} (hS : SM S V) (hx : Ex S0 S) (h_b1 : Ad S b1 b1v) (hQ : gd (eX8_countColumns_0 n V b1v x2) (SQ Q S0) (SX QX S0)) : wX8_countColumns_0 Q QX S b1 x2 := by
  unfold wX8_countColumns_0
  unfold eX8_countColumns_0 at hQ
  refine ⟨n, ?_⟩
  exact selX8_countColumns_2 n n _ _ _ _ _ _ hS hx h_b1 hQ
def ev_X8_countColumns (n : Nat) (V : VS) (b1v : Nat) (x2 : Int32) : Rs Int32 := eX8_countColumns_0 n V b1v x2
theorem sim_X8_countColumns (n : Nat) {Q : Int32 → MS → Prop} {QX : String → MS → Prop} {S : MS} {V : VS} {b1 b1v : Nat} {x2 x2z : Int32} (hS : SM S V) (h_b1 : Ad S b1 b1v) (e_x2 : x2 = x2z) (hQ : gd (ev_X8_countColumns n V b1v x2z) (SQ Q S) (SX QX S)) : wp_X8_countColumns Q QX S b1 x2 := by
  subst e_x2
  exact sX8_countColumns_0 n hS Ex_rf h_b1 hQ
def eX8_findError_45 (n : Nat) (k7v : VS → Nat → Int32 → Int32 → Int32 → Int32 → Rs Int32) (V : VS) (u0v : Nat) (y1 : Int32) (y3 : Int32) (y4 : Int32) : Rs Int32 := k7v V u0v y1 y3 0 (y4 + 1)
set_option maxHeartbeats 4000000 in
set_option maxRecDepth 100000 in
theorem sX8_findError_45 (n : Nat) {S0 : MS} {Q : Int32 → MS → Prop} {QX : String → MS → Prop} {k7 : MS → Nat → Int32 → Int32 → Int32 → Int32 → Prop} {k7v : VS → Nat → Int32 → Int32 → Int32 → Int32 → Rs Int32} (hk7 : ∀ (S : MS) (V : VS) (p0 p0v : Nat) (p1 : Int32) (p2 : Int32) (p3 : Int32) (p4 : Int32), SM S V → Ex S0 S → Ad S p0 p0v → gd (k7v V p0v p1 p2 p3 p4) (SQ Q S0) (SX QX S0) → k7 S p0 p1 p2 p3 p4) {S : MS} {V : VS} {u0 u0v : Nat} {y1 : Int32} {y3 : Int32} {y4 : Int32} (hS : SM S V) (hx : Ex S0 S) (h_u0 : Ad S u0 u0v) (hQ : gd (eX8_findError_45 n k7v V u0v y1 y3 y4) (SQ Q S0) (SX QX S0)) : wX8_findError_45 Q QX k7 S u0 y1 y3 y4 := by
  unfold wX8_findError_45
  unfold eX8_findError_45 at hQ
  exact hk7 _ _ _ _ _ _ _ _ hS hx h_u0 hQ
def eX8_findError_81 (n : Nat) (V : VS) (y1 : Int32) (y2 : Int32) (y3 : Int32) : Rs Int32 := (if y3 = 0 then rt y1 V else (if y2 < 0 then rt (-1) V else (if y3 = y2 then rt (-1) V else rt y1 V)))
set_option maxHeartbeats 4000000 in
set_option maxRecDepth 100000 in
theorem sX8_findError_81 (n : Nat) {S0 : MS} {Q : Int32 → MS → Prop} {QX : String → MS → Prop} {S : MS} {V : VS} {y1 : Int32} {y2 : Int32} {y3 : Int32} (hS : SM S V) (hx : Ex S0 S) (hQ : gd (eX8_findError_81 n V y1 y2 y3) (SQ Q S0) (SX QX S0)) : wX8_findError_81 Q QX S y1 y2 y3 := by
  unfold wX8_findError_81
  unfold eX8_findError_81 at hQ
  refine st_if rfl hQ (fun hQ => ?_) (fun hQ => ?_)
  · exact gd_rt hQ _ hS hx
  · refine st_if rfl hQ (fun hQ => ?_) (fun hQ => ?_)
    · exact gd_rt hQ _ hS hx
    · refine st_if rfl hQ (fun hQ => ?_) (fun hQ => ?_)
      · exact gd_rt hQ _ hS hx
      · exact gd_rt hQ _ hS hx
def eX8_findError_7 (n : Nat) (k7v : VS → Nat → Int32 → Int32 → Int32 → Int32 → Rs Int32) (V : VS) (u0v : Nat) (y1 : Int32) (y2 : Int32) (y3 : Int32) (y4 : Int32) : Rs Int32 := (if y1 ≤ y4 then eX8_findError_81 n V y1 y2 y3 else (if (Int32.ofNat (vN V u0v)) ≤ y4 then eX8_findError_81 n V y1 y2 y3 else (if gvp_in y4 (vN V u0v) = true then (if (vI V u0v (y4 : Int32).toNatClampNeg) = 47 then (if y3 = 0 then rt y4 V else (if y2 < 0 then eX8_findError_45 n k7v V u0v y1 y3 y4 else (if y3 = y2 then eX8_findError_45 n k7v V u0v y1 y3 y4 else rt y4 V))) else (if gvp_in y4 (vN V u0v) = true then bd (ev_J0_indexOf_0f7a4 n V (vI V u0v (y4 : Int32).toNatClampNeg)) (fun r3 V2 => (if r3 < 0 then rt y4 V2 else (if y3 = y2 then rt y4 V2 else k7v V2 u0v y1 y2 (y3 + 1) (y4 + 1)))) th else none)) else none)))
set_option maxHeartbeats 4000000 in
set_option maxRecDepth 100000 in
theorem sX8_findError_7 (n : Nat) {S0 : MS} {Q : Int32 → MS → Prop} {QX : String → MS → Prop} {k7 : MS → Nat → Int32 → Int32 → Int32 → Int32 → Prop} {k7v : VS → Nat → Int32 → Int32 → Int32 → Int32 → Rs Int32} (hk7 : ∀ (S : MS) (V : VS) (p0 p0v : Nat) (p1 : Int32) (p2 : Int32) (p3 : Int32) (p4 : Int32), SM S V → Ex S0 S → Ad S p0 p0v → gd (k7v V p0v p1 p2 p3 p4) (SQ Q S0) (SX QX S0) → k7 S p0 p1 p2 p3 p4) {S : MS} {V : VS} {u0 u0v : Nat} {y1 : Int32} {y2 : Int32} {y3 : Int32} {y4 : Int32} (hS : SM S V) (hx : Ex S0 S) (h_u0 : Ad S u0 u0v) (hQ : gd (eX8_findError_7 n k7v V u0v y1 y2 y3 y4) (SQ Q S0) (SX QX S0)) : wX8_findError_7 Q QX k7 S u0 y1 y2 y3 y4 := by
  unfold wX8_findError_7
  unfold eX8_findError_7 at hQ
  refine st_if rfl hQ (fun hQ => ?_) (fun hQ => ?_)
  · exact sX8_findError_81 n hS hx hQ
  · refine st_if (show ((Int32.ofNat (mN S u0)) ≤ y4) = ((Int32.ofNat (vN V u0v)) ≤ y4) from by simp only [SM_N hS h_u0]) hQ (fun hQ => ?_) (fun hQ => ?_)
    · exact sX8_findError_81 n hS hx hQ
    · refine st_gd (fun h => by simp only [SM_N hS h_u0]; exact gvp_in_of h) hQ (fun hQ => ?_)
      refine st_ifn (show ((mI S u0 (y4 : Int32).toNatClampNeg) = 47) = ((vI V u0v (y4 : Int32).toNatClampNeg) = 47) from by simp only [SM_I hS h_u0]) hQ (fun hQ => ?_) (fun hQ => ?_)
      · refine st_gd (fun h => by simp only [SM_N hS h_u0]; exact gvp_in_of h) hQ (fun hQ => ?_)
        refine sim_J0_indexOf_0f7a4 n hS (show ((mI S u0 (y4 : Int32).toNatClampNeg)) = ((vI V u0v (y4 : Int32).toNatClampNeg)) from by simp only [SM_I hS h_u0]) ?_
        refine gd_mono (gd_bd hQ) (fun r3 V2 hQ S2 hS2 xS => ?_) (fun E V9 hQ S9 hS9 xS9 => gd_th hQ S9 hS9 (Ex_tr hx xS9))
        have hx2 : Ex S0 S2 := Ex_tr hx xS
        have h2_u0 := xS _ _ h_u0
        refine st_if rfl hQ (fun hQ => ?_) (fun hQ => ?_)
        · exact gd_rt hQ _ hS2 hx2
        · refine st_ifn rfl hQ (fun hQ => ?_) (fun hQ => ?_)
          · exact hk7 _ _ _ _ _ _ _ _ hS2 hx2 h2_u0 hQ
          · exact gd_rt hQ _ hS2 hx2
      · refine st_if rfl hQ (fun hQ => ?_) (fun hQ => ?_)
        · exact gd_rt hQ _ hS hx
        · refine st_if rfl hQ (fun hQ => ?_) (fun hQ => ?_)
          · exact sX8_findError_45 n hk7 hS hx h_u0 hQ
          · refine st_if rfl hQ (fun hQ => ?_) (fun hQ => ?_)
            · exact sX8_findError_45 n hk7 hS hx h_u0 hQ
            · exact gd_rt hQ _ hS hx
def elX8_findError_7 (n : Nat) : Nat → VS → Nat → Int32 → Int32 → Int32 → Int32 → Rs Int32
  | 0 => fun _ _ _ _ _ _ => none
  | m + 1 => fun V u0v y1 y2 y3 y4 => eX8_findError_7 n (elX8_findError_7 n m) V u0v y1 y2 y3 y4
theorem selX8_findError_7 (n : Nat) {S0 : MS} {Q : Int32 → MS → Prop} {QX : String → MS → Prop} : ∀ (m : Nat), ∀ (S : MS) (V : VS) (p0 p0v : Nat) (p1 : Int32) (p2 : Int32) (p3 : Int32) (p4 : Int32), SM S V → Ex S0 S → Ad S p0 p0v → gd (elX8_findError_7 n m V p0v p1 p2 p3 p4) (SQ Q S0) (SX QX S0) → lX8_findError_7 Q QX m S p0 p1 p2 p3 p4 := by
  intro m
  induction m with
  | zero => intro S V p0 p0v p1 p2 p3 p4 hS hx q0 hQ; exact (gd_none hQ).elim
  | succ m ih => intro S V p0 p0v p1 p2 p3 p4 hS hx q0 hQ; exact sX8_findError_7 n ih hS hx q0 hQ
def eX8_findError_0 (n : Nat) (V : VS) (b1v : Nat) (x2 : Int32) : Rs Int32 := elX8_findError_7 n n V b1v x2 (-1) 0 0
set_option maxHeartbeats 4000000 in
set_option maxRecDepth 100000 in
theorem sX8_findError_0 (n : Nat) {S0 : MS} {Q : Int32 → MS → Prop} {QX : String → MS → Prop} {S : MS} {V : VS} {b1 b1v : Nat} {x2 : Int32} (hS : SM S V) (hx : Ex S0 S) (h_b1 : Ad S b1 b1v) (hQ : gd (eX8_findError_0 n V b1v x2) (SQ Q S0) (SX QX S0)) : wX8_findError_0 Q QX S b1 x2 := by
  unfold wX8_findError_0
  unfold eX8_findError_0 at hQ
  refine ⟨n, ?_⟩
  exact selX8_findError_7 n n _ _ _ _ _ _ _ _ hS hx h_b1 hQ
def ev_X8_findError (n : Nat) (V : VS) (b1v : Nat) (x2 : Int32) : Rs Int32 := eX8_findError_0 n V b1v x2
theorem sim_X8_findError (n : Nat) {Q : Int32 → MS → Prop} {QX : String → MS → Prop} {S : MS} {V : VS} {b1 b1v : Nat} {x2 x2z : Int32} (hS : SM S V) (h_b1 : Ad S b1 b1v) (e_x2 : x2 = x2z) (hQ : gd (ev_X8_findError n V b1v x2z) (SQ Q S) (SX QX S)) : wp_X8_findError Q QX S b1 x2 := by
  subst e_x2
  exact sX8_findError_0 n hS Ex_rf h_b1 hQ
def eX8_isSide_0 (n : Nat) (V : VS) (x1 : Int32) : Rs Int32 := (if x1 < 3 then rt 0 V else (if 8 < x1 then rt 0 V else rt 1 V))
set_option maxHeartbeats 4000000 in
set_option maxRecDepth 100000 in
theorem sX8_isSide_0 (n : Nat) {S0 : MS} {Q : Int32 → MS → Prop} {QX : String → MS → Prop} {S : MS} {V : VS} {x1 : Int32} (hS : SM S V) (hx : Ex S0 S) (hQ : gd (eX8_isSide_0 n V x1) (SQ Q S0) (SX QX S0)) : wX8_isSide_0 Q QX S x1 := by
  unfold wX8_isSide_0
  unfold eX8_isSide_0 at hQ
  refine st_if rfl hQ (fun hQ => ?_) (fun hQ => ?_)
  · exact gd_rt hQ _ hS hx
  · refine st_if rfl hQ (fun hQ => ?_) (fun hQ => ?_)
    · exact gd_rt hQ _ hS hx
    · exact gd_rt hQ _ hS hx
def ev_X8_isSide (n : Nat) (V : VS) (x1 : Int32) : Rs Int32 := eX8_isSide_0 n V x1
theorem sim_X8_isSide (n : Nat) {Q : Int32 → MS → Prop} {QX : String → MS → Prop} {S : MS} {V : VS} {x1 x1z : Int32} (hS : SM S V) (e_x1 : x1 = x1z) (hQ : gd (ev_X8_isSide n V x1z) (SQ Q S) (SX QX S)) : wp_X8_isSide Q QX S x1 := by
  subst e_x1
  exact sX8_isSide_0 n hS Ex_rf hQ
def eX8_load_74 (n : Nat) (V : VS) : Rs Int32 := th "java/lang/UnsupportedOperationException" V
set_option maxHeartbeats 4000000 in
set_option maxRecDepth 100000 in
theorem sX8_load_74 (n : Nat) {S0 : MS} {Q : Int32 → MS → Prop} {QX : String → MS → Prop} {S : MS} {V : VS} (hS : SM S V) (hx : Ex S0 S) (hQ : gd (eX8_load_74 n V) (SQ Q S0) (SX QX S0)) : wX8_load_74 Q QX S := by
  unfold wX8_load_74
  unfold eX8_load_74 at hQ
  exact gd_th hQ _ hS hx
def eX8_load_0 (n : Nat) (V : VS) (a0v : Nat) (x1 : Int32) : Rs Int32 := sq (wI V a0v 1 0) (fun V1 => (vR V1 a0v 0).bind (fun a2v => bd (ev_X8_findError n V1 a2v (vI V a0v 1)) (fun r4 V3 => (if r4 < 0 then (vR V3 a0v 0).bind (fun a5v => bd (ev_X8_countColumns n V3 a5v (vI V a0v 1)) (fun r7 V6 => (if ¬ (r7 + 1) = 0 then bd (ev_X8_isSide n V6 (((vI V a0v 1) + 1) / (r7 + 1))) (fun r9 V8 => (if r9 = 0 then eX8_load_74 n V8 else bd (ev_X8_isSide n V8 r7) (fun r11 V10 => (if r11 = 0 then eX8_load_74 n V10 else (vR V10 a0v 3).bind (fun a12v => bd (ev_X2_reset n V10 a12v x1) (fun _ V13 => (vR V13 a0v 3).bind (fun a14v => (vR V13 a14v 0).bind (fun a15v => (vR V13 a0v 0).bind (fun a16v => bd (ev_X3_read n V13 a15v a16v (vI V a0v 1) (((vI V a0v 1) + 1) / (r7 + 1)) r7) (fun _ V17 => (vR V17 a0v 4).bind (fun a18v => sq (wI V17 a18v 2 0) (fun V19 => (vR V19 a0v 5).bind (fun a20v => bd (ev_X4_clear n V19 a20v) (fun _ V21 => rt ((10 * (((vI V a0v 1) + 1) / (r7 + 1))) + r7) V21) th)))) th)))) th))) th)) th else none)) th) else sq (wI V3 a0v 2 r4) (fun V22 => th "java/lang/IllegalArgumentException" V22))) th))
set_option maxHeartbeats 4000000 in
set_option maxRecDepth 100000 in
theorem sX8_load_0 (n : Nat) {S0 : MS} {Q : Int32 → MS → Prop} {QX : String → MS → Prop} {S : MS} {V : VS} {a0 a0v : Nat} {x1 : Int32} (hS : SM S V) (hx : Ex S0 S) (h_a0 : Ad S a0 a0v) (hQ : gd (eX8_load_0 n V a0v x1) (SQ Q S0) (SX QX S0)) : wX8_load_0 Q QX S a0 x1 := by
  unfold wX8_load_0
  unfold eX8_load_0 at hQ
  intro S1 eS
  obtain ⟨V1, hS1, xS, hQ⟩ := st_sI hS h_a0 eS rfl rfl hQ
  have hx1 : Ex S0 S1 := Ex_tr hx xS
  have h1_a0 := xS _ _ h_a0
  refine st_rd hS1 h1_a0 rfl hQ (fun a2 a2v h1_a2 hQ => ?_)
  refine sim_X8_findError n hS1 h1_a2 (show ((mI S a0 1)) = ((vI V a0v 1)) from by simp only [SM_I hS h_a0]) ?_
  refine gd_mono (gd_bd hQ) (fun r4 V3 hQ S3 hS3 xS => ?_) (fun E V9 hQ S9 hS9 xS9 => gd_th hQ S9 hS9 (Ex_tr hx1 xS9))
  have hx3 : Ex S0 S3 := Ex_tr hx1 xS
  have h3_a0 := xS _ _ h1_a0
  refine st_if rfl hQ (fun hQ => ?_) (fun hQ => ?_)
  · refine st_rd hS3 h3_a0 rfl hQ (fun a5 a5v h3_a5 hQ => ?_)
    refine sim_X8_countColumns n hS3 h3_a5 (show ((mI S a0 1)) = ((vI V a0v 1)) from by simp only [SM_I hS h_a0]) ?_
    refine gd_mono (gd_bd hQ) (fun r7 V6 hQ S6 hS6 xS => ?_) (fun E V9 hQ S9 hS9 xS9 => gd_th hQ S9 hS9 (Ex_tr hx3 xS9))
    have hx6 : Ex S0 S6 := Ex_tr hx3 xS
    have h6_a0 := xS _ _ h3_a0
    refine st_gd (fun h => by exact h) hQ (fun hQ => ?_)
    refine sim_X8_isSide n hS6 (show ((((mI S a0 1) + 1) / (r7 + 1))) = ((((vI V a0v 1) + 1) / (r7 + 1))) from by simp only [SM_I hS h_a0]) ?_
    refine gd_mono (gd_bd hQ) (fun r9 V8 hQ S8 hS8 xS => ?_) (fun E V9 hQ S9 hS9 xS9 => gd_th hQ S9 hS9 (Ex_tr hx6 xS9))
    have hx8 : Ex S0 S8 := Ex_tr hx6 xS
    have h8_a0 := xS _ _ h6_a0
    refine st_if rfl hQ (fun hQ => ?_) (fun hQ => ?_)
    · exact sX8_load_74 n hS8 hx8 hQ
    · refine sim_X8_isSide n hS8 rfl ?_
      refine gd_mono (gd_bd hQ) (fun r11 V10 hQ S10 hS10 xS => ?_) (fun E V9 hQ S9 hS9 xS9 => gd_th hQ S9 hS9 (Ex_tr hx8 xS9))
      have hx10 : Ex S0 S10 := Ex_tr hx8 xS
      have h10_a0 := xS _ _ h8_a0
      refine st_ifn rfl hQ (fun hQ => ?_) (fun hQ => ?_)
      · refine st_rd hS10 h10_a0 rfl hQ (fun a12 a12v h10_a12 hQ => ?_)
        refine sim_X2_reset n hS10 h10_a12 rfl ?_
        refine gd_mono (gd_bd hQ) (fun _ V13 hQ S13 hS13 xS => ?_) (fun E V9 hQ S9 hS9 xS9 => gd_th hQ S9 hS9 (Ex_tr hx10 xS9))
        have hx13 : Ex S0 S13 := Ex_tr hx10 xS
        have h13_a0 := xS _ _ h10_a0
        refine st_rd hS13 h13_a0 rfl hQ (fun a14 a14v h13_a14 hQ => ?_)
        refine st_rd hS13 h13_a14 rfl hQ (fun a15 a15v h13_a15 hQ => ?_)
        refine st_rd hS13 h13_a0 rfl hQ (fun a16 a16v h13_a16 hQ => ?_)
        refine sim_X3_read n hS13 h13_a15 h13_a16 (show ((mI S a0 1)) = ((vI V a0v 1)) from by simp only [SM_I hS h_a0]) (show ((((mI S a0 1) + 1) / (r7 + 1))) = ((((vI V a0v 1) + 1) / (r7 + 1))) from by simp only [SM_I hS h_a0]) rfl ?_
        refine gd_mono (gd_bd hQ) (fun _ V17 hQ S17 hS17 xS => ?_) (fun E V9 hQ S9 hS9 xS9 => gd_th hQ S9 hS9 (Ex_tr hx13 xS9))
        have hx17 : Ex S0 S17 := Ex_tr hx13 xS
        have h17_a0 := xS _ _ h13_a0
        refine st_rd hS17 h17_a0 rfl hQ (fun a18 a18v h17_a18 hQ => ?_)
        intro S19 eS
        obtain ⟨V19, hS19, xS, hQ⟩ := st_sI hS17 h17_a18 eS rfl rfl hQ
        have hx19 : Ex S0 S19 := Ex_tr hx17 xS
        have h19_a0 := xS _ _ h17_a0
        refine st_rd hS19 h19_a0 rfl hQ (fun a20 a20v h19_a20 hQ => ?_)
        refine sim_X4_clear n hS19 h19_a20 ?_
        refine gd_mono (gd_bd hQ) (fun _ V21 hQ S21 hS21 xS => ?_) (fun E V9 hQ S9 hS9 xS9 => gd_th hQ S9 hS9 (Ex_tr hx19 xS9))
        have hx21 : Ex S0 S21 := Ex_tr hx19 xS
        have h21_a0 := xS _ _ h19_a0
        simp only [SM_I hS h_a0]
        exact gd_rt hQ _ hS21 hx21
      · exact sX8_load_74 n hS10 hx10 hQ
  · intro S22 eS
    obtain ⟨V22, hS22, xS, hQ⟩ := st_sI hS3 h3_a0 eS rfl rfl hQ
    have hx22 : Ex S0 S22 := Ex_tr hx3 xS
    exact gd_th hQ _ hS22 hx22
def ev_X8_load (n : Nat) (V : VS) (a0v : Nat) (x1 : Int32) : Rs Int32 := eX8_load_0 n V a0v x1
theorem sim_X8_load (n : Nat) {Q : Int32 → MS → Prop} {QX : String → MS → Prop} {S : MS} {V : VS} {a0 a0v : Nat} {x1 x1z : Int32} (hS : SM S V) (h_a0 : Ad S a0 a0v) (e_x1 : x1 = x1z) (hQ : gd (ev_X8_load n V a0v x1z) (SQ Q S) (SX QX S)) : wp_X8_load Q QX S a0 x1 := by
  subst e_x1
  exact sX8_load_0 n hS Ex_rf h_a0 hQ
def eX8_errorPosition_0 (n : Nat) (V : VS) (a0v : Nat) : Rs Int32 := (if 0 ≤ (vI V a0v 2) then rt (vI V a0v 2) V else th "java/util/NoSuchElementException" V)
set_option maxHeartbeats 4000000 in
set_option maxRecDepth 100000 in
theorem sX8_errorPosition_0 (n : Nat) {S0 : MS} {Q : Int32 → MS → Prop} {QX : String → MS → Prop} {S : MS} {V : VS} {a0 a0v : Nat} (hS : SM S V) (hx : Ex S0 S) (h_a0 : Ad S a0 a0v) (hQ : gd (eX8_errorPosition_0 n V a0v) (SQ Q S0) (SX QX S0)) : wX8_errorPosition_0 Q QX S a0 := by
  unfold wX8_errorPosition_0
  unfold eX8_errorPosition_0 at hQ
  refine st_if (show (0 ≤ (mI S a0 2)) = (0 ≤ (vI V a0v 2)) from by simp only [SM_I hS h_a0]) hQ (fun hQ => ?_) (fun hQ => ?_)
  · simp only [SM_I hS h_a0]
    exact gd_rt hQ _ hS hx
  · exact gd_th hQ _ hS hx
def ev_X8_errorPosition (n : Nat) (V : VS) (a0v : Nat) : Rs Int32 := eX8_errorPosition_0 n V a0v
theorem sim_X8_errorPosition (n : Nat) {Q : Int32 → MS → Prop} {QX : String → MS → Prop} {S : MS} {V : VS} {a0 a0v : Nat} (hS : SM S V) (h_a0 : Ad S a0 a0v) (hQ : gd (ev_X8_errorPosition n V a0v) (SQ Q S) (SX QX S)) : wp_X8_errorPosition Q QX S a0 := by
  exact sX8_errorPosition_0 n hS Ex_rf h_a0 hQ
def eX8_terrain_32 (n : Nat) (V : VS) : Rs Int32 := th "java/lang/IndexOutOfBoundsException" V
set_option maxHeartbeats 4000000 in
set_option maxRecDepth 100000 in
theorem sX8_terrain_32 (n : Nat) {S0 : MS} {Q : Int32 → MS → Prop} {QX : String → MS → Prop} {S : MS} {V : VS} (hS : SM S V) (hx : Ex S0 S) (hQ : gd (eX8_terrain_32 n V) (SQ Q S0) (SX QX S0)) : wX8_terrain_32 Q QX S := by
  unfold wX8_terrain_32
  unfold eX8_terrain_32 at hQ
  exact gd_th hQ _ hS hx
def eX8_terrain_0 (n : Nat) (V : VS) (a0v : Nat) (x1 : Int32) (x2 : Int32) : Rs Int32 := (vR V a0v 3).bind (fun a1v => (vR V a1v 0).bind (fun a2v => (if x1 < 0 then eX8_terrain_32 n V else (if (vI V a2v 1) ≤ x1 then eX8_terrain_32 n V else (if x2 < 0 then eX8_terrain_32 n V else (if x2 < (vI V a2v 2) then bd (ev_X3_ground n V a2v ((x1 * (vI V a2v 2)) + x2)) (fun r4 V3 => (if r4 < 0 then rt 46 V3 else bd (ev_J0_length_8abf5 n V3) (fun r7 V6 => (if r7 ≤ r4 then rt 46 V6 else bd (ev_J0_charAt_5068e n V6 r4) (fun r10 V9 => (if gisC r10 = true then rt r10 V9 else none)) th)) th)) th else eX8_terrain_32 n V))))))
set_option maxHeartbeats 4000000 in
set_option maxRecDepth 100000 in
theorem sX8_terrain_0 (n : Nat) {S0 : MS} {Q : Int32 → MS → Prop} {QX : String → MS → Prop} {S : MS} {V : VS} {a0 a0v : Nat} {x1 : Int32} {x2 : Int32} (hS : SM S V) (hx : Ex S0 S) (h_a0 : Ad S a0 a0v) (hQ : gd (eX8_terrain_0 n V a0v x1 x2) (SQ Q S0) (SX QX S0)) : wX8_terrain_0 Q QX S a0 x1 x2 := by
  unfold wX8_terrain_0
  unfold eX8_terrain_0 at hQ
  refine st_rd hS h_a0 rfl hQ (fun a1 a1v h_a1 hQ => ?_)
  refine st_rd hS h_a1 rfl hQ (fun a2 a2v h_a2 hQ => ?_)
  refine st_if rfl hQ (fun hQ => ?_) (fun hQ => ?_)
  · exact sX8_terrain_32 n hS hx hQ
  · refine st_if (show ((mI S a2 1) ≤ x1) = ((vI V a2v 1) ≤ x1) from by simp only [SM_I hS h_a2]) hQ (fun hQ => ?_) (fun hQ => ?_)
    · exact sX8_terrain_32 n hS hx hQ
    · refine st_if rfl hQ (fun hQ => ?_) (fun hQ => ?_)
      · exact sX8_terrain_32 n hS hx hQ
      · refine st_if (show (x2 < (mI S a2 2)) = (x2 < (vI V a2v 2)) from by simp only [SM_I hS h_a2]) hQ (fun hQ => ?_) (fun hQ => ?_)
        · refine sim_X3_ground n hS h_a2 (show (((x1 * (mI S a2 2)) + x2)) = (((x1 * (vI V a2v 2)) + x2)) from by simp only [SM_I hS h_a2]) ?_
          refine gd_mono (gd_bd hQ) (fun r4 V3 hQ S3 hS3 xS => ?_) (fun E V9 hQ S9 hS9 xS9 => gd_th hQ S9 hS9 (Ex_tr hx xS9))
          have hx3 : Ex S0 S3 := Ex_tr hx xS
          refine st_if rfl hQ (fun hQ => ?_) (fun hQ => ?_)
          · exact gd_rt hQ _ hS3 hx3
          · refine sim_J0_length_8abf5 n hS3 ?_
            refine gd_mono (gd_bd hQ) (fun r7 V6 hQ S6 hS6 xS => ?_) (fun E V9 hQ S9 hS9 xS9 => gd_th hQ S9 hS9 (Ex_tr hx3 xS9))
            have hx6 : Ex S0 S6 := Ex_tr hx3 xS
            refine st_if rfl hQ (fun hQ => ?_) (fun hQ => ?_)
            · exact gd_rt hQ _ hS6 hx6
            · refine sim_J0_charAt_5068e n hS6 rfl ?_
              refine gd_mono (gd_bd hQ) (fun r10 V9 hQ S9 hS9 xS => ?_) (fun E V9 hQ S9 hS9 xS9 => gd_th hQ S9 hS9 (Ex_tr hx6 xS9))
              have hx9 : Ex S0 S9 := Ex_tr hx6 xS
              refine st_gd (fun h => by exact gisC_of h) hQ (fun hQ => ?_)
              exact gd_rt hQ _ hS9 hx9
        · exact sX8_terrain_32 n hS hx hQ
def ev_X8_terrain (n : Nat) (V : VS) (a0v : Nat) (x1 : Int32) (x2 : Int32) : Rs Int32 := eX8_terrain_0 n V a0v x1 x2
theorem sim_X8_terrain (n : Nat) {Q : Int32 → MS → Prop} {QX : String → MS → Prop} {S : MS} {V : VS} {a0 a0v : Nat} {x1 x1z : Int32} {x2 x2z : Int32} (hS : SM S V) (h_a0 : Ad S a0 a0v) (e_x1 : x1 = x1z) (e_x2 : x2 = x2z) (hQ : gd (ev_X8_terrain n V a0v x1z x2z) (SQ Q S) (SX QX S)) : wp_X8_terrain Q QX S a0 x1 x2 := by
  subst e_x1 e_x2
  exact sX8_terrain_0 n hS Ex_rf h_a0 hQ
def eX8_requireCell_0 (n : Nat) (V : VS) (a0v : Nat) (x1 : Int32) : Rs Unit := (vR V a0v 3).bind (fun a1v => (vR V a1v 0).bind (fun a2v => bd (ev_X3_hasCell n V a2v x1) (fun r4 V3 => (if r4 = 0 then th "java/lang/IndexOutOfBoundsException" V3 else rt () V3)) th))
set_option maxHeartbeats 4000000 in
set_option maxRecDepth 100000 in
theorem sX8_requireCell_0 (n : Nat) {S0 : MS} {Q : MS → Prop} {QX : String → MS → Prop} {S : MS} {V : VS} {a0 a0v : Nat} {x1 : Int32} (hS : SM S V) (hx : Ex S0 S) (h_a0 : Ad S a0 a0v) (hQ : gd (eX8_requireCell_0 n V a0v x1) (SU Q S0) (SX QX S0)) : wX8_requireCell_0 Q QX S a0 x1 := by
  unfold wX8_requireCell_0
  unfold eX8_requireCell_0 at hQ
  refine st_rd hS h_a0 rfl hQ (fun a1 a1v h_a1 hQ => ?_)
  refine st_rd hS h_a1 rfl hQ (fun a2 a2v h_a2 hQ => ?_)
  refine sim_X3_hasCell n hS h_a2 rfl ?_
  refine gd_mono (gd_bd hQ) (fun r4 V3 hQ S3 hS3 xS => ?_) (fun E V9 hQ S9 hS9 xS9 => gd_th hQ S9 hS9 (Ex_tr hx xS9))
  have hx3 : Ex S0 S3 := Ex_tr hx xS
  refine st_ifn rfl hQ (fun hQ => ?_) (fun hQ => ?_)
  · exact gd_rt hQ _ hS3 hx3
  · exact gd_th hQ _ hS3 hx3
def ev_X8_requireCell (n : Nat) (V : VS) (a0v : Nat) (x1 : Int32) : Rs Unit := eX8_requireCell_0 n V a0v x1
theorem sim_X8_requireCell (n : Nat) {Q : MS → Prop} {QX : String → MS → Prop} {S : MS} {V : VS} {a0 a0v : Nat} {x1 x1z : Int32} (hS : SM S V) (h_a0 : Ad S a0 a0v) (e_x1 : x1 = x1z) (hQ : gd (ev_X8_requireCell n V a0v x1z) (SU Q S) (SX QX S)) : wp_X8_requireCell Q QX S a0 x1 := by
  subst e_x1
  exact sX8_requireCell_0 n hS Ex_rf h_a0 hQ
def eX8_isSeen_0 (n : Nat) (V : VS) (a0v : Nat) (x1 : Int32) (x2 : Int32) : Rs Int32 := bd (ev_X8_requireCell n V a0v x1) (fun _ V1 => bd (ev_X8_requireCell n V1 a0v x2) (fun _ V2 => (vR V2 a0v 3).bind (fun a3v => (vR V2 a3v 0).bind (fun a4v => bd (ev_X3_isClear n V2 a4v x1 x2) (fun r6 V5 => (if gisZ r6 = true then rt r6 V5 else none)) th))) th) th
set_option maxHeartbeats 4000000 in
set_option maxRecDepth 100000 in
theorem sX8_isSeen_0 (n : Nat) {S0 : MS} {Q : Int32 → MS → Prop} {QX : String → MS → Prop} {S : MS} {V : VS} {a0 a0v : Nat} {x1 : Int32} {x2 : Int32} (hS : SM S V) (hx : Ex S0 S) (h_a0 : Ad S a0 a0v) (hQ : gd (eX8_isSeen_0 n V a0v x1 x2) (SQ Q S0) (SX QX S0)) : wX8_isSeen_0 Q QX S a0 x1 x2 := by
  unfold wX8_isSeen_0
  unfold eX8_isSeen_0 at hQ
  refine sim_X8_requireCell n hS h_a0 rfl ?_
  refine gd_mono (gd_bd hQ) (fun _ V1 hQ S1 hS1 xS => ?_) (fun E V9 hQ S9 hS9 xS9 => gd_th hQ S9 hS9 (Ex_tr hx xS9))
  have hx1 : Ex S0 S1 := Ex_tr hx xS
  have h1_a0 := xS _ _ h_a0
  refine sim_X8_requireCell n hS1 h1_a0 rfl ?_
  refine gd_mono (gd_bd hQ) (fun _ V2 hQ S2 hS2 xS => ?_) (fun E V9 hQ S9 hS9 xS9 => gd_th hQ S9 hS9 (Ex_tr hx1 xS9))
  have hx2 : Ex S0 S2 := Ex_tr hx1 xS
  have h2_a0 := xS _ _ h1_a0
  refine st_rd hS2 h2_a0 rfl hQ (fun a3 a3v h2_a3 hQ => ?_)
  refine st_rd hS2 h2_a3 rfl hQ (fun a4 a4v h2_a4 hQ => ?_)
  refine sim_X3_isClear n hS2 h2_a4 rfl rfl ?_
  refine gd_mono (gd_bd hQ) (fun r6 V5 hQ S5 hS5 xS => ?_) (fun E V9 hQ S9 hS9 xS9 => gd_th hQ S9 hS9 (Ex_tr hx2 xS9))
  have hx5 : Ex S0 S5 := Ex_tr hx2 xS
  refine st_gd (fun h => by exact gisZ_of h) hQ (fun hQ => ?_)
  exact gd_rt hQ _ hS5 hx5
def ev_X8_isSeen (n : Nat) (V : VS) (a0v : Nat) (x1 : Int32) (x2 : Int32) : Rs Int32 := eX8_isSeen_0 n V a0v x1 x2
theorem sim_X8_isSeen (n : Nat) {Q : Int32 → MS → Prop} {QX : String → MS → Prop} {S : MS} {V : VS} {a0 a0v : Nat} {x1 x1z : Int32} {x2 x2z : Int32} (hS : SM S V) (h_a0 : Ad S a0 a0v) (e_x1 : x1 = x1z) (e_x2 : x2 = x2z) (hQ : gd (ev_X8_isSeen n V a0v x1z x2z) (SQ Q S) (SX QX S)) : wp_X8_isSeen Q QX S a0 x1 x2 := by
  subst e_x1 e_x2
  exact sX8_isSeen_0 n hS Ex_rf h_a0 hQ
def eX8_cover_0 (n : Nat) (V : VS) (a0v : Nat) (x1 : Int32) (x2 : Int32) : Rs Int32 := bd (ev_X8_requireCell n V a0v x1) (fun _ V1 => bd (ev_X8_requireCell n V1 a0v x2) (fun _ V2 => (vR V2 a0v 3).bind (fun a3v => (vR V2 a3v 0).bind (fun a4v => bd (ev_X3_coverOf n V2 a4v x1 x2) (fun r6 V5 => rt r6 V5) th))) th) th
set_option maxHeartbeats 4000000 in
set_option maxRecDepth 100000 in
theorem sX8_cover_0 (n : Nat) {S0 : MS} {Q : Int32 → MS → Prop} {QX : String → MS → Prop} {S : MS} {V : VS} {a0 a0v : Nat} {x1 : Int32} {x2 : Int32} (hS : SM S V) (hx : Ex S0 S) (h_a0 : Ad S a0 a0v) (hQ : gd (eX8_cover_0 n V a0v x1 x2) (SQ Q S0) (SX QX S0)) : wX8_cover_0 Q QX S a0 x1 x2 := by
  unfold wX8_cover_0
  unfold eX8_cover_0 at hQ
  refine sim_X8_requireCell n hS h_a0 rfl ?_
  refine gd_mono (gd_bd hQ) (fun _ V1 hQ S1 hS1 xS => ?_) (fun E V9 hQ S9 hS9 xS9 => gd_th hQ S9 hS9 (Ex_tr hx xS9))
  have hx1 : Ex S0 S1 := Ex_tr hx xS
  have h1_a0 := xS _ _ h_a0
  refine sim_X8_requireCell n hS1 h1_a0 rfl ?_
  refine gd_mono (gd_bd hQ) (fun _ V2 hQ S2 hS2 xS => ?_) (fun E V9 hQ S9 hS9 xS9 => gd_th hQ S9 hS9 (Ex_tr hx1 xS9))
  have hx2 : Ex S0 S2 := Ex_tr hx1 xS
  have h2_a0 := xS _ _ h1_a0
  refine st_rd hS2 h2_a0 rfl hQ (fun a3 a3v h2_a3 hQ => ?_)
  refine st_rd hS2 h2_a3 rfl hQ (fun a4 a4v h2_a4 hQ => ?_)
  refine sim_X3_coverOf n hS2 h2_a4 rfl rfl ?_
  refine gd_mono (gd_bd hQ) (fun r6 V5 hQ S5 hS5 xS => ?_) (fun E V9 hQ S9 hS9 xS9 => gd_th hQ S9 hS9 (Ex_tr hx2 xS9))
  have hx5 : Ex S0 S5 := Ex_tr hx2 xS
  exact gd_rt hQ _ hS5 hx5
def ev_X8_cover (n : Nat) (V : VS) (a0v : Nat) (x1 : Int32) (x2 : Int32) : Rs Int32 := eX8_cover_0 n V a0v x1 x2
theorem sim_X8_cover (n : Nat) {Q : Int32 → MS → Prop} {QX : String → MS → Prop} {S : MS} {V : VS} {a0 a0v : Nat} {x1 x1z : Int32} {x2 x2z : Int32} (hS : SM S V) (h_a0 : Ad S a0 a0v) (e_x1 : x1 = x1z) (e_x2 : x2 = x2z) (hQ : gd (ev_X8_cover n V a0v x1z x2z) (SQ Q S) (SX QX S)) : wp_X8_cover Q QX S a0 x1 x2 := by
  subst e_x1 e_x2
  exact sX8_cover_0 n hS Ex_rf h_a0 hQ
def eX8_requireTeam_0 (n : Nat) (V : VS) (x1 : Int32) : Rs Unit := (if x1 = 0 then rt () V else (if x1 = 1 then rt () V else th "java/lang/IndexOutOfBoundsException" V))
set_option maxHeartbeats 4000000 in
set_option maxRecDepth 100000 in
theorem sX8_requireTeam_0 (n : Nat) {S0 : MS} {Q : MS → Prop} {QX : String → MS → Prop} {S : MS} {V : VS} {x1 : Int32} (hS : SM S V) (hx : Ex S0 S) (hQ : gd (eX8_requireTeam_0 n V x1) (SU Q S0) (SX QX S0)) : wX8_requireTeam_0 Q QX S x1 := by
  unfold wX8_requireTeam_0
  unfold eX8_requireTeam_0 at hQ
  refine st_if rfl hQ (fun hQ => ?_) (fun hQ => ?_)
  · exact gd_rt hQ _ hS hx
  · refine st_if rfl hQ (fun hQ => ?_) (fun hQ => ?_)
    · exact gd_rt hQ _ hS hx
    · exact gd_th hQ _ hS hx
def ev_X8_requireTeam (n : Nat) (V : VS) (x1 : Int32) : Rs Unit := eX8_requireTeam_0 n V x1
theorem sim_X8_requireTeam (n : Nat) {Q : MS → Prop} {QX : String → MS → Prop} {S : MS} {V : VS} {x1 x1z : Int32} (hS : SM S V) (e_x1 : x1 = x1z) (hQ : gd (ev_X8_requireTeam n V x1z) (SU Q S) (SX QX S)) : wp_X8_requireTeam Q QX S x1 := by
  subst e_x1
  exact sX8_requireTeam_0 n hS Ex_rf hQ
def eX8_addUnit_13 (n : Nat) (V : VS) : Rs Int32 := th "java/lang/IndexOutOfBoundsException" V
set_option maxHeartbeats 4000000 in
set_option maxRecDepth 100000 in
theorem sX8_addUnit_13 (n : Nat) {S0 : MS} {Q : Int32 → MS → Prop} {QX : String → MS → Prop} {S : MS} {V : VS} (hS : SM S V) (hx : Ex S0 S) (hQ : gd (eX8_addUnit_13 n V) (SQ Q S0) (SX QX S0)) : wX8_addUnit_13 Q QX S := by
  unfold wX8_addUnit_13
  unfold eX8_addUnit_13 at hQ
  exact gd_th hQ _ hS hx
def eX8_addUnit_54 (n : Nat) (V : VS) : Rs Int32 := th "java/lang/IllegalArgumentException" V
set_option maxHeartbeats 4000000 in
set_option maxRecDepth 100000 in
theorem sX8_addUnit_54 (n : Nat) {S0 : MS} {Q : Int32 → MS → Prop} {QX : String → MS → Prop} {S : MS} {V : VS} (hS : SM S V) (hx : Ex S0 S) (hQ : gd (eX8_addUnit_54 n V) (SQ Q S0) (SX QX S0)) : wX8_addUnit_54 Q QX S := by
  unfold wX8_addUnit_54
  unfold eX8_addUnit_54 at hQ
  exact gd_th hQ _ hS hx
def eX8_addUnit_86 (n : Nat) (V : VS) : Rs Int32 := th "java/lang/IllegalStateException" V
set_option maxHeartbeats 4000000 in
set_option maxRecDepth 100000 in
theorem sX8_addUnit_86 (n : Nat) {S0 : MS} {Q : Int32 → MS → Prop} {QX : String → MS → Prop} {S : MS} {V : VS} (hS : SM S V) (hx : Ex S0 S) (hQ : gd (eX8_addUnit_86 n V) (SQ Q S0) (SX QX S0)) : wX8_addUnit_86 Q QX S := by
  unfold wX8_addUnit_86
  unfold eX8_addUnit_86 at hQ
  exact gd_th hQ _ hS hx
def eX8_addUnit_0 (n : Nat) (V : VS) (a0v : Nat) (x1 : Int32) (x2 : Int32) (x3 : Int32) : Rs Int32 := bd (ev_X8_requireTeam n V x1) (fun _ V1 => (if x2 < 0 then eX8_addUnit_13 n V1 else (if x2 < 4 then bd (ev_X8_requireCell n V1 a0v x3) (fun _ V2 => (vR V2 a0v 3).bind (fun a3v => (vR V2 a3v 0).bind (fun a4v => bd (ev_X3_ground n V2 a4v x3) (fun r6 V5 => (if r6 = 1 then eX8_addUnit_54 n V5 else (vR V5 a0v 3).bind (fun a7v => bd (ev_X2_hasUnitOn n V5 a7v x3) (fun r9 V8 => (if r9 = 0 then (vR V8 a0v 3).bind (fun a10v => bd (ev_X2_hasBegun n V8 a10v) (fun r12 V11 => (if r12 = 0 then (vR V11 a0v 3).bind (fun a13v => (if (vI V11 a13v 2) < 8 then (vR V11 a0v 3).bind (fun a14v => bd (ev_X2_enlist n V11 a14v x1 x2 x3) (fun r16 V15 => rt r16 V15) th) else eX8_addUnit_86 n V11)) else eX8_addUnit_86 n V11)) th) else eX8_addUnit_54 n V8)) th))) th))) th else eX8_addUnit_13 n V1))) th
set_option maxHeartbeats 4000000 in
set_option maxRecDepth 100000 in
theorem sX8_addUnit_0 (n : Nat) {S0 : MS} {Q : Int32 → MS → Prop} {QX : String → MS → Prop} {S : MS} {V : VS} {a0 a0v : Nat} {x1 : Int32} {x2 : Int32} {x3 : Int32} (hS : SM S V) (hx : Ex S0 S) (h_a0 : Ad S a0 a0v) (hQ : gd (eX8_addUnit_0 n V a0v x1 x2 x3) (SQ Q S0) (SX QX S0)) : wX8_addUnit_0 Q QX S a0 x1 x2 x3 := by
  unfold wX8_addUnit_0
  unfold eX8_addUnit_0 at hQ
  refine sim_X8_requireTeam n hS rfl ?_
  refine gd_mono (gd_bd hQ) (fun _ V1 hQ S1 hS1 xS => ?_) (fun E V9 hQ S9 hS9 xS9 => gd_th hQ S9 hS9 (Ex_tr hx xS9))
  have hx1 : Ex S0 S1 := Ex_tr hx xS
  have h1_a0 := xS _ _ h_a0
  refine st_if rfl hQ (fun hQ => ?_) (fun hQ => ?_)
  · exact sX8_addUnit_13 n hS1 hx1 hQ
  · refine st_if rfl hQ (fun hQ => ?_) (fun hQ => ?_)
    · refine sim_X8_requireCell n hS1 h1_a0 rfl ?_
      refine gd_mono (gd_bd hQ) (fun _ V2 hQ S2 hS2 xS => ?_) (fun E V9 hQ S9 hS9 xS9 => gd_th hQ S9 hS9 (Ex_tr hx1 xS9))
      have hx2 : Ex S0 S2 := Ex_tr hx1 xS
      have h2_a0 := xS _ _ h1_a0
      refine st_rd hS2 h2_a0 rfl hQ (fun a3 a3v h2_a3 hQ => ?_)
      refine st_rd hS2 h2_a3 rfl hQ (fun a4 a4v h2_a4 hQ => ?_)
      refine sim_X3_ground n hS2 h2_a4 rfl ?_
      refine gd_mono (gd_bd hQ) (fun r6 V5 hQ S5 hS5 xS => ?_) (fun E V9 hQ S9 hS9 xS9 => gd_th hQ S9 hS9 (Ex_tr hx2 xS9))
      have hx5 : Ex S0 S5 := Ex_tr hx2 xS
      have h5_a0 := xS _ _ h2_a0
      refine st_if rfl hQ (fun hQ => ?_) (fun hQ => ?_)
      · exact sX8_addUnit_54 n hS5 hx5 hQ
      · refine st_rd hS5 h5_a0 rfl hQ (fun a7 a7v h5_a7 hQ => ?_)
        refine sim_X2_hasUnitOn n hS5 h5_a7 rfl ?_
        refine gd_mono (gd_bd hQ) (fun r9 V8 hQ S8 hS8 xS => ?_) (fun E V9 hQ S9 hS9 xS9 => gd_th hQ S9 hS9 (Ex_tr hx5 xS9))
        have hx8 : Ex S0 S8 := Ex_tr hx5 xS
        have h8_a0 := xS _ _ h5_a0
        refine st_if rfl hQ (fun hQ => ?_) (fun hQ => ?_)
        · refine st_rd hS8 h8_a0 rfl hQ (fun a10 a10v h8_a10 hQ => ?_)
          refine sim_X2_hasBegun n hS8 h8_a10 ?_
          refine gd_mono (gd_bd hQ) (fun r12 V11 hQ S11 hS11 xS => ?_) (fun E V9 hQ S9 hS9 xS9 => gd_th hQ S9 hS9 (Ex_tr hx8 xS9))
          have hx11 : Ex S0 S11 := Ex_tr hx8 xS
          have h11_a0 := xS _ _ h8_a0
          refine st_ifn rfl hQ (fun hQ => ?_) (fun hQ => ?_)
          · exact sX8_addUnit_86 n hS11 hx11 hQ
          · refine st_rd hS11 h11_a0 rfl hQ (fun a13 a13v h11_a13 hQ => ?_)
            refine st_if (show ((mI S11 a13 2) < 8) = ((vI V11 a13v 2) < 8) from by simp only [SM_I hS11 h11_a13]) hQ (fun hQ => ?_) (fun hQ => ?_)
            · refine st_rd hS11 h11_a0 rfl hQ (fun a14 a14v h11_a14 hQ => ?_)
              refine sim_X2_enlist n hS11 h11_a14 rfl rfl rfl ?_
              refine gd_mono (gd_bd hQ) (fun r16 V15 hQ S15 hS15 xS => ?_) (fun E V9 hQ S9 hS9 xS9 => gd_th hQ S9 hS9 (Ex_tr hx11 xS9))
              have hx15 : Ex S0 S15 := Ex_tr hx11 xS
              exact gd_rt hQ _ hS15 hx15
            · exact sX8_addUnit_86 n hS11 hx11 hQ
        · exact sX8_addUnit_54 n hS8 hx8 hQ
    · exact sX8_addUnit_13 n hS1 hx1 hQ
def ev_X8_addUnit (n : Nat) (V : VS) (a0v : Nat) (x1 : Int32) (x2 : Int32) (x3 : Int32) : Rs Int32 := eX8_addUnit_0 n V a0v x1 x2 x3
theorem sim_X8_addUnit (n : Nat) {Q : Int32 → MS → Prop} {QX : String → MS → Prop} {S : MS} {V : VS} {a0 a0v : Nat} {x1 x1z : Int32} {x2 x2z : Int32} {x3 x3z : Int32} (hS : SM S V) (h_a0 : Ad S a0 a0v) (e_x1 : x1 = x1z) (e_x2 : x2 = x2z) (e_x3 : x3 = x3z) (hQ : gd (ev_X8_addUnit n V a0v x1z x2z x3z) (SQ Q S) (SX QX S)) : wp_X8_addUnit Q QX S a0 x1 x2 x3 := by
  subst e_x1 e_x2 e_x3
  exact sX8_addUnit_0 n hS Ex_rf h_a0 hQ
def eX8_unitCount_0 (n : Nat) (V : VS) (a0v : Nat) : Rs Int32 := (vR V a0v 3).bind (fun a1v => rt (vI V a1v 2) V)
set_option maxHeartbeats 4000000 in
set_option maxRecDepth 100000 in
theorem sX8_unitCount_0 (n : Nat) {S0 : MS} {Q : Int32 → MS → Prop} {QX : String → MS → Prop} {S : MS} {V : VS} {a0 a0v : Nat} (hS : SM S V) (hx : Ex S0 S) (h_a0 : Ad S a0 a0v) (hQ : gd (eX8_unitCount_0 n V a0v) (SQ Q S0) (SX QX S0)) : wX8_unitCount_0 Q QX S a0 := by
  unfold wX8_unitCount_0
  unfold eX8_unitCount_0 at hQ
  refine st_rd hS h_a0 rfl hQ (fun a1 a1v h_a1 hQ => ?_)
  simp only [SM_I hS h_a1]
  exact gd_rt hQ _ hS hx
def ev_X8_unitCount (n : Nat) (V : VS) (a0v : Nat) : Rs Int32 := eX8_unitCount_0 n V a0v
theorem sim_X8_unitCount (n : Nat) {Q : Int32 → MS → Prop} {QX : String → MS → Prop} {S : MS} {V : VS} {a0 a0v : Nat} (hS : SM S V) (h_a0 : Ad S a0 a0v) (hQ : gd (ev_X8_unitCount n V a0v) (SQ Q S) (SX QX S)) : wp_X8_unitCount Q QX S a0 := by
  exact sX8_unitCount_0 n hS Ex_rf h_a0 hQ
def eX8_requireUnit_0 (n : Nat) (V : VS) (a0v : Nat) (x1 : Int32) : Rs (Option Nat) := (vR V a0v 3).bind (fun a1v => bd (ev_X2_find n V a1v x1) (fun r3v V2 => om r3v (th "java/lang/IndexOutOfBoundsException" V2) (fun a4v => rt (some a4v) V2)) th)
set_option maxHeartbeats 4000000 in
set_option maxRecDepth 100000 in
theorem sX8_requireUnit_0 (n : Nat) {S0 : MS} {Q : Option Nat → MS → Prop} {QX : String → MS → Prop} {S : MS} {V : VS} {a0 a0v : Nat} {x1 : Int32} (hS : SM S V) (hx : Ex S0 S) (h_a0 : Ad S a0 a0v) (hQ : gd (eX8_requireUnit_0 n V a0v x1) (SO Q S0) (SX QX S0)) : wX8_requireUnit_0 Q QX S a0 x1 := by
  unfold wX8_requireUnit_0
  unfold eX8_requireUnit_0 at hQ
  refine st_rd hS h_a0 rfl hQ (fun a1 a1v h_a1 hQ => ?_)
  refine sim_X2_find n hS h_a1 rfl ?_
  refine gd_mono (gd_bd hQ) (fun r3v V2 hQ S2 r3 hS2 xS o2_r3 => ?_) (fun E V9 hQ S9 hS9 xS9 => gd_th hQ S9 hS9 (Ex_tr hx xS9))
  have hx2 : Ex S0 S2 := Ex_tr hx xS
  refine st_om o2_r3 hQ (fun hQ => ?_) (fun a4 a4v h2_a4 hQ => ?_)
  · exact gd_th hQ _ hS2 hx2
  · exact gd_rt hQ _ _ hS2 hx2 ⟨_, rfl, h2_a4⟩
def ev_X8_requireUnit (n : Nat) (V : VS) (a0v : Nat) (x1 : Int32) : Rs (Option Nat) := eX8_requireUnit_0 n V a0v x1
theorem sim_X8_requireUnit (n : Nat) {Q : Option Nat → MS → Prop} {QX : String → MS → Prop} {S : MS} {V : VS} {a0 a0v : Nat} {x1 x1z : Int32} (hS : SM S V) (h_a0 : Ad S a0 a0v) (e_x1 : x1 = x1z) (hQ : gd (ev_X8_requireUnit n V a0v x1z) (SO Q S) (SX QX S)) : wp_X8_requireUnit Q QX S a0 x1 := by
  subst e_x1
  exact sX8_requireUnit_0 n hS Ex_rf h_a0 hQ
def eX8_unit_0 (n : Nat) (V : VS) (a0v : Nat) (x1 : Int32) (x2 : Int32) : Rs Int32 := bd (ev_X8_requireUnit n V a0v x1) (fun r2v V1 => Option.bind r2v (fun a3v => (if (x2 : Int32).toInt < 0 ∨ 11 < (x2 : Int32).toInt then th "java/lang/IllegalArgumentException" V1 else (if (x2 : Int32).toInt = 0 then rt (vI V1 a3v 1) V1 else (if (x2 : Int32).toInt = 1 then rt (vI V1 a3v 2) V1 else (if (x2 : Int32).toInt = 2 then rt (vI V1 a3v 4) V1 else (if (x2 : Int32).toInt = 3 then rt (vI V1 a3v 5) V1 else (if (x2 : Int32).toInt = 4 then rt (vI V1 a3v 6) V1 else (if (x2 : Int32).toInt = 5 then rt (vI V1 a3v 7) V1 else (if (x2 : Int32).toInt = 6 then (vR V1 a0v 3).bind (fun a4v => (if x1 = (vI V1 a4v 6) then (vR V1 a0v 3).bind (fun a5v => rt (vI V1 a5v 7) V1) else rt 0 V1)) else (if (x2 : Int32).toInt = 7 then rt (vI V1 a3v 8) V1 else (if (x2 : Int32).toInt = 8 then rt (vI V1 a3v 9) V1 else (if (x2 : Int32).toInt = 9 then rt (vI V1 a3v 10) V1 else (if (x2 : Int32).toInt = 10 then (if (vI V1 a3v 11) = 0 then rt 0 V1 else rt 1 V1) else (if (x2 : Int32).toInt = 11 then (if (vI V1 a3v 12) = 0 then rt 0 V1 else rt 1 V1) else none))))))))))))))) th
set_option maxHeartbeats 4000000 in
set_option maxRecDepth 100000 in
theorem sX8_unit_0 (n : Nat) {S0 : MS} {Q : Int32 → MS → Prop} {QX : String → MS → Prop} {S : MS} {V : VS} {a0 a0v : Nat} {x1 : Int32} {x2 : Int32} (hS : SM S V) (hx : Ex S0 S) (h_a0 : Ad S a0 a0v) (hQ : gd (eX8_unit_0 n V a0v x1 x2) (SQ Q S0) (SX QX S0)) : wX8_unit_0 Q QX S a0 x1 x2 := by
  unfold wX8_unit_0
  unfold eX8_unit_0 at hQ
  refine sim_X8_requireUnit n hS h_a0 rfl ?_
  refine gd_mono (gd_bd hQ) (fun r2v V1 hQ S1 r2 hS1 xS o1_r2 => ?_) (fun E V9 hQ S9 hS9 xS9 => gd_th hQ S9 hS9 (Ex_tr hx xS9))
  have hx1 : Ex S0 S1 := Ex_tr hx xS
  have h1_a0 := xS _ _ h_a0
  refine st_un o1_r2 hQ (fun a3 a3v h1_a3 hQ => ?_)
  refine ⟨fun hc => ?_, fun hc => ?_, fun hc => ?_, fun hc => ?_, fun hc => ?_, fun hc => ?_, fun hc => ?_, fun hc => ?_, fun hc => ?_, fun hc => ?_, fun hc => ?_, fun hc => ?_, fun hc => ?_⟩
  · have hQ := gd_yes hQ hc
    exact gd_th hQ _ hS1 hx1
  · have hQ := gd_no hQ (by omega)
    have hQ := gd_yes hQ hc
    simp only [SM_I hS1 h1_a3]
    exact gd_rt hQ _ hS1 hx1
  · have hQ := gd_no hQ (by omega)
    have hQ := gd_no hQ (by omega)
    have hQ := gd_yes hQ hc
    simp only [SM_I hS1 h1_a3]
    exact gd_rt hQ _ hS1 hx1
  · have hQ := gd_no hQ (by omega)
    have hQ := gd_no hQ (by omega)
    have hQ := gd_no hQ (by omega)
    have hQ := gd_yes hQ hc
    simp only [SM_I hS1 h1_a3]
    exact gd_rt hQ _ hS1 hx1
  · have hQ := gd_no hQ (by omega)
    have hQ := gd_no hQ (by omega)
    have hQ := gd_no hQ (by omega)
    have hQ := gd_no hQ (by omega)
    have hQ := gd_yes hQ hc
    simp only [SM_I hS1 h1_a3]
    exact gd_rt hQ _ hS1 hx1
  · have hQ := gd_no hQ (by omega)
    have hQ := gd_no hQ (by omega)
    have hQ := gd_no hQ (by omega)
    have hQ := gd_no hQ (by omega)
    have hQ := gd_no hQ (by omega)
    have hQ := gd_yes hQ hc
    simp only [SM_I hS1 h1_a3]
    exact gd_rt hQ _ hS1 hx1
  · have hQ := gd_no hQ (by omega)
    have hQ := gd_no hQ (by omega)
    have hQ := gd_no hQ (by omega)
    have hQ := gd_no hQ (by omega)
    have hQ := gd_no hQ (by omega)
    have hQ := gd_no hQ (by omega)
    have hQ := gd_yes hQ hc
    simp only [SM_I hS1 h1_a3]
    exact gd_rt hQ _ hS1 hx1
  · have hQ := gd_no hQ (by omega)
    have hQ := gd_no hQ (by omega)
    have hQ := gd_no hQ (by omega)
    have hQ := gd_no hQ (by omega)
    have hQ := gd_no hQ (by omega)
    have hQ := gd_no hQ (by omega)
    have hQ := gd_no hQ (by omega)
    have hQ := gd_yes hQ hc
    refine st_rd hS1 h1_a0 rfl hQ (fun a4 a4v h1_a4 hQ => ?_)
    refine st_ifn (show (x1 = (mI S1 a4 6)) = (x1 = (vI V1 a4v 6)) from by simp only [SM_I hS1 h1_a4]) hQ (fun hQ => ?_) (fun hQ => ?_)
    · exact gd_rt hQ _ hS1 hx1
    · refine st_rd hS1 h1_a0 rfl hQ (fun a5 a5v h1_a5 hQ => ?_)
      simp only [SM_I hS1 h1_a5]
      exact gd_rt hQ _ hS1 hx1
  · have hQ := gd_no hQ (by omega)
    have hQ := gd_no hQ (by omega)
    have hQ := gd_no hQ (by omega)
    have hQ := gd_no hQ (by omega)
    have hQ := gd_no hQ (by omega)
    have hQ := gd_no hQ (by omega)
    have hQ := gd_no hQ (by omega)
    have hQ := gd_no hQ (by omega)
    have hQ := gd_yes hQ hc
    simp only [SM_I hS1 h1_a3]
    exact gd_rt hQ _ hS1 hx1
  · have hQ := gd_no hQ (by omega)
    have hQ := gd_no hQ (by omega)
    have hQ := gd_no hQ (by omega)
    have hQ := gd_no hQ (by omega)
    have hQ := gd_no hQ (by omega)
    have hQ := gd_no hQ (by omega)
    have hQ := gd_no hQ (by omega)
    have hQ := gd_no hQ (by omega)
    have hQ := gd_no hQ (by omega)
    have hQ := gd_yes hQ hc
    simp only [SM_I hS1 h1_a3]
    exact gd_rt hQ _ hS1 hx1
  · have hQ := gd_no hQ (by omega)
    have hQ := gd_no hQ (by omega)
    have hQ := gd_no hQ (by omega)
    have hQ := gd_no hQ (by omega)
    have hQ := gd_no hQ (by omega)
    have hQ := gd_no hQ (by omega)
    have hQ := gd_no hQ (by omega)
    have hQ := gd_no hQ (by omega)
    have hQ := gd_no hQ (by omega)
    have hQ := gd_no hQ (by omega)
    have hQ := gd_yes hQ hc
    simp only [SM_I hS1 h1_a3]
    exact gd_rt hQ _ hS1 hx1
  · have hQ := gd_no hQ (by omega)
    have hQ := gd_no hQ (by omega)
    have hQ := gd_no hQ (by omega)
    have hQ := gd_no hQ (by omega)
    have hQ := gd_no hQ (by omega)
    have hQ := gd_no hQ (by omega)
    have hQ := gd_no hQ (by omega)
    have hQ := gd_no hQ (by omega)
    have hQ := gd_no hQ (by omega)
    have hQ := gd_no hQ (by omega)
    have hQ := gd_no hQ (by omega)
    have hQ := gd_yes hQ hc
    refine st_if (show ((mI S1 a3 11) = 0) = ((vI V1 a3v 11) = 0) from by simp only [SM_I hS1 h1_a3]) hQ (fun hQ => ?_) (fun hQ => ?_)
    · exact gd_rt hQ _ hS1 hx1
    · exact gd_rt hQ _ hS1 hx1
  · have hQ := gd_no hQ (by omega)
    have hQ := gd_no hQ (by omega)
    have hQ := gd_no hQ (by omega)
    have hQ := gd_no hQ (by omega)
    have hQ := gd_no hQ (by omega)
    have hQ := gd_no hQ (by omega)
    have hQ := gd_no hQ (by omega)
    have hQ := gd_no hQ (by omega)
    have hQ := gd_no hQ (by omega)
    have hQ := gd_no hQ (by omega)
    have hQ := gd_no hQ (by omega)
    have hQ := gd_no hQ (by omega)
    have hQ := gd_yes hQ hc
    refine st_if (show ((mI S1 a3 12) = 0) = ((vI V1 a3v 12) = 0) from by simp only [SM_I hS1 h1_a3]) hQ (fun hQ => ?_) (fun hQ => ?_)
    · exact gd_rt hQ _ hS1 hx1
    · exact gd_rt hQ _ hS1 hx1
def ev_X8_unit (n : Nat) (V : VS) (a0v : Nat) (x1 : Int32) (x2 : Int32) : Rs Int32 := eX8_unit_0 n V a0v x1 x2
theorem sim_X8_unit (n : Nat) {Q : Int32 → MS → Prop} {QX : String → MS → Prop} {S : MS} {V : VS} {a0 a0v : Nat} {x1 x1z : Int32} {x2 x2z : Int32} (hS : SM S V) (h_a0 : Ad S a0 a0v) (e_x1 : x1 = x1z) (e_x2 : x2 = x2z) (hQ : gd (ev_X8_unit n V a0v x1z x2z) (SQ Q S) (SX QX S)) : wp_X8_unit Q QX S a0 x1 x2 := by
  subst e_x1 e_x2
  exact sX8_unit_0 n hS Ex_rf h_a0 hQ
def eX8_begin_20 (n : Nat) (V : VS) : Rs Int32 := th "java/lang/IllegalStateException" V
set_option maxHeartbeats 4000000 in
set_option maxRecDepth 100000 in
theorem sX8_begin_20 (n : Nat) {S0 : MS} {Q : Int32 → MS → Prop} {QX : String → MS → Prop} {S : MS} {V : VS} (hS : SM S V) (hx : Ex S0 S) (hQ : gd (eX8_begin_20 n V) (SQ Q S0) (SX QX S0)) : wX8_begin_20 Q QX S := by
  unfold wX8_begin_20
  unfold eX8_begin_20 at hQ
  exact gd_th hQ _ hS hx
def eX8_begin_0 (n : Nat) (V : VS) (a0v : Nat) : Rs Int32 := (vR V a0v 3).bind (fun a1v => bd (ev_X2_hasBegun n V a1v) (fun r3 V2 => (if r3 = 0 then (vR V2 a0v 3).bind (fun a4v => bd (ev_X2_goesOn n V2 a4v) (fun r6 V5 => (if r6 = 0 then eX8_begin_20 n V5 else (vR V5 a0v 3).bind (fun a7v => bd (ev_X2_startRounds n V5 a7v) (fun _ V8 => (vR V8 a0v 3).bind (fun a9v => rt (vI V8 a9v 6) V8)) th))) th) else eX8_begin_20 n V2)) th)
set_option maxHeartbeats 4000000 in
set_option maxRecDepth 100000 in
theorem sX8_begin_0 (n : Nat) {S0 : MS} {Q : Int32 → MS → Prop} {QX : String → MS → Prop} {S : MS} {V : VS} {a0 a0v : Nat} (hS : SM S V) (hx : Ex S0 S) (h_a0 : Ad S a0 a0v) (hQ : gd (eX8_begin_0 n V a0v) (SQ Q S0) (SX QX S0)) : wX8_begin_0 Q QX S a0 := by
  unfold wX8_begin_0
  unfold eX8_begin_0 at hQ
  refine st_rd hS h_a0 rfl hQ (fun a1 a1v h_a1 hQ => ?_)
  refine sim_X2_hasBegun n hS h_a1 ?_
  refine gd_mono (gd_bd hQ) (fun r3 V2 hQ S2 hS2 xS => ?_) (fun E V9 hQ S9 hS9 xS9 => gd_th hQ S9 hS9 (Ex_tr hx xS9))
  have hx2 : Ex S0 S2 := Ex_tr hx xS
  have h2_a0 := xS _ _ h_a0
  refine st_ifn rfl hQ (fun hQ => ?_) (fun hQ => ?_)
  · exact sX8_begin_20 n hS2 hx2 hQ
  · refine st_rd hS2 h2_a0 rfl hQ (fun a4 a4v h2_a4 hQ => ?_)
    refine sim_X2_goesOn n hS2 h2_a4 ?_
    refine gd_mono (gd_bd hQ) (fun r6 V5 hQ S5 hS5 xS => ?_) (fun E V9 hQ S9 hS9 xS9 => gd_th hQ S9 hS9 (Ex_tr hx2 xS9))
    have hx5 : Ex S0 S5 := Ex_tr hx2 xS
    have h5_a0 := xS _ _ h2_a0
    refine st_ifn rfl hQ (fun hQ => ?_) (fun hQ => ?_)
    · refine st_rd hS5 h5_a0 rfl hQ (fun a7 a7v h5_a7 hQ => ?_)
      refine sim_X2_startRounds n hS5 h5_a7 ?_
      refine gd_mono (gd_bd hQ) (fun _ V8 hQ S8 hS8 xS => ?_) (fun E V9 hQ S9 hS9 xS9 => gd_th hQ S9 hS9 (Ex_tr hx5 xS9))
      have hx8 : Ex S0 S8 := Ex_tr hx5 xS
      have h8_a0 := xS _ _ h5_a0
      refine st_rd hS8 h8_a0 rfl hQ (fun a9 a9v h8_a9 hQ => ?_)
      simp only [SM_I hS8 h8_a9]
      exact gd_rt hQ _ hS8 hx8
    · exact sX8_begin_20 n hS5 hx5 hQ
def ev_X8_begin (n : Nat) (V : VS) (a0v : Nat) : Rs Int32 := eX8_begin_0 n V a0v
theorem sim_X8_begin (n : Nat) {Q : Int32 → MS → Prop} {QX : String → MS → Prop} {S : MS} {V : VS} {a0 a0v : Nat} (hS : SM S V) (h_a0 : Ad S a0 a0v) (hQ : gd (ev_X8_begin n V a0v) (SQ Q S) (SX QX S)) : wp_X8_begin Q QX S a0 := by
  exact sX8_begin_0 n hS Ex_rf h_a0 hQ
def eX8_condition_40 (n : Nat) (V : VS) (y1 : Int32) (y2 : Int32) : Rs Int32 := (if y1 = 0 then (if y2 = 0 then rt 4 V else rt 3 V) else rt 2 V)
set_option maxHeartbeats 4000000 in
set_option maxRecDepth 100000 in
theorem sX8_condition_40 (n : Nat) {S0 : MS} {Q : Int32 → MS → Prop} {QX : String → MS → Prop} {S : MS} {V : VS} {y1 : Int32} {y2 : Int32} (hS : SM S V) (hx : Ex S0 S) (hQ : gd (eX8_condition_40 n V y1 y2) (SQ Q S0) (SX QX S0)) : wX8_condition_40 Q QX S y1 y2 := by
  unfold wX8_condition_40
  unfold eX8_condition_40 at hQ
  refine st_if rfl hQ (fun hQ => ?_) (fun hQ => ?_)
  · refine st_if rfl hQ (fun hQ => ?_) (fun hQ => ?_)
    · exact gd_rt hQ _ hS hx
    · exact gd_rt hQ _ hS hx
  · exact gd_rt hQ _ hS hx
def eX8_condition_0 (n : Nat) (V : VS) (a0v : Nat) : Rs Int32 := (vR V a0v 3).bind (fun a1v => bd (ev_X2_hasBegun n V a1v) (fun r3 V2 => (if r3 = 0 then rt 0 V2 else (vR V2 a0v 3).bind (fun a4v => bd (ev_X2_hasLiving n V2 a4v 0) (fun r6 V5 => (vR V5 a0v 3).bind (fun a7v => bd (ev_X2_hasLiving n V5 a7v 1) (fun r9 V8 => (if r6 = 0 then eX8_condition_40 n V8 r6 r9 else (if r9 = 0 then eX8_condition_40 n V8 r6 r9 else rt 1 V8))) th)) th))) th)
set_option maxHeartbeats 4000000 in
set_option maxRecDepth 100000 in
theorem sX8_condition_0 (n : Nat) {S0 : MS} {Q : Int32 → MS → Prop} {QX : String → MS → Prop} {S : MS} {V : VS} {a0 a0v : Nat} (hS : SM S V) (hx : Ex S0 S) (h_a0 : Ad S a0 a0v) (hQ : gd (eX8_condition_0 n V a0v) (SQ Q S0) (SX QX S0)) : wX8_condition_0 Q QX S a0 := by
  unfold wX8_condition_0
  unfold eX8_condition_0 at hQ
  refine st_rd hS h_a0 rfl hQ (fun a1 a1v h_a1 hQ => ?_)
  refine sim_X2_hasBegun n hS h_a1 ?_
  refine gd_mono (gd_bd hQ) (fun r3 V2 hQ S2 hS2 xS => ?_) (fun E V9 hQ S9 hS9 xS9 => gd_th hQ S9 hS9 (Ex_tr hx xS9))
  have hx2 : Ex S0 S2 := Ex_tr hx xS
  have h2_a0 := xS _ _ h_a0
  refine st_ifn rfl hQ (fun hQ => ?_) (fun hQ => ?_)
  · refine st_rd hS2 h2_a0 rfl hQ (fun a4 a4v h2_a4 hQ => ?_)
    refine sim_X2_hasLiving n hS2 h2_a4 rfl ?_
    refine gd_mono (gd_bd hQ) (fun r6 V5 hQ S5 hS5 xS => ?_) (fun E V9 hQ S9 hS9 xS9 => gd_th hQ S9 hS9 (Ex_tr hx2 xS9))
    have hx5 : Ex S0 S5 := Ex_tr hx2 xS
    have h5_a0 := xS _ _ h2_a0
    refine st_rd hS5 h5_a0 rfl hQ (fun a7 a7v h5_a7 hQ => ?_)
    refine sim_X2_hasLiving n hS5 h5_a7 rfl ?_
    refine gd_mono (gd_bd hQ) (fun r9 V8 hQ S8 hS8 xS => ?_) (fun E V9 hQ S9 hS9 xS9 => gd_th hQ S9 hS9 (Ex_tr hx5 xS9))
    have hx8 : Ex S0 S8 := Ex_tr hx5 xS
    refine st_if rfl hQ (fun hQ => ?_) (fun hQ => ?_)
    · exact sX8_condition_40 n hS8 hx8 hQ
    · refine st_if rfl hQ (fun hQ => ?_) (fun hQ => ?_)
      · exact sX8_condition_40 n hS8 hx8 hQ
      · exact gd_rt hQ _ hS8 hx8
  · exact gd_rt hQ _ hS2 hx2
def ev_X8_condition (n : Nat) (V : VS) (a0v : Nat) : Rs Int32 := eX8_condition_0 n V a0v
theorem sim_X8_condition (n : Nat) {Q : Int32 → MS → Prop} {QX : String → MS → Prop} {S : MS} {V : VS} {a0 a0v : Nat} (hS : SM S V) (h_a0 : Ad S a0 a0v) (hQ : gd (ev_X8_condition n V a0v) (SQ Q S) (SX QX S)) : wp_X8_condition Q QX S a0 := by
  exact sX8_condition_0 n hS Ex_rf h_a0 hQ
def eX8_round_0 (n : Nat) (V : VS) (a0v : Nat) : Rs Int32 := (vR V a0v 3).bind (fun a1v => rt (vI V a1v 8) V)
set_option maxHeartbeats 4000000 in
set_option maxRecDepth 100000 in
theorem sX8_round_0 (n : Nat) {S0 : MS} {Q : Int32 → MS → Prop} {QX : String → MS → Prop} {S : MS} {V : VS} {a0 a0v : Nat} (hS : SM S V) (hx : Ex S0 S) (h_a0 : Ad S a0 a0v) (hQ : gd (eX8_round_0 n V a0v) (SQ Q S0) (SX QX S0)) : wX8_round_0 Q QX S a0 := by
  unfold wX8_round_0
  unfold eX8_round_0 at hQ
  refine st_rd hS h_a0 rfl hQ (fun a1 a1v h_a1 hQ => ?_)
  simp only [SM_I hS h_a1]
  exact gd_rt hQ _ hS hx
def ev_X8_round (n : Nat) (V : VS) (a0v : Nat) : Rs Int32 := eX8_round_0 n V a0v
theorem sim_X8_round (n : Nat) {Q : Int32 → MS → Prop} {QX : String → MS → Prop} {S : MS} {V : VS} {a0 a0v : Nat} (hS : SM S V) (h_a0 : Ad S a0 a0v) (hQ : gd (ev_X8_round n V a0v) (SQ Q S) (SX QX S)) : wp_X8_round Q QX S a0 := by
  exact sX8_round_0 n hS Ex_rf h_a0 hQ
def eX8_current_0 (n : Nat) (V : VS) (a0v : Nat) : Rs Int32 := (vR V a0v 3).bind (fun a1v => bd (ev_X2_onTurn n V a1v) (fun r3v V2 => om r3v (th "java/util/NoSuchElementException" V2) (fun a4v => (vR V2 a0v 3).bind (fun a5v => rt (vI V2 a5v 6) V2))) th)
set_option maxHeartbeats 4000000 in
set_option maxRecDepth 100000 in
theorem sX8_current_0 (n : Nat) {S0 : MS} {Q : Int32 → MS → Prop} {QX : String → MS → Prop} {S : MS} {V : VS} {a0 a0v : Nat} (hS : SM S V) (hx : Ex S0 S) (h_a0 : Ad S a0 a0v) (hQ : gd (eX8_current_0 n V a0v) (SQ Q S0) (SX QX S0)) : wX8_current_0 Q QX S a0 := by
  unfold wX8_current_0
  unfold eX8_current_0 at hQ
  refine st_rd hS h_a0 rfl hQ (fun a1 a1v h_a1 hQ => ?_)
  refine sim_X2_onTurn n hS h_a1 ?_
  refine gd_mono (gd_bd hQ) (fun r3v V2 hQ S2 r3 hS2 xS o2_r3 => ?_) (fun E V9 hQ S9 hS9 xS9 => gd_th hQ S9 hS9 (Ex_tr hx xS9))
  have hx2 : Ex S0 S2 := Ex_tr hx xS
  have h2_a0 := xS _ _ h_a0
  refine st_om o2_r3 hQ (fun hQ => ?_) (fun a4 a4v h2_a4 hQ => ?_)
  · exact gd_th hQ _ hS2 hx2
  · refine st_rd hS2 h2_a0 rfl hQ (fun a5 a5v h2_a5 hQ => ?_)
    simp only [SM_I hS2 h2_a5]
    exact gd_rt hQ _ hS2 hx2
def ev_X8_current (n : Nat) (V : VS) (a0v : Nat) : Rs Int32 := eX8_current_0 n V a0v
theorem sim_X8_current (n : Nat) {Q : Int32 → MS → Prop} {QX : String → MS → Prop} {S : MS} {V : VS} {a0 a0v : Nat} (hS : SM S V) (h_a0 : Ad S a0 a0v) (hQ : gd (ev_X8_current n V a0v) (SQ Q S) (SX QX S)) : wp_X8_current Q QX S a0 := by
  exact sX8_current_0 n hS Ex_rf h_a0 hQ
def eX8_order_25 (n : Nat) (V : VS) : Rs Int32 := th "java/util/NoSuchElementException" V
set_option maxHeartbeats 4000000 in
set_option maxRecDepth 100000 in
theorem sX8_order_25 (n : Nat) {S0 : MS} {Q : Int32 → MS → Prop} {QX : String → MS → Prop} {S : MS} {V : VS} (hS : SM S V) (hx : Ex S0 S) (hQ : gd (eX8_order_25 n V) (SQ Q S0) (SX QX S0)) : wX8_order_25 Q QX S := by
  unfold wX8_order_25
  unfold eX8_order_25 at hQ
  exact gd_th hQ _ hS hx
def eX8_order_0 (n : Nat) (V : VS) (a0v : Nat) (x1 : Int32) : Rs Int32 := (vR V a0v 3).bind (fun a1v => bd (ev_X2_hasBegun n V a1v) (fun r3 V2 => (if r3 = 0 then eX8_order_25 n V2 else (if x1 < 0 then eX8_order_25 n V2 else (vR V2 a0v 3).bind (fun a4v => (if x1 < (vI V2 a4v 4) then (vR V2 a0v 3).bind (fun a5v => (vR V2 a5v 3).bind (fun a6v => (if gvp_in x1 (vN V2 a6v) = true then rt (vI V2 a6v (x1 : Int32).toNatClampNeg) V2 else none))) else eX8_order_25 n V2))))) th)
set_option maxHeartbeats 4000000 in
set_option maxRecDepth 100000 in
theorem sX8_order_0 (n : Nat) {S0 : MS} {Q : Int32 → MS → Prop} {QX : String → MS → Prop} {S : MS} {V : VS} {a0 a0v : Nat} {x1 : Int32} (hS : SM S V) (hx : Ex S0 S) (h_a0 : Ad S a0 a0v) (hQ : gd (eX8_order_0 n V a0v x1) (SQ Q S0) (SX QX S0)) : wX8_order_0 Q QX S a0 x1 := by
  unfold wX8_order_0
  unfold eX8_order_0 at hQ
  refine st_rd hS h_a0 rfl hQ (fun a1 a1v h_a1 hQ => ?_)
  refine sim_X2_hasBegun n hS h_a1 ?_
  refine gd_mono (gd_bd hQ) (fun r3 V2 hQ S2 hS2 xS => ?_) (fun E V9 hQ S9 hS9 xS9 => gd_th hQ S9 hS9 (Ex_tr hx xS9))
  have hx2 : Ex S0 S2 := Ex_tr hx xS
  have h2_a0 := xS _ _ h_a0
  refine st_if rfl hQ (fun hQ => ?_) (fun hQ => ?_)
  · exact sX8_order_25 n hS2 hx2 hQ
  · refine st_if rfl hQ (fun hQ => ?_) (fun hQ => ?_)
    · exact sX8_order_25 n hS2 hx2 hQ
    · refine st_rd hS2 h2_a0 rfl hQ (fun a4 a4v h2_a4 hQ => ?_)
      refine st_if (show (x1 < (mI S2 a4 4)) = (x1 < (vI V2 a4v 4)) from by simp only [SM_I hS2 h2_a4]) hQ (fun hQ => ?_) (fun hQ => ?_)
      · refine st_rd hS2 h2_a0 rfl hQ (fun a5 a5v h2_a5 hQ => ?_)
        refine st_rd hS2 h2_a5 rfl hQ (fun a6 a6v h2_a6 hQ => ?_)
        refine st_gd (fun h => by simp only [SM_N hS2 h2_a6]; exact gvp_in_of h) hQ (fun hQ => ?_)
        simp only [SM_I hS2 h2_a6]
        exact gd_rt hQ _ hS2 hx2
      · exact sX8_order_25 n hS2 hx2 hQ
def ev_X8_order (n : Nat) (V : VS) (a0v : Nat) (x1 : Int32) : Rs Int32 := eX8_order_0 n V a0v x1
theorem sim_X8_order (n : Nat) {Q : Int32 → MS → Prop} {QX : String → MS → Prop} {S : MS} {V : VS} {a0 a0v : Nat} {x1 x1z : Int32} (hS : SM S V) (h_a0 : Ad S a0 a0v) (e_x1 : x1 = x1z) (hQ : gd (ev_X8_order n V a0v x1z) (SQ Q S) (SX QX S)) : wp_X8_order Q QX S a0 x1 := by
  subst e_x1
  exact sX8_order_0 n hS Ex_rf h_a0 hQ
def eX8_requireTurn_0 (n : Nat) (V : VS) (a0v : Nat) : Rs (Option Nat) := (vR V a0v 3).bind (fun a1v => bd (ev_X2_onTurn n V a1v) (fun r3v V2 => om r3v (th "java/lang/UnsupportedOperationException" V2) (fun a4v => rt (some a4v) V2)) th)
set_option maxHeartbeats 4000000 in
set_option maxRecDepth 100000 in
theorem sX8_requireTurn_0 (n : Nat) {S0 : MS} {Q : Option Nat → MS → Prop} {QX : String → MS → Prop} {S : MS} {V : VS} {a0 a0v : Nat} (hS : SM S V) (hx : Ex S0 S) (h_a0 : Ad S a0 a0v) (hQ : gd (eX8_requireTurn_0 n V a0v) (SO Q S0) (SX QX S0)) : wX8_requireTurn_0 Q QX S a0 := by
  unfold wX8_requireTurn_0
  unfold eX8_requireTurn_0 at hQ
  refine st_rd hS h_a0 rfl hQ (fun a1 a1v h_a1 hQ => ?_)
  refine sim_X2_onTurn n hS h_a1 ?_
  refine gd_mono (gd_bd hQ) (fun r3v V2 hQ S2 r3 hS2 xS o2_r3 => ?_) (fun E V9 hQ S9 hS9 xS9 => gd_th hQ S9 hS9 (Ex_tr hx xS9))
  have hx2 : Ex S0 S2 := Ex_tr hx xS
  refine st_om o2_r3 hQ (fun hQ => ?_) (fun a4 a4v h2_a4 hQ => ?_)
  · exact gd_th hQ _ hS2 hx2
  · exact gd_rt hQ _ _ hS2 hx2 ⟨_, rfl, h2_a4⟩
def ev_X8_requireTurn (n : Nat) (V : VS) (a0v : Nat) : Rs (Option Nat) := eX8_requireTurn_0 n V a0v
theorem sim_X8_requireTurn (n : Nat) {Q : Option Nat → MS → Prop} {QX : String → MS → Prop} {S : MS} {V : VS} {a0 a0v : Nat} (hS : SM S V) (h_a0 : Ad S a0 a0v) (hQ : gd (ev_X8_requireTurn n V a0v) (SO Q S) (SX QX S)) : wp_X8_requireTurn Q QX S a0 := by
  exact sX8_requireTurn_0 n hS Ex_rf h_a0 hQ
def eX8_requirePath_0 (n : Nat) (V : VS) (a0v : Nat) (b1v : Nat) (x2 : Int32) : Rs Int32 := (vR V a0v 10).bind (fun a1v => (vR V a0v 3).bind (fun a2v => bd (ev_X5_measure n V a1v a2v x2) (fun _ V3 => (vR V3 a0v 10).bind (fun a4v => bd (ev_X5_costsFrom n V3 a4v (vI V3 b1v 4)) (fun r6 V5 => (if r6 < 1000000 then rt r6 V5 else th "java/util/NoSuchElementException" V5)) th)) th))
set_option maxHeartbeats 4000000 in
set_option maxRecDepth 100000 in
theorem sX8_requirePath_0 (n : Nat) {S0 : MS} {Q : Int32 → MS → Prop} {QX : String → MS → Prop} {S : MS} {V : VS} {a0 a0v : Nat} {b1 b1v : Nat} {x2 : Int32} (hS : SM S V) (hx : Ex S0 S) (h_a0 : Ad S a0 a0v) (h_b1 : Ad S b1 b1v) (hQ : gd (eX8_requirePath_0 n V a0v b1v x2) (SQ Q S0) (SX QX S0)) : wX8_requirePath_0 Q QX S a0 b1 x2 := by
  unfold wX8_requirePath_0
  unfold eX8_requirePath_0 at hQ
  refine st_rd hS h_a0 rfl hQ (fun a1 a1v h_a1 hQ => ?_)
  refine st_rd hS h_a0 rfl hQ (fun a2 a2v h_a2 hQ => ?_)
  refine sim_X5_measure n hS h_a1 h_a2 rfl ?_
  refine gd_mono (gd_bd hQ) (fun _ V3 hQ S3 hS3 xS => ?_) (fun E V9 hQ S9 hS9 xS9 => gd_th hQ S9 hS9 (Ex_tr hx xS9))
  have hx3 : Ex S0 S3 := Ex_tr hx xS
  have h3_a0 := xS _ _ h_a0
  have h3_b1 := xS _ _ h_b1
  refine st_rd hS3 h3_a0 rfl hQ (fun a4 a4v h3_a4 hQ => ?_)
  refine sim_X5_costsFrom n hS3 h3_a4 (show ((mI S3 b1 4)) = ((vI V3 b1v 4)) from by simp only [SM_I hS3 h3_b1]) ?_
  refine gd_mono (gd_bd hQ) (fun r6 V5 hQ S5 hS5 xS => ?_) (fun E V9 hQ S9 hS9 xS9 => gd_th hQ S9 hS9 (Ex_tr hx3 xS9))
  have hx5 : Ex S0 S5 := Ex_tr hx3 xS
  refine st_if rfl hQ (fun hQ => ?_) (fun hQ => ?_)
  · exact gd_rt hQ _ hS5 hx5
  · exact gd_th hQ _ hS5 hx5
def ev_X8_requirePath (n : Nat) (V : VS) (a0v : Nat) (b1v : Nat) (x2 : Int32) : Rs Int32 := eX8_requirePath_0 n V a0v b1v x2
theorem sim_X8_requirePath (n : Nat) {Q : Int32 → MS → Prop} {QX : String → MS → Prop} {S : MS} {V : VS} {a0 a0v : Nat} {b1 b1v : Nat} {x2 x2z : Int32} (hS : SM S V) (h_a0 : Ad S a0 a0v) (h_b1 : Ad S b1 b1v) (e_x2 : x2 = x2z) (hQ : gd (ev_X8_requirePath n V a0v b1v x2z) (SQ Q S) (SX QX S)) : wp_X8_requirePath Q QX S a0 b1 x2 := by
  subst e_x2
  exact sX8_requirePath_0 n hS Ex_rf h_a0 h_b1 hQ
def eX8_costs_0 (n : Nat) (V : VS) (a0v : Nat) (x1 : Int32) : Rs Int32 := bd (ev_X8_requireCell n V a0v x1) (fun _ V1 => bd (ev_X8_requireTurn n V1 a0v) (fun r3v V2 => Option.bind r3v (fun a4v => bd (ev_X8_requirePath n V2 a0v a4v x1) (fun r6 V5 => rt r6 V5) th)) th) th
set_option maxHeartbeats 4000000 in
set_option maxRecDepth 100000 in
theorem sX8_costs_0 (n : Nat) {S0 : MS} {Q : Int32 → MS → Prop} {QX : String → MS → Prop} {S : MS} {V : VS} {a0 a0v : Nat} {x1 : Int32} (hS : SM S V) (hx : Ex S0 S) (h_a0 : Ad S a0 a0v) (hQ : gd (eX8_costs_0 n V a0v x1) (SQ Q S0) (SX QX S0)) : wX8_costs_0 Q QX S a0 x1 := by
  unfold wX8_costs_0
  unfold eX8_costs_0 at hQ
  refine sim_X8_requireCell n hS h_a0 rfl ?_
  refine gd_mono (gd_bd hQ) (fun _ V1 hQ S1 hS1 xS => ?_) (fun E V9 hQ S9 hS9 xS9 => gd_th hQ S9 hS9 (Ex_tr hx xS9))
  have hx1 : Ex S0 S1 := Ex_tr hx xS
  have h1_a0 := xS _ _ h_a0
  refine sim_X8_requireTurn n hS1 h1_a0 ?_
  refine gd_mono (gd_bd hQ) (fun r3v V2 hQ S2 r3 hS2 xS o2_r3 => ?_) (fun E V9 hQ S9 hS9 xS9 => gd_th hQ S9 hS9 (Ex_tr hx1 xS9))
  have hx2 : Ex S0 S2 := Ex_tr hx1 xS
  have h2_a0 := xS _ _ h1_a0
  refine st_un o2_r3 hQ (fun a4 a4v h2_a4 hQ => ?_)
  refine sim_X8_requirePath n hS2 h2_a0 h2_a4 rfl ?_
  refine gd_mono (gd_bd hQ) (fun r6 V5 hQ S5 hS5 xS => ?_) (fun E V9 hQ S9 hS9 xS9 => gd_th hQ S9 hS9 (Ex_tr hx2 xS9))
  have hx5 : Ex S0 S5 := Ex_tr hx2 xS
  exact gd_rt hQ _ hS5 hx5
def ev_X8_costs (n : Nat) (V : VS) (a0v : Nat) (x1 : Int32) : Rs Int32 := eX8_costs_0 n V a0v x1
theorem sim_X8_costs (n : Nat) {Q : Int32 → MS → Prop} {QX : String → MS → Prop} {S : MS} {V : VS} {a0 a0v : Nat} {x1 x1z : Int32} (hS : SM S V) (h_a0 : Ad S a0 a0v) (e_x1 : x1 = x1z) (hQ : gd (ev_X8_costs n V a0v x1z) (SQ Q S) (SX QX S)) : wp_X8_costs Q QX S a0 x1 := by
  subst e_x1
  exact sX8_costs_0 n hS Ex_rf h_a0 hQ
def eX8_pathCell_87 (n : Nat) (V : VS) : Rs Int32 := th "java/util/NoSuchElementException" V
set_option maxHeartbeats 4000000 in
set_option maxRecDepth 100000 in
theorem sX8_pathCell_87 (n : Nat) {S0 : MS} {Q : Int32 → MS → Prop} {QX : String → MS → Prop} {S : MS} {V : VS} (hS : SM S V) (hx : Ex S0 S) (hQ : gd (eX8_pathCell_87 n V) (SQ Q S0) (SX QX S0)) : wX8_pathCell_87 Q QX S := by
  unfold wX8_pathCell_87
  unfold eX8_pathCell_87 at hQ
  exact gd_th hQ _ hS hx
def eX8_pathCell_76 (n : Nat) (V : VS) (y2 : Int32) (y4 : Int32) : Rs Int32 := (if y4 < 0 then eX8_pathCell_87 n V else (if y2 < 64 then rt y4 V else eX8_pathCell_87 n V))
set_option maxHeartbeats 4000000 in
set_option maxRecDepth 100000 in
theorem sX8_pathCell_76 (n : Nat) {S0 : MS} {Q : Int32 → MS → Prop} {QX : String → MS → Prop} {S : MS} {V : VS} {y2 : Int32} {y4 : Int32} (hS : SM S V) (hx : Ex S0 S) (hQ : gd (eX8_pathCell_76 n V y2 y4) (SQ Q S0) (SX QX S0)) : wX8_pathCell_76 Q QX S y2 y4 := by
  unfold wX8_pathCell_76
  unfold eX8_pathCell_76 at hQ
  refine st_if rfl hQ (fun hQ => ?_) (fun hQ => ?_)
  · exact sX8_pathCell_87 n hS hx hQ
  · refine st_if rfl hQ (fun hQ => ?_) (fun hQ => ?_)
    · exact gd_rt hQ _ hS hx
    · exact sX8_pathCell_87 n hS hx hQ
def eX8_pathCell_34 (n : Nat) (k34v : VS → Nat → Int32 → Int32 → Int32 → Rs Int32) (V : VS) (a0v : Nat) (y2 : Int32) (y4 : Int32) (y5 : Int32) : Rs Int32 := (if y2 < y5 then eX8_pathCell_76 n V y2 y4 else (if 64 ≤ y5 then eX8_pathCell_76 n V y2 y4 else (if y4 < 0 then eX8_pathCell_76 n V y2 y4 else (vR V a0v 10).bind (fun a1v => (vR V a0v 3).bind (fun a2v => (vR V a2v 0).bind (fun a3v => bd (ev_X5_next n V a1v a3v y4) (fun r5 V4 => k34v V4 a0v y2 r5 (y5 + 1)) th))))))
set_option maxHeartbeats 4000000 in
set_option maxRecDepth 100000 in
theorem sX8_pathCell_34 (n : Nat) {S0 : MS} {Q : Int32 → MS → Prop} {QX : String → MS → Prop} {k34 : MS → Nat → Int32 → Int32 → Int32 → Prop} {k34v : VS → Nat → Int32 → Int32 → Int32 → Rs Int32} (hk34 : ∀ (S : MS) (V : VS) (p0 p0v : Nat) (p1 : Int32) (p2 : Int32) (p3 : Int32), SM S V → Ex S0 S → Ad S p0 p0v → gd (k34v V p0v p1 p2 p3) (SQ Q S0) (SX QX S0) → k34 S p0 p1 p2 p3) {S : MS} {V : VS} {a0 a0v : Nat} {y2 : Int32} {y4 : Int32} {y5 : Int32} (hS : SM S V) (hx : Ex S0 S) (h_a0 : Ad S a0 a0v) (hQ : gd (eX8_pathCell_34 n k34v V a0v y2 y4 y5) (SQ Q S0) (SX QX S0)) : wX8_pathCell_34 Q QX k34 S a0 y2 y4 y5 := by
  unfold wX8_pathCell_34
  unfold eX8_pathCell_34 at hQ
  refine st_if rfl hQ (fun hQ => ?_) (fun hQ => ?_)
  · exact sX8_pathCell_76 n hS hx hQ
  · refine st_if rfl hQ (fun hQ => ?_) (fun hQ => ?_)
    · exact sX8_pathCell_76 n hS hx hQ
    · refine st_if rfl hQ (fun hQ => ?_) (fun hQ => ?_)
      · exact sX8_pathCell_76 n hS hx hQ
      · refine st_rd hS h_a0 rfl hQ (fun a1 a1v h_a1 hQ => ?_)
        refine st_rd hS h_a0 rfl hQ (fun a2 a2v h_a2 hQ => ?_)
        refine st_rd hS h_a2 rfl hQ (fun a3 a3v h_a3 hQ => ?_)
        refine sim_X5_next n hS h_a1 h_a3 rfl ?_
        refine gd_mono (gd_bd hQ) (fun r5 V4 hQ S4 hS4 xS => ?_) (fun E V9 hQ S9 hS9 xS9 => gd_th hQ S9 hS9 (Ex_tr hx xS9))
        have hx4 : Ex S0 S4 := Ex_tr hx xS
        have h4_a0 := xS _ _ h_a0
        exact hk34 _ _ _ _ _ _ _ hS4 hx4 h4_a0 hQ
def elX8_pathCell_34 (n : Nat) : Nat → VS → Nat → Int32 → Int32 → Int32 → Rs Int32
  | 0 => fun _ _ _ _ _ => none
  | m + 1 => fun V a0v y2 y4 y5 => eX8_pathCell_34 n (elX8_pathCell_34 n m) V a0v y2 y4 y5
theorem selX8_pathCell_34 (n : Nat) {S0 : MS} {Q : Int32 → MS → Prop} {QX : String → MS → Prop} : ∀ (m : Nat), ∀ (S : MS) (V : VS) (p0 p0v : Nat) (p1 : Int32) (p2 : Int32) (p3 : Int32), SM S V → Ex S0 S → Ad S p0 p0v → gd (elX8_pathCell_34 n m V p0v p1 p2 p3) (SQ Q S0) (SX QX S0) → lX8_pathCell_34 Q QX m S p0 p1 p2 p3 := by
  intro m
  induction m with
  | zero => intro S V p0 p0v p1 p2 p3 hS hx q0 hQ; exact (gd_none hQ).elim
  | succ m ih => intro S V p0 p0v p1 p2 p3 hS hx q0 hQ; exact sX8_pathCell_34 n ih hS hx q0 hQ
def eX8_pathCell_0 (n : Nat) (V : VS) (a0v : Nat) (x1 : Int32) (x2 : Int32) : Rs Int32 := bd (ev_X8_requireCell n V a0v x1) (fun _ V1 => bd (ev_X8_requireTurn n V1 a0v) (fun r3v V2 => Option.bind r3v (fun a4v => bd (ev_X8_requirePath n V2 a0v a4v x1) (fun r6 V5 => (if 0 ≤ x2 then elX8_pathCell_34 n n V5 a0v x2 (vI V5 a4v 4) 0 else elX8_pathCell_34 n n V5 a0v x2 (-1) 0)) th)) th) th
set_option maxHeartbeats 4000000 in
set_option maxRecDepth 100000 in
theorem sX8_pathCell_0 (n : Nat) {S0 : MS} {Q : Int32 → MS → Prop} {QX : String → MS → Prop} {S : MS} {V : VS} {a0 a0v : Nat} {x1 : Int32} {x2 : Int32} (hS : SM S V) (hx : Ex S0 S) (h_a0 : Ad S a0 a0v) (hQ : gd (eX8_pathCell_0 n V a0v x1 x2) (SQ Q S0) (SX QX S0)) : wX8_pathCell_0 Q QX S a0 x1 x2 := by
  unfold wX8_pathCell_0
  unfold eX8_pathCell_0 at hQ
  refine sim_X8_requireCell n hS h_a0 rfl ?_
  refine gd_mono (gd_bd hQ) (fun _ V1 hQ S1 hS1 xS => ?_) (fun E V9 hQ S9 hS9 xS9 => gd_th hQ S9 hS9 (Ex_tr hx xS9))
  have hx1 : Ex S0 S1 := Ex_tr hx xS
  have h1_a0 := xS _ _ h_a0
  refine sim_X8_requireTurn n hS1 h1_a0 ?_
  refine gd_mono (gd_bd hQ) (fun r3v V2 hQ S2 r3 hS2 xS o2_r3 => ?_) (fun E V9 hQ S9 hS9 xS9 => gd_th hQ S9 hS9 (Ex_tr hx1 xS9))
  have hx2 : Ex S0 S2 := Ex_tr hx1 xS
  have h2_a0 := xS _ _ h1_a0
  refine st_un o2_r3 hQ (fun a4 a4v h2_a4 hQ => ?_)
  refine sim_X8_requirePath n hS2 h2_a0 h2_a4 rfl ?_
  refine gd_mono (gd_bd hQ) (fun r6 V5 hQ S5 hS5 xS => ?_) (fun E V9 hQ S9 hS9 xS9 => gd_th hQ S9 hS9 (Ex_tr hx2 xS9))
  have hx5 : Ex S0 S5 := Ex_tr hx2 xS
  have h5_a0 := xS _ _ h2_a0
  have h5_a4 := xS _ _ h2_a4
  refine st_if rfl hQ (fun hQ => ?_) (fun hQ => ?_)
  · refine ⟨n, ?_⟩
    simp only [SM_I hS5 h5_a4]
    exact selX8_pathCell_34 n n _ _ _ _ _ _ _ hS5 hx5 h5_a0 hQ
  · refine ⟨n, ?_⟩
    exact selX8_pathCell_34 n n _ _ _ _ _ _ _ hS5 hx5 h5_a0 hQ
def ev_X8_pathCell (n : Nat) (V : VS) (a0v : Nat) (x1 : Int32) (x2 : Int32) : Rs Int32 := eX8_pathCell_0 n V a0v x1 x2
theorem sim_X8_pathCell (n : Nat) {Q : Int32 → MS → Prop} {QX : String → MS → Prop} {S : MS} {V : VS} {a0 a0v : Nat} {x1 x1z : Int32} {x2 x2z : Int32} (hS : SM S V) (h_a0 : Ad S a0 a0v) (e_x1 : x1 = x1z) (e_x2 : x2 = x2z) (hQ : gd (ev_X8_pathCell n V a0v x1z x2z) (SQ Q S) (SX QX S)) : wp_X8_pathCell Q QX S a0 x1 x2 := by
  subst e_x1 e_x2
  exact sX8_pathCell_0 n hS Ex_rf h_a0 hQ
