def eX3_rowOf_0 (n : Nat) (V : VS) (a0v : Nat) (x1 : Int32) : Rs Int32 := (if 1 ≤ (vI V a0v 2) then (if ¬ (vI V a0v 2) = 0 then rt (x1 / (vI V a0v 2)) V else none) else rt 0 V)
set_option maxHeartbeats 4000000 in
set_option maxRecDepth 100000 in
theorem sX3_rowOf_0 (n : Nat) {S0 : MS} {Q : Int32 → MS → Prop} {QX : String → MS → Prop} {S : MS} {V : VS} {a0 a0v : Nat} {x1 : Int32} (hS : SM S V) (hx : Ex S0 S) (h_a0 : Ad S a0 a0v) (hQ : gd (eX3_rowOf_0 n V a0v x1) (SQ Q S0) (SX QX S0)) : wX3_rowOf_0 Q QX S a0 x1 := by
  unfold wX3_rowOf_0
  unfold eX3_rowOf_0 at hQ
  refine st_if (show (1 ≤ (mI S a0 2)) = (1 ≤ (vI V a0v 2)) from by simp only [SM_I hS h_a0]) hQ (fun hQ => ?_) (fun hQ => ?_)
  · refine st_gd (fun h => by simp only [SM_I hS h_a0]; exact h) hQ (fun hQ => ?_)
    simp only [SM_I hS h_a0]
    exact gd_rt hQ _ hS hx
  · exact gd_rt hQ _ hS hx
def ev_X3_rowOf (n : Nat) (V : VS) (a0v : Nat) (x1 : Int32) : Rs Int32 := eX3_rowOf_0 n V a0v x1
theorem sim_X3_rowOf (n : Nat) {Q : Int32 → MS → Prop} {QX : String → MS → Prop} {S : MS} {V : VS} {a0 a0v : Nat} {x1 x1z : Int32} (hS : SM S V) (h_a0 : Ad S a0 a0v) (e_x1 : x1 = x1z) (hQ : gd (ev_X3_rowOf n V a0v x1z) (SQ Q S) (SX QX S)) : wp_X3_rowOf Q QX S a0 x1 := by
  subst e_x1
  exact sX3_rowOf_0 n hS Ex_rf h_a0 hQ
def eX3_columnOf_0 (n : Nat) (V : VS) (a0v : Nat) (x1 : Int32) : Rs Int32 := (if 1 ≤ (vI V a0v 2) then (if ¬ (vI V a0v 2) = 0 then rt (x1 - x1 / (vI V a0v 2) * (vI V a0v 2)) V else none) else rt 0 V)
set_option maxHeartbeats 4000000 in
set_option maxRecDepth 100000 in
theorem sX3_columnOf_0 (n : Nat) {S0 : MS} {Q : Int32 → MS → Prop} {QX : String → MS → Prop} {S : MS} {V : VS} {a0 a0v : Nat} {x1 : Int32} (hS : SM S V) (hx : Ex S0 S) (h_a0 : Ad S a0 a0v) (hQ : gd (eX3_columnOf_0 n V a0v x1) (SQ Q S0) (SX QX S0)) : wX3_columnOf_0 Q QX S a0 x1 := by
  unfold wX3_columnOf_0
  unfold eX3_columnOf_0 at hQ
  refine st_if (show (1 ≤ (mI S a0 2)) = (1 ≤ (vI V a0v 2)) from by simp only [SM_I hS h_a0]) hQ (fun hQ => ?_) (fun hQ => ?_)
  · refine st_gd (fun h => by simp only [SM_I hS h_a0]; exact h) hQ (fun hQ => ?_)
    simp only [SM_I hS h_a0]
    exact gd_rt hQ _ hS hx
  · exact gd_rt hQ _ hS hx
def ev_X3_columnOf (n : Nat) (V : VS) (a0v : Nat) (x1 : Int32) : Rs Int32 := eX3_columnOf_0 n V a0v x1
theorem sim_X3_columnOf (n : Nat) {Q : Int32 → MS → Prop} {QX : String → MS → Prop} {S : MS} {V : VS} {a0 a0v : Nat} {x1 x1z : Int32} (hS : SM S V) (h_a0 : Ad S a0 a0v) (e_x1 : x1 = x1z) (hQ : gd (ev_X3_columnOf n V a0v x1z) (SQ Q S) (SX QX S)) : wp_X3_columnOf Q QX S a0 x1 := by
  subst e_x1
  exact sX3_columnOf_0 n hS Ex_rf h_a0 hQ
def eX3_distance_0 (n : Nat) (V : VS) (a0v : Nat) (x1 : Int32) (x2 : Int32) : Rs Int32 := bd (ev_X3_rowOf n V a0v x2) (fun r2 V1 => bd (ev_X3_rowOf n V1 a0v x1) (fun r4 V3 => bd (ev_X3_columnOf n V3 a0v x2) (fun r6 V5 => bd (ev_X3_columnOf n V5 a0v x1) (fun r8 V7 => rt (if (if 0 ≤ (r2 - r4) then (r2 - r4) else 0 - (r2 - r4)) < (if 0 ≤ (r6 - r8) then (r6 - r8) else 0 - (r6 - r8)) then (if 0 ≤ (r6 - r8) then (r6 - r8) else 0 - (r6 - r8)) else (if 0 ≤ (r2 - r4) then (r2 - r4) else 0 - (r2 - r4))) V7) th) th) th) th
set_option maxHeartbeats 4000000 in
set_option maxRecDepth 100000 in
theorem sX3_distance_0 (n : Nat) {S0 : MS} {Q : Int32 → MS → Prop} {QX : String → MS → Prop} {S : MS} {V : VS} {a0 a0v : Nat} {x1 : Int32} {x2 : Int32} (hS : SM S V) (hx : Ex S0 S) (h_a0 : Ad S a0 a0v) (hQ : gd (eX3_distance_0 n V a0v x1 x2) (SQ Q S0) (SX QX S0)) : wX3_distance_0 Q QX S a0 x1 x2 := by
  unfold wX3_distance_0
  unfold eX3_distance_0 at hQ
  refine sim_X3_rowOf n hS h_a0 rfl ?_
  refine gd_mono (gd_bd hQ) (fun r2 V1 hQ S1 hS1 xS => ?_) (fun E V9 hQ S9 hS9 xS9 => gd_th hQ S9 hS9 (Ex_tr hx xS9))
  have hx1 : Ex S0 S1 := Ex_tr hx xS
  have h1_a0 := xS _ _ h_a0
  refine sim_X3_rowOf n hS1 h1_a0 rfl ?_
  refine gd_mono (gd_bd hQ) (fun r4 V3 hQ S3 hS3 xS => ?_) (fun E V9 hQ S9 hS9 xS9 => gd_th hQ S9 hS9 (Ex_tr hx1 xS9))
  have hx3 : Ex S0 S3 := Ex_tr hx1 xS
  have h3_a0 := xS _ _ h1_a0
  refine sim_X3_columnOf n hS3 h3_a0 rfl ?_
  refine gd_mono (gd_bd hQ) (fun r6 V5 hQ S5 hS5 xS => ?_) (fun E V9 hQ S9 hS9 xS9 => gd_th hQ S9 hS9 (Ex_tr hx3 xS9))
  have hx5 : Ex S0 S5 := Ex_tr hx3 xS
  have h5_a0 := xS _ _ h3_a0
  refine sim_X3_columnOf n hS5 h5_a0 rfl ?_
  refine gd_mono (gd_bd hQ) (fun r8 V7 hQ S7 hS7 xS => ?_) (fun E V9 hQ S9 hS9 xS9 => gd_th hQ S9 hS9 (Ex_tr hx5 xS9))
  have hx7 : Ex S0 S7 := Ex_tr hx5 xS
  exact gd_rt hQ _ hS7 hx7
def ev_X3_distance (n : Nat) (V : VS) (a0v : Nat) (x1 : Int32) (x2 : Int32) : Rs Int32 := eX3_distance_0 n V a0v x1 x2
theorem sim_X3_distance (n : Nat) {Q : Int32 → MS → Prop} {QX : String → MS → Prop} {S : MS} {V : VS} {a0 a0v : Nat} {x1 x1z : Int32} {x2 x2z : Int32} (hS : SM S V) (h_a0 : Ad S a0 a0v) (e_x1 : x1 = x1z) (e_x2 : x2 = x2z) (hQ : gd (ev_X3_distance n V a0v x1z x2z) (SQ Q S) (SX QX S)) : wp_X3_distance Q QX S a0 x1 x2 := by
  subst e_x1 e_x2
  exact sX3_distance_0 n hS Ex_rf h_a0 hQ
def eX3_hasCell_0 (n : Nat) (V : VS) (a0v : Nat) (x1 : Int32) : Rs Int32 := (if x1 < 0 then rt 0 V else (if ((vI V a0v 1) * (vI V a0v 2)) ≤ x1 then rt 0 V else rt 1 V))
set_option maxHeartbeats 4000000 in
set_option maxRecDepth 100000 in
theorem sX3_hasCell_0 (n : Nat) {S0 : MS} {Q : Int32 → MS → Prop} {QX : String → MS → Prop} {S : MS} {V : VS} {a0 a0v : Nat} {x1 : Int32} (hS : SM S V) (hx : Ex S0 S) (h_a0 : Ad S a0 a0v) (hQ : gd (eX3_hasCell_0 n V a0v x1) (SQ Q S0) (SX QX S0)) : wX3_hasCell_0 Q QX S a0 x1 := by
  unfold wX3_hasCell_0
  unfold eX3_hasCell_0 at hQ
  refine st_if rfl hQ (fun hQ => ?_) (fun hQ => ?_)
  · exact gd_rt hQ _ hS hx
  · refine st_if (show (((mI S a0 1) * (mI S a0 2)) ≤ x1) = (((vI V a0v 1) * (vI V a0v 2)) ≤ x1) from by simp only [SM_I hS h_a0]) hQ (fun hQ => ?_) (fun hQ => ?_)
    · exact gd_rt hQ _ hS hx
    · exact gd_rt hQ _ hS hx
def ev_X3_hasCell (n : Nat) (V : VS) (a0v : Nat) (x1 : Int32) : Rs Int32 := eX3_hasCell_0 n V a0v x1
theorem sim_X3_hasCell (n : Nat) {Q : Int32 → MS → Prop} {QX : String → MS → Prop} {S : MS} {V : VS} {a0 a0v : Nat} {x1 x1z : Int32} (hS : SM S V) (h_a0 : Ad S a0 a0v) (e_x1 : x1 = x1z) (hQ : gd (ev_X3_hasCell n V a0v x1z) (SQ Q S) (SX QX S)) : wp_X3_hasCell Q QX S a0 x1 := by
  subst e_x1
  exact sX3_hasCell_0 n hS Ex_rf h_a0 hQ
def eX3_ground_0 (n : Nat) (V : VS) (a0v : Nat) (x1 : Int32) : Rs Int32 := (if x1 < 0 then rt 1 V else (vR V a0v 0).bind (fun a1v => (if (Int32.ofNat (vN V a1v)) ≤ x1 then rt 1 V else (vR V a0v 0).bind (fun a2v => (if gvp_in x1 (vN V a2v) = true then rt (vI V a2v (x1 : Int32).toNatClampNeg) V else none)))))
set_option maxHeartbeats 4000000 in
set_option maxRecDepth 100000 in
theorem sX3_ground_0 (n : Nat) {S0 : MS} {Q : Int32 → MS → Prop} {QX : String → MS → Prop} {S : MS} {V : VS} {a0 a0v : Nat} {x1 : Int32} (hS : SM S V) (hx : Ex S0 S) (h_a0 : Ad S a0 a0v) (hQ : gd (eX3_ground_0 n V a0v x1) (SQ Q S0) (SX QX S0)) : wX3_ground_0 Q QX S a0 x1 := by
  unfold wX3_ground_0
  unfold eX3_ground_0 at hQ
  refine st_if rfl hQ (fun hQ => ?_) (fun hQ => ?_)
  · exact gd_rt hQ _ hS hx
  · refine st_rd hS h_a0 rfl hQ (fun a1 a1v h_a1 hQ => ?_)
    refine st_if (show ((Int32.ofNat (mN S a1)) ≤ x1) = ((Int32.ofNat (vN V a1v)) ≤ x1) from by simp only [SM_N hS h_a1]) hQ (fun hQ => ?_) (fun hQ => ?_)
    · exact gd_rt hQ _ hS hx
    · refine st_rd hS h_a0 rfl hQ (fun a2 a2v h_a2 hQ => ?_)
      refine st_gd (fun h => by simp only [SM_N hS h_a2]; exact gvp_in_of h) hQ (fun hQ => ?_)
      simp only [SM_I hS h_a2]
      exact gd_rt hQ _ hS hx
def ev_X3_ground (n : Nat) (V : VS) (a0v : Nat) (x1 : Int32) : Rs Int32 := eX3_ground_0 n V a0v x1
theorem sim_X3_ground (n : Nat) {Q : Int32 → MS → Prop} {QX : String → MS → Prop} {S : MS} {V : VS} {a0 a0v : Nat} {x1 x1z : Int32} (hS : SM S V) (h_a0 : Ad S a0 a0v) (e_x1 : x1 = x1z) (hQ : gd (ev_X3_ground n V a0v x1z) (SQ Q S) (SX QX S)) : wp_X3_ground Q QX S a0 x1 := by
  subst e_x1
  exact sX3_ground_0 n hS Ex_rf h_a0 hQ
def eX3_neighbor_0 (n : Nat) (V : VS) (a0v : Nat) (x1 : Int32) (x2 : Int32) : Rs Int32 := bd (ev_X3_rowOf n V a0v x1) (fun r2 V1 => bd (ev_X3_columnOf n V1 a0v x1) (fun r4 V3 => (if (x2 : Int32).toInt < 0 ∨ 3 < (x2 : Int32).toInt then rt (-1) V3 else (if (x2 : Int32).toInt = 0 then (if r2 ≤ 0 then rt (-1) V3 else rt (x1 - (vI V3 a0v 2)) V3) else (if (x2 : Int32).toInt = 1 then (if (vI V3 a0v 2) ≤ (r4 + 1) then rt (-1) V3 else rt (x1 + 1) V3) else (if (x2 : Int32).toInt = 2 then (if (vI V3 a0v 1) ≤ (r2 + 1) then rt (-1) V3 else rt (x1 + (vI V3 a0v 2)) V3) else (if (x2 : Int32).toInt = 3 then (if r4 ≤ 0 then rt (-1) V3 else rt (x1 - 1) V3) else none)))))) th) th
set_option maxHeartbeats 4000000 in
set_option maxRecDepth 100000 in
theorem sX3_neighbor_0 (n : Nat) {S0 : MS} {Q : Int32 → MS → Prop} {QX : String → MS → Prop} {S : MS} {V : VS} {a0 a0v : Nat} {x1 : Int32} {x2 : Int32} (hS : SM S V) (hx : Ex S0 S) (h_a0 : Ad S a0 a0v) (hQ : gd (eX3_neighbor_0 n V a0v x1 x2) (SQ Q S0) (SX QX S0)) : wX3_neighbor_0 Q QX S a0 x1 x2 := by
  unfold wX3_neighbor_0
  unfold eX3_neighbor_0 at hQ
  refine sim_X3_rowOf n hS h_a0 rfl ?_
  refine gd_mono (gd_bd hQ) (fun r2 V1 hQ S1 hS1 xS => ?_) (fun E V9 hQ S9 hS9 xS9 => gd_th hQ S9 hS9 (Ex_tr hx xS9))
  have hx1 : Ex S0 S1 := Ex_tr hx xS
  have h1_a0 := xS _ _ h_a0
  refine sim_X3_columnOf n hS1 h1_a0 rfl ?_
  refine gd_mono (gd_bd hQ) (fun r4 V3 hQ S3 hS3 xS => ?_) (fun E V9 hQ S9 hS9 xS9 => gd_th hQ S9 hS9 (Ex_tr hx1 xS9))
  have hx3 : Ex S0 S3 := Ex_tr hx1 xS
  have h3_a0 := xS _ _ h1_a0
  refine ⟨fun hc => ?_, fun hc => ?_, fun hc => ?_, fun hc => ?_, fun hc => ?_⟩
  · have hQ := gd_yes hQ hc
    exact gd_rt hQ _ hS3 hx3
  · have hQ := gd_no hQ (by omega)
    have hQ := gd_yes hQ hc
    refine st_if rfl hQ (fun hQ => ?_) (fun hQ => ?_)
    · exact gd_rt hQ _ hS3 hx3
    · simp only [SM_I hS3 h3_a0]
      exact gd_rt hQ _ hS3 hx3
  · have hQ := gd_no hQ (by omega)
    have hQ := gd_no hQ (by omega)
    have hQ := gd_yes hQ hc
    refine st_if (show ((mI S3 a0 2) ≤ (r4 + 1)) = ((vI V3 a0v 2) ≤ (r4 + 1)) from by simp only [SM_I hS3 h3_a0]) hQ (fun hQ => ?_) (fun hQ => ?_)
    · exact gd_rt hQ _ hS3 hx3
    · exact gd_rt hQ _ hS3 hx3
  · have hQ := gd_no hQ (by omega)
    have hQ := gd_no hQ (by omega)
    have hQ := gd_no hQ (by omega)
    have hQ := gd_yes hQ hc
    refine st_if (show ((mI S3 a0 1) ≤ (r2 + 1)) = ((vI V3 a0v 1) ≤ (r2 + 1)) from by simp only [SM_I hS3 h3_a0]) hQ (fun hQ => ?_) (fun hQ => ?_)
    · exact gd_rt hQ _ hS3 hx3
    · simp only [SM_I hS3 h3_a0]
      exact gd_rt hQ _ hS3 hx3
  · have hQ := gd_no hQ (by omega)
    have hQ := gd_no hQ (by omega)
    have hQ := gd_no hQ (by omega)
    have hQ := gd_no hQ (by omega)
    have hQ := gd_yes hQ hc
    refine st_if rfl hQ (fun hQ => ?_) (fun hQ => ?_)
    · exact gd_rt hQ _ hS3 hx3
    · exact gd_rt hQ _ hS3 hx3
def ev_X3_neighbor (n : Nat) (V : VS) (a0v : Nat) (x1 : Int32) (x2 : Int32) : Rs Int32 := eX3_neighbor_0 n V a0v x1 x2
theorem sim_X3_neighbor (n : Nat) {Q : Int32 → MS → Prop} {QX : String → MS → Prop} {S : MS} {V : VS} {a0 a0v : Nat} {x1 x1z : Int32} {x2 x2z : Int32} (hS : SM S V) (h_a0 : Ad S a0 a0v) (e_x1 : x1 = x1z) (e_x2 : x2 = x2z) (hQ : gd (ev_X3_neighbor n V a0v x1z x2z) (SQ Q S) (SX QX S)) : wp_X3_neighbor Q QX S a0 x1 x2 := by
  subst e_x1 e_x2
  exact sX3_neighbor_0 n hS Ex_rf h_a0 hQ
def eX3_coverOf_85 (n : Nat) (V : VS) (y5 : Int32) (y6 : Int32) : Rs Int32 := (if y5 = 1 then rt 2 V else (if y6 = 1 then rt 2 V else (if y5 = 2 then rt 1 V else (if y6 = 2 then rt 1 V else rt 0 V))))
set_option maxHeartbeats 4000000 in
set_option maxRecDepth 100000 in
theorem sX3_coverOf_85 (n : Nat) {S0 : MS} {Q : Int32 → MS → Prop} {QX : String → MS → Prop} {S : MS} {V : VS} {y5 : Int32} {y6 : Int32} (hS : SM S V) (hx : Ex S0 S) (hQ : gd (eX3_coverOf_85 n V y5 y6) (SQ Q S0) (SX QX S0)) : wX3_coverOf_85 Q QX S y5 y6 := by
  unfold wX3_coverOf_85
  unfold eX3_coverOf_85 at hQ
  refine st_if rfl hQ (fun hQ => ?_) (fun hQ => ?_)
  · exact gd_rt hQ _ hS hx
  · refine st_ifn rfl hQ (fun hQ => ?_) (fun hQ => ?_)
    · refine st_if rfl hQ (fun hQ => ?_) (fun hQ => ?_)
      · exact gd_rt hQ _ hS hx
      · refine st_ifn rfl hQ (fun hQ => ?_) (fun hQ => ?_)
        · exact gd_rt hQ _ hS hx
        · exact gd_rt hQ _ hS hx
    · exact gd_rt hQ _ hS hx
def eX3_coverOf_80 (n : Nat) (V : VS) (y5 : Int32) (z0 : Int32) (w1v : Nat) : Rs Int32 := bd (ev_X3_ground n V w1v z0) (fun r2 V1 => eX3_coverOf_85 n V1 y5 r2) th
set_option maxHeartbeats 4000000 in
set_option maxRecDepth 100000 in
theorem sX3_coverOf_80 (n : Nat) {S0 : MS} {Q : Int32 → MS → Prop} {QX : String → MS → Prop} {S : MS} {V : VS} {y5 : Int32} {z0 : Int32} {w1 w1v : Nat} (hS : SM S V) (hx : Ex S0 S) (h_w1 : Ad S w1 w1v) (hQ : gd (eX3_coverOf_80 n V y5 z0 w1v) (SQ Q S0) (SX QX S0)) : wX3_coverOf_80 Q QX S y5 z0 w1 := by
  unfold wX3_coverOf_80
  unfold eX3_coverOf_80 at hQ
  refine sim_X3_ground n hS h_w1 rfl ?_
  refine gd_mono (gd_bd hQ) (fun r2 V1 hQ S1 hS1 xS => ?_) (fun E V9 hQ S9 hS9 xS9 => gd_th hQ S9 hS9 (Ex_tr hx xS9))
  have hx1 : Ex S0 S1 := Ex_tr hx xS
  exact sX3_coverOf_85 n hS1 hx1 hQ
def eX3_coverOf_57 (n : Nat) (V : VS) (a0v : Nat) (y1 : Int32) (y4 : Int32) (y5 : Int32) : Rs Int32 := (if y4 = 0 then eX3_coverOf_85 n V y5 0 else (if 0 ≤ y4 then eX3_coverOf_80 n V y5 (y1 + 1) a0v else eX3_coverOf_80 n V y5 (y1 - 1) a0v))
set_option maxHeartbeats 4000000 in
set_option maxRecDepth 100000 in
theorem sX3_coverOf_57 (n : Nat) {S0 : MS} {Q : Int32 → MS → Prop} {QX : String → MS → Prop} {S : MS} {V : VS} {a0 a0v : Nat} {y1 : Int32} {y4 : Int32} {y5 : Int32} (hS : SM S V) (hx : Ex S0 S) (h_a0 : Ad S a0 a0v) (hQ : gd (eX3_coverOf_57 n V a0v y1 y4 y5) (SQ Q S0) (SX QX S0)) : wX3_coverOf_57 Q QX S a0 y1 y4 y5 := by
  unfold wX3_coverOf_57
  unfold eX3_coverOf_57 at hQ
  refine st_if rfl hQ (fun hQ => ?_) (fun hQ => ?_)
  · exact sX3_coverOf_85 n hS hx hQ
  · refine st_if rfl hQ (fun hQ => ?_) (fun hQ => ?_)
    · exact sX3_coverOf_80 n hS hx h_a0 hQ
    · exact sX3_coverOf_80 n hS hx h_a0 hQ
def eX3_coverOf_52 (n : Nat) (V : VS) (a0v : Nat) (y1 : Int32) (y4 : Int32) (z0 : Int32) (w1v : Nat) : Rs Int32 := bd (ev_X3_ground n V w1v z0) (fun r2 V1 => eX3_coverOf_57 n V1 a0v y1 y4 r2) th
set_option maxHeartbeats 4000000 in
set_option maxRecDepth 100000 in
theorem sX3_coverOf_52 (n : Nat) {S0 : MS} {Q : Int32 → MS → Prop} {QX : String → MS → Prop} {S : MS} {V : VS} {a0 a0v : Nat} {y1 : Int32} {y4 : Int32} {z0 : Int32} {w1 w1v : Nat} (hS : SM S V) (hx : Ex S0 S) (h_a0 : Ad S a0 a0v) (h_w1 : Ad S w1 w1v) (hQ : gd (eX3_coverOf_52 n V a0v y1 y4 z0 w1v) (SQ Q S0) (SX QX S0)) : wX3_coverOf_52 Q QX S a0 y1 y4 z0 w1 := by
  unfold wX3_coverOf_52
  unfold eX3_coverOf_52 at hQ
  refine sim_X3_ground n hS h_w1 rfl ?_
  refine gd_mono (gd_bd hQ) (fun r2 V1 hQ S1 hS1 xS => ?_) (fun E V9 hQ S9 hS9 xS9 => gd_th hQ S9 hS9 (Ex_tr hx xS9))
  have hx1 : Ex S0 S1 := Ex_tr hx xS
  have h1_a0 := xS _ _ h_a0
  exact sX3_coverOf_57 n hS1 hx1 h1_a0 hQ
def eX3_coverOf_0 (n : Nat) (V : VS) (a0v : Nat) (x1 : Int32) (x2 : Int32) : Rs Int32 := bd (ev_X3_rowOf n V a0v x2) (fun r2 V1 => bd (ev_X3_rowOf n V1 a0v x1) (fun r4 V3 => bd (ev_X3_columnOf n V3 a0v x2) (fun r6 V5 => bd (ev_X3_columnOf n V5 a0v x1) (fun r8 V7 => (if (r2 - r4) = 0 then eX3_coverOf_57 n V7 a0v x1 (r6 - r8) 0 else (if 0 ≤ (r2 - r4) then eX3_coverOf_52 n V7 a0v x1 (r6 - r8) (x1 + (vI V7 a0v 2)) a0v else eX3_coverOf_52 n V7 a0v x1 (r6 - r8) (x1 - (vI V7 a0v 2)) a0v))) th) th) th) th
set_option maxHeartbeats 4000000 in
set_option maxRecDepth 100000 in
theorem sX3_coverOf_0 (n : Nat) {S0 : MS} {Q : Int32 → MS → Prop} {QX : String → MS → Prop} {S : MS} {V : VS} {a0 a0v : Nat} {x1 : Int32} {x2 : Int32} (hS : SM S V) (hx : Ex S0 S) (h_a0 : Ad S a0 a0v) (hQ : gd (eX3_coverOf_0 n V a0v x1 x2) (SQ Q S0) (SX QX S0)) : wX3_coverOf_0 Q QX S a0 x1 x2 := by
  unfold wX3_coverOf_0
  unfold eX3_coverOf_0 at hQ
  refine sim_X3_rowOf n hS h_a0 rfl ?_
  refine gd_mono (gd_bd hQ) (fun r2 V1 hQ S1 hS1 xS => ?_) (fun E V9 hQ S9 hS9 xS9 => gd_th hQ S9 hS9 (Ex_tr hx xS9))
  have hx1 : Ex S0 S1 := Ex_tr hx xS
  have h1_a0 := xS _ _ h_a0
  refine sim_X3_rowOf n hS1 h1_a0 rfl ?_
  refine gd_mono (gd_bd hQ) (fun r4 V3 hQ S3 hS3 xS => ?_) (fun E V9 hQ S9 hS9 xS9 => gd_th hQ S9 hS9 (Ex_tr hx1 xS9))
  have hx3 : Ex S0 S3 := Ex_tr hx1 xS
  have h3_a0 := xS _ _ h1_a0
  refine sim_X3_columnOf n hS3 h3_a0 rfl ?_
  refine gd_mono (gd_bd hQ) (fun r6 V5 hQ S5 hS5 xS => ?_) (fun E V9 hQ S9 hS9 xS9 => gd_th hQ S9 hS9 (Ex_tr hx3 xS9))
  have hx5 : Ex S0 S5 := Ex_tr hx3 xS
  have h5_a0 := xS _ _ h3_a0
  refine sim_X3_columnOf n hS5 h5_a0 rfl ?_
  refine gd_mono (gd_bd hQ) (fun r8 V7 hQ S7 hS7 xS => ?_) (fun E V9 hQ S9 hS9 xS9 => gd_th hQ S9 hS9 (Ex_tr hx5 xS9))
  have hx7 : Ex S0 S7 := Ex_tr hx5 xS
  have h7_a0 := xS _ _ h5_a0
  refine st_if rfl hQ (fun hQ => ?_) (fun hQ => ?_)
  · exact sX3_coverOf_57 n hS7 hx7 h7_a0 hQ
  · refine st_if rfl hQ (fun hQ => ?_) (fun hQ => ?_)
    · simp only [SM_I hS7 h7_a0]
      exact sX3_coverOf_52 n hS7 hx7 h7_a0 h7_a0 hQ
    · simp only [SM_I hS7 h7_a0]
      exact sX3_coverOf_52 n hS7 hx7 h7_a0 h7_a0 hQ
def ev_X3_coverOf (n : Nat) (V : VS) (a0v : Nat) (x1 : Int32) (x2 : Int32) : Rs Int32 := eX3_coverOf_0 n V a0v x1 x2
theorem sim_X3_coverOf (n : Nat) {Q : Int32 → MS → Prop} {QX : String → MS → Prop} {S : MS} {V : VS} {a0 a0v : Nat} {x1 x1z : Int32} {x2 x2z : Int32} (hS : SM S V) (h_a0 : Ad S a0 a0v) (e_x1 : x1 = x1z) (e_x2 : x2 = x2z) (hQ : gd (ev_X3_coverOf n V a0v x1z x2z) (SQ Q S) (SX QX S)) : wp_X3_coverOf Q QX S a0 x1 x2 := by
  subst e_x1 e_x2
  exact sX3_coverOf_0 n hS Ex_rf h_a0 hQ
def eX3_isInWay_112 (n : Nat) (V : VS) (y4 : Int32) (y5 : Int32) (y6 : Int32) (y7 : Int32) : Rs Int32 := (if ((if 0 ≤ (y6 - y4) then (y6 - y4) else 0 - (y6 - y4)) + (if 0 ≤ (y7 - y5) then (y7 - y5) else 0 - (y7 - y5))) ≤ (if 0 ≤ (((y6 - y4) * y5) - ((y7 - y5) * y4)) then (((y6 - y4) * y5) - ((y7 - y5) * y4)) else 0 - (((y6 - y4) * y5) - ((y7 - y5) * y4))) then rt 0 V else rt 1 V)
set_option maxHeartbeats 4000000 in
set_option maxRecDepth 100000 in
theorem sX3_isInWay_112 (n : Nat) {S0 : MS} {Q : Int32 → MS → Prop} {QX : String → MS → Prop} {S : MS} {V : VS} {y4 : Int32} {y5 : Int32} {y6 : Int32} {y7 : Int32} (hS : SM S V) (hx : Ex S0 S) (hQ : gd (eX3_isInWay_112 n V y4 y5 y6 y7) (SQ Q S0) (SX QX S0)) : wX3_isInWay_112 Q QX S y4 y5 y6 y7 := by
  unfold wX3_isInWay_112
  unfold eX3_isInWay_112 at hQ
  refine st_if rfl hQ (fun hQ => ?_) (fun hQ => ?_)
  · exact gd_rt hQ _ hS hx
  · exact gd_rt hQ _ hS hx
def eX3_isInWay_98 (n : Nat) (V : VS) (y4 : Int32) (y5 : Int32) (y6 : Int32) (y7 : Int32) : Rs Int32 := (if (-1) < y5 then eX3_isInWay_112 n V y4 y5 y6 y7 else (if (-1) < y7 then eX3_isInWay_112 n V y4 y5 y6 y7 else rt 0 V))
set_option maxHeartbeats 4000000 in
set_option maxRecDepth 100000 in
theorem sX3_isInWay_98 (n : Nat) {S0 : MS} {Q : Int32 → MS → Prop} {QX : String → MS → Prop} {S : MS} {V : VS} {y4 : Int32} {y5 : Int32} {y6 : Int32} {y7 : Int32} (hS : SM S V) (hx : Ex S0 S) (hQ : gd (eX3_isInWay_98 n V y4 y5 y6 y7) (SQ Q S0) (SX QX S0)) : wX3_isInWay_98 Q QX S y4 y5 y6 y7 := by
  unfold wX3_isInWay_98
  unfold eX3_isInWay_98 at hQ
  refine st_if rfl hQ (fun hQ => ?_) (fun hQ => ?_)
  · exact sX3_isInWay_112 n hS hx hQ
  · refine st_if rfl hQ (fun hQ => ?_) (fun hQ => ?_)
    · exact sX3_isInWay_112 n hS hx hQ
    · exact gd_rt hQ _ hS hx
def eX3_isInWay_86 (n : Nat) (V : VS) (y4 : Int32) (y5 : Int32) (y6 : Int32) (y7 : Int32) : Rs Int32 := (if y5 < 1 then eX3_isInWay_98 n V y4 y5 y6 y7 else (if 1 ≤ y7 then rt 0 V else eX3_isInWay_98 n V y4 y5 y6 y7))
set_option maxHeartbeats 4000000 in
set_option maxRecDepth 100000 in
theorem sX3_isInWay_86 (n : Nat) {S0 : MS} {Q : Int32 → MS → Prop} {QX : String → MS → Prop} {S : MS} {V : VS} {y4 : Int32} {y5 : Int32} {y6 : Int32} {y7 : Int32} (hS : SM S V) (hx : Ex S0 S) (hQ : gd (eX3_isInWay_86 n V y4 y5 y6 y7) (SQ Q S0) (SX QX S0)) : wX3_isInWay_86 Q QX S y4 y5 y6 y7 := by
  unfold wX3_isInWay_86
  unfold eX3_isInWay_86 at hQ
  refine st_if rfl hQ (fun hQ => ?_) (fun hQ => ?_)
  · exact sX3_isInWay_98 n hS hx hQ
  · refine st_if rfl hQ (fun hQ => ?_) (fun hQ => ?_)
    · exact gd_rt hQ _ hS hx
    · exact sX3_isInWay_98 n hS hx hQ
def eX3_isInWay_72 (n : Nat) (V : VS) (y4 : Int32) (y5 : Int32) (y6 : Int32) (y7 : Int32) : Rs Int32 := (if (-1) < y4 then eX3_isInWay_86 n V y4 y5 y6 y7 else (if (-1) < y6 then eX3_isInWay_86 n V y4 y5 y6 y7 else rt 0 V))
set_option maxHeartbeats 4000000 in
set_option maxRecDepth 100000 in
theorem sX3_isInWay_72 (n : Nat) {S0 : MS} {Q : Int32 → MS → Prop} {QX : String → MS → Prop} {S : MS} {V : VS} {y4 : Int32} {y5 : Int32} {y6 : Int32} {y7 : Int32} (hS : SM S V) (hx : Ex S0 S) (hQ : gd (eX3_isInWay_72 n V y4 y5 y6 y7) (SQ Q S0) (SX QX S0)) : wX3_isInWay_72 Q QX S y4 y5 y6 y7 := by
  unfold wX3_isInWay_72
  unfold eX3_isInWay_72 at hQ
  refine st_if rfl hQ (fun hQ => ?_) (fun hQ => ?_)
  · exact sX3_isInWay_86 n hS hx hQ
  · refine st_if rfl hQ (fun hQ => ?_) (fun hQ => ?_)
    · exact sX3_isInWay_86 n hS hx hQ
    · exact gd_rt hQ _ hS hx
def eX3_isInWay_0 (n : Nat) (V : VS) (a0v : Nat) (x1 : Int32) (x2 : Int32) (x3 : Int32) : Rs Int32 := bd (ev_X3_rowOf n V a0v x2) (fun r2 V1 => bd (ev_X3_rowOf n V1 a0v x1) (fun r4 V3 => bd (ev_X3_columnOf n V3 a0v x2) (fun r6 V5 => bd (ev_X3_columnOf n V5 a0v x1) (fun r8 V7 => bd (ev_X3_rowOf n V7 a0v x3) (fun r10 V9 => bd (ev_X3_rowOf n V9 a0v x1) (fun r12 V11 => bd (ev_X3_columnOf n V11 a0v x3) (fun r14 V13 => bd (ev_X3_columnOf n V13 a0v x1) (fun r16 V15 => (if (2 * (r2 - r4)) < 1 then eX3_isInWay_72 n V15 (2 * (r2 - r4)) (2 * (r6 - r8)) (2 * (r10 - r12)) (2 * (r14 - r16)) else (if 1 ≤ (2 * (r10 - r12)) then rt 0 V15 else eX3_isInWay_72 n V15 (2 * (r2 - r4)) (2 * (r6 - r8)) (2 * (r10 - r12)) (2 * (r14 - r16))))) th) th) th) th) th) th) th) th
set_option maxHeartbeats 4000000 in
set_option maxRecDepth 100000 in
theorem sX3_isInWay_0 (n : Nat) {S0 : MS} {Q : Int32 → MS → Prop} {QX : String → MS → Prop} {S : MS} {V : VS} {a0 a0v : Nat} {x1 : Int32} {x2 : Int32} {x3 : Int32} (hS : SM S V) (hx : Ex S0 S) (h_a0 : Ad S a0 a0v) (hQ : gd (eX3_isInWay_0 n V a0v x1 x2 x3) (SQ Q S0) (SX QX S0)) : wX3_isInWay_0 Q QX S a0 x1 x2 x3 := by
  unfold wX3_isInWay_0
  unfold eX3_isInWay_0 at hQ
  refine sim_X3_rowOf n hS h_a0 rfl ?_
  refine gd_mono (gd_bd hQ) (fun r2 V1 hQ S1 hS1 xS => ?_) (fun E V9 hQ S9 hS9 xS9 => gd_th hQ S9 hS9 (Ex_tr hx xS9))
  have hx1 : Ex S0 S1 := Ex_tr hx xS
  have h1_a0 := xS _ _ h_a0
  refine sim_X3_rowOf n hS1 h1_a0 rfl ?_
  refine gd_mono (gd_bd hQ) (fun r4 V3 hQ S3 hS3 xS => ?_) (fun E V9 hQ S9 hS9 xS9 => gd_th hQ S9 hS9 (Ex_tr hx1 xS9))
  have hx3 : Ex S0 S3 := Ex_tr hx1 xS
  have h3_a0 := xS _ _ h1_a0
  refine sim_X3_columnOf n hS3 h3_a0 rfl ?_
  refine gd_mono (gd_bd hQ) (fun r6 V5 hQ S5 hS5 xS => ?_) (fun E V9 hQ S9 hS9 xS9 => gd_th hQ S9 hS9 (Ex_tr hx3 xS9))
  have hx5 : Ex S0 S5 := Ex_tr hx3 xS
  have h5_a0 := xS _ _ h3_a0
  refine sim_X3_columnOf n hS5 h5_a0 rfl ?_
  refine gd_mono (gd_bd hQ) (fun r8 V7 hQ S7 hS7 xS => ?_) (fun E V9 hQ S9 hS9 xS9 => gd_th hQ S9 hS9 (Ex_tr hx5 xS9))
  have hx7 : Ex S0 S7 := Ex_tr hx5 xS
  have h7_a0 := xS _ _ h5_a0
  refine sim_X3_rowOf n hS7 h7_a0 rfl ?_
  refine gd_mono (gd_bd hQ) (fun r10 V9 hQ S9 hS9 xS => ?_) (fun E V9 hQ S9 hS9 xS9 => gd_th hQ S9 hS9 (Ex_tr hx7 xS9))
  have hx9 : Ex S0 S9 := Ex_tr hx7 xS
  have h9_a0 := xS _ _ h7_a0
  refine sim_X3_rowOf n hS9 h9_a0 rfl ?_
  refine gd_mono (gd_bd hQ) (fun r12 V11 hQ S11 hS11 xS => ?_) (fun E V9 hQ S9 hS9 xS9 => gd_th hQ S9 hS9 (Ex_tr hx9 xS9))
  have hx11 : Ex S0 S11 := Ex_tr hx9 xS
  have h11_a0 := xS _ _ h9_a0
  refine sim_X3_columnOf n hS11 h11_a0 rfl ?_
  refine gd_mono (gd_bd hQ) (fun r14 V13 hQ S13 hS13 xS => ?_) (fun E V9 hQ S9 hS9 xS9 => gd_th hQ S9 hS9 (Ex_tr hx11 xS9))
  have hx13 : Ex S0 S13 := Ex_tr hx11 xS
  have h13_a0 := xS _ _ h11_a0
  refine sim_X3_columnOf n hS13 h13_a0 rfl ?_
  refine gd_mono (gd_bd hQ) (fun r16 V15 hQ S15 hS15 xS => ?_) (fun E V9 hQ S9 hS9 xS9 => gd_th hQ S9 hS9 (Ex_tr hx13 xS9))
  have hx15 : Ex S0 S15 := Ex_tr hx13 xS
  refine st_if rfl hQ (fun hQ => ?_) (fun hQ => ?_)
  · exact sX3_isInWay_72 n hS15 hx15 hQ
  · refine st_if rfl hQ (fun hQ => ?_) (fun hQ => ?_)
    · exact gd_rt hQ _ hS15 hx15
    · exact sX3_isInWay_72 n hS15 hx15 hQ
def ev_X3_isInWay (n : Nat) (V : VS) (a0v : Nat) (x1 : Int32) (x2 : Int32) (x3 : Int32) : Rs Int32 := eX3_isInWay_0 n V a0v x1 x2 x3
theorem sim_X3_isInWay (n : Nat) {Q : Int32 → MS → Prop} {QX : String → MS → Prop} {S : MS} {V : VS} {a0 a0v : Nat} {x1 x1z : Int32} {x2 x2z : Int32} {x3 x3z : Int32} (hS : SM S V) (h_a0 : Ad S a0 a0v) (e_x1 : x1 = x1z) (e_x2 : x2 = x2z) (e_x3 : x3 = x3z) (hQ : gd (ev_X3_isInWay n V a0v x1z x2z x3z) (SQ Q S) (SX QX S)) : wp_X3_isInWay Q QX S a0 x1 x2 x3 := by
  subst e_x1 e_x2 e_x3
  exact sX3_isInWay_0 n hS Ex_rf h_a0 hQ
def eX3_isClear_21 (n : Nat) (k21v : VS → Nat → Int32 → Int32 → Int32 → Int32 → Rs Int32) (V : VS) (a0v : Nat) (y1 : Int32) (y2 : Int32) (y3 : Int32) (y4 : Int32) : Rs Int32 := (if y3 ≤ y4 then rt 1 V else (vR V a0v 0).bind (fun a1v => (if gvp_in y4 (vN V a1v) = true then (if (vI V a1v (y4 : Int32).toNatClampNeg) = 1 then (if y4 = y1 then k21v V a0v y1 y2 y3 (y4 + 1) else (if y4 = y2 then k21v V a0v y1 y2 y3 (y4 + 1) else bd (ev_X3_isInWay n V a0v y4 y1 y2) (fun r3 V2 => (if r3 = 0 then k21v V2 a0v y1 y2 y3 (y4 + 1) else rt 0 V2)) th)) else k21v V a0v y1 y2 y3 (y4 + 1)) else none)))
set_option maxHeartbeats 4000000 in
set_option maxRecDepth 100000 in
theorem sX3_isClear_21 (n : Nat) {S0 : MS} {Q : Int32 → MS → Prop} {QX : String → MS → Prop} {k21 : MS → Nat → Int32 → Int32 → Int32 → Int32 → Prop} {k21v : VS → Nat → Int32 → Int32 → Int32 → Int32 → Rs Int32} (hk21 : ∀ (S : MS) (V : VS) (p0 p0v : Nat) (p1 : Int32) (p2 : Int32) (p3 : Int32) (p4 : Int32), SM S V → Ex S0 S → Ad S p0 p0v → gd (k21v V p0v p1 p2 p3 p4) (SQ Q S0) (SX QX S0) → k21 S p0 p1 p2 p3 p4) {S : MS} {V : VS} {a0 a0v : Nat} {y1 : Int32} {y2 : Int32} {y3 : Int32} {y4 : Int32} (hS : SM S V) (hx : Ex S0 S) (h_a0 : Ad S a0 a0v) (hQ : gd (eX3_isClear_21 n k21v V a0v y1 y2 y3 y4) (SQ Q S0) (SX QX S0)) : wX3_isClear_21 Q QX k21 S a0 y1 y2 y3 y4 := by
  unfold wX3_isClear_21
  unfold eX3_isClear_21 at hQ
  refine st_if rfl hQ (fun hQ => ?_) (fun hQ => ?_)
  · exact gd_rt hQ _ hS hx
  · refine st_rd hS h_a0 rfl hQ (fun a1 a1v h_a1 hQ => ?_)
    refine st_gd (fun h => by simp only [SM_N hS h_a1]; exact gvp_in_of h) hQ (fun hQ => ?_)
    refine st_ifn (show ((mI S a1 (y4 : Int32).toNatClampNeg) = 1) = ((vI V a1v (y4 : Int32).toNatClampNeg) = 1) from by simp only [SM_I hS h_a1]) hQ (fun hQ => ?_) (fun hQ => ?_)
    · exact hk21 _ _ _ _ _ _ _ _ hS hx h_a0 hQ
    · refine st_if rfl hQ (fun hQ => ?_) (fun hQ => ?_)
      · exact hk21 _ _ _ _ _ _ _ _ hS hx h_a0 hQ
      · refine st_if rfl hQ (fun hQ => ?_) (fun hQ => ?_)
        · exact hk21 _ _ _ _ _ _ _ _ hS hx h_a0 hQ
        · refine sim_X3_isInWay n hS h_a0 rfl rfl rfl ?_
          refine gd_mono (gd_bd hQ) (fun r3 V2 hQ S2 hS2 xS => ?_) (fun E V9 hQ S9 hS9 xS9 => gd_th hQ S9 hS9 (Ex_tr hx xS9))
          have hx2 : Ex S0 S2 := Ex_tr hx xS
          have h2_a0 := xS _ _ h_a0
          refine st_if rfl hQ (fun hQ => ?_) (fun hQ => ?_)
          · exact hk21 _ _ _ _ _ _ _ _ hS2 hx2 h2_a0 hQ
          · exact gd_rt hQ _ hS2 hx2
def elX3_isClear_21 (n : Nat) : Nat → VS → Nat → Int32 → Int32 → Int32 → Int32 → Rs Int32
  | 0 => fun _ _ _ _ _ _ => none
  | m + 1 => fun V a0v y1 y2 y3 y4 => eX3_isClear_21 n (elX3_isClear_21 n m) V a0v y1 y2 y3 y4
theorem selX3_isClear_21 (n : Nat) {S0 : MS} {Q : Int32 → MS → Prop} {QX : String → MS → Prop} : ∀ (m : Nat), ∀ (S : MS) (V : VS) (p0 p0v : Nat) (p1 : Int32) (p2 : Int32) (p3 : Int32) (p4 : Int32), SM S V → Ex S0 S → Ad S p0 p0v → gd (elX3_isClear_21 n m V p0v p1 p2 p3 p4) (SQ Q S0) (SX QX S0) → lX3_isClear_21 Q QX m S p0 p1 p2 p3 p4 := by
  intro m
  induction m with
  | zero => intro S V p0 p0v p1 p2 p3 p4 hS hx q0 hQ; exact (gd_none hQ).elim
  | succ m ih => intro S V p0 p0v p1 p2 p3 p4 hS hx q0 hQ; exact sX3_isClear_21 n ih hS hx q0 hQ
def eX3_isClear_0 (n : Nat) (V : VS) (a0v : Nat) (x1 : Int32) (x2 : Int32) : Rs Int32 := (vR V a0v 0).bind (fun a1v => elX3_isClear_21 n n V a0v x1 x2 (if (Int32.ofNat (vN V a1v)) < ((vI V a0v 1) * (vI V a0v 2)) then (Int32.ofNat (vN V a1v)) else ((vI V a0v 1) * (vI V a0v 2))) 0)
set_option maxHeartbeats 4000000 in
set_option maxRecDepth 100000 in
theorem sX3_isClear_0 (n : Nat) {S0 : MS} {Q : Int32 → MS → Prop} {QX : String → MS → Prop} {S : MS} {V : VS} {a0 a0v : Nat} {x1 : Int32} {x2 : Int32} (hS : SM S V) (hx : Ex S0 S) (h_a0 : Ad S a0 a0v) (hQ : gd (eX3_isClear_0 n V a0v x1 x2) (SQ Q S0) (SX QX S0)) : wX3_isClear_0 Q QX S a0 x1 x2 := by
  unfold wX3_isClear_0
  unfold eX3_isClear_0 at hQ
  refine st_rd hS h_a0 rfl hQ (fun a1 a1v h_a1 hQ => ?_)
  refine ⟨n, ?_⟩
  simp only [SM_N hS h_a1, SM_I hS h_a0]
  exact selX3_isClear_21 n n _ _ _ _ _ _ _ _ hS hx h_a0 hQ
def ev_X3_isClear (n : Nat) (V : VS) (a0v : Nat) (x1 : Int32) (x2 : Int32) : Rs Int32 := eX3_isClear_0 n V a0v x1 x2
theorem sim_X3_isClear (n : Nat) {Q : Int32 → MS → Prop} {QX : String → MS → Prop} {S : MS} {V : VS} {a0 a0v : Nat} {x1 x1z : Int32} {x2 x2z : Int32} (hS : SM S V) (h_a0 : Ad S a0 a0v) (e_x1 : x1 = x1z) (e_x2 : x2 = x2z) (hQ : gd (ev_X3_isClear n V a0v x1z x2z) (SQ Q S) (SX QX S)) : wp_X3_isClear Q QX S a0 x1 x2 := by
  subst e_x1 e_x2
  exact sX3_isClear_0 n hS Ex_rf h_a0 hQ
def eX3_init_0 (n : Nat) (V : VS) (a0v : Nat) : Rs Unit := nwV V 64 (fun V2 a1v => sq (wR V2 a0v 0 (some a1v)) (fun V3 => sq (wI V3 a0v 1 5) (fun V4 => sq (wI V4 a0v 2 5) (fun V5 => rt () V5))))
set_option maxHeartbeats 4000000 in
set_option maxRecDepth 100000 in
theorem sX3_init_0 (n : Nat) {S0 : MS} {Q : MS → Prop} {QX : String → MS → Prop} {S : MS} {V : VS} {a0 a0v : Nat} (hS : SM S V) (hx : Ex S0 S) (h_a0 : Ad S a0 a0v) (hQ : gd (eX3_init_0 n V a0v) (SU Q S0) (SX QX S0)) : wX3_init_0 Q QX S a0 := by
  unfold wX3_init_0
  unfold eX3_init_0 at hQ
  intro a1 q_a1 S2 eS
  obtain ⟨V2, a1v, hS2, xS, h2_a1, hQ⟩ := st_nw hS q_a1 eS rfl hQ
  have hx2 : Ex S0 S2 := Ex_tr hx xS
  have h2_a0 := xS _ _ h_a0
  intro S3 eS
  obtain ⟨V3, hS3, xS, hQ⟩ := st_sR hS2 h2_a0 eS rfl h2_a1 hQ
  have hx3 : Ex S0 S3 := Ex_tr hx2 xS
  have h3_a0 := xS _ _ h2_a0
  intro S4 eS
  obtain ⟨V4, hS4, xS, hQ⟩ := st_sI hS3 h3_a0 eS rfl rfl hQ
  have hx4 : Ex S0 S4 := Ex_tr hx3 xS
  have h4_a0 := xS _ _ h3_a0
  intro S5 eS
  obtain ⟨V5, hS5, xS, hQ⟩ := st_sI hS4 h4_a0 eS rfl rfl hQ
  have hx5 : Ex S0 S5 := Ex_tr hx4 xS
  exact gd_rt hQ _ hS5 hx5
def ev_X3_init (n : Nat) (V : VS) (a0v : Nat) : Rs Unit := eX3_init_0 n V a0v
theorem sim_X3_init (n : Nat) {Q : MS → Prop} {QX : String → MS → Prop} {S : MS} {V : VS} {a0 a0v : Nat} (hS : SM S V) (h_a0 : Ad S a0 a0v) (hQ : gd (ev_X3_init n V a0v) (SU Q S) (SX QX S)) : wp_X3_init Q QX S a0 := by
  exact sX3_init_0 n hS Ex_rf h_a0 hQ
def eX3_copyFrom_0 (n : Nat) (V : VS) (a0v : Nat) (b1v : Nat) : Rs Unit := sq (wI V a0v 1 (vI V b1v 1)) (fun V1 => sq (wI V1 a0v 2 (vI V1 b1v 2)) (fun V2 => (vR V2 b1v 0).bind (fun a3v => (vR V2 a0v 0).bind (fun a4v => (if (0 : Int32).toNatClampNeg + (64 : Int32).toNatClampNeg ≤ vN V2 a3v then (if (0 : Int32).toNatClampNeg + (64 : Int32).toNatClampNeg ≤ vN V2 a4v then sq (wC V2 a4v a3v ((0 : Int32).toNatClampNeg) ((0 : Int32).toNatClampNeg) ((64 : Int32).toNatClampNeg)) (fun V5 => rt () V5) else none) else none)))))
set_option maxHeartbeats 4000000 in
set_option maxRecDepth 100000 in
theorem sX3_copyFrom_0 (n : Nat) {S0 : MS} {Q : MS → Prop} {QX : String → MS → Prop} {S : MS} {V : VS} {a0 a0v : Nat} {b1 b1v : Nat} (hS : SM S V) (hx : Ex S0 S) (h_a0 : Ad S a0 a0v) (h_b1 : Ad S b1 b1v) (hQ : gd (eX3_copyFrom_0 n V a0v b1v) (SU Q S0) (SX QX S0)) : wX3_copyFrom_0 Q QX S a0 b1 := by
  unfold wX3_copyFrom_0
  unfold eX3_copyFrom_0 at hQ
  intro S1 eS
  obtain ⟨V1, hS1, xS, hQ⟩ := st_sI hS h_a0 eS rfl (show ((mI S b1 1)) = ((vI V b1v 1)) from by simp only [SM_I hS h_b1]) hQ
  have hx1 : Ex S0 S1 := Ex_tr hx xS
  have h1_a0 := xS _ _ h_a0
  have h1_b1 := xS _ _ h_b1
  intro S2 eS
  obtain ⟨V2, hS2, xS, hQ⟩ := st_sI hS1 h1_a0 eS rfl (show ((mI S1 b1 2)) = ((vI V1 b1v 2)) from by simp only [SM_I hS1 h1_b1]) hQ
  have hx2 : Ex S0 S2 := Ex_tr hx1 xS
  have h2_a0 := xS _ _ h1_a0
  have h2_b1 := xS _ _ h1_b1
  refine st_rd hS2 h2_b1 rfl hQ (fun a3 a3v h2_a3 hQ => ?_)
  refine st_rd hS2 h2_a0 rfl hQ (fun a4 a4v h2_a4 hQ => ?_)
  refine st_gd (fun h => by simp only [SM_N hS2 h2_a3]; exact h) hQ (fun hQ => ?_)
  refine st_gd (fun h => by simp only [SM_N hS2 h2_a4]; exact h) hQ (fun hQ => ?_)
  intro S5 eS
  obtain ⟨V5, hS5, xS, hQ⟩ := st_sIr hS2 h2_a4 h2_a3 eS rfl rfl rfl hQ
  have hx5 : Ex S0 S5 := Ex_tr hx2 xS
  exact gd_rt hQ _ hS5 hx5
def ev_X3_copyFrom (n : Nat) (V : VS) (a0v : Nat) (b1v : Nat) : Rs Unit := eX3_copyFrom_0 n V a0v b1v
theorem sim_X3_copyFrom (n : Nat) {Q : MS → Prop} {QX : String → MS → Prop} {S : MS} {V : VS} {a0 a0v : Nat} {b1 b1v : Nat} (hS : SM S V) (h_a0 : Ad S a0 a0v) (h_b1 : Ad S b1 b1v) (hQ : gd (ev_X3_copyFrom n V a0v b1v) (SU Q S) (SX QX S)) : wp_X3_copyFrom Q QX S a0 b1 := by
  exact sX3_copyFrom_0 n hS Ex_rf h_a0 h_b1 hQ
def eX3_read_17 (n : Nat) (k17v : VS → Nat → Nat → Int32 → Int32 → Int32 → Rs Unit) (V : VS) (a0v : Nat) (u1v : Nat) (y2 : Int32) (y5 : Int32) (y6 : Int32) : Rs Unit := (if y2 ≤ y6 then rt () V else (if (Int32.ofNat (vN V u1v)) ≤ y6 then rt () V else (if gvp_in y6 (vN V u1v) = true then bd (ev_J0_indexOf_0f7a4 n V (vI V u1v (y6 : Int32).toNatClampNeg)) (fun r3 V2 => (if r3 < 0 then k17v V2 a0v u1v y2 y5 (y6 + 1) else (vR V2 a0v 0).bind (fun a4v => (if (Int32.ofNat (vN V2 a4v)) ≤ y5 then k17v V2 a0v u1v y2 y5 (y6 + 1) else (vR V2 a0v 0).bind (fun a5v => (if gvp_in y5 (vN V2 a5v) = true then sq (wI V2 a5v ((y5 : Int32).toNatClampNeg) r3) (fun V6 => k17v V6 a0v u1v y2 (y5 + 1) (y6 + 1)) else none)))))) th else none)))
set_option maxHeartbeats 4000000 in
set_option maxRecDepth 100000 in
theorem sX3_read_17 (n : Nat) {S0 : MS} {Q : MS → Prop} {QX : String → MS → Prop} {k17 : MS → Nat → Nat → Int32 → Int32 → Int32 → Prop} {k17v : VS → Nat → Nat → Int32 → Int32 → Int32 → Rs Unit} (hk17 : ∀ (S : MS) (V : VS) (p0 p0v : Nat) (p1 p1v : Nat) (p2 : Int32) (p3 : Int32) (p4 : Int32), SM S V → Ex S0 S → Ad S p0 p0v → Ad S p1 p1v → gd (k17v V p0v p1v p2 p3 p4) (SU Q S0) (SX QX S0) → k17 S p0 p1 p2 p3 p4) {S : MS} {V : VS} {a0 a0v : Nat} {u1 u1v : Nat} {y2 : Int32} {y5 : Int32} {y6 : Int32} (hS : SM S V) (hx : Ex S0 S) (h_a0 : Ad S a0 a0v) (h_u1 : Ad S u1 u1v) (hQ : gd (eX3_read_17 n k17v V a0v u1v y2 y5 y6) (SU Q S0) (SX QX S0)) : wX3_read_17 Q QX k17 S a0 u1 y2 y5 y6 := by
  unfold wX3_read_17
  unfold eX3_read_17 at hQ
  refine st_if rfl hQ (fun hQ => ?_) (fun hQ => ?_)
  · exact gd_rt hQ _ hS hx
  · refine st_if (show ((Int32.ofNat (mN S u1)) ≤ y6) = ((Int32.ofNat (vN V u1v)) ≤ y6) from by simp only [SM_N hS h_u1]) hQ (fun hQ => ?_) (fun hQ => ?_)
    · exact gd_rt hQ _ hS hx
    · refine st_gd (fun h => by simp only [SM_N hS h_u1]; exact gvp_in_of h) hQ (fun hQ => ?_)
      refine sim_J0_indexOf_0f7a4 n hS (show ((mI S u1 (y6 : Int32).toNatClampNeg)) = ((vI V u1v (y6 : Int32).toNatClampNeg)) from by simp only [SM_I hS h_u1]) ?_
      refine gd_mono (gd_bd hQ) (fun r3 V2 hQ S2 hS2 xS => ?_) (fun E V9 hQ S9 hS9 xS9 => gd_th hQ S9 hS9 (Ex_tr hx xS9))
      have hx2 : Ex S0 S2 := Ex_tr hx xS
      have h2_a0 := xS _ _ h_a0
      have h2_u1 := xS _ _ h_u1
      refine st_if rfl hQ (fun hQ => ?_) (fun hQ => ?_)
      · exact hk17 _ _ _ _ _ _ _ _ _ hS2 hx2 h2_a0 h2_u1 hQ
      · refine st_rd hS2 h2_a0 rfl hQ (fun a4 a4v h2_a4 hQ => ?_)
        refine st_if (show ((Int32.ofNat (mN S2 a4)) ≤ y5) = ((Int32.ofNat (vN V2 a4v)) ≤ y5) from by simp only [SM_N hS2 h2_a4]) hQ (fun hQ => ?_) (fun hQ => ?_)
        · exact hk17 _ _ _ _ _ _ _ _ _ hS2 hx2 h2_a0 h2_u1 hQ
        · refine st_rd hS2 h2_a0 rfl hQ (fun a5 a5v h2_a5 hQ => ?_)
          refine st_gd (fun h => by simp only [SM_N hS2 h2_a5]; exact gvp_in_of h) hQ (fun hQ => ?_)
          intro S6 eS
          obtain ⟨V6, hS6, xS, hQ⟩ := st_sI hS2 h2_a5 eS rfl rfl hQ
          have hx6 : Ex S0 S6 := Ex_tr hx2 xS
          have h6_a0 := xS _ _ h2_a0
          have h6_u1 := xS _ _ h2_u1
          exact hk17 _ _ _ _ _ _ _ _ _ hS6 hx6 h6_a0 h6_u1 hQ
def elX3_read_17 (n : Nat) : Nat → VS → Nat → Nat → Int32 → Int32 → Int32 → Rs Unit
  | 0 => fun _ _ _ _ _ _ => none
  | m + 1 => fun V a0v u1v y2 y5 y6 => eX3_read_17 n (elX3_read_17 n m) V a0v u1v y2 y5 y6
theorem selX3_read_17 (n : Nat) {S0 : MS} {Q : MS → Prop} {QX : String → MS → Prop} : ∀ (m : Nat), ∀ (S : MS) (V : VS) (p0 p0v : Nat) (p1 p1v : Nat) (p2 : Int32) (p3 : Int32) (p4 : Int32), SM S V → Ex S0 S → Ad S p0 p0v → Ad S p1 p1v → gd (elX3_read_17 n m V p0v p1v p2 p3 p4) (SU Q S0) (SX QX S0) → lX3_read_17 Q QX m S p0 p1 p2 p3 p4 := by
  intro m
  induction m with
  | zero => intro S V p0 p0v p1 p1v p2 p3 p4 hS hx q0 q1 hQ; exact (gd_none hQ).elim
  | succ m ih => intro S V p0 p0v p1 p1v p2 p3 p4 hS hx q0 q1 hQ; exact sX3_read_17 n ih hS hx q0 q1 hQ
def eX3_read_0 (n : Nat) (V : VS) (a0v : Nat) (b1v : Nat) (x2 : Int32) (x3 : Int32) (x4 : Int32) : Rs Unit := sq (wI V a0v 1 x3) (fun V1 => sq (wI V1 a0v 2 x4) (fun V2 => elX3_read_17 n n V2 a0v b1v x2 0 0))
set_option maxHeartbeats 4000000 in
set_option maxRecDepth 100000 in
theorem sX3_read_0 (n : Nat) {S0 : MS} {Q : MS → Prop} {QX : String → MS → Prop} {S : MS} {V : VS} {a0 a0v : Nat} {b1 b1v : Nat} {x2 : Int32} {x3 : Int32} {x4 : Int32} (hS : SM S V) (hx : Ex S0 S) (h_a0 : Ad S a0 a0v) (h_b1 : Ad S b1 b1v) (hQ : gd (eX3_read_0 n V a0v b1v x2 x3 x4) (SU Q S0) (SX QX S0)) : wX3_read_0 Q QX S a0 b1 x2 x3 x4 := by
  unfold wX3_read_0
  unfold eX3_read_0 at hQ
  intro S1 eS
  obtain ⟨V1, hS1, xS, hQ⟩ := st_sI hS h_a0 eS rfl rfl hQ
  have hx1 : Ex S0 S1 := Ex_tr hx xS
  have h1_a0 := xS _ _ h_a0
  have h1_b1 := xS _ _ h_b1
  intro S2 eS
  obtain ⟨V2, hS2, xS, hQ⟩ := st_sI hS1 h1_a0 eS rfl rfl hQ
  have hx2 : Ex S0 S2 := Ex_tr hx1 xS
  have h2_a0 := xS _ _ h1_a0
  have h2_b1 := xS _ _ h1_b1
  refine ⟨n, ?_⟩
  exact selX3_read_17 n n _ _ _ _ _ _ _ _ _ hS2 hx2 h2_a0 h2_b1 hQ
def ev_X3_read (n : Nat) (V : VS) (a0v : Nat) (b1v : Nat) (x2 : Int32) (x3 : Int32) (x4 : Int32) : Rs Unit := eX3_read_0 n V a0v b1v x2 x3 x4
theorem sim_X3_read (n : Nat) {Q : MS → Prop} {QX : String → MS → Prop} {S : MS} {V : VS} {a0 a0v : Nat} {b1 b1v : Nat} {x2 x2z : Int32} {x3 x3z : Int32} {x4 x4z : Int32} (hS : SM S V) (h_a0 : Ad S a0 a0v) (h_b1 : Ad S b1 b1v) (e_x2 : x2 = x2z) (e_x3 : x3 = x3z) (e_x4 : x4 = x4z) (hQ : gd (ev_X3_read n V a0v b1v x2z x3z x4z) (SU Q S) (SX QX S)) : wp_X3_read Q QX S a0 b1 x2 x3 x4 := by
  subst e_x2 e_x3 e_x4
  exact sX3_read_0 n hS Ex_rf h_a0 h_b1 hQ
