def eX0_init_0 (n : Nat) (V : VS) (a0v : Nat) : Rs Unit := nwV V 512 (fun V2 a1v => sq (wR V2 a0v 0 (some a1v)) (fun V3 => nwV V3 512 (fun V5 a4v => sq (wR V5 a0v 1 (some a4v)) (fun V6 => rt () V6))))
set_option maxHeartbeats 4000000 in
set_option maxRecDepth 100000 in
theorem sX0_init_0 (n : Nat) {S0 : MS} {Q : MS → Prop} {QX : String → MS → Prop} {S : MS} {V : VS} {a0 a0v : Nat} (hS : SM S V) (hx : Ex S0 S) (h_a0 : Ad S a0 a0v) (hQ : gd (eX0_init_0 n V a0v) (SU Q S0) (SX QX S0)) : wX0_init_0 Q QX S a0 := by
  unfold wX0_init_0
  unfold eX0_init_0 at hQ
  intro a1 q_a1 S2 eS
  obtain ⟨V2, a1v, hS2, xS, h2_a1, hQ⟩ := st_nw hS q_a1 eS rfl hQ
  have hx2 : Ex S0 S2 := Ex_tr hx xS
  have h2_a0 := xS _ _ h_a0
  intro S3 eS
  obtain ⟨V3, hS3, xS, hQ⟩ := st_sR hS2 h2_a0 eS rfl h2_a1 hQ
  have hx3 : Ex S0 S3 := Ex_tr hx2 xS
  have h3_a0 := xS _ _ h2_a0
  intro a4 q_a4 S5 eS
  obtain ⟨V5, a4v, hS5, xS, h5_a4, hQ⟩ := st_nw hS3 q_a4 eS rfl hQ
  have hx5 : Ex S0 S5 := Ex_tr hx3 xS
  have h5_a0 := xS _ _ h3_a0
  intro S6 eS
  obtain ⟨V6, hS6, xS, hQ⟩ := st_sR hS5 h5_a0 eS rfl h5_a4 hQ
  have hx6 : Ex S0 S6 := Ex_tr hx5 xS
  exact gd_rt hQ _ hS6 hx6
def ev_X0_init (n : Nat) (V : VS) (a0v : Nat) : Rs Unit := eX0_init_0 n V a0v
theorem sim_X0_init (n : Nat) {Q : MS → Prop} {QX : String → MS → Prop} {S : MS} {V : VS} {a0 a0v : Nat} (hS : SM S V) (h_a0 : Ad S a0 a0v) (hQ : gd (ev_X0_init n V a0v) (SU Q S) (SX QX S)) : wp_X0_init Q QX S a0 := by
  exact sX0_init_0 n hS Ex_rf h_a0 hQ
def eX0_add_0 (n : Nat) (V : VS) (a0v : Nat) (x1 : Int32) (x2 : Int32) : Rs Unit := (if 512 ≤ (vI V a0v 2) then rt () V else (vR V a0v 0).bind (fun a1v => (if gvp_in (vI V a0v 2) (vN V a1v) = true then sq (wI V a1v (((vI V a0v 2) : Int32).toNatClampNeg) x1) (fun V2 => (vR V2 a0v 1).bind (fun a3v => (if gvp_in (vI V2 a0v 2) (vN V2 a3v) = true then sq (wI V2 a3v (((vI V2 a0v 2) : Int32).toNatClampNeg) x2) (fun V4 => sq (wI V4 a0v 2 ((vI V4 a0v 2) + 1)) (fun V5 => rt () V5)) else none))) else none)))
set_option maxHeartbeats 4000000 in
set_option maxRecDepth 100000 in
theorem sX0_add_0 (n : Nat) {S0 : MS} {Q : MS → Prop} {QX : String → MS → Prop} {S : MS} {V : VS} {a0 a0v : Nat} {x1 : Int32} {x2 : Int32} (hS : SM S V) (hx : Ex S0 S) (h_a0 : Ad S a0 a0v) (hQ : gd (eX0_add_0 n V a0v x1 x2) (SU Q S0) (SX QX S0)) : wX0_add_0 Q QX S a0 x1 x2 := by
  unfold wX0_add_0
  unfold eX0_add_0 at hQ
  refine st_if (show (512 ≤ (mI S a0 2)) = (512 ≤ (vI V a0v 2)) from by simp only [SM_I hS h_a0]) hQ (fun hQ => ?_) (fun hQ => ?_)
  · exact gd_rt hQ _ hS hx
  · refine st_rd hS h_a0 rfl hQ (fun a1 a1v h_a1 hQ => ?_)
    refine st_gd (fun h => by simp only [SM_I hS h_a0, SM_N hS h_a1]; exact gvp_in_of h) hQ (fun hQ => ?_)
    intro S2 eS
    obtain ⟨V2, hS2, xS, hQ⟩ := st_sI hS h_a1 eS (show (((mI S a0 2) : Int32).toNatClampNeg) = (((vI V a0v 2) : Int32).toNatClampNeg) from by simp only [SM_I hS h_a0]) rfl hQ
    have hx2 : Ex S0 S2 := Ex_tr hx xS
    have h2_a0 := xS _ _ h_a0
    refine st_rd hS2 h2_a0 rfl hQ (fun a3 a3v h2_a3 hQ => ?_)
    refine st_gd (fun h => by simp only [SM_I hS2 h2_a0, SM_N hS2 h2_a3]; exact gvp_in_of h) hQ (fun hQ => ?_)
    intro S4 eS
    obtain ⟨V4, hS4, xS, hQ⟩ := st_sI hS2 h2_a3 eS (show (((mI S2 a0 2) : Int32).toNatClampNeg) = (((vI V2 a0v 2) : Int32).toNatClampNeg) from by simp only [SM_I hS2 h2_a0]) rfl hQ
    have hx4 : Ex S0 S4 := Ex_tr hx2 xS
    have h4_a0 := xS _ _ h2_a0
    intro S5 eS
    obtain ⟨V5, hS5, xS, hQ⟩ := st_sI hS4 h4_a0 eS rfl (show (((mI S4 a0 2) + 1)) = (((vI V4 a0v 2) + 1)) from by simp only [SM_I hS4 h4_a0]) hQ
    have hx5 : Ex S0 S5 := Ex_tr hx4 xS
    exact gd_rt hQ _ hS5 hx5
def ev_X0_add (n : Nat) (V : VS) (a0v : Nat) (x1 : Int32) (x2 : Int32) : Rs Unit := eX0_add_0 n V a0v x1 x2
theorem sim_X0_add (n : Nat) {Q : MS → Prop} {QX : String → MS → Prop} {S : MS} {V : VS} {a0 a0v : Nat} {x1 x1z : Int32} {x2 x2z : Int32} (hS : SM S V) (h_a0 : Ad S a0 a0v) (e_x1 : x1 = x1z) (e_x2 : x2 = x2z) (hQ : gd (ev_X0_add n V a0v x1z x2z) (SU Q S) (SX QX S)) : wp_X0_add Q QX S a0 x1 x2 := by
  subst e_x1 e_x2
  exact sX0_add_0 n hS Ex_rf h_a0 hQ
def eX0_dropLast_0 (n : Nat) (V : VS) (a0v : Nat) : Rs Unit := (if (vI V a0v 2) ≤ 0 then rt () V else sq (wI V a0v 2 ((vI V a0v 2) - 1)) (fun V1 => rt () V1))
set_option maxHeartbeats 4000000 in
set_option maxRecDepth 100000 in
theorem sX0_dropLast_0 (n : Nat) {S0 : MS} {Q : MS → Prop} {QX : String → MS → Prop} {S : MS} {V : VS} {a0 a0v : Nat} (hS : SM S V) (hx : Ex S0 S) (h_a0 : Ad S a0 a0v) (hQ : gd (eX0_dropLast_0 n V a0v) (SU Q S0) (SX QX S0)) : wX0_dropLast_0 Q QX S a0 := by
  unfold wX0_dropLast_0
  unfold eX0_dropLast_0 at hQ
  refine st_if (show ((mI S a0 2) ≤ 0) = ((vI V a0v 2) ≤ 0) from by simp only [SM_I hS h_a0]) hQ (fun hQ => ?_) (fun hQ => ?_)
  · exact gd_rt hQ _ hS hx
  · intro S1 eS
    obtain ⟨V1, hS1, xS, hQ⟩ := st_sI hS h_a0 eS rfl (show (((mI S a0 2) - 1)) = (((vI V a0v 2) - 1)) from by simp only [SM_I hS h_a0]) hQ
    have hx1 : Ex S0 S1 := Ex_tr hx xS
    exact gd_rt hQ _ hS1 hx1
def ev_X0_dropLast (n : Nat) (V : VS) (a0v : Nat) : Rs Unit := eX0_dropLast_0 n V a0v
theorem sim_X0_dropLast (n : Nat) {Q : MS → Prop} {QX : String → MS → Prop} {S : MS} {V : VS} {a0 a0v : Nat} (hS : SM S V) (h_a0 : Ad S a0 a0v) (hQ : gd (ev_X0_dropLast n V a0v) (SU Q S) (SX QX S)) : wp_X0_dropLast Q QX S a0 := by
  exact sX0_dropLast_0 n hS Ex_rf h_a0 hQ
def eX0_copyFrom_0 (n : Nat) (V : VS) (a0v : Nat) (b1v : Nat) : Rs Unit := sq (wI V a0v 2 (vI V b1v 2)) (fun V1 => (vR V1 b1v 0).bind (fun a2v => (vR V1 a0v 0).bind (fun a3v => (if ¬ (vI V1 a0v 2) < 0 then (if (0 : Int32).toNatClampNeg + ((vI V1 a0v 2) : Int32).toNatClampNeg ≤ vN V1 a2v then (if (0 : Int32).toNatClampNeg + ((vI V1 a0v 2) : Int32).toNatClampNeg ≤ vN V1 a3v then sq (wC V1 a3v a2v ((0 : Int32).toNatClampNeg) ((0 : Int32).toNatClampNeg) (((vI V1 a0v 2) : Int32).toNatClampNeg)) (fun V4 => (vR V4 b1v 1).bind (fun a5v => (vR V4 a0v 1).bind (fun a6v => (if ¬ (vI V4 a0v 2) < 0 then (if (0 : Int32).toNatClampNeg + ((vI V4 a0v 2) : Int32).toNatClampNeg ≤ vN V4 a5v then (if (0 : Int32).toNatClampNeg + ((vI V4 a0v 2) : Int32).toNatClampNeg ≤ vN V4 a6v then sq (wC V4 a6v a5v ((0 : Int32).toNatClampNeg) ((0 : Int32).toNatClampNeg) (((vI V4 a0v 2) : Int32).toNatClampNeg)) (fun V7 => rt () V7) else none) else none) else none)))) else none) else none) else none))))
set_option maxHeartbeats 4000000 in
set_option maxRecDepth 100000 in
theorem sX0_copyFrom_0 (n : Nat) {S0 : MS} {Q : MS → Prop} {QX : String → MS → Prop} {S : MS} {V : VS} {a0 a0v : Nat} {b1 b1v : Nat} (hS : SM S V) (hx : Ex S0 S) (h_a0 : Ad S a0 a0v) (h_b1 : Ad S b1 b1v) (hQ : gd (eX0_copyFrom_0 n V a0v b1v) (SU Q S0) (SX QX S0)) : wX0_copyFrom_0 Q QX S a0 b1 := by
  unfold wX0_copyFrom_0
  unfold eX0_copyFrom_0 at hQ
  intro S1 eS
  obtain ⟨V1, hS1, xS, hQ⟩ := st_sI hS h_a0 eS rfl (show ((mI S b1 2)) = ((vI V b1v 2)) from by simp only [SM_I hS h_b1]) hQ
  have hx1 : Ex S0 S1 := Ex_tr hx xS
  have h1_a0 := xS _ _ h_a0
  have h1_b1 := xS _ _ h_b1
  refine st_rd hS1 h1_b1 rfl hQ (fun a2 a2v h1_a2 hQ => ?_)
  refine st_rd hS1 h1_a0 rfl hQ (fun a3 a3v h1_a3 hQ => ?_)
  refine st_gd (fun h => by simp only [SM_I hS1 h1_a0]; exact h) hQ (fun hQ => ?_)
  refine st_gd (fun h => by simp only [SM_I hS1 h1_a0, SM_N hS1 h1_a2]; exact h) hQ (fun hQ => ?_)
  refine st_gd (fun h => by simp only [SM_I hS1 h1_a0, SM_N hS1 h1_a3]; exact h) hQ (fun hQ => ?_)
  intro S4 eS
  obtain ⟨V4, hS4, xS, hQ⟩ := st_sIr hS1 h1_a3 h1_a2 eS rfl rfl (show (((mI S1 a0 2) : Int32).toNatClampNeg) = (((vI V1 a0v 2) : Int32).toNatClampNeg) from by simp only [SM_I hS1 h1_a0]) hQ
  have hx4 : Ex S0 S4 := Ex_tr hx1 xS
  have h4_a0 := xS _ _ h1_a0
  have h4_b1 := xS _ _ h1_b1
  refine st_rd hS4 h4_b1 rfl hQ (fun a5 a5v h4_a5 hQ => ?_)
  refine st_rd hS4 h4_a0 rfl hQ (fun a6 a6v h4_a6 hQ => ?_)
  refine st_gd (fun h => by simp only [SM_I hS4 h4_a0]; exact h) hQ (fun hQ => ?_)
  refine st_gd (fun h => by simp only [SM_I hS4 h4_a0, SM_N hS4 h4_a5]; exact h) hQ (fun hQ => ?_)
  refine st_gd (fun h => by simp only [SM_I hS4 h4_a0, SM_N hS4 h4_a6]; exact h) hQ (fun hQ => ?_)
  intro S7 eS
  obtain ⟨V7, hS7, xS, hQ⟩ := st_sIr hS4 h4_a6 h4_a5 eS rfl rfl (show (((mI S4 a0 2) : Int32).toNatClampNeg) = (((vI V4 a0v 2) : Int32).toNatClampNeg) from by simp only [SM_I hS4 h4_a0]) hQ
  have hx7 : Ex S0 S7 := Ex_tr hx4 xS
  exact gd_rt hQ _ hS7 hx7
def ev_X0_copyFrom (n : Nat) (V : VS) (a0v : Nat) (b1v : Nat) : Rs Unit := eX0_copyFrom_0 n V a0v b1v
theorem sim_X0_copyFrom (n : Nat) {Q : MS → Prop} {QX : String → MS → Prop} {S : MS} {V : VS} {a0 a0v : Nat} {b1 b1v : Nat} (hS : SM S V) (h_a0 : Ad S a0 a0v) (h_b1 : Ad S b1 b1v) (hQ : gd (ev_X0_copyFrom n V a0v b1v) (SU Q S) (SX QX S)) : wp_X0_copyFrom Q QX S a0 b1 := by
  exact sX0_copyFrom_0 n hS Ex_rf h_a0 h_b1 hQ
def eX1_init_0 (n : Nat) (V : VS) (a0v : Nat) : Rs Unit := nwV V 40 (fun V2 a1v => sq (wR V2 a0v 0 (some a1v)) (fun V3 => nwV V3 40 (fun V5 a4v => sq (wR V5 a0v 1 (some a4v)) (fun V6 => nwV V6 40 (fun V8 a7v => sq (wR V8 a0v 2 (some a7v)) (fun V9 => rt () V9))))))
set_option maxHeartbeats 4000000 in
set_option maxRecDepth 100000 in
theorem sX1_init_0 (n : Nat) {S0 : MS} {Q : MS → Prop} {QX : String → MS → Prop} {S : MS} {V : VS} {a0 a0v : Nat} (hS : SM S V) (hx : Ex S0 S) (h_a0 : Ad S a0 a0v) (hQ : gd (eX1_init_0 n V a0v) (SU Q S0) (SX QX S0)) : wX1_init_0 Q QX S a0 := by
  unfold wX1_init_0
  unfold eX1_init_0 at hQ
  intro a1 q_a1 S2 eS
  obtain ⟨V2, a1v, hS2, xS, h2_a1, hQ⟩ := st_nw hS q_a1 eS rfl hQ
  have hx2 : Ex S0 S2 := Ex_tr hx xS
  have h2_a0 := xS _ _ h_a0
  intro S3 eS
  obtain ⟨V3, hS3, xS, hQ⟩ := st_sR hS2 h2_a0 eS rfl h2_a1 hQ
  have hx3 : Ex S0 S3 := Ex_tr hx2 xS
  have h3_a0 := xS _ _ h2_a0
  intro a4 q_a4 S5 eS
  obtain ⟨V5, a4v, hS5, xS, h5_a4, hQ⟩ := st_nw hS3 q_a4 eS rfl hQ
  have hx5 : Ex S0 S5 := Ex_tr hx3 xS
  have h5_a0 := xS _ _ h3_a0
  intro S6 eS
  obtain ⟨V6, hS6, xS, hQ⟩ := st_sR hS5 h5_a0 eS rfl h5_a4 hQ
  have hx6 : Ex S0 S6 := Ex_tr hx5 xS
  have h6_a0 := xS _ _ h5_a0
  intro a7 q_a7 S8 eS
  obtain ⟨V8, a7v, hS8, xS, h8_a7, hQ⟩ := st_nw hS6 q_a7 eS rfl hQ
  have hx8 : Ex S0 S8 := Ex_tr hx6 xS
  have h8_a0 := xS _ _ h6_a0
  intro S9 eS
  obtain ⟨V9, hS9, xS, hQ⟩ := st_sR hS8 h8_a0 eS rfl h8_a7 hQ
  have hx9 : Ex S0 S9 := Ex_tr hx8 xS
  exact gd_rt hQ _ hS9 hx9
def ev_X1_init (n : Nat) (V : VS) (a0v : Nat) : Rs Unit := eX1_init_0 n V a0v
theorem sim_X1_init (n : Nat) {Q : MS → Prop} {QX : String → MS → Prop} {S : MS} {V : VS} {a0 a0v : Nat} (hS : SM S V) (h_a0 : Ad S a0 a0v) (hQ : gd (ev_X1_init n V a0v) (SU Q S) (SX QX S)) : wp_X1_init Q QX S a0 := by
  exact sX1_init_0 n hS Ex_rf h_a0 hQ
def eX1_note_66 (n : Nat) (V : VS) (a0v : Nat) (y1 : Int32) (y2 : Int32) (y3 : Int32) : Rs Unit := (vR V a0v 0).bind (fun a1v => (if gvp_in (vI V a0v 3) (vN V a1v) = true then sq (wI V a1v (((vI V a0v 3) : Int32).toNatClampNeg) y1) (fun V2 => (vR V2 a0v 1).bind (fun a3v => (if gvp_in (vI V2 a0v 3) (vN V2 a3v) = true then sq (wI V2 a3v (((vI V2 a0v 3) : Int32).toNatClampNeg) y2) (fun V4 => (vR V4 a0v 2).bind (fun a5v => (if gvp_in (vI V4 a0v 3) (vN V4 a5v) = true then sq (wI V4 a5v (((vI V4 a0v 3) : Int32).toNatClampNeg) y3) (fun V6 => sq (wI V6 a0v 3 ((vI V6 a0v 3) + 1)) (fun V7 => rt () V7)) else none))) else none))) else none))
set_option maxHeartbeats 4000000 in
set_option maxRecDepth 100000 in
theorem sX1_note_66 (n : Nat) {S0 : MS} {Q : MS → Prop} {QX : String → MS → Prop} {S : MS} {V : VS} {a0 a0v : Nat} {y1 : Int32} {y2 : Int32} {y3 : Int32} (hS : SM S V) (hx : Ex S0 S) (h_a0 : Ad S a0 a0v) (hQ : gd (eX1_note_66 n V a0v y1 y2 y3) (SU Q S0) (SX QX S0)) : wX1_note_66 Q QX S a0 y1 y2 y3 := by
  unfold wX1_note_66
  unfold eX1_note_66 at hQ
  refine st_rd hS h_a0 rfl hQ (fun a1 a1v h_a1 hQ => ?_)
  refine st_gd (fun h => by simp only [SM_I hS h_a0, SM_N hS h_a1]; exact gvp_in_of h) hQ (fun hQ => ?_)
  intro S2 eS
  obtain ⟨V2, hS2, xS, hQ⟩ := st_sI hS h_a1 eS (show (((mI S a0 3) : Int32).toNatClampNeg) = (((vI V a0v 3) : Int32).toNatClampNeg) from by simp only [SM_I hS h_a0]) rfl hQ
  have hx2 : Ex S0 S2 := Ex_tr hx xS
  have h2_a0 := xS _ _ h_a0
  refine st_rd hS2 h2_a0 rfl hQ (fun a3 a3v h2_a3 hQ => ?_)
  refine st_gd (fun h => by simp only [SM_I hS2 h2_a0, SM_N hS2 h2_a3]; exact gvp_in_of h) hQ (fun hQ => ?_)
  intro S4 eS
  obtain ⟨V4, hS4, xS, hQ⟩ := st_sI hS2 h2_a3 eS (show (((mI S2 a0 3) : Int32).toNatClampNeg) = (((vI V2 a0v 3) : Int32).toNatClampNeg) from by simp only [SM_I hS2 h2_a0]) rfl hQ
  have hx4 : Ex S0 S4 := Ex_tr hx2 xS
  have h4_a0 := xS _ _ h2_a0
  refine st_rd hS4 h4_a0 rfl hQ (fun a5 a5v h4_a5 hQ => ?_)
  refine st_gd (fun h => by simp only [SM_I hS4 h4_a0, SM_N hS4 h4_a5]; exact gvp_in_of h) hQ (fun hQ => ?_)
  intro S6 eS
  obtain ⟨V6, hS6, xS, hQ⟩ := st_sI hS4 h4_a5 eS (show (((mI S4 a0 3) : Int32).toNatClampNeg) = (((vI V4 a0v 3) : Int32).toNatClampNeg) from by simp only [SM_I hS4 h4_a0]) rfl hQ
  have hx6 : Ex S0 S6 := Ex_tr hx4 xS
  have h6_a0 := xS _ _ h4_a0
  intro S7 eS
  obtain ⟨V7, hS7, xS, hQ⟩ := st_sI hS6 h6_a0 eS rfl (show (((mI S6 a0 3) + 1)) = (((vI V6 a0v 3) + 1)) from by simp only [SM_I hS6 h6_a0]) hQ
  have hx7 : Ex S0 S7 := Ex_tr hx6 xS
  exact gd_rt hQ _ hS7 hx7
def eX1_note_0 (n : Nat) (V : VS) (a0v : Nat) (x1 : Int32) (x2 : Int32) (x3 : Int32) : Rs Unit := (if (vI V a0v 3) < 40 then eX1_note_66 n V a0v x1 x2 x3 else sq (wI V a0v 3 39) (fun V1 => (vR V1 a0v 0).bind (fun a2v => (vR V1 a0v 0).bind (fun a3v => (if ¬ (vI V1 a0v 3) < 0 then (if (1 : Int32).toNatClampNeg + ((vI V1 a0v 3) : Int32).toNatClampNeg ≤ vN V1 a2v then (if (0 : Int32).toNatClampNeg + ((vI V1 a0v 3) : Int32).toNatClampNeg ≤ vN V1 a3v then sq (wC V1 a3v a2v ((1 : Int32).toNatClampNeg) ((0 : Int32).toNatClampNeg) (((vI V1 a0v 3) : Int32).toNatClampNeg)) (fun V4 => (vR V4 a0v 1).bind (fun a5v => (vR V4 a0v 1).bind (fun a6v => (if ¬ (vI V4 a0v 3) < 0 then (if (1 : Int32).toNatClampNeg + ((vI V4 a0v 3) : Int32).toNatClampNeg ≤ vN V4 a5v then (if (0 : Int32).toNatClampNeg + ((vI V4 a0v 3) : Int32).toNatClampNeg ≤ vN V4 a6v then sq (wC V4 a6v a5v ((1 : Int32).toNatClampNeg) ((0 : Int32).toNatClampNeg) (((vI V4 a0v 3) : Int32).toNatClampNeg)) (fun V7 => (vR V7 a0v 2).bind (fun a8v => (vR V7 a0v 2).bind (fun a9v => (if ¬ (vI V7 a0v 3) < 0 then (if (1 : Int32).toNatClampNeg + ((vI V7 a0v 3) : Int32).toNatClampNeg ≤ vN V7 a8v then (if (0 : Int32).toNatClampNeg + ((vI V7 a0v 3) : Int32).toNatClampNeg ≤ vN V7 a9v then sq (wC V7 a9v a8v ((1 : Int32).toNatClampNeg) ((0 : Int32).toNatClampNeg) (((vI V7 a0v 3) : Int32).toNatClampNeg)) (fun V10 => eX1_note_66 n V10 a0v x1 x2 x3) else none) else none) else none)))) else none) else none) else none)))) else none) else none) else none)))))
set_option maxHeartbeats 4000000 in
set_option maxRecDepth 100000 in
theorem sX1_note_0 (n : Nat) {S0 : MS} {Q : MS → Prop} {QX : String → MS → Prop} {S : MS} {V : VS} {a0 a0v : Nat} {x1 : Int32} {x2 : Int32} {x3 : Int32} (hS : SM S V) (hx : Ex S0 S) (h_a0 : Ad S a0 a0v) (hQ : gd (eX1_note_0 n V a0v x1 x2 x3) (SU Q S0) (SX QX S0)) : wX1_note_0 Q QX S a0 x1 x2 x3 := by
  unfold wX1_note_0
  unfold eX1_note_0 at hQ
  refine st_if (show ((mI S a0 3) < 40) = ((vI V a0v 3) < 40) from by simp only [SM_I hS h_a0]) hQ (fun hQ => ?_) (fun hQ => ?_)
  · exact sX1_note_66 n hS hx h_a0 hQ
  · intro S1 eS
    obtain ⟨V1, hS1, xS, hQ⟩ := st_sI hS h_a0 eS rfl rfl hQ
    have hx1 : Ex S0 S1 := Ex_tr hx xS
    have h1_a0 := xS _ _ h_a0
    refine st_rd hS1 h1_a0 rfl hQ (fun a2 a2v h1_a2 hQ => ?_)
    refine st_rd hS1 h1_a0 rfl hQ (fun a3 a3v h1_a3 hQ => ?_)
    refine st_gd (fun h => by simp only [SM_I hS1 h1_a0]; exact h) hQ (fun hQ => ?_)
    refine st_gd (fun h => by simp only [SM_I hS1 h1_a0, SM_N hS1 h1_a2]; exact h) hQ (fun hQ => ?_)
    refine st_gd (fun h => by simp only [SM_I hS1 h1_a0, SM_N hS1 h1_a3]; exact h) hQ (fun hQ => ?_)
    intro S4 eS
    obtain ⟨V4, hS4, xS, hQ⟩ := st_sIr hS1 h1_a3 h1_a2 eS rfl rfl (show (((mI S1 a0 3) : Int32).toNatClampNeg) = (((vI V1 a0v 3) : Int32).toNatClampNeg) from by simp only [SM_I hS1 h1_a0]) hQ
    have hx4 : Ex S0 S4 := Ex_tr hx1 xS
    have h4_a0 := xS _ _ h1_a0
    refine st_rd hS4 h4_a0 rfl hQ (fun a5 a5v h4_a5 hQ => ?_)
    refine st_rd hS4 h4_a0 rfl hQ (fun a6 a6v h4_a6 hQ => ?_)
    refine st_gd (fun h => by simp only [SM_I hS4 h4_a0]; exact h) hQ (fun hQ => ?_)
    refine st_gd (fun h => by simp only [SM_I hS4 h4_a0, SM_N hS4 h4_a5]; exact h) hQ (fun hQ => ?_)
    refine st_gd (fun h => by simp only [SM_I hS4 h4_a0, SM_N hS4 h4_a6]; exact h) hQ (fun hQ => ?_)
    intro S7 eS
    obtain ⟨V7, hS7, xS, hQ⟩ := st_sIr hS4 h4_a6 h4_a5 eS rfl rfl (show (((mI S4 a0 3) : Int32).toNatClampNeg) = (((vI V4 a0v 3) : Int32).toNatClampNeg) from by simp only [SM_I hS4 h4_a0]) hQ
    have hx7 : Ex S0 S7 := Ex_tr hx4 xS
    have h7_a0 := xS _ _ h4_a0
    refine st_rd hS7 h7_a0 rfl hQ (fun a8 a8v h7_a8 hQ => ?_)
    refine st_rd hS7 h7_a0 rfl hQ (fun a9 a9v h7_a9 hQ => ?_)
    refine st_gd (fun h => by simp only [SM_I hS7 h7_a0]; exact h) hQ (fun hQ => ?_)
    refine st_gd (fun h => by simp only [SM_I hS7 h7_a0, SM_N hS7 h7_a8]; exact h) hQ (fun hQ => ?_)
    refine st_gd (fun h => by simp only [SM_I hS7 h7_a0, SM_N hS7 h7_a9]; exact h) hQ (fun hQ => ?_)
    intro S10 eS
    obtain ⟨V10, hS10, xS, hQ⟩ := st_sIr hS7 h7_a9 h7_a8 eS rfl rfl (show (((mI S7 a0 3) : Int32).toNatClampNeg) = (((vI V7 a0v 3) : Int32).toNatClampNeg) from by simp only [SM_I hS7 h7_a0]) hQ
    have hx10 : Ex S0 S10 := Ex_tr hx7 xS
    have h10_a0 := xS _ _ h7_a0
    exact sX1_note_66 n hS10 hx10 h10_a0 hQ
def ev_X1_note (n : Nat) (V : VS) (a0v : Nat) (x1 : Int32) (x2 : Int32) (x3 : Int32) : Rs Unit := eX1_note_0 n V a0v x1 x2 x3
theorem sim_X1_note (n : Nat) {Q : MS → Prop} {QX : String → MS → Prop} {S : MS} {V : VS} {a0 a0v : Nat} {x1 x1z : Int32} {x2 x2z : Int32} {x3 x3z : Int32} (hS : SM S V) (h_a0 : Ad S a0 a0v) (e_x1 : x1 = x1z) (e_x2 : x2 = x2z) (e_x3 : x3 = x3z) (hQ : gd (ev_X1_note n V a0v x1z x2z x3z) (SU Q S) (SX QX S)) : wp_X1_note Q QX S a0 x1 x2 x3 := by
  subst e_x1 e_x2 e_x3
  exact sX1_note_0 n hS Ex_rf h_a0 hQ
def eX1_valueAt_0 (n : Nat) (V : VS) (a0v : Nat) (x1 : Int32) (x2 : Int32) : Rs Int32 := (if (x2 : Int32).toInt = 0 then (vR V a0v 0).bind (fun a1v => (if gvp_in x1 (vN V a1v) = true then rt (vI V a1v (x1 : Int32).toNatClampNeg) V else none)) else (if (x2 : Int32).toInt = 1 then (vR V a0v 1).bind (fun a2v => (if gvp_in x1 (vN V a2v) = true then rt (vI V a2v (x1 : Int32).toNatClampNeg) V else none)) else (vR V a0v 2).bind (fun a3v => (if gvp_in x1 (vN V a3v) = true then rt (vI V a3v (x1 : Int32).toNatClampNeg) V else none))))
set_option maxHeartbeats 4000000 in
set_option maxRecDepth 100000 in
theorem sX1_valueAt_0 (n : Nat) {S0 : MS} {Q : Int32 → MS → Prop} {QX : String → MS → Prop} {S : MS} {V : VS} {a0 a0v : Nat} {x1 : Int32} {x2 : Int32} (hS : SM S V) (hx : Ex S0 S) (h_a0 : Ad S a0 a0v) (hQ : gd (eX1_valueAt_0 n V a0v x1 x2) (SQ Q S0) (SX QX S0)) : wX1_valueAt_0 Q QX S a0 x1 x2 := by
  unfold wX1_valueAt_0
  unfold eX1_valueAt_0 at hQ
  refine st_if rfl hQ (fun hQ => ?_) (fun hQ => ?_)
  · refine st_rd hS h_a0 rfl hQ (fun a1 a1v h_a1 hQ => ?_)
    refine st_gd (fun h => by simp only [SM_N hS h_a1]; exact gvp_in_of h) hQ (fun hQ => ?_)
    simp only [SM_I hS h_a1]
    exact gd_rt hQ _ hS hx
  · refine st_if rfl hQ (fun hQ => ?_) (fun hQ => ?_)
    · refine st_rd hS h_a0 rfl hQ (fun a2 a2v h_a2 hQ => ?_)
      refine st_gd (fun h => by simp only [SM_N hS h_a2]; exact gvp_in_of h) hQ (fun hQ => ?_)
      simp only [SM_I hS h_a2]
      exact gd_rt hQ _ hS hx
    · refine st_rd hS h_a0 rfl hQ (fun a3 a3v h_a3 hQ => ?_)
      refine st_gd (fun h => by simp only [SM_N hS h_a3]; exact gvp_in_of h) hQ (fun hQ => ?_)
      simp only [SM_I hS h_a3]
      exact gd_rt hQ _ hS hx
def ev_X1_valueAt (n : Nat) (V : VS) (a0v : Nat) (x1 : Int32) (x2 : Int32) : Rs Int32 := eX1_valueAt_0 n V a0v x1 x2
theorem sim_X1_valueAt (n : Nat) {Q : Int32 → MS → Prop} {QX : String → MS → Prop} {S : MS} {V : VS} {a0 a0v : Nat} {x1 x1z : Int32} {x2 x2z : Int32} (hS : SM S V) (h_a0 : Ad S a0 a0v) (e_x1 : x1 = x1z) (e_x2 : x2 = x2z) (hQ : gd (ev_X1_valueAt n V a0v x1z x2z) (SQ Q S) (SX QX S)) : wp_X1_valueAt Q QX S a0 x1 x2 := by
  subst e_x1 e_x2
  exact sX1_valueAt_0 n hS Ex_rf h_a0 hQ
def eX1_copyFrom_0 (n : Nat) (V : VS) (a0v : Nat) (b1v : Nat) : Rs Unit := sq (wI V a0v 3 (vI V b1v 3)) (fun V1 => (vR V1 b1v 0).bind (fun a2v => (vR V1 a0v 0).bind (fun a3v => (if ¬ (vI V1 a0v 3) < 0 then (if (0 : Int32).toNatClampNeg + ((vI V1 a0v 3) : Int32).toNatClampNeg ≤ vN V1 a2v then (if (0 : Int32).toNatClampNeg + ((vI V1 a0v 3) : Int32).toNatClampNeg ≤ vN V1 a3v then sq (wC V1 a3v a2v ((0 : Int32).toNatClampNeg) ((0 : Int32).toNatClampNeg) (((vI V1 a0v 3) : Int32).toNatClampNeg)) (fun V4 => (vR V4 b1v 1).bind (fun a5v => (vR V4 a0v 1).bind (fun a6v => (if ¬ (vI V4 a0v 3) < 0 then (if (0 : Int32).toNatClampNeg + ((vI V4 a0v 3) : Int32).toNatClampNeg ≤ vN V4 a5v then (if (0 : Int32).toNatClampNeg + ((vI V4 a0v 3) : Int32).toNatClampNeg ≤ vN V4 a6v then sq (wC V4 a6v a5v ((0 : Int32).toNatClampNeg) ((0 : Int32).toNatClampNeg) (((vI V4 a0v 3) : Int32).toNatClampNeg)) (fun V7 => (vR V7 b1v 2).bind (fun a8v => (vR V7 a0v 2).bind (fun a9v => (if ¬ (vI V7 a0v 3) < 0 then (if (0 : Int32).toNatClampNeg + ((vI V7 a0v 3) : Int32).toNatClampNeg ≤ vN V7 a8v then (if (0 : Int32).toNatClampNeg + ((vI V7 a0v 3) : Int32).toNatClampNeg ≤ vN V7 a9v then sq (wC V7 a9v a8v ((0 : Int32).toNatClampNeg) ((0 : Int32).toNatClampNeg) (((vI V7 a0v 3) : Int32).toNatClampNeg)) (fun V10 => rt () V10) else none) else none) else none)))) else none) else none) else none)))) else none) else none) else none))))
set_option maxHeartbeats 4000000 in
set_option maxRecDepth 100000 in
theorem sX1_copyFrom_0 (n : Nat) {S0 : MS} {Q : MS → Prop} {QX : String → MS → Prop} {S : MS} {V : VS} {a0 a0v : Nat} {b1 b1v : Nat} (hS : SM S V) (hx : Ex S0 S) (h_a0 : Ad S a0 a0v) (h_b1 : Ad S b1 b1v) (hQ : gd (eX1_copyFrom_0 n V a0v b1v) (SU Q S0) (SX QX S0)) : wX1_copyFrom_0 Q QX S a0 b1 := by
  unfold wX1_copyFrom_0
  unfold eX1_copyFrom_0 at hQ
  intro S1 eS
  obtain ⟨V1, hS1, xS, hQ⟩ := st_sI hS h_a0 eS rfl (show ((mI S b1 3)) = ((vI V b1v 3)) from by simp only [SM_I hS h_b1]) hQ
  have hx1 : Ex S0 S1 := Ex_tr hx xS
  have h1_a0 := xS _ _ h_a0
  have h1_b1 := xS _ _ h_b1
  refine st_rd hS1 h1_b1 rfl hQ (fun a2 a2v h1_a2 hQ => ?_)
  refine st_rd hS1 h1_a0 rfl hQ (fun a3 a3v h1_a3 hQ => ?_)
  refine st_gd (fun h => by simp only [SM_I hS1 h1_a0]; exact h) hQ (fun hQ => ?_)
  refine st_gd (fun h => by simp only [SM_I hS1 h1_a0, SM_N hS1 h1_a2]; exact h) hQ (fun hQ => ?_)
  refine st_gd (fun h => by simp only [SM_I hS1 h1_a0, SM_N hS1 h1_a3]; exact h) hQ (fun hQ => ?_)
  intro S4 eS
  obtain ⟨V4, hS4, xS, hQ⟩ := st_sIr hS1 h1_a3 h1_a2 eS rfl rfl (show (((mI S1 a0 3) : Int32).toNatClampNeg) = (((vI V1 a0v 3) : Int32).toNatClampNeg) from by simp only [SM_I hS1 h1_a0]) hQ
  have hx4 : Ex S0 S4 := Ex_tr hx1 xS
  have h4_a0 := xS _ _ h1_a0
  have h4_b1 := xS _ _ h1_b1
  refine st_rd hS4 h4_b1 rfl hQ (fun a5 a5v h4_a5 hQ => ?_)
  refine st_rd hS4 h4_a0 rfl hQ (fun a6 a6v h4_a6 hQ => ?_)
  refine st_gd (fun h => by simp only [SM_I hS4 h4_a0]; exact h) hQ (fun hQ => ?_)
  refine st_gd (fun h => by simp only [SM_I hS4 h4_a0, SM_N hS4 h4_a5]; exact h) hQ (fun hQ => ?_)
  refine st_gd (fun h => by simp only [SM_I hS4 h4_a0, SM_N hS4 h4_a6]; exact h) hQ (fun hQ => ?_)
  intro S7 eS
  obtain ⟨V7, hS7, xS, hQ⟩ := st_sIr hS4 h4_a6 h4_a5 eS rfl rfl (show (((mI S4 a0 3) : Int32).toNatClampNeg) = (((vI V4 a0v 3) : Int32).toNatClampNeg) from by simp only [SM_I hS4 h4_a0]) hQ
  have hx7 : Ex S0 S7 := Ex_tr hx4 xS
  have h7_a0 := xS _ _ h4_a0
  have h7_b1 := xS _ _ h4_b1
  refine st_rd hS7 h7_b1 rfl hQ (fun a8 a8v h7_a8 hQ => ?_)
  refine st_rd hS7 h7_a0 rfl hQ (fun a9 a9v h7_a9 hQ => ?_)
  refine st_gd (fun h => by simp only [SM_I hS7 h7_a0]; exact h) hQ (fun hQ => ?_)
  refine st_gd (fun h => by simp only [SM_I hS7 h7_a0, SM_N hS7 h7_a8]; exact h) hQ (fun hQ => ?_)
  refine st_gd (fun h => by simp only [SM_I hS7 h7_a0, SM_N hS7 h7_a9]; exact h) hQ (fun hQ => ?_)
  intro S10 eS
  obtain ⟨V10, hS10, xS, hQ⟩ := st_sIr hS7 h7_a9 h7_a8 eS rfl rfl (show (((mI S7 a0 3) : Int32).toNatClampNeg) = (((vI V7 a0v 3) : Int32).toNatClampNeg) from by simp only [SM_I hS7 h7_a0]) hQ
  have hx10 : Ex S0 S10 := Ex_tr hx7 xS
  exact gd_rt hQ _ hS10 hx10
def ev_X1_copyFrom (n : Nat) (V : VS) (a0v : Nat) (b1v : Nat) : Rs Unit := eX1_copyFrom_0 n V a0v b1v
theorem sim_X1_copyFrom (n : Nat) {Q : MS → Prop} {QX : String → MS → Prop} {S : MS} {V : VS} {a0 a0v : Nat} {b1 b1v : Nat} (hS : SM S V) (h_a0 : Ad S a0 a0v) (h_b1 : Ad S b1 b1v) (hQ : gd (ev_X1_copyFrom n V a0v b1v) (SU Q S) (SX QX S)) : wp_X1_copyFrom Q QX S a0 b1 := by
  exact sX1_copyFrom_0 n hS Ex_rf h_a0 h_b1 hQ
def eX1_isSameAs_15 (n : Nat) (k15v : VS → Nat → Nat → Int32 → Rs Int32) (V : VS) (a0v : Nat) (u1v : Nat) (y2 : Int32) : Rs Int32 := (if (vI V a0v 3) ≤ y2 then rt 1 V else (vR V a0v 0).bind (fun a1v => (if gvp_in y2 (vN V a1v) = true then (vR V u1v 0).bind (fun a2v => (if gvp_in y2 (vN V a2v) = true then (if (vI V a1v (y2 : Int32).toNatClampNeg) = (vI V a2v (y2 : Int32).toNatClampNeg) then (vR V a0v 1).bind (fun a3v => (if gvp_in y2 (vN V a3v) = true then (vR V u1v 1).bind (fun a4v => (if gvp_in y2 (vN V a4v) = true then (if (vI V a3v (y2 : Int32).toNatClampNeg) = (vI V a4v (y2 : Int32).toNatClampNeg) then (vR V a0v 2).bind (fun a5v => (if gvp_in y2 (vN V a5v) = true then (vR V u1v 2).bind (fun a6v => (if gvp_in y2 (vN V a6v) = true then (if (vI V a5v (y2 : Int32).toNatClampNeg) = (vI V a6v (y2 : Int32).toNatClampNeg) then k15v V a0v u1v (y2 + 1) else rt 0 V) else none)) else none)) else rt 0 V) else none)) else none)) else rt 0 V) else none)) else none)))
set_option maxHeartbeats 4000000 in
set_option maxRecDepth 100000 in
theorem sX1_isSameAs_15 (n : Nat) {S0 : MS} {Q : Int32 → MS → Prop} {QX : String → MS → Prop} {k15 : MS → Nat → Nat → Int32 → Prop} {k15v : VS → Nat → Nat → Int32 → Rs Int32} (hk15 : ∀ (S : MS) (V : VS) (p0 p0v : Nat) (p1 p1v : Nat) (p2 : Int32), SM S V → Ex S0 S → Ad S p0 p0v → Ad S p1 p1v → gd (k15v V p0v p1v p2) (SQ Q S0) (SX QX S0) → k15 S p0 p1 p2) {S : MS} {V : VS} {a0 a0v : Nat} {u1 u1v : Nat} {y2 : Int32} (hS : SM S V) (hx : Ex S0 S) (h_a0 : Ad S a0 a0v) (h_u1 : Ad S u1 u1v) (hQ : gd (eX1_isSameAs_15 n k15v V a0v u1v y2) (SQ Q S0) (SX QX S0)) : wX1_isSameAs_15 Q QX k15 S a0 u1 y2 := by
  unfold wX1_isSameAs_15
  unfold eX1_isSameAs_15 at hQ
  refine st_if (show ((mI S a0 3) ≤ y2) = ((vI V a0v 3) ≤ y2) from by simp only [SM_I hS h_a0]) hQ (fun hQ => ?_) (fun hQ => ?_)
  · exact gd_rt hQ _ hS hx
  · refine st_rd hS h_a0 rfl hQ (fun a1 a1v h_a1 hQ => ?_)
    refine st_gd (fun h => by simp only [SM_N hS h_a1]; exact gvp_in_of h) hQ (fun hQ => ?_)
    refine st_rd hS h_u1 rfl hQ (fun a2 a2v h_a2 hQ => ?_)
    refine st_gd (fun h => by simp only [SM_N hS h_a2]; exact gvp_in_of h) hQ (fun hQ => ?_)
    refine st_ifn (show ((mI S a1 (y2 : Int32).toNatClampNeg) = (mI S a2 (y2 : Int32).toNatClampNeg)) = ((vI V a1v (y2 : Int32).toNatClampNeg) = (vI V a2v (y2 : Int32).toNatClampNeg)) from by simp only [SM_I hS h_a1, SM_I hS h_a2]) hQ (fun hQ => ?_) (fun hQ => ?_)
    · exact gd_rt hQ _ hS hx
    · refine st_rd hS h_a0 rfl hQ (fun a3 a3v h_a3 hQ => ?_)
      refine st_gd (fun h => by simp only [SM_N hS h_a3]; exact gvp_in_of h) hQ (fun hQ => ?_)
      refine st_rd hS h_u1 rfl hQ (fun a4 a4v h_a4 hQ => ?_)
      refine st_gd (fun h => by simp only [SM_N hS h_a4]; exact gvp_in_of h) hQ (fun hQ => ?_)
      refine st_ifn (show ((mI S a3 (y2 : Int32).toNatClampNeg) = (mI S a4 (y2 : Int32).toNatClampNeg)) = ((vI V a3v (y2 : Int32).toNatClampNeg) = (vI V a4v (y2 : Int32).toNatClampNeg)) from by simp only [SM_I hS h_a3, SM_I hS h_a4]) hQ (fun hQ => ?_) (fun hQ => ?_)
      · exact gd_rt hQ _ hS hx
      · refine st_rd hS h_a0 rfl hQ (fun a5 a5v h_a5 hQ => ?_)
        refine st_gd (fun h => by simp only [SM_N hS h_a5]; exact gvp_in_of h) hQ (fun hQ => ?_)
        refine st_rd hS h_u1 rfl hQ (fun a6 a6v h_a6 hQ => ?_)
        refine st_gd (fun h => by simp only [SM_N hS h_a6]; exact gvp_in_of h) hQ (fun hQ => ?_)
        refine st_if (show ((mI S a5 (y2 : Int32).toNatClampNeg) = (mI S a6 (y2 : Int32).toNatClampNeg)) = ((vI V a5v (y2 : Int32).toNatClampNeg) = (vI V a6v (y2 : Int32).toNatClampNeg)) from by simp only [SM_I hS h_a5, SM_I hS h_a6]) hQ (fun hQ => ?_) (fun hQ => ?_)
        · exact hk15 _ _ _ _ _ _ _ hS hx h_a0 h_u1 hQ
        · exact gd_rt hQ _ hS hx
def elX1_isSameAs_15 (n : Nat) : Nat → VS → Nat → Nat → Int32 → Rs Int32
  | 0 => fun _ _ _ _ => none
  | m + 1 => fun V a0v u1v y2 => eX1_isSameAs_15 n (elX1_isSameAs_15 n m) V a0v u1v y2
theorem selX1_isSameAs_15 (n : Nat) {S0 : MS} {Q : Int32 → MS → Prop} {QX : String → MS → Prop} : ∀ (m : Nat), ∀ (S : MS) (V : VS) (p0 p0v : Nat) (p1 p1v : Nat) (p2 : Int32), SM S V → Ex S0 S → Ad S p0 p0v → Ad S p1 p1v → gd (elX1_isSameAs_15 n m V p0v p1v p2) (SQ Q S0) (SX QX S0) → lX1_isSameAs_15 Q QX m S p0 p1 p2 := by
  intro m
  induction m with
  | zero => intro S V p0 p0v p1 p1v p2 hS hx q0 q1 hQ; exact (gd_none hQ).elim
  | succ m ih => intro S V p0 p0v p1 p1v p2 hS hx q0 q1 hQ; exact sX1_isSameAs_15 n ih hS hx q0 q1 hQ
def eX1_isSameAs_0 (n : Nat) (V : VS) (a0v : Nat) (b1v : Nat) : Rs Int32 := (if (vI V a0v 3) = (vI V b1v 3) then elX1_isSameAs_15 n n V a0v b1v 0 else rt 0 V)
set_option maxHeartbeats 4000000 in
set_option maxRecDepth 100000 in
theorem sX1_isSameAs_0 (n : Nat) {S0 : MS} {Q : Int32 → MS → Prop} {QX : String → MS → Prop} {S : MS} {V : VS} {a0 a0v : Nat} {b1 b1v : Nat} (hS : SM S V) (hx : Ex S0 S) (h_a0 : Ad S a0 a0v) (h_b1 : Ad S b1 b1v) (hQ : gd (eX1_isSameAs_0 n V a0v b1v) (SQ Q S0) (SX QX S0)) : wX1_isSameAs_0 Q QX S a0 b1 := by
  unfold wX1_isSameAs_0
  unfold eX1_isSameAs_0 at hQ
  refine st_if (show ((mI S a0 3) = (mI S b1 3)) = ((vI V a0v 3) = (vI V b1v 3)) from by simp only [SM_I hS h_a0, SM_I hS h_b1]) hQ (fun hQ => ?_) (fun hQ => ?_)
  · refine ⟨n, ?_⟩
    exact selX1_isSameAs_15 n n _ _ _ _ _ _ _ hS hx h_a0 h_b1 hQ
  · exact gd_rt hQ _ hS hx
def ev_X1_isSameAs (n : Nat) (V : VS) (a0v : Nat) (b1v : Nat) : Rs Int32 := eX1_isSameAs_0 n V a0v b1v
theorem sim_X1_isSameAs (n : Nat) {Q : Int32 → MS → Prop} {QX : String → MS → Prop} {S : MS} {V : VS} {a0 a0v : Nat} {b1 b1v : Nat} (hS : SM S V) (h_a0 : Ad S a0 a0v) (h_b1 : Ad S b1 b1v) (hQ : gd (ev_X1_isSameAs n V a0v b1v) (SQ Q S) (SX QX S)) : wp_X1_isSameAs Q QX S a0 b1 := by
  exact sX1_isSameAs_0 n hS Ex_rf h_a0 h_b1 hQ
def eX7_init_0 (n : Nat) (V : VS) (a0v : Nat) (x1 : Int32) : Rs Unit := sq (wI V a0v 0 x1) (fun V1 => rt () V1)
set_option maxHeartbeats 4000000 in
set_option maxRecDepth 100000 in
theorem sX7_init_0 (n : Nat) {S0 : MS} {Q : MS → Prop} {QX : String → MS → Prop} {S : MS} {V : VS} {a0 a0v : Nat} {x1 : Int32} (hS : SM S V) (hx : Ex S0 S) (h_a0 : Ad S a0 a0v) (hQ : gd (eX7_init_0 n V a0v x1) (SU Q S0) (SX QX S0)) : wX7_init_0 Q QX S a0 x1 := by
  unfold wX7_init_0
  unfold eX7_init_0 at hQ
  intro S1 eS
  obtain ⟨V1, hS1, xS, hQ⟩ := st_sI hS h_a0 eS rfl rfl hQ
  have hx1 : Ex S0 S1 := Ex_tr hx xS
  exact gd_rt hQ _ hS1 hx1
def ev_X7_init (n : Nat) (V : VS) (a0v : Nat) (x1 : Int32) : Rs Unit := eX7_init_0 n V a0v x1
theorem sim_X7_init (n : Nat) {Q : MS → Prop} {QX : String → MS → Prop} {S : MS} {V : VS} {a0 a0v : Nat} {x1 x1z : Int32} (hS : SM S V) (h_a0 : Ad S a0 a0v) (e_x1 : x1 = x1z) (hQ : gd (ev_X7_init n V a0v x1z) (SU Q S) (SX QX S)) : wp_X7_init Q QX S a0 x1 := by
  subst e_x1
  exact sX7_init_0 n hS Ex_rf h_a0 hQ
def eX7_enter_0 (n : Nat) (V : VS) (a0v : Nat) (x1 : Int32) (x2 : Int32) (x3 : Int32) : Rs Unit := sq (wI V a0v 1 x1) (fun V1 => sq (wI V1 a0v 2 x2) (fun V2 => sq (wI V2 a0v 3 x3) (fun V3 => sq (wI V3 a0v 4 x3) (fun V4 => (if gvp_in x2 4 = true then sq (wI V4 a0v 5 (tbI 0 x2)) (fun V6 => (if gvp_in x2 4 = true then sq (wI V6 a0v 6 (tbI 7 x2)) (fun V8 => (if gvp_in x2 4 = true then sq (wI V8 a0v 7 (tbI 8 x2)) (fun V10 => sq (wI V10 a0v 8 0) (fun V11 => sq (wI V11 a0v 9 0) (fun V12 => sq (wI V12 a0v 10 0) (fun V13 => sq (wI V13 a0v 11 0) (fun V14 => sq (wI V14 a0v 12 0) (fun V15 => rt () V15)))))) else none)) else none)) else none)))))
set_option maxHeartbeats 4000000 in
set_option maxRecDepth 100000 in
theorem sX7_enter_0 (n : Nat) {S0 : MS} {Q : MS → Prop} {QX : String → MS → Prop} {S : MS} {V : VS} {a0 a0v : Nat} {x1 : Int32} {x2 : Int32} {x3 : Int32} (hS : SM S V) (hx : Ex S0 S) (h_a0 : Ad S a0 a0v) (hQ : gd (eX7_enter_0 n V a0v x1 x2 x3) (SU Q S0) (SX QX S0)) : wX7_enter_0 Q QX S a0 x1 x2 x3 := by
  unfold wX7_enter_0
  unfold eX7_enter_0 at hQ
  intro S1 eS
  obtain ⟨V1, hS1, xS, hQ⟩ := st_sI hS h_a0 eS rfl rfl hQ
  have hx1 : Ex S0 S1 := Ex_tr hx xS
  have h1_a0 := xS _ _ h_a0
  intro S2 eS
  obtain ⟨V2, hS2, xS, hQ⟩ := st_sI hS1 h1_a0 eS rfl rfl hQ
  have hx2 : Ex S0 S2 := Ex_tr hx1 xS
  have h2_a0 := xS _ _ h1_a0
  intro S3 eS
  obtain ⟨V3, hS3, xS, hQ⟩ := st_sI hS2 h2_a0 eS rfl rfl hQ
  have hx3 : Ex S0 S3 := Ex_tr hx2 xS
  have h3_a0 := xS _ _ h2_a0
  intro S4 eS
  obtain ⟨V4, hS4, xS, hQ⟩ := st_sI hS3 h3_a0 eS rfl rfl hQ
  have hx4 : Ex S0 S4 := Ex_tr hx3 xS
  have h4_a0 := xS _ _ h3_a0
  refine st_gd (fun h => by exact gvp_in_of h) hQ (fun hQ => ?_)
  intro S6 eS
  obtain ⟨V6, hS6, xS, hQ⟩ := st_sI hS4 h4_a0 eS rfl rfl hQ
  have hx6 : Ex S0 S6 := Ex_tr hx4 xS
  have h6_a0 := xS _ _ h4_a0
  refine st_gd (fun h => by exact gvp_in_of h) hQ (fun hQ => ?_)
  intro S8 eS
  obtain ⟨V8, hS8, xS, hQ⟩ := st_sI hS6 h6_a0 eS rfl rfl hQ
  have hx8 : Ex S0 S8 := Ex_tr hx6 xS
  have h8_a0 := xS _ _ h6_a0
  refine st_gd (fun h => by exact gvp_in_of h) hQ (fun hQ => ?_)
  intro S10 eS
  obtain ⟨V10, hS10, xS, hQ⟩ := st_sI hS8 h8_a0 eS rfl rfl hQ
  have hx10 : Ex S0 S10 := Ex_tr hx8 xS
  have h10_a0 := xS _ _ h8_a0
  intro S11 eS
  obtain ⟨V11, hS11, xS, hQ⟩ := st_sI hS10 h10_a0 eS rfl rfl hQ
  have hx11 : Ex S0 S11 := Ex_tr hx10 xS
  have h11_a0 := xS _ _ h10_a0
  intro S12 eS
  obtain ⟨V12, hS12, xS, hQ⟩ := st_sI hS11 h11_a0 eS rfl rfl hQ
  have hx12 : Ex S0 S12 := Ex_tr hx11 xS
  have h12_a0 := xS _ _ h11_a0
  intro S13 eS
  obtain ⟨V13, hS13, xS, hQ⟩ := st_sI hS12 h12_a0 eS rfl rfl hQ
  have hx13 : Ex S0 S13 := Ex_tr hx12 xS
  have h13_a0 := xS _ _ h12_a0
  intro S14 eS
  obtain ⟨V14, hS14, xS, hQ⟩ := st_sI hS13 h13_a0 eS rfl rfl hQ
  have hx14 : Ex S0 S14 := Ex_tr hx13 xS
  have h14_a0 := xS _ _ h13_a0
  intro S15 eS
  obtain ⟨V15, hS15, xS, hQ⟩ := st_sI hS14 h14_a0 eS rfl rfl hQ
  have hx15 : Ex S0 S15 := Ex_tr hx14 xS
  exact gd_rt hQ _ hS15 hx15
def ev_X7_enter (n : Nat) (V : VS) (a0v : Nat) (x1 : Int32) (x2 : Int32) (x3 : Int32) : Rs Unit := eX7_enter_0 n V a0v x1 x2 x3
theorem sim_X7_enter (n : Nat) {Q : MS → Prop} {QX : String → MS → Prop} {S : MS} {V : VS} {a0 a0v : Nat} {x1 x1z : Int32} {x2 x2z : Int32} {x3 x3z : Int32} (hS : SM S V) (h_a0 : Ad S a0 a0v) (e_x1 : x1 = x1z) (e_x2 : x2 = x2z) (e_x3 : x3 = x3z) (hQ : gd (ev_X7_enter n V a0v x1z x2z x3z) (SU Q S) (SX QX S)) : wp_X7_enter Q QX S a0 x1 x2 x3 := by
  subst e_x1 e_x2 e_x3
  exact sX7_enter_0 n hS Ex_rf h_a0 hQ
def eX7_lives_0 (n : Nat) (V : VS) (a0v : Nat) : Rs Int32 := (if (vI V a0v 5) ≤ 0 then rt 0 V else rt 1 V)
set_option maxHeartbeats 4000000 in
set_option maxRecDepth 100000 in
theorem sX7_lives_0 (n : Nat) {S0 : MS} {Q : Int32 → MS → Prop} {QX : String → MS → Prop} {S : MS} {V : VS} {a0 a0v : Nat} (hS : SM S V) (hx : Ex S0 S) (h_a0 : Ad S a0 a0v) (hQ : gd (eX7_lives_0 n V a0v) (SQ Q S0) (SX QX S0)) : wX7_lives_0 Q QX S a0 := by
  unfold wX7_lives_0
  unfold eX7_lives_0 at hQ
  refine st_if (show ((mI S a0 5) ≤ 0) = ((vI V a0v 5) ≤ 0) from by simp only [SM_I hS h_a0]) hQ (fun hQ => ?_) (fun hQ => ?_)
  · exact gd_rt hQ _ hS hx
  · exact gd_rt hQ _ hS hx
def ev_X7_lives (n : Nat) (V : VS) (a0v : Nat) : Rs Int32 := eX7_lives_0 n V a0v
theorem sim_X7_lives (n : Nat) {Q : Int32 → MS → Prop} {QX : String → MS → Prop} {S : MS} {V : VS} {a0 a0v : Nat} (hS : SM S V) (h_a0 : Ad S a0 a0v) (hQ : gd (ev_X7_lives n V a0v) (SQ Q S) (SX QX S)) : wp_X7_lives Q QX S a0 := by
  exact sX7_lives_0 n hS Ex_rf h_a0 hQ
def eX7_lose_0 (n : Nat) (V : VS) (a0v : Nat) (x1 : Int32) : Rs Unit := (if (vI V a0v 5) ≤ x1 then sq (wI V a0v 5 0) (fun V1 => rt () V1) else sq (wI V a0v 5 ((vI V a0v 5) - x1)) (fun V2 => rt () V2))
set_option maxHeartbeats 4000000 in
set_option maxRecDepth 100000 in
theorem sX7_lose_0 (n : Nat) {S0 : MS} {Q : MS → Prop} {QX : String → MS → Prop} {S : MS} {V : VS} {a0 a0v : Nat} {x1 : Int32} (hS : SM S V) (hx : Ex S0 S) (h_a0 : Ad S a0 a0v) (hQ : gd (eX7_lose_0 n V a0v x1) (SU Q S0) (SX QX S0)) : wX7_lose_0 Q QX S a0 x1 := by
  unfold wX7_lose_0
  unfold eX7_lose_0 at hQ
  refine st_if (show ((mI S a0 5) ≤ x1) = ((vI V a0v 5) ≤ x1) from by simp only [SM_I hS h_a0]) hQ (fun hQ => ?_) (fun hQ => ?_)
  · intro S1 eS
    obtain ⟨V1, hS1, xS, hQ⟩ := st_sI hS h_a0 eS rfl rfl hQ
    have hx1 : Ex S0 S1 := Ex_tr hx xS
    exact gd_rt hQ _ hS1 hx1
  · intro S2 eS
    obtain ⟨V2, hS2, xS, hQ⟩ := st_sI hS h_a0 eS rfl (show (((mI S a0 5) - x1)) = (((vI V a0v 5) - x1)) from by simp only [SM_I hS h_a0]) hQ
    have hx2 : Ex S0 S2 := Ex_tr hx xS
    exact gd_rt hQ _ hS2 hx2
def ev_X7_lose (n : Nat) (V : VS) (a0v : Nat) (x1 : Int32) : Rs Unit := eX7_lose_0 n V a0v x1
theorem sim_X7_lose (n : Nat) {Q : MS → Prop} {QX : String → MS → Prop} {S : MS} {V : VS} {a0 a0v : Nat} {x1 x1z : Int32} (hS : SM S V) (h_a0 : Ad S a0 a0v) (e_x1 : x1 = x1z) (hQ : gd (ev_X7_lose n V a0v x1z) (SU Q S) (SX QX S)) : wp_X7_lose Q QX S a0 x1 := by
  subst e_x1
  exact sX7_lose_0 n hS Ex_rf h_a0 hQ
def eX7_shortenStatuses_18 (n : Nat) (V : VS) (a0v : Nat) (z0 : Int32) (w1v : Nat) : Rs Unit := sq (wI V w1v 9 z0) (fun V1 => (if (vI V1 a0v 10) ≤ 0 then sq (wI V1 a0v 10 0) (fun V2 => rt () V2) else sq (wI V1 a0v 10 ((vI V1 a0v 10) - 1)) (fun V3 => rt () V3)))
set_option maxHeartbeats 4000000 in
set_option maxRecDepth 100000 in
theorem sX7_shortenStatuses_18 (n : Nat) {S0 : MS} {Q : MS → Prop} {QX : String → MS → Prop} {S : MS} {V : VS} {a0 a0v : Nat} {z0 : Int32} {w1 w1v : Nat} (hS : SM S V) (hx : Ex S0 S) (h_a0 : Ad S a0 a0v) (h_w1 : Ad S w1 w1v) (hQ : gd (eX7_shortenStatuses_18 n V a0v z0 w1v) (SU Q S0) (SX QX S0)) : wX7_shortenStatuses_18 Q QX S a0 z0 w1 := by
  unfold wX7_shortenStatuses_18
  unfold eX7_shortenStatuses_18 at hQ
  intro S1 eS
  obtain ⟨V1, hS1, xS, hQ⟩ := st_sI hS h_w1 eS rfl rfl hQ
  have hx1 : Ex S0 S1 := Ex_tr hx xS
  have h1_a0 := xS _ _ h_a0
  refine st_if (show ((mI S1 a0 10) ≤ 0) = ((vI V1 a0v 10) ≤ 0) from by simp only [SM_I hS1 h1_a0]) hQ (fun hQ => ?_) (fun hQ => ?_)
  · intro S2 eS
    obtain ⟨V2, hS2, xS, hQ⟩ := st_sI hS1 h1_a0 eS rfl rfl hQ
    have hx2 : Ex S0 S2 := Ex_tr hx1 xS
    exact gd_rt hQ _ hS2 hx2
  · intro S3 eS
    obtain ⟨V3, hS3, xS, hQ⟩ := st_sI hS1 h1_a0 eS rfl (show (((mI S1 a0 10) - 1)) = (((vI V1 a0v 10) - 1)) from by simp only [SM_I hS1 h1_a0]) hQ
    have hx3 : Ex S0 S3 := Ex_tr hx1 xS
    exact gd_rt hQ _ hS3 hx3
def eX7_shortenStatuses_0 (n : Nat) (V : VS) (a0v : Nat) : Rs Unit := (if (vI V a0v 9) ≤ 0 then eX7_shortenStatuses_18 n V a0v 0 a0v else eX7_shortenStatuses_18 n V a0v ((vI V a0v 9) - 1) a0v)
set_option maxHeartbeats 4000000 in
set_option maxRecDepth 100000 in
theorem sX7_shortenStatuses_0 (n : Nat) {S0 : MS} {Q : MS → Prop} {QX : String → MS → Prop} {S : MS} {V : VS} {a0 a0v : Nat} (hS : SM S V) (hx : Ex S0 S) (h_a0 : Ad S a0 a0v) (hQ : gd (eX7_shortenStatuses_0 n V a0v) (SU Q S0) (SX QX S0)) : wX7_shortenStatuses_0 Q QX S a0 := by
  unfold wX7_shortenStatuses_0
  unfold eX7_shortenStatuses_0 at hQ
  refine st_if (show ((mI S a0 9) ≤ 0) = ((vI V a0v 9) ≤ 0) from by simp only [SM_I hS h_a0]) hQ (fun hQ => ?_) (fun hQ => ?_)
  · exact sX7_shortenStatuses_18 n hS hx h_a0 h_a0 hQ
  · simp only [SM_I hS h_a0]
    exact sX7_shortenStatuses_18 n hS hx h_a0 h_a0 hQ
def ev_X7_shortenStatuses (n : Nat) (V : VS) (a0v : Nat) : Rs Unit := eX7_shortenStatuses_0 n V a0v
theorem sim_X7_shortenStatuses (n : Nat) {Q : MS → Prop} {QX : String → MS → Prop} {S : MS} {V : VS} {a0 a0v : Nat} (hS : SM S V) (h_a0 : Ad S a0 a0v) (hQ : gd (ev_X7_shortenStatuses n V a0v) (SU Q S) (SX QX S)) : wp_X7_shortenStatuses Q QX S a0 := by
  exact sX7_shortenStatuses_0 n hS Ex_rf h_a0 hQ
def eX7_copyFrom_0 (n : Nat) (V : VS) (a0v : Nat) (b1v : Nat) : Rs Unit := sq (wI V a0v 1 (vI V b1v 1)) (fun V1 => sq (wI V1 a0v 2 (vI V1 b1v 2)) (fun V2 => sq (wI V2 a0v 3 (vI V2 b1v 3)) (fun V3 => sq (wI V3 a0v 4 (vI V3 b1v 4)) (fun V4 => sq (wI V4 a0v 5 (vI V4 b1v 5)) (fun V5 => sq (wI V5 a0v 6 (vI V5 b1v 6)) (fun V6 => sq (wI V6 a0v 7 (vI V6 b1v 7)) (fun V7 => sq (wI V7 a0v 8 (vI V7 b1v 8)) (fun V8 => sq (wI V8 a0v 9 (vI V8 b1v 9)) (fun V9 => sq (wI V9 a0v 10 (vI V9 b1v 10)) (fun V10 => (if gisZ (vI V10 b1v 11) = true then sq (wI V10 a0v 11 (vI V10 b1v 11)) (fun V11 => (if gisZ (vI V11 b1v 12) = true then sq (wI V11 a0v 12 (vI V11 b1v 12)) (fun V12 => rt () V12) else none)) else none)))))))))))
set_option maxHeartbeats 4000000 in
set_option maxRecDepth 100000 in
theorem sX7_copyFrom_0 (n : Nat) {S0 : MS} {Q : MS → Prop} {QX : String → MS → Prop} {S : MS} {V : VS} {a0 a0v : Nat} {b1 b1v : Nat} (hS : SM S V) (hx : Ex S0 S) (h_a0 : Ad S a0 a0v) (h_b1 : Ad S b1 b1v) (hQ : gd (eX7_copyFrom_0 n V a0v b1v) (SU Q S0) (SX QX S0)) : wX7_copyFrom_0 Q QX S a0 b1 := by
  unfold wX7_copyFrom_0
  unfold eX7_copyFrom_0 at hQ
  intro S1 eS
  obtain ⟨V1, hS1, xS, hQ⟩ := st_sI hS h_a0 eS rfl (show ((mI S b1 1)) = ((vI V b1v 1)) from by simp only [SM_I hS h_b1]) hQ
  have hx1 : Ex S0 S1 := Ex_tr hx xS
  have h1_a0 := xS _ _ h_a0
  have h1_b1 := xS _ _ h_b1
  intro S2 eS
  obtain ⟨V2, hS2, xS, hQ⟩ := st_sI hS1 h1_a0 eS rfl (show ((mI S1 b1 2)) = ((vI V1 b1v 2)) from by simp only [SM_I hS1 h1_b1]) hQ
  have hx2 : Ex S0 S2 := Ex_tr hx1 xS
  have h2_a0 := xS _ _ h1_a0
  have h2_b1 := xS _ _ h1_b1
  intro S3 eS
  obtain ⟨V3, hS3, xS, hQ⟩ := st_sI hS2 h2_a0 eS rfl (show ((mI S2 b1 3)) = ((vI V2 b1v 3)) from by simp only [SM_I hS2 h2_b1]) hQ
  have hx3 : Ex S0 S3 := Ex_tr hx2 xS
  have h3_a0 := xS _ _ h2_a0
  have h3_b1 := xS _ _ h2_b1
  intro S4 eS
  obtain ⟨V4, hS4, xS, hQ⟩ := st_sI hS3 h3_a0 eS rfl (show ((mI S3 b1 4)) = ((vI V3 b1v 4)) from by simp only [SM_I hS3 h3_b1]) hQ
  have hx4 : Ex S0 S4 := Ex_tr hx3 xS
  have h4_a0 := xS _ _ h3_a0
  have h4_b1 := xS _ _ h3_b1
  intro S5 eS
  obtain ⟨V5, hS5, xS, hQ⟩ := st_sI hS4 h4_a0 eS rfl (show ((mI S4 b1 5)) = ((vI V4 b1v 5)) from by simp only [SM_I hS4 h4_b1]) hQ
  have hx5 : Ex S0 S5 := Ex_tr hx4 xS
  have h5_a0 := xS _ _ h4_a0
  have h5_b1 := xS _ _ h4_b1
  intro S6 eS
  obtain ⟨V6, hS6, xS, hQ⟩ := st_sI hS5 h5_a0 eS rfl (show ((mI S5 b1 6)) = ((vI V5 b1v 6)) from by simp only [SM_I hS5 h5_b1]) hQ
  have hx6 : Ex S0 S6 := Ex_tr hx5 xS
  have h6_a0 := xS _ _ h5_a0
  have h6_b1 := xS _ _ h5_b1
  intro S7 eS
  obtain ⟨V7, hS7, xS, hQ⟩ := st_sI hS6 h6_a0 eS rfl (show ((mI S6 b1 7)) = ((vI V6 b1v 7)) from by simp only [SM_I hS6 h6_b1]) hQ
  have hx7 : Ex S0 S7 := Ex_tr hx6 xS
  have h7_a0 := xS _ _ h6_a0
  have h7_b1 := xS _ _ h6_b1
  intro S8 eS
  obtain ⟨V8, hS8, xS, hQ⟩ := st_sI hS7 h7_a0 eS rfl (show ((mI S7 b1 8)) = ((vI V7 b1v 8)) from by simp only [SM_I hS7 h7_b1]) hQ
  have hx8 : Ex S0 S8 := Ex_tr hx7 xS
  have h8_a0 := xS _ _ h7_a0
  have h8_b1 := xS _ _ h7_b1
  intro S9 eS
  obtain ⟨V9, hS9, xS, hQ⟩ := st_sI hS8 h8_a0 eS rfl (show ((mI S8 b1 9)) = ((vI V8 b1v 9)) from by simp only [SM_I hS8 h8_b1]) hQ
  have hx9 : Ex S0 S9 := Ex_tr hx8 xS
  have h9_a0 := xS _ _ h8_a0
  have h9_b1 := xS _ _ h8_b1
  intro S10 eS
  obtain ⟨V10, hS10, xS, hQ⟩ := st_sI hS9 h9_a0 eS rfl (show ((mI S9 b1 10)) = ((vI V9 b1v 10)) from by simp only [SM_I hS9 h9_b1]) hQ
  have hx10 : Ex S0 S10 := Ex_tr hx9 xS
  have h10_a0 := xS _ _ h9_a0
  have h10_b1 := xS _ _ h9_b1
  refine st_gd (fun h => by simp only [SM_I hS10 h10_b1]; exact gisZ_of h) hQ (fun hQ => ?_)
  intro S11 eS
  obtain ⟨V11, hS11, xS, hQ⟩ := st_sI hS10 h10_a0 eS rfl (show ((mI S10 b1 11)) = ((vI V10 b1v 11)) from by simp only [SM_I hS10 h10_b1]) hQ
  have hx11 : Ex S0 S11 := Ex_tr hx10 xS
  have h11_a0 := xS _ _ h10_a0
  have h11_b1 := xS _ _ h10_b1
  refine st_gd (fun h => by simp only [SM_I hS11 h11_b1]; exact gisZ_of h) hQ (fun hQ => ?_)
  intro S12 eS
  obtain ⟨V12, hS12, xS, hQ⟩ := st_sI hS11 h11_a0 eS rfl (show ((mI S11 b1 12)) = ((vI V11 b1v 12)) from by simp only [SM_I hS11 h11_b1]) hQ
  have hx12 : Ex S0 S12 := Ex_tr hx11 xS
  exact gd_rt hQ _ hS12 hx12
def ev_X7_copyFrom (n : Nat) (V : VS) (a0v : Nat) (b1v : Nat) : Rs Unit := eX7_copyFrom_0 n V a0v b1v
theorem sim_X7_copyFrom (n : Nat) {Q : MS → Prop} {QX : String → MS → Prop} {S : MS} {V : VS} {a0 a0v : Nat} {b1 b1v : Nat} (hS : SM S V) (h_a0 : Ad S a0 a0v) (h_b1 : Ad S b1 b1v) (hQ : gd (ev_X7_copyFrom n V a0v b1v) (SU Q S) (SX QX S)) : wp_X7_copyFrom Q QX S a0 b1 := by
  exact sX7_copyFrom_0 n hS Ex_rf h_a0 h_b1 hQ
def eX7_isSameAs_0 (n : Nat) (V : VS) (a0v : Nat) (b1v : Nat) : Rs Int32 := (if (vI V a0v 1) = (vI V b1v 1) then (if (vI V a0v 2) = (vI V b1v 2) then (if (vI V a0v 4) = (vI V b1v 4) then (if (vI V a0v 5) = (vI V b1v 5) then (if (vI V a0v 6) = (vI V b1v 6) then (if (vI V a0v 7) = (vI V b1v 7) then (if (vI V a0v 8) = (vI V b1v 8) then (if (vI V a0v 9) = (vI V b1v 9) then (if (vI V a0v 10) = (vI V b1v 10) then (if (vI V a0v 11) = (vI V b1v 11) then (if (vI V a0v 12) = (vI V b1v 12) then rt 1 V else rt 0 V) else rt 0 V) else rt 0 V) else rt 0 V) else rt 0 V) else rt 0 V) else rt 0 V) else rt 0 V) else rt 0 V) else rt 0 V) else rt 0 V)
set_option maxHeartbeats 4000000 in
set_option maxRecDepth 100000 in
theorem sX7_isSameAs_0 (n : Nat) {S0 : MS} {Q : Int32 → MS → Prop} {QX : String → MS → Prop} {S : MS} {V : VS} {a0 a0v : Nat} {b1 b1v : Nat} (hS : SM S V) (hx : Ex S0 S) (h_a0 : Ad S a0 a0v) (h_b1 : Ad S b1 b1v) (hQ : gd (eX7_isSameAs_0 n V a0v b1v) (SQ Q S0) (SX QX S0)) : wX7_isSameAs_0 Q QX S a0 b1 := by
  unfold wX7_isSameAs_0
  unfold eX7_isSameAs_0 at hQ
  refine st_ifn (show ((mI S a0 1) = (mI S b1 1)) = ((vI V a0v 1) = (vI V b1v 1)) from by simp only [SM_I hS h_a0, SM_I hS h_b1]) hQ (fun hQ => ?_) (fun hQ => ?_)
  · exact gd_rt hQ _ hS hx
  · refine st_ifn (show ((mI S a0 2) = (mI S b1 2)) = ((vI V a0v 2) = (vI V b1v 2)) from by simp only [SM_I hS h_a0, SM_I hS h_b1]) hQ (fun hQ => ?_) (fun hQ => ?_)
    · exact gd_rt hQ _ hS hx
    · refine st_ifn (show ((mI S a0 4) = (mI S b1 4)) = ((vI V a0v 4) = (vI V b1v 4)) from by simp only [SM_I hS h_a0, SM_I hS h_b1]) hQ (fun hQ => ?_) (fun hQ => ?_)
      · exact gd_rt hQ _ hS hx
      · refine st_ifn (show ((mI S a0 5) = (mI S b1 5)) = ((vI V a0v 5) = (vI V b1v 5)) from by simp only [SM_I hS h_a0, SM_I hS h_b1]) hQ (fun hQ => ?_) (fun hQ => ?_)
        · exact gd_rt hQ _ hS hx
        · refine st_ifn (show ((mI S a0 6) = (mI S b1 6)) = ((vI V a0v 6) = (vI V b1v 6)) from by simp only [SM_I hS h_a0, SM_I hS h_b1]) hQ (fun hQ => ?_) (fun hQ => ?_)
          · exact gd_rt hQ _ hS hx
          · refine st_ifn (show ((mI S a0 7) = (mI S b1 7)) = ((vI V a0v 7) = (vI V b1v 7)) from by simp only [SM_I hS h_a0, SM_I hS h_b1]) hQ (fun hQ => ?_) (fun hQ => ?_)
            · exact gd_rt hQ _ hS hx
            · refine st_ifn (show ((mI S a0 8) = (mI S b1 8)) = ((vI V a0v 8) = (vI V b1v 8)) from by simp only [SM_I hS h_a0, SM_I hS h_b1]) hQ (fun hQ => ?_) (fun hQ => ?_)
              · exact gd_rt hQ _ hS hx
              · refine st_ifn (show ((mI S a0 9) = (mI S b1 9)) = ((vI V a0v 9) = (vI V b1v 9)) from by simp only [SM_I hS h_a0, SM_I hS h_b1]) hQ (fun hQ => ?_) (fun hQ => ?_)
                · exact gd_rt hQ _ hS hx
                · refine st_ifn (show ((mI S a0 10) = (mI S b1 10)) = ((vI V a0v 10) = (vI V b1v 10)) from by simp only [SM_I hS h_a0, SM_I hS h_b1]) hQ (fun hQ => ?_) (fun hQ => ?_)
                  · exact gd_rt hQ _ hS hx
                  · refine st_ifn (show ((mI S a0 11) = (mI S b1 11)) = ((vI V a0v 11) = (vI V b1v 11)) from by simp only [SM_I hS h_a0, SM_I hS h_b1]) hQ (fun hQ => ?_) (fun hQ => ?_)
                    · exact gd_rt hQ _ hS hx
                    · refine st_ifn (show ((mI S a0 12) = (mI S b1 12)) = ((vI V a0v 12) = (vI V b1v 12)) from by simp only [SM_I hS h_a0, SM_I hS h_b1]) hQ (fun hQ => ?_) (fun hQ => ?_)
                      · exact gd_rt hQ _ hS hx
                      · exact gd_rt hQ _ hS hx
def ev_X7_isSameAs (n : Nat) (V : VS) (a0v : Nat) (b1v : Nat) : Rs Int32 := eX7_isSameAs_0 n V a0v b1v
theorem sim_X7_isSameAs (n : Nat) {Q : Int32 → MS → Prop} {QX : String → MS → Prop} {S : MS} {V : VS} {a0 a0v : Nat} {b1 b1v : Nat} (hS : SM S V) (h_a0 : Ad S a0 a0v) (h_b1 : Ad S b1 b1v) (hQ : gd (ev_X7_isSameAs n V a0v b1v) (SQ Q S) (SX QX S)) : wp_X7_isSameAs Q QX S a0 b1 := by
  exact sX7_isSameAs_0 n hS Ex_rf h_a0 h_b1 hQ
