def eL_append_0 (n : Nat) (V : VS) (b1v : Nat) (x2 : Int32) (b3v : Nat) : Rs Int32 := bd (ev_X8_append n V b1v x2) (fun r2 V1 => (if gvp_in 0 (vN V1 b3v) = true then sq (wJ V1 b3v ((0 : Int32).toNatClampNeg) ((r2 : Int32).toInt64)) (fun V3 => rt 0 V3) else none)) (fun E V9 => (if E = "java/lang/IllegalArgumentException" then rt 1 V9 else (if E = "java/lang/IllegalStateException" then rt 2 V9 else none)))
set_option maxHeartbeats 4000000 in
set_option maxRecDepth 100000 in
theorem sL_append_0 (n : Nat) {S0 : MS} {Q : Int32 → MS → Prop} {QX : String → MS → Prop} {S : MS} {V : VS} {b1 b1v : Nat} {x2 : Int32} {b3 b3v : Nat} (hS : SM S V) (hx : Ex S0 S) (h_b1 : Ad S b1 b1v) (h_b3 : Ad S b3 b3v) (hQ : gd (eL_append_0 n V b1v x2 b3v) (SQ Q S0) (SX QX S0)) : wL_append_0 Q QX S b1 x2 b3 := by
  unfold wL_append_0
  unfold eL_append_0 at hQ
  refine sim_X8_append n hS h_b1 rfl ?_
  refine gd_mono (gd_bd hQ) (fun r2 V1 hQ S1 hS1 xS => ?_) (fun E V9 hQ S9 hS9 xS9 => ?_)
  · have hx1 : Ex S0 S1 := Ex_tr hx xS
    have h1_b3 := xS _ _ h_b3
    refine st_gd (fun h => by simp only [SM_N hS1 h1_b3]; exact gvp_in_of h) hQ (fun hQ => ?_)
    intro S3 eS
    obtain ⟨V3, hS3, xS, hQ⟩ := st_sJ hS1 h1_b3 eS rfl rfl hQ
    have hx3 : Ex S0 S3 := Ex_tr hx1 xS
    exact gd_rt hQ _ hS3 hx3
  · by_cases cE : E = "java/lang/IllegalArgumentException"
    · have hQ := gd_yes hQ cE
      exact Or.inl ⟨cE, gd_rt hQ _ hS9 (Ex_tr hx xS9)⟩
    have hQ := gd_no hQ cE
    by_cases cE : E = "java/lang/IllegalStateException"
    · have hQ := gd_yes hQ cE
      exact Or.inr (⟨cE, gd_rt hQ _ hS9 (Ex_tr hx xS9)⟩)
    have hQ := gd_no hQ cE
    exact (gd_none hQ).elim
def ev_L_append (n : Nat) (V : VS) (b1v : Nat) (x2 : Int32) (b3v : Nat) : Rs Int32 := eL_append_0 n V b1v x2 b3v
theorem sim_L_append (n : Nat) {Q : Int32 → MS → Prop} {QX : String → MS → Prop} {S : MS} {V : VS} {b1 b1v : Nat} {x2 x2z : Int32} {b3 b3v : Nat} (hS : SM S V) (h_b1 : Ad S b1 b1v) (e_x2 : x2 = x2z) (h_b3 : Ad S b3 b3v) (hQ : gd (ev_L_append n V b1v x2z b3v) (SQ Q S) (SX QX S)) : wp_L_append Q QX S b1 x2 b3 := by
  subst e_x2
  exact sL_append_0 n hS Ex_rf h_b1 h_b3 hQ
def eL_load_0 (n : Nat) (V : VS) (b1v : Nat) (x2 : Int32) (b3v : Nat) : Rs Int32 := bd (ev_X8_load n V b1v x2) (fun r2 V1 => (if gvp_in 0 (vN V1 b3v) = true then sq (wJ V1 b3v ((0 : Int32).toNatClampNeg) ((r2 : Int32).toInt64)) (fun V3 => rt 0 V3) else none)) (fun E V9 => (if E = "java/lang/IllegalArgumentException" then rt 1 V9 else (if E = "java/lang/UnsupportedOperationException" then rt 2 V9 else none)))
set_option maxHeartbeats 4000000 in
set_option maxRecDepth 100000 in
theorem sL_load_0 (n : Nat) {S0 : MS} {Q : Int32 → MS → Prop} {QX : String → MS → Prop} {S : MS} {V : VS} {b1 b1v : Nat} {x2 : Int32} {b3 b3v : Nat} (hS : SM S V) (hx : Ex S0 S) (h_b1 : Ad S b1 b1v) (h_b3 : Ad S b3 b3v) (hQ : gd (eL_load_0 n V b1v x2 b3v) (SQ Q S0) (SX QX S0)) : wL_load_0 Q QX S b1 x2 b3 := by
  unfold wL_load_0
  unfold eL_load_0 at hQ
  refine sim_X8_load n hS h_b1 rfl ?_
  refine gd_mono (gd_bd hQ) (fun r2 V1 hQ S1 hS1 xS => ?_) (fun E V9 hQ S9 hS9 xS9 => ?_)
  · have hx1 : Ex S0 S1 := Ex_tr hx xS
    have h1_b3 := xS _ _ h_b3
    refine st_gd (fun h => by simp only [SM_N hS1 h1_b3]; exact gvp_in_of h) hQ (fun hQ => ?_)
    intro S3 eS
    obtain ⟨V3, hS3, xS, hQ⟩ := st_sJ hS1 h1_b3 eS rfl rfl hQ
    have hx3 : Ex S0 S3 := Ex_tr hx1 xS
    exact gd_rt hQ _ hS3 hx3
  · by_cases cE : E = "java/lang/IllegalArgumentException"
    · have hQ := gd_yes hQ cE
      exact Or.inl ⟨cE, gd_rt hQ _ hS9 (Ex_tr hx xS9)⟩
    have hQ := gd_no hQ cE
    by_cases cE : E = "java/lang/UnsupportedOperationException"
    · have hQ := gd_yes hQ cE
      exact Or.inr (⟨cE, gd_rt hQ _ hS9 (Ex_tr hx xS9)⟩)
    have hQ := gd_no hQ cE
    exact (gd_none hQ).elim
def ev_L_load (n : Nat) (V : VS) (b1v : Nat) (x2 : Int32) (b3v : Nat) : Rs Int32 := eL_load_0 n V b1v x2 b3v
theorem sim_L_load (n : Nat) {Q : Int32 → MS → Prop} {QX : String → MS → Prop} {S : MS} {V : VS} {b1 b1v : Nat} {x2 x2z : Int32} {b3 b3v : Nat} (hS : SM S V) (h_b1 : Ad S b1 b1v) (e_x2 : x2 = x2z) (h_b3 : Ad S b3 b3v) (hQ : gd (ev_L_load n V b1v x2z b3v) (SQ Q S) (SX QX S)) : wp_L_load Q QX S b1 x2 b3 := by
  subst e_x2
  exact sL_load_0 n hS Ex_rf h_b1 h_b3 hQ
def eL_errorPosition_0 (n : Nat) (V : VS) (b1v : Nat) (b2v : Nat) : Rs Int32 := bd (ev_X8_errorPosition n V b1v) (fun r2 V1 => (if gvp_in 0 (vN V1 b2v) = true then sq (wJ V1 b2v ((0 : Int32).toNatClampNeg) ((r2 : Int32).toInt64)) (fun V3 => rt 0 V3) else none)) (fun E V9 => (if E = "java/util/NoSuchElementException" then rt 1 V9 else none))
set_option maxHeartbeats 4000000 in
set_option maxRecDepth 100000 in
theorem sL_errorPosition_0 (n : Nat) {S0 : MS} {Q : Int32 → MS → Prop} {QX : String → MS → Prop} {S : MS} {V : VS} {b1 b1v : Nat} {b2 b2v : Nat} (hS : SM S V) (hx : Ex S0 S) (h_b1 : Ad S b1 b1v) (h_b2 : Ad S b2 b2v) (hQ : gd (eL_errorPosition_0 n V b1v b2v) (SQ Q S0) (SX QX S0)) : wL_errorPosition_0 Q QX S b1 b2 := by
  unfold wL_errorPosition_0
  unfold eL_errorPosition_0 at hQ
  refine sim_X8_errorPosition n hS h_b1 ?_
  refine gd_mono (gd_bd hQ) (fun r2 V1 hQ S1 hS1 xS => ?_) (fun E V9 hQ S9 hS9 xS9 => ?_)
  · have hx1 : Ex S0 S1 := Ex_tr hx xS
    have h1_b2 := xS _ _ h_b2
    refine st_gd (fun h => by simp only [SM_N hS1 h1_b2]; exact gvp_in_of h) hQ (fun hQ => ?_)
    intro S3 eS
    obtain ⟨V3, hS3, xS, hQ⟩ := st_sJ hS1 h1_b2 eS rfl rfl hQ
    have hx3 : Ex S0 S3 := Ex_tr hx1 xS
    exact gd_rt hQ _ hS3 hx3
  · by_cases cE : E = "java/util/NoSuchElementException"
    · have hQ := gd_yes hQ cE
      exact ⟨cE, gd_rt hQ _ hS9 (Ex_tr hx xS9)⟩
    have hQ := gd_no hQ cE
    exact (gd_none hQ).elim
def ev_L_errorPosition (n : Nat) (V : VS) (b1v : Nat) (b2v : Nat) : Rs Int32 := eL_errorPosition_0 n V b1v b2v
theorem sim_L_errorPosition (n : Nat) {Q : Int32 → MS → Prop} {QX : String → MS → Prop} {S : MS} {V : VS} {b1 b1v : Nat} {b2 b2v : Nat} (hS : SM S V) (h_b1 : Ad S b1 b1v) (h_b2 : Ad S b2 b2v) (hQ : gd (ev_L_errorPosition n V b1v b2v) (SQ Q S) (SX QX S)) : wp_L_errorPosition Q QX S b1 b2 := by
  exact sL_errorPosition_0 n hS Ex_rf h_b1 h_b2 hQ
def eL_terrain_0 (n : Nat) (V : VS) (b1v : Nat) (x2 : Int32) (x3 : Int32) (b4v : Nat) : Rs Int32 := bd (ev_X8_terrain n V b1v x2 x3) (fun r2 V1 => (if gvp_in 0 (vN V1 b4v) = true then sq (wJ V1 b4v ((0 : Int32).toNatClampNeg) ((r2 : Int32).toInt64)) (fun V3 => rt 0 V3) else none)) (fun E V9 => (if E = "java/lang/IndexOutOfBoundsException" then rt 1 V9 else none))
set_option maxHeartbeats 4000000 in
set_option maxRecDepth 100000 in
theorem sL_terrain_0 (n : Nat) {S0 : MS} {Q : Int32 → MS → Prop} {QX : String → MS → Prop} {S : MS} {V : VS} {b1 b1v : Nat} {x2 : Int32} {x3 : Int32} {b4 b4v : Nat} (hS : SM S V) (hx : Ex S0 S) (h_b1 : Ad S b1 b1v) (h_b4 : Ad S b4 b4v) (hQ : gd (eL_terrain_0 n V b1v x2 x3 b4v) (SQ Q S0) (SX QX S0)) : wL_terrain_0 Q QX S b1 x2 x3 b4 := by
  unfold wL_terrain_0
  unfold eL_terrain_0 at hQ
  refine sim_X8_terrain n hS h_b1 rfl rfl ?_
  refine gd_mono (gd_bd hQ) (fun r2 V1 hQ S1 hS1 xS => ?_) (fun E V9 hQ S9 hS9 xS9 => ?_)
  · have hx1 : Ex S0 S1 := Ex_tr hx xS
    have h1_b4 := xS _ _ h_b4
    refine st_gd (fun h => by simp only [SM_N hS1 h1_b4]; exact gvp_in_of h) hQ (fun hQ => ?_)
    intro S3 eS
    obtain ⟨V3, hS3, xS, hQ⟩ := st_sJ hS1 h1_b4 eS rfl rfl hQ
    have hx3 : Ex S0 S3 := Ex_tr hx1 xS
    exact gd_rt hQ _ hS3 hx3
  · by_cases cE : E = "java/lang/IndexOutOfBoundsException"
    · have hQ := gd_yes hQ cE
      exact ⟨cE, gd_rt hQ _ hS9 (Ex_tr hx xS9)⟩
    have hQ := gd_no hQ cE
    exact (gd_none hQ).elim
def ev_L_terrain (n : Nat) (V : VS) (b1v : Nat) (x2 : Int32) (x3 : Int32) (b4v : Nat) : Rs Int32 := eL_terrain_0 n V b1v x2 x3 b4v
theorem sim_L_terrain (n : Nat) {Q : Int32 → MS → Prop} {QX : String → MS → Prop} {S : MS} {V : VS} {b1 b1v : Nat} {x2 x2z : Int32} {x3 x3z : Int32} {b4 b4v : Nat} (hS : SM S V) (h_b1 : Ad S b1 b1v) (e_x2 : x2 = x2z) (e_x3 : x3 = x3z) (h_b4 : Ad S b4 b4v) (hQ : gd (ev_L_terrain n V b1v x2z x3z b4v) (SQ Q S) (SX QX S)) : wp_L_terrain Q QX S b1 x2 x3 b4 := by
  subst e_x2 e_x3
  exact sL_terrain_0 n hS Ex_rf h_b1 h_b4 hQ
def eL_isSeen_0 (n : Nat) (V : VS) (b1v : Nat) (x2 : Int32) (x3 : Int32) (b4v : Nat) : Rs Int32 := bd (ev_X8_isSeen n V b1v x2 x3) (fun r2 V1 => (if r2 = 0 then (if gvp_in 0 (vN V1 b4v) = true then sq (wJ V1 b4v ((0 : Int32).toNatClampNeg) 0) (fun V3 => rt 0 V3) else none) else (if gvp_in 0 (vN V1 b4v) = true then sq (wJ V1 b4v ((0 : Int32).toNatClampNeg) 1) (fun V4 => rt 0 V4) else none))) (fun E V9 => (if E = "java/lang/IndexOutOfBoundsException" then rt 1 V9 else none))
set_option maxHeartbeats 4000000 in
set_option maxRecDepth 100000 in
theorem sL_isSeen_0 (n : Nat) {S0 : MS} {Q : Int32 → MS → Prop} {QX : String → MS → Prop} {S : MS} {V : VS} {b1 b1v : Nat} {x2 : Int32} {x3 : Int32} {b4 b4v : Nat} (hS : SM S V) (hx : Ex S0 S) (h_b1 : Ad S b1 b1v) (h_b4 : Ad S b4 b4v) (hQ : gd (eL_isSeen_0 n V b1v x2 x3 b4v) (SQ Q S0) (SX QX S0)) : wL_isSeen_0 Q QX S b1 x2 x3 b4 := by
  unfold wL_isSeen_0
  unfold eL_isSeen_0 at hQ
  refine sim_X8_isSeen n hS h_b1 rfl rfl ?_
  refine gd_mono (gd_bd hQ) (fun r2 V1 hQ S1 hS1 xS => ?_) (fun E V9 hQ S9 hS9 xS9 => ?_)
  · have hx1 : Ex S0 S1 := Ex_tr hx xS
    have h1_b4 := xS _ _ h_b4
    refine st_if rfl hQ (fun hQ => ?_) (fun hQ => ?_)
    · refine st_gd (fun h => by simp only [SM_N hS1 h1_b4]; exact gvp_in_of h) hQ (fun hQ => ?_)
      intro S3 eS
      obtain ⟨V3, hS3, xS, hQ⟩ := st_sJ hS1 h1_b4 eS rfl rfl hQ
      have hx3 : Ex S0 S3 := Ex_tr hx1 xS
      exact gd_rt hQ _ hS3 hx3
    · refine st_gd (fun h => by simp only [SM_N hS1 h1_b4]; exact gvp_in_of h) hQ (fun hQ => ?_)
      intro S4 eS
      obtain ⟨V4, hS4, xS, hQ⟩ := st_sJ hS1 h1_b4 eS rfl rfl hQ
      have hx4 : Ex S0 S4 := Ex_tr hx1 xS
      exact gd_rt hQ _ hS4 hx4
  · by_cases cE : E = "java/lang/IndexOutOfBoundsException"
    · have hQ := gd_yes hQ cE
      exact ⟨cE, gd_rt hQ _ hS9 (Ex_tr hx xS9)⟩
    have hQ := gd_no hQ cE
    exact (gd_none hQ).elim
def ev_L_isSeen (n : Nat) (V : VS) (b1v : Nat) (x2 : Int32) (x3 : Int32) (b4v : Nat) : Rs Int32 := eL_isSeen_0 n V b1v x2 x3 b4v
theorem sim_L_isSeen (n : Nat) {Q : Int32 → MS → Prop} {QX : String → MS → Prop} {S : MS} {V : VS} {b1 b1v : Nat} {x2 x2z : Int32} {x3 x3z : Int32} {b4 b4v : Nat} (hS : SM S V) (h_b1 : Ad S b1 b1v) (e_x2 : x2 = x2z) (e_x3 : x3 = x3z) (h_b4 : Ad S b4 b4v) (hQ : gd (ev_L_isSeen n V b1v x2z x3z b4v) (SQ Q S) (SX QX S)) : wp_L_isSeen Q QX S b1 x2 x3 b4 := by
  subst e_x2 e_x3
  exact sL_isSeen_0 n hS Ex_rf h_b1 h_b4 hQ
def eL_cover_0 (n : Nat) (V : VS) (b1v : Nat) (x2 : Int32) (x3 : Int32) (b4v : Nat) : Rs Int32 := bd (ev_X8_cover n V b1v x2 x3) (fun r2 V1 => (if gvp_in 0 (vN V1 b4v) = true then sq (wJ V1 b4v ((0 : Int32).toNatClampNeg) ((r2 : Int32).toInt64)) (fun V3 => rt 0 V3) else none)) (fun E V9 => (if E = "java/lang/IndexOutOfBoundsException" then rt 1 V9 else none))
set_option maxHeartbeats 4000000 in
set_option maxRecDepth 100000 in
theorem sL_cover_0 (n : Nat) {S0 : MS} {Q : Int32 → MS → Prop} {QX : String → MS → Prop} {S : MS} {V : VS} {b1 b1v : Nat} {x2 : Int32} {x3 : Int32} {b4 b4v : Nat} (hS : SM S V) (hx : Ex S0 S) (h_b1 : Ad S b1 b1v) (h_b4 : Ad S b4 b4v) (hQ : gd (eL_cover_0 n V b1v x2 x3 b4v) (SQ Q S0) (SX QX S0)) : wL_cover_0 Q QX S b1 x2 x3 b4 := by
  unfold wL_cover_0
  unfold eL_cover_0 at hQ
  refine sim_X8_cover n hS h_b1 rfl rfl ?_
  refine gd_mono (gd_bd hQ) (fun r2 V1 hQ S1 hS1 xS => ?_) (fun E V9 hQ S9 hS9 xS9 => ?_)
  · have hx1 : Ex S0 S1 := Ex_tr hx xS
    have h1_b4 := xS _ _ h_b4
    refine st_gd (fun h => by simp only [SM_N hS1 h1_b4]; exact gvp_in_of h) hQ (fun hQ => ?_)
    intro S3 eS
    obtain ⟨V3, hS3, xS, hQ⟩ := st_sJ hS1 h1_b4 eS rfl rfl hQ
    have hx3 : Ex S0 S3 := Ex_tr hx1 xS
    exact gd_rt hQ _ hS3 hx3
  · by_cases cE : E = "java/lang/IndexOutOfBoundsException"
    · have hQ := gd_yes hQ cE
      exact ⟨cE, gd_rt hQ _ hS9 (Ex_tr hx xS9)⟩
    have hQ := gd_no hQ cE
    exact (gd_none hQ).elim
def ev_L_cover (n : Nat) (V : VS) (b1v : Nat) (x2 : Int32) (x3 : Int32) (b4v : Nat) : Rs Int32 := eL_cover_0 n V b1v x2 x3 b4v
theorem sim_L_cover (n : Nat) {Q : Int32 → MS → Prop} {QX : String → MS → Prop} {S : MS} {V : VS} {b1 b1v : Nat} {x2 x2z : Int32} {x3 x3z : Int32} {b4 b4v : Nat} (hS : SM S V) (h_b1 : Ad S b1 b1v) (e_x2 : x2 = x2z) (e_x3 : x3 = x3z) (h_b4 : Ad S b4 b4v) (hQ : gd (ev_L_cover n V b1v x2z x3z b4v) (SQ Q S) (SX QX S)) : wp_L_cover Q QX S b1 x2 x3 b4 := by
  subst e_x2 e_x3
  exact sL_cover_0 n hS Ex_rf h_b1 h_b4 hQ
def eL_addUnit_0 (n : Nat) (V : VS) (b1v : Nat) (x2 : Int32) (x3 : Int32) (x4 : Int32) (b5v : Nat) : Rs Int32 := bd (ev_X8_addUnit n V b1v x2 x3 x4) (fun r2 V1 => (if gvp_in 0 (vN V1 b5v) = true then sq (wJ V1 b5v ((0 : Int32).toNatClampNeg) ((r2 : Int32).toInt64)) (fun V3 => rt 0 V3) else none)) (fun E V9 => (if E = "java/lang/IndexOutOfBoundsException" then rt 1 V9 else (if E = "java/lang/IllegalArgumentException" then rt 2 V9 else (if E = "java/lang/IllegalStateException" then rt 3 V9 else none))))
set_option maxHeartbeats 4000000 in
set_option maxRecDepth 100000 in
theorem sL_addUnit_0 (n : Nat) {S0 : MS} {Q : Int32 → MS → Prop} {QX : String → MS → Prop} {S : MS} {V : VS} {b1 b1v : Nat} {x2 : Int32} {x3 : Int32} {x4 : Int32} {b5 b5v : Nat} (hS : SM S V) (hx : Ex S0 S) (h_b1 : Ad S b1 b1v) (h_b5 : Ad S b5 b5v) (hQ : gd (eL_addUnit_0 n V b1v x2 x3 x4 b5v) (SQ Q S0) (SX QX S0)) : wL_addUnit_0 Q QX S b1 x2 x3 x4 b5 := by
  unfold wL_addUnit_0
  unfold eL_addUnit_0 at hQ
  refine sim_X8_addUnit n hS h_b1 rfl rfl rfl ?_
  refine gd_mono (gd_bd hQ) (fun r2 V1 hQ S1 hS1 xS => ?_) (fun E V9 hQ S9 hS9 xS9 => ?_)
  · have hx1 : Ex S0 S1 := Ex_tr hx xS
    have h1_b5 := xS _ _ h_b5
    refine st_gd (fun h => by simp only [SM_N hS1 h1_b5]; exact gvp_in_of h) hQ (fun hQ => ?_)
    intro S3 eS
    obtain ⟨V3, hS3, xS, hQ⟩ := st_sJ hS1 h1_b5 eS rfl rfl hQ
    have hx3 : Ex S0 S3 := Ex_tr hx1 xS
    exact gd_rt hQ _ hS3 hx3
  · by_cases cE : E = "java/lang/IndexOutOfBoundsException"
    · have hQ := gd_yes hQ cE
      exact Or.inl ⟨cE, gd_rt hQ _ hS9 (Ex_tr hx xS9)⟩
    have hQ := gd_no hQ cE
    by_cases cE : E = "java/lang/IllegalArgumentException"
    · have hQ := gd_yes hQ cE
      exact Or.inr (Or.inl ⟨cE, gd_rt hQ _ hS9 (Ex_tr hx xS9)⟩)
    have hQ := gd_no hQ cE
    by_cases cE : E = "java/lang/IllegalStateException"
    · have hQ := gd_yes hQ cE
      exact Or.inr (Or.inr (⟨cE, gd_rt hQ _ hS9 (Ex_tr hx xS9)⟩))
    have hQ := gd_no hQ cE
    exact (gd_none hQ).elim
def ev_L_addUnit (n : Nat) (V : VS) (b1v : Nat) (x2 : Int32) (x3 : Int32) (x4 : Int32) (b5v : Nat) : Rs Int32 := eL_addUnit_0 n V b1v x2 x3 x4 b5v
theorem sim_L_addUnit (n : Nat) {Q : Int32 → MS → Prop} {QX : String → MS → Prop} {S : MS} {V : VS} {b1 b1v : Nat} {x2 x2z : Int32} {x3 x3z : Int32} {x4 x4z : Int32} {b5 b5v : Nat} (hS : SM S V) (h_b1 : Ad S b1 b1v) (e_x2 : x2 = x2z) (e_x3 : x3 = x3z) (e_x4 : x4 = x4z) (h_b5 : Ad S b5 b5v) (hQ : gd (ev_L_addUnit n V b1v x2z x3z x4z b5v) (SQ Q S) (SX QX S)) : wp_L_addUnit Q QX S b1 x2 x3 x4 b5 := by
  subst e_x2 e_x3 e_x4
  exact sL_addUnit_0 n hS Ex_rf h_b1 h_b5 hQ
def eL_unit_0 (n : Nat) (V : VS) (b1v : Nat) (x2 : Int32) (x3 : Int32) (b4v : Nat) : Rs Int32 := bd (ev_X8_unit n V b1v x2 x3) (fun r2 V1 => (if gvp_in 0 (vN V1 b4v) = true then sq (wJ V1 b4v ((0 : Int32).toNatClampNeg) ((r2 : Int32).toInt64)) (fun V3 => rt 0 V3) else none)) (fun E V9 => (if E = "java/lang/IndexOutOfBoundsException" then rt 1 V9 else (if E = "java/lang/IllegalArgumentException" then rt 2 V9 else none)))
set_option maxHeartbeats 4000000 in
set_option maxRecDepth 100000 in
theorem sL_unit_0 (n : Nat) {S0 : MS} {Q : Int32 → MS → Prop} {QX : String → MS → Prop} {S : MS} {V : VS} {b1 b1v : Nat} {x2 : Int32} {x3 : Int32} {b4 b4v : Nat} (hS : SM S V) (hx : Ex S0 S) (h_b1 : Ad S b1 b1v) (h_b4 : Ad S b4 b4v) (hQ : gd (eL_unit_0 n V b1v x2 x3 b4v) (SQ Q S0) (SX QX S0)) : wL_unit_0 Q QX S b1 x2 x3 b4 := by
  unfold wL_unit_0
  unfold eL_unit_0 at hQ
  refine sim_X8_unit n hS h_b1 rfl rfl ?_
  refine gd_mono (gd_bd hQ) (fun r2 V1 hQ S1 hS1 xS => ?_) (fun E V9 hQ S9 hS9 xS9 => ?_)
  · have hx1 : Ex S0 S1 := Ex_tr hx xS
    have h1_b4 := xS _ _ h_b4
    refine st_gd (fun h => by simp only [SM_N hS1 h1_b4]; exact gvp_in_of h) hQ (fun hQ => ?_)
    intro S3 eS
    obtain ⟨V3, hS3, xS, hQ⟩ := st_sJ hS1 h1_b4 eS rfl rfl hQ
    have hx3 : Ex S0 S3 := Ex_tr hx1 xS
    exact gd_rt hQ _ hS3 hx3
  · by_cases cE : E = "java/lang/IndexOutOfBoundsException"
    · have hQ := gd_yes hQ cE
      exact Or.inl ⟨cE, gd_rt hQ _ hS9 (Ex_tr hx xS9)⟩
    have hQ := gd_no hQ cE
    by_cases cE : E = "java/lang/IllegalArgumentException"
    · have hQ := gd_yes hQ cE
      exact Or.inr (⟨cE, gd_rt hQ _ hS9 (Ex_tr hx xS9)⟩)
    have hQ := gd_no hQ cE
    exact (gd_none hQ).elim
def ev_L_unit (n : Nat) (V : VS) (b1v : Nat) (x2 : Int32) (x3 : Int32) (b4v : Nat) : Rs Int32 := eL_unit_0 n V b1v x2 x3 b4v
theorem sim_L_unit (n : Nat) {Q : Int32 → MS → Prop} {QX : String → MS → Prop} {S : MS} {V : VS} {b1 b1v : Nat} {x2 x2z : Int32} {x3 x3z : Int32} {b4 b4v : Nat} (hS : SM S V) (h_b1 : Ad S b1 b1v) (e_x2 : x2 = x2z) (e_x3 : x3 = x3z) (h_b4 : Ad S b4 b4v) (hQ : gd (ev_L_unit n V b1v x2z x3z b4v) (SQ Q S) (SX QX S)) : wp_L_unit Q QX S b1 x2 x3 b4 := by
  subst e_x2 e_x3
  exact sL_unit_0 n hS Ex_rf h_b1 h_b4 hQ
def eL_begin_0 (n : Nat) (V : VS) (b1v : Nat) (b2v : Nat) : Rs Int32 := bd (ev_X8_begin n V b1v) (fun r2 V1 => (if gvp_in 0 (vN V1 b2v) = true then sq (wJ V1 b2v ((0 : Int32).toNatClampNeg) ((r2 : Int32).toInt64)) (fun V3 => rt 0 V3) else none)) (fun E V9 => (if E = "java/lang/IllegalStateException" then rt 1 V9 else none))
set_option maxHeartbeats 4000000 in
set_option maxRecDepth 100000 in
theorem sL_begin_0 (n : Nat) {S0 : MS} {Q : Int32 → MS → Prop} {QX : String → MS → Prop} {S : MS} {V : VS} {b1 b1v : Nat} {b2 b2v : Nat} (hS : SM S V) (hx : Ex S0 S) (h_b1 : Ad S b1 b1v) (h_b2 : Ad S b2 b2v) (hQ : gd (eL_begin_0 n V b1v b2v) (SQ Q S0) (SX QX S0)) : wL_begin_0 Q QX S b1 b2 := by
  unfold wL_begin_0
  unfold eL_begin_0 at hQ
  refine sim_X8_begin n hS h_b1 ?_
  refine gd_mono (gd_bd hQ) (fun r2 V1 hQ S1 hS1 xS => ?_) (fun E V9 hQ S9 hS9 xS9 => ?_)
  · have hx1 : Ex S0 S1 := Ex_tr hx xS
    have h1_b2 := xS _ _ h_b2
    refine st_gd (fun h => by simp only [SM_N hS1 h1_b2]; exact gvp_in_of h) hQ (fun hQ => ?_)
    intro S3 eS
    obtain ⟨V3, hS3, xS, hQ⟩ := st_sJ hS1 h1_b2 eS rfl rfl hQ
    have hx3 : Ex S0 S3 := Ex_tr hx1 xS
    exact gd_rt hQ _ hS3 hx3
  · by_cases cE : E = "java/lang/IllegalStateException"
    · have hQ := gd_yes hQ cE
      exact ⟨cE, gd_rt hQ _ hS9 (Ex_tr hx xS9)⟩
    have hQ := gd_no hQ cE
    exact (gd_none hQ).elim
def ev_L_begin (n : Nat) (V : VS) (b1v : Nat) (b2v : Nat) : Rs Int32 := eL_begin_0 n V b1v b2v
theorem sim_L_begin (n : Nat) {Q : Int32 → MS → Prop} {QX : String → MS → Prop} {S : MS} {V : VS} {b1 b1v : Nat} {b2 b2v : Nat} (hS : SM S V) (h_b1 : Ad S b1 b1v) (h_b2 : Ad S b2 b2v) (hQ : gd (ev_L_begin n V b1v b2v) (SQ Q S) (SX QX S)) : wp_L_begin Q QX S b1 b2 := by
  exact sL_begin_0 n hS Ex_rf h_b1 h_b2 hQ
def eL_current_0 (n : Nat) (V : VS) (b1v : Nat) (b2v : Nat) : Rs Int32 := bd (ev_X8_current n V b1v) (fun r2 V1 => (if gvp_in 0 (vN V1 b2v) = true then sq (wJ V1 b2v ((0 : Int32).toNatClampNeg) ((r2 : Int32).toInt64)) (fun V3 => rt 0 V3) else none)) (fun E V9 => (if E = "java/util/NoSuchElementException" then rt 1 V9 else none))
set_option maxHeartbeats 4000000 in
set_option maxRecDepth 100000 in
theorem sL_current_0 (n : Nat) {S0 : MS} {Q : Int32 → MS → Prop} {QX : String → MS → Prop} {S : MS} {V : VS} {b1 b1v : Nat} {b2 b2v : Nat} (hS : SM S V) (hx : Ex S0 S) (h_b1 : Ad S b1 b1v) (h_b2 : Ad S b2 b2v) (hQ : gd (eL_current_0 n V b1v b2v) (SQ Q S0) (SX QX S0)) : wL_current_0 Q QX S b1 b2 := by
  unfold wL_current_0
  unfold eL_current_0 at hQ
  refine sim_X8_current n hS h_b1 ?_
  refine gd_mono (gd_bd hQ) (fun r2 V1 hQ S1 hS1 xS => ?_) (fun E V9 hQ S9 hS9 xS9 => ?_)
  · have hx1 : Ex S0 S1 := Ex_tr hx xS
    have h1_b2 := xS _ _ h_b2
    refine st_gd (fun h => by simp only [SM_N hS1 h1_b2]; exact gvp_in_of h) hQ (fun hQ => ?_)
    intro S3 eS
    obtain ⟨V3, hS3, xS, hQ⟩ := st_sJ hS1 h1_b2 eS rfl rfl hQ
    have hx3 : Ex S0 S3 := Ex_tr hx1 xS
    exact gd_rt hQ _ hS3 hx3
  · by_cases cE : E = "java/util/NoSuchElementException"
    · have hQ := gd_yes hQ cE
      exact ⟨cE, gd_rt hQ _ hS9 (Ex_tr hx xS9)⟩
    have hQ := gd_no hQ cE
    exact (gd_none hQ).elim
def ev_L_current (n : Nat) (V : VS) (b1v : Nat) (b2v : Nat) : Rs Int32 := eL_current_0 n V b1v b2v
theorem sim_L_current (n : Nat) {Q : Int32 → MS → Prop} {QX : String → MS → Prop} {S : MS} {V : VS} {b1 b1v : Nat} {b2 b2v : Nat} (hS : SM S V) (h_b1 : Ad S b1 b1v) (h_b2 : Ad S b2 b2v) (hQ : gd (ev_L_current n V b1v b2v) (SQ Q S) (SX QX S)) : wp_L_current Q QX S b1 b2 := by
  exact sL_current_0 n hS Ex_rf h_b1 h_b2 hQ
def eL_order_0 (n : Nat) (V : VS) (b1v : Nat) (x2 : Int32) (b3v : Nat) : Rs Int32 := bd (ev_X8_order n V b1v x2) (fun r2 V1 => (if gvp_in 0 (vN V1 b3v) = true then sq (wJ V1 b3v ((0 : Int32).toNatClampNeg) ((r2 : Int32).toInt64)) (fun V3 => rt 0 V3) else none)) (fun E V9 => (if E = "java/util/NoSuchElementException" then rt 1 V9 else none))
set_option maxHeartbeats 4000000 in
set_option maxRecDepth 100000 in
theorem sL_order_0 (n : Nat) {S0 : MS} {Q : Int32 → MS → Prop} {QX : String → MS → Prop} {S : MS} {V : VS} {b1 b1v : Nat} {x2 : Int32} {b3 b3v : Nat} (hS : SM S V) (hx : Ex S0 S) (h_b1 : Ad S b1 b1v) (h_b3 : Ad S b3 b3v) (hQ : gd (eL_order_0 n V b1v x2 b3v) (SQ Q S0) (SX QX S0)) : wL_order_0 Q QX S b1 x2 b3 := by
  unfold wL_order_0
  unfold eL_order_0 at hQ
  refine sim_X8_order n hS h_b1 rfl ?_
  refine gd_mono (gd_bd hQ) (fun r2 V1 hQ S1 hS1 xS => ?_) (fun E V9 hQ S9 hS9 xS9 => ?_)
  · have hx1 : Ex S0 S1 := Ex_tr hx xS
    have h1_b3 := xS _ _ h_b3
    refine st_gd (fun h => by simp only [SM_N hS1 h1_b3]; exact gvp_in_of h) hQ (fun hQ => ?_)
    intro S3 eS
    obtain ⟨V3, hS3, xS, hQ⟩ := st_sJ hS1 h1_b3 eS rfl rfl hQ
    have hx3 : Ex S0 S3 := Ex_tr hx1 xS
    exact gd_rt hQ _ hS3 hx3
  · by_cases cE : E = "java/util/NoSuchElementException"
    · have hQ := gd_yes hQ cE
      exact ⟨cE, gd_rt hQ _ hS9 (Ex_tr hx xS9)⟩
    have hQ := gd_no hQ cE
    exact (gd_none hQ).elim
def ev_L_order (n : Nat) (V : VS) (b1v : Nat) (x2 : Int32) (b3v : Nat) : Rs Int32 := eL_order_0 n V b1v x2 b3v
theorem sim_L_order (n : Nat) {Q : Int32 → MS → Prop} {QX : String → MS → Prop} {S : MS} {V : VS} {b1 b1v : Nat} {x2 x2z : Int32} {b3 b3v : Nat} (hS : SM S V) (h_b1 : Ad S b1 b1v) (e_x2 : x2 = x2z) (h_b3 : Ad S b3 b3v) (hQ : gd (ev_L_order n V b1v x2z b3v) (SQ Q S) (SX QX S)) : wp_L_order Q QX S b1 x2 b3 := by
  subst e_x2
  exact sL_order_0 n hS Ex_rf h_b1 h_b3 hQ
def eL_costs_0 (n : Nat) (V : VS) (b1v : Nat) (x2 : Int32) (b3v : Nat) : Rs Int32 := bd (ev_X8_costs n V b1v x2) (fun r2 V1 => (if gvp_in 0 (vN V1 b3v) = true then sq (wJ V1 b3v ((0 : Int32).toNatClampNeg) ((r2 : Int32).toInt64)) (fun V3 => rt 0 V3) else none)) (fun E V9 => (if E = "java/lang/IndexOutOfBoundsException" then rt 1 V9 else (if E = "java/lang/UnsupportedOperationException" then rt 2 V9 else (if E = "java/util/NoSuchElementException" then rt 3 V9 else none))))
set_option maxHeartbeats 4000000 in
set_option maxRecDepth 100000 in
theorem sL_costs_0 (n : Nat) {S0 : MS} {Q : Int32 → MS → Prop} {QX : String → MS → Prop} {S : MS} {V : VS} {b1 b1v : Nat} {x2 : Int32} {b3 b3v : Nat} (hS : SM S V) (hx : Ex S0 S) (h_b1 : Ad S b1 b1v) (h_b3 : Ad S b3 b3v) (hQ : gd (eL_costs_0 n V b1v x2 b3v) (SQ Q S0) (SX QX S0)) : wL_costs_0 Q QX S b1 x2 b3 := by
  unfold wL_costs_0
  unfold eL_costs_0 at hQ
  refine sim_X8_costs n hS h_b1 rfl ?_
  refine gd_mono (gd_bd hQ) (fun r2 V1 hQ S1 hS1 xS => ?_) (fun E V9 hQ S9 hS9 xS9 => ?_)
  · have hx1 : Ex S0 S1 := Ex_tr hx xS
    have h1_b3 := xS _ _ h_b3
    refine st_gd (fun h => by simp only [SM_N hS1 h1_b3]; exact gvp_in_of h) hQ (fun hQ => ?_)
    intro S3 eS
    obtain ⟨V3, hS3, xS, hQ⟩ := st_sJ hS1 h1_b3 eS rfl rfl hQ
    have hx3 : Ex S0 S3 := Ex_tr hx1 xS
    exact gd_rt hQ _ hS3 hx3
  · by_cases cE : E = "java/lang/IndexOutOfBoundsException"
    · have hQ := gd_yes hQ cE
      exact Or.inl ⟨cE, gd_rt hQ _ hS9 (Ex_tr hx xS9)⟩
    have hQ := gd_no hQ cE
    by_cases cE : E = "java/lang/UnsupportedOperationException"
    · have hQ := gd_yes hQ cE
      exact Or.inr (Or.inl ⟨cE, gd_rt hQ _ hS9 (Ex_tr hx xS9)⟩)
    have hQ := gd_no hQ cE
    by_cases cE : E = "java/util/NoSuchElementException"
    · have hQ := gd_yes hQ cE
      exact Or.inr (Or.inr (⟨cE, gd_rt hQ _ hS9 (Ex_tr hx xS9)⟩))
    have hQ := gd_no hQ cE
    exact (gd_none hQ).elim
def ev_L_costs (n : Nat) (V : VS) (b1v : Nat) (x2 : Int32) (b3v : Nat) : Rs Int32 := eL_costs_0 n V b1v x2 b3v
theorem sim_L_costs (n : Nat) {Q : Int32 → MS → Prop} {QX : String → MS → Prop} {S : MS} {V : VS} {b1 b1v : Nat} {x2 x2z : Int32} {b3 b3v : Nat} (hS : SM S V) (h_b1 : Ad S b1 b1v) (e_x2 : x2 = x2z) (h_b3 : Ad S b3 b3v) (hQ : gd (ev_L_costs n V b1v x2z b3v) (SQ Q S) (SX QX S)) : wp_L_costs Q QX S b1 x2 b3 := by
  subst e_x2
  exact sL_costs_0 n hS Ex_rf h_b1 h_b3 hQ
def eL_pathCell_0 (n : Nat) (V : VS) (b1v : Nat) (x2 : Int32) (x3 : Int32) (b4v : Nat) : Rs Int32 := bd (ev_X8_pathCell n V b1v x2 x3) (fun r2 V1 => (if gvp_in 0 (vN V1 b4v) = true then sq (wJ V1 b4v ((0 : Int32).toNatClampNeg) ((r2 : Int32).toInt64)) (fun V3 => rt 0 V3) else none)) (fun E V9 => (if E = "java/lang/IndexOutOfBoundsException" then rt 1 V9 else (if E = "java/lang/UnsupportedOperationException" then rt 2 V9 else (if E = "java/util/NoSuchElementException" then rt 3 V9 else none))))
set_option maxHeartbeats 4000000 in
set_option maxRecDepth 100000 in
theorem sL_pathCell_0 (n : Nat) {S0 : MS} {Q : Int32 → MS → Prop} {QX : String → MS → Prop} {S : MS} {V : VS} {b1 b1v : Nat} {x2 : Int32} {x3 : Int32} {b4 b4v : Nat} (hS : SM S V) (hx : Ex S0 S) (h_b1 : Ad S b1 b1v) (h_b4 : Ad S b4 b4v) (hQ : gd (eL_pathCell_0 n V b1v x2 x3 b4v) (SQ Q S0) (SX QX S0)) : wL_pathCell_0 Q QX S b1 x2 x3 b4 := by
  unfold wL_pathCell_0
  unfold eL_pathCell_0 at hQ
  refine sim_X8_pathCell n hS h_b1 rfl rfl ?_
  refine gd_mono (gd_bd hQ) (fun r2 V1 hQ S1 hS1 xS => ?_) (fun E V9 hQ S9 hS9 xS9 => ?_)
  · have hx1 : Ex S0 S1 := Ex_tr hx xS
    have h1_b4 := xS _ _ h_b4
    refine st_gd (fun h => by simp only [SM_N hS1 h1_b4]; exact gvp_in_of h) hQ (fun hQ => ?_)
    intro S3 eS
    obtain ⟨V3, hS3, xS, hQ⟩ := st_sJ hS1 h1_b4 eS rfl rfl hQ
    have hx3 : Ex S0 S3 := Ex_tr hx1 xS
    exact gd_rt hQ _ hS3 hx3
  · by_cases cE : E = "java/lang/IndexOutOfBoundsException"
    · have hQ := gd_yes hQ cE
      exact Or.inl ⟨cE, gd_rt hQ _ hS9 (Ex_tr hx xS9)⟩
    have hQ := gd_no hQ cE
    by_cases cE : E = "java/lang/UnsupportedOperationException"
    · have hQ := gd_yes hQ cE
      exact Or.inr (Or.inl ⟨cE, gd_rt hQ _ hS9 (Ex_tr hx xS9)⟩)
    have hQ := gd_no hQ cE
    by_cases cE : E = "java/util/NoSuchElementException"
    · have hQ := gd_yes hQ cE
      exact Or.inr (Or.inr (⟨cE, gd_rt hQ _ hS9 (Ex_tr hx xS9)⟩))
    have hQ := gd_no hQ cE
    exact (gd_none hQ).elim
def ev_L_pathCell (n : Nat) (V : VS) (b1v : Nat) (x2 : Int32) (x3 : Int32) (b4v : Nat) : Rs Int32 := eL_pathCell_0 n V b1v x2 x3 b4v
theorem sim_L_pathCell (n : Nat) {Q : Int32 → MS → Prop} {QX : String → MS → Prop} {S : MS} {V : VS} {b1 b1v : Nat} {x2 x2z : Int32} {x3 x3z : Int32} {b4 b4v : Nat} (hS : SM S V) (h_b1 : Ad S b1 b1v) (e_x2 : x2 = x2z) (e_x3 : x3 = x3z) (h_b4 : Ad S b4 b4v) (hQ : gd (ev_L_pathCell n V b1v x2z x3z b4v) (SQ Q S) (SX QX S)) : wp_L_pathCell Q QX S b1 x2 x3 b4 := by
  subst e_x2 e_x3
  exact sL_pathCell_0 n hS Ex_rf h_b1 h_b4 hQ
def eL_chance_0 (n : Nat) (V : VS) (b1v : Nat) (x2 : Int32) (x3 : Int32) (b4v : Nat) : Rs Int32 := bd (ev_X8_chance n V b1v x2 x3) (fun r2 V1 => (if gvp_in 0 (vN V1 b4v) = true then sq (wD V1 b4v ((0 : Int32).toNatClampNeg) r2) (fun V3 => rt 0 V3) else none)) (fun E V9 => (if E = "java/lang/IndexOutOfBoundsException" then rt 1 V9 else (if E = "java/lang/IllegalArgumentException" then rt 2 V9 else none)))
set_option maxHeartbeats 4000000 in
set_option maxRecDepth 100000 in
theorem sL_chance_0 (n : Nat) {S0 : MS} {Q : Int32 → MS → Prop} {QX : String → MS → Prop} {S : MS} {V : VS} {b1 b1v : Nat} {x2 : Int32} {x3 : Int32} {b4 b4v : Nat} (hS : SM S V) (hx : Ex S0 S) (h_b1 : Ad S b1 b1v) (h_b4 : Ad S b4 b4v) (hQ : gd (eL_chance_0 n V b1v x2 x3 b4v) (SQ Q S0) (SX QX S0)) : wL_chance_0 Q QX S b1 x2 x3 b4 := by
  unfold wL_chance_0
  unfold eL_chance_0 at hQ
  refine sim_X8_chance n hS h_b1 rfl rfl ?_
  refine gd_mono (gd_bd hQ) (fun r2 V1 hQ S1 hS1 xS => ?_) (fun E V9 hQ S9 hS9 xS9 => ?_)
  · have hx1 : Ex S0 S1 := Ex_tr hx xS
    have h1_b4 := xS _ _ h_b4
    refine st_gd (fun h => by simp only [SM_N hS1 h1_b4]; exact gvp_in_of h) hQ (fun hQ => ?_)
    intro S3 eS
    obtain ⟨V3, hS3, xS, hQ⟩ := st_sD hS1 h1_b4 eS rfl rfl hQ
    have hx3 : Ex S0 S3 := Ex_tr hx1 xS
    exact gd_rt hQ _ hS3 hx3
  · by_cases cE : E = "java/lang/IndexOutOfBoundsException"
    · have hQ := gd_yes hQ cE
      exact Or.inl ⟨cE, gd_rt hQ _ hS9 (Ex_tr hx xS9)⟩
    have hQ := gd_no hQ cE
    by_cases cE : E = "java/lang/IllegalArgumentException"
    · have hQ := gd_yes hQ cE
      exact Or.inr (⟨cE, gd_rt hQ _ hS9 (Ex_tr hx xS9)⟩)
    have hQ := gd_no hQ cE
    exact (gd_none hQ).elim
def ev_L_chance (n : Nat) (V : VS) (b1v : Nat) (x2 : Int32) (x3 : Int32) (b4v : Nat) : Rs Int32 := eL_chance_0 n V b1v x2 x3 b4v
theorem sim_L_chance (n : Nat) {Q : Int32 → MS → Prop} {QX : String → MS → Prop} {S : MS} {V : VS} {b1 b1v : Nat} {x2 x2z : Int32} {x3 x3z : Int32} {b4 b4v : Nat} (hS : SM S V) (h_b1 : Ad S b1 b1v) (e_x2 : x2 = x2z) (e_x3 : x3 = x3z) (h_b4 : Ad S b4 b4v) (hQ : gd (ev_L_chance n V b1v x2z x3z b4v) (SQ Q S) (SX QX S)) : wp_L_chance Q QX S b1 x2 x3 b4 := by
  subst e_x2 e_x3
  exact sL_chance_0 n hS Ex_rf h_b1 h_b4 hQ
def eL_meanDamage_0 (n : Nat) (V : VS) (b1v : Nat) (x2 : Int32) (x3 : Int32) (b4v : Nat) : Rs Int32 := bd (ev_X8_meanDamage n V b1v x2 x3) (fun r2 V1 => (if gvp_in 0 (vN V1 b4v) = true then sq (wD V1 b4v ((0 : Int32).toNatClampNeg) r2) (fun V3 => rt 0 V3) else none)) (fun E V9 => (if E = "java/lang/IndexOutOfBoundsException" then rt 1 V9 else (if E = "java/lang/IllegalArgumentException" then rt 2 V9 else none)))
set_option maxHeartbeats 4000000 in
set_option maxRecDepth 100000 in
theorem sL_meanDamage_0 (n : Nat) {S0 : MS} {Q : Int32 → MS → Prop} {QX : String → MS → Prop} {S : MS} {V : VS} {b1 b1v : Nat} {x2 : Int32} {x3 : Int32} {b4 b4v : Nat} (hS : SM S V) (hx : Ex S0 S) (h_b1 : Ad S b1 b1v) (h_b4 : Ad S b4 b4v) (hQ : gd (eL_meanDamage_0 n V b1v x2 x3 b4v) (SQ Q S0) (SX QX S0)) : wL_meanDamage_0 Q QX S b1 x2 x3 b4 := by
  unfold wL_meanDamage_0
  unfold eL_meanDamage_0 at hQ
  refine sim_X8_meanDamage n hS h_b1 rfl rfl ?_
  refine gd_mono (gd_bd hQ) (fun r2 V1 hQ S1 hS1 xS => ?_) (fun E V9 hQ S9 hS9 xS9 => ?_)
  · have hx1 : Ex S0 S1 := Ex_tr hx xS
    have h1_b4 := xS _ _ h_b4
    refine st_gd (fun h => by simp only [SM_N hS1 h1_b4]; exact gvp_in_of h) hQ (fun hQ => ?_)
    intro S3 eS
    obtain ⟨V3, hS3, xS, hQ⟩ := st_sD hS1 h1_b4 eS rfl rfl hQ
    have hx3 : Ex S0 S3 := Ex_tr hx1 xS
    exact gd_rt hQ _ hS3 hx3
  · by_cases cE : E = "java/lang/IndexOutOfBoundsException"
    · have hQ := gd_yes hQ cE
      exact Or.inl ⟨cE, gd_rt hQ _ hS9 (Ex_tr hx xS9)⟩
    have hQ := gd_no hQ cE
    by_cases cE : E = "java/lang/IllegalArgumentException"
    · have hQ := gd_yes hQ cE
      exact Or.inr (⟨cE, gd_rt hQ _ hS9 (Ex_tr hx xS9)⟩)
    have hQ := gd_no hQ cE
    exact (gd_none hQ).elim
def ev_L_meanDamage (n : Nat) (V : VS) (b1v : Nat) (x2 : Int32) (x3 : Int32) (b4v : Nat) : Rs Int32 := eL_meanDamage_0 n V b1v x2 x3 b4v
theorem sim_L_meanDamage (n : Nat) {Q : Int32 → MS → Prop} {QX : String → MS → Prop} {S : MS} {V : VS} {b1 b1v : Nat} {x2 x2z : Int32} {x3 x3z : Int32} {b4 b4v : Nat} (hS : SM S V) (h_b1 : Ad S b1 b1v) (e_x2 : x2 = x2z) (e_x3 : x3 = x3z) (h_b4 : Ad S b4 b4v) (hQ : gd (ev_L_meanDamage n V b1v x2z x3z b4v) (SQ Q S) (SX QX S)) : wp_L_meanDamage Q QX S b1 x2 x3 b4 := by
  subst e_x2 e_x3
  exact sL_meanDamage_0 n hS Ex_rf h_b1 h_b4 hQ
def eL_bestTarget_0 (n : Nat) (V : VS) (b1v : Nat) (b2v : Nat) : Rs Int32 := bd (ev_X8_bestTarget n V b1v) (fun r2 V1 => (if gvp_in 0 (vN V1 b2v) = true then sq (wJ V1 b2v ((0 : Int32).toNatClampNeg) ((r2 : Int32).toInt64)) (fun V3 => rt 0 V3) else none)) (fun E V9 => (if E = "java/lang/UnsupportedOperationException" then rt 1 V9 else (if E = "java/util/NoSuchElementException" then rt 2 V9 else none)))
set_option maxHeartbeats 4000000 in
set_option maxRecDepth 100000 in
theorem sL_bestTarget_0 (n : Nat) {S0 : MS} {Q : Int32 → MS → Prop} {QX : String → MS → Prop} {S : MS} {V : VS} {b1 b1v : Nat} {b2 b2v : Nat} (hS : SM S V) (hx : Ex S0 S) (h_b1 : Ad S b1 b1v) (h_b2 : Ad S b2 b2v) (hQ : gd (eL_bestTarget_0 n V b1v b2v) (SQ Q S0) (SX QX S0)) : wL_bestTarget_0 Q QX S b1 b2 := by
  unfold wL_bestTarget_0
  unfold eL_bestTarget_0 at hQ
  refine sim_X8_bestTarget n hS h_b1 ?_
  refine gd_mono (gd_bd hQ) (fun r2 V1 hQ S1 hS1 xS => ?_) (fun E V9 hQ S9 hS9 xS9 => ?_)
  · have hx1 : Ex S0 S1 := Ex_tr hx xS
    have h1_b2 := xS _ _ h_b2
    refine st_gd (fun h => by simp only [SM_N hS1 h1_b2]; exact gvp_in_of h) hQ (fun hQ => ?_)
    intro S3 eS
    obtain ⟨V3, hS3, xS, hQ⟩ := st_sJ hS1 h1_b2 eS rfl rfl hQ
    have hx3 : Ex S0 S3 := Ex_tr hx1 xS
    exact gd_rt hQ _ hS3 hx3
  · by_cases cE : E = "java/lang/UnsupportedOperationException"
    · have hQ := gd_yes hQ cE
      exact Or.inl ⟨cE, gd_rt hQ _ hS9 (Ex_tr hx xS9)⟩
    have hQ := gd_no hQ cE
    by_cases cE : E = "java/util/NoSuchElementException"
    · have hQ := gd_yes hQ cE
      exact Or.inr (⟨cE, gd_rt hQ _ hS9 (Ex_tr hx xS9)⟩)
    have hQ := gd_no hQ cE
    exact (gd_none hQ).elim
def ev_L_bestTarget (n : Nat) (V : VS) (b1v : Nat) (b2v : Nat) : Rs Int32 := eL_bestTarget_0 n V b1v b2v
theorem sim_L_bestTarget (n : Nat) {Q : Int32 → MS → Prop} {QX : String → MS → Prop} {S : MS} {V : VS} {b1 b1v : Nat} {b2 b2v : Nat} (hS : SM S V) (h_b1 : Ad S b1 b1v) (h_b2 : Ad S b2 b2v) (hQ : gd (ev_L_bestTarget n V b1v b2v) (SQ Q S) (SX QX S)) : wp_L_bestTarget Q QX S b1 b2 := by
  exact sL_bestTarget_0 n hS Ex_rf h_b1 h_b2 hQ
def eL_move_0 (n : Nat) (V : VS) (b1v : Nat) (x2 : Int32) (b3v : Nat) : Rs Int32 := bd (ev_X8_move n V b1v x2) (fun r2 V1 => (if gvp_in 0 (vN V1 b3v) = true then sq (wJ V1 b3v ((0 : Int32).toNatClampNeg) ((r2 : Int32).toInt64)) (fun V3 => rt 0 V3) else none)) (fun E V9 => (if E = "java/lang/IndexOutOfBoundsException" then rt 1 V9 else (if E = "java/lang/UnsupportedOperationException" then rt 2 V9 else (if E = "java/lang/IllegalStateException" then rt 3 V9 else (if E = "java/lang/IllegalArgumentException" then rt 4 V9 else none)))))
set_option maxHeartbeats 4000000 in
set_option maxRecDepth 100000 in
theorem sL_move_0 (n : Nat) {S0 : MS} {Q : Int32 → MS → Prop} {QX : String → MS → Prop} {S : MS} {V : VS} {b1 b1v : Nat} {x2 : Int32} {b3 b3v : Nat} (hS : SM S V) (hx : Ex S0 S) (h_b1 : Ad S b1 b1v) (h_b3 : Ad S b3 b3v) (hQ : gd (eL_move_0 n V b1v x2 b3v) (SQ Q S0) (SX QX S0)) : wL_move_0 Q QX S b1 x2 b3 := by
  unfold wL_move_0
  unfold eL_move_0 at hQ
  refine sim_X8_move n hS h_b1 rfl ?_
  refine gd_mono (gd_bd hQ) (fun r2 V1 hQ S1 hS1 xS => ?_) (fun E V9 hQ S9 hS9 xS9 => ?_)
  · have hx1 : Ex S0 S1 := Ex_tr hx xS
    have h1_b3 := xS _ _ h_b3
    refine st_gd (fun h => by simp only [SM_N hS1 h1_b3]; exact gvp_in_of h) hQ (fun hQ => ?_)
    intro S3 eS
    obtain ⟨V3, hS3, xS, hQ⟩ := st_sJ hS1 h1_b3 eS rfl rfl hQ
    have hx3 : Ex S0 S3 := Ex_tr hx1 xS
    exact gd_rt hQ _ hS3 hx3
  · by_cases cE : E = "java/lang/IndexOutOfBoundsException"
    · have hQ := gd_yes hQ cE
      exact Or.inl ⟨cE, gd_rt hQ _ hS9 (Ex_tr hx xS9)⟩
    have hQ := gd_no hQ cE
    by_cases cE : E = "java/lang/UnsupportedOperationException"
    · have hQ := gd_yes hQ cE
      exact Or.inr (Or.inl ⟨cE, gd_rt hQ _ hS9 (Ex_tr hx xS9)⟩)
    have hQ := gd_no hQ cE
    by_cases cE : E = "java/lang/IllegalStateException"
    · have hQ := gd_yes hQ cE
      exact Or.inr (Or.inr (Or.inl ⟨cE, gd_rt hQ _ hS9 (Ex_tr hx xS9)⟩))
    have hQ := gd_no hQ cE
    by_cases cE : E = "java/lang/IllegalArgumentException"
    · have hQ := gd_yes hQ cE
      exact Or.inr (Or.inr (Or.inr (⟨cE, gd_rt hQ _ hS9 (Ex_tr hx xS9)⟩)))
    have hQ := gd_no hQ cE
    exact (gd_none hQ).elim
def ev_L_move (n : Nat) (V : VS) (b1v : Nat) (x2 : Int32) (b3v : Nat) : Rs Int32 := eL_move_0 n V b1v x2 b3v
theorem sim_L_move (n : Nat) {Q : Int32 → MS → Prop} {QX : String → MS → Prop} {S : MS} {V : VS} {b1 b1v : Nat} {x2 x2z : Int32} {b3 b3v : Nat} (hS : SM S V) (h_b1 : Ad S b1 b1v) (e_x2 : x2 = x2z) (h_b3 : Ad S b3 b3v) (hQ : gd (ev_L_move n V b1v x2z b3v) (SQ Q S) (SX QX S)) : wp_L_move Q QX S b1 x2 b3 := by
  subst e_x2
  exact sL_move_0 n hS Ex_rf h_b1 h_b3 hQ
def eL_attack_0 (n : Nat) (V : VS) (b1v : Nat) (x2 : Int32) (b3v : Nat) : Rs Int32 := bd (ev_X8_attack n V b1v x2) (fun r2 V1 => (if gvp_in 0 (vN V1 b3v) = true then sq (wJ V1 b3v ((0 : Int32).toNatClampNeg) ((r2 : Int32).toInt64)) (fun V3 => rt 0 V3) else none)) (fun E V9 => (if E = "java/lang/IndexOutOfBoundsException" then rt 1 V9 else (if E = "java/lang/UnsupportedOperationException" then rt 2 V9 else (if E = "java/lang/IllegalStateException" then rt 3 V9 else (if E = "java/lang/IllegalArgumentException" then rt 4 V9 else none)))))
set_option maxHeartbeats 4000000 in
set_option maxRecDepth 100000 in
theorem sL_attack_0 (n : Nat) {S0 : MS} {Q : Int32 → MS → Prop} {QX : String → MS → Prop} {S : MS} {V : VS} {b1 b1v : Nat} {x2 : Int32} {b3 b3v : Nat} (hS : SM S V) (hx : Ex S0 S) (h_b1 : Ad S b1 b1v) (h_b3 : Ad S b3 b3v) (hQ : gd (eL_attack_0 n V b1v x2 b3v) (SQ Q S0) (SX QX S0)) : wL_attack_0 Q QX S b1 x2 b3 := by
  unfold wL_attack_0
  unfold eL_attack_0 at hQ
  refine sim_X8_attack n hS h_b1 rfl ?_
  refine gd_mono (gd_bd hQ) (fun r2 V1 hQ S1 hS1 xS => ?_) (fun E V9 hQ S9 hS9 xS9 => ?_)
  · have hx1 : Ex S0 S1 := Ex_tr hx xS
    have h1_b3 := xS _ _ h_b3
    refine st_gd (fun h => by simp only [SM_N hS1 h1_b3]; exact gvp_in_of h) hQ (fun hQ => ?_)
    intro S3 eS
    obtain ⟨V3, hS3, xS, hQ⟩ := st_sJ hS1 h1_b3 eS rfl rfl hQ
    have hx3 : Ex S0 S3 := Ex_tr hx1 xS
    exact gd_rt hQ _ hS3 hx3
  · by_cases cE : E = "java/lang/IndexOutOfBoundsException"
    · have hQ := gd_yes hQ cE
      exact Or.inl ⟨cE, gd_rt hQ _ hS9 (Ex_tr hx xS9)⟩
    have hQ := gd_no hQ cE
    by_cases cE : E = "java/lang/UnsupportedOperationException"
    · have hQ := gd_yes hQ cE
      exact Or.inr (Or.inl ⟨cE, gd_rt hQ _ hS9 (Ex_tr hx xS9)⟩)
    have hQ := gd_no hQ cE
    by_cases cE : E = "java/lang/IllegalStateException"
    · have hQ := gd_yes hQ cE
      exact Or.inr (Or.inr (Or.inl ⟨cE, gd_rt hQ _ hS9 (Ex_tr hx xS9)⟩))
    have hQ := gd_no hQ cE
    by_cases cE : E = "java/lang/IllegalArgumentException"
    · have hQ := gd_yes hQ cE
      exact Or.inr (Or.inr (Or.inr (⟨cE, gd_rt hQ _ hS9 (Ex_tr hx xS9)⟩)))
    have hQ := gd_no hQ cE
    exact (gd_none hQ).elim
def ev_L_attack (n : Nat) (V : VS) (b1v : Nat) (x2 : Int32) (b3v : Nat) : Rs Int32 := eL_attack_0 n V b1v x2 b3v
theorem sim_L_attack (n : Nat) {Q : Int32 → MS → Prop} {QX : String → MS → Prop} {S : MS} {V : VS} {b1 b1v : Nat} {x2 x2z : Int32} {b3 b3v : Nat} (hS : SM S V) (h_b1 : Ad S b1 b1v) (e_x2 : x2 = x2z) (h_b3 : Ad S b3 b3v) (hQ : gd (ev_L_attack n V b1v x2z b3v) (SQ Q S) (SX QX S)) : wp_L_attack Q QX S b1 x2 b3 := by
  subst e_x2
  exact sL_attack_0 n hS Ex_rf h_b1 h_b3 hQ
def eL_throwAt_0 (n : Nat) (V : VS) (b1v : Nat) (x2 : Int32) (b3v : Nat) : Rs Int32 := bd (ev_X8_throwAt n V b1v x2) (fun r2 V1 => (if gvp_in 0 (vN V1 b3v) = true then sq (wJ V1 b3v ((0 : Int32).toNatClampNeg) ((r2 : Int32).toInt64)) (fun V3 => rt 0 V3) else none)) (fun E V9 => (if E = "java/lang/IndexOutOfBoundsException" then rt 1 V9 else (if E = "java/lang/UnsupportedOperationException" then rt 2 V9 else (if E = "java/lang/IllegalStateException" then rt 3 V9 else (if E = "java/lang/IllegalArgumentException" then rt 4 V9 else none)))))
set_option maxHeartbeats 4000000 in
set_option maxRecDepth 100000 in
theorem sL_throwAt_0 (n : Nat) {S0 : MS} {Q : Int32 → MS → Prop} {QX : String → MS → Prop} {S : MS} {V : VS} {b1 b1v : Nat} {x2 : Int32} {b3 b3v : Nat} (hS : SM S V) (hx : Ex S0 S) (h_b1 : Ad S b1 b1v) (h_b3 : Ad S b3 b3v) (hQ : gd (eL_throwAt_0 n V b1v x2 b3v) (SQ Q S0) (SX QX S0)) : wL_throwAt_0 Q QX S b1 x2 b3 := by
  unfold wL_throwAt_0
  unfold eL_throwAt_0 at hQ
  refine sim_X8_throwAt n hS h_b1 rfl ?_
  refine gd_mono (gd_bd hQ) (fun r2 V1 hQ S1 hS1 xS => ?_) (fun E V9 hQ S9 hS9 xS9 => ?_)
  · have hx1 : Ex S0 S1 := Ex_tr hx xS
    have h1_b3 := xS _ _ h_b3
    refine st_gd (fun h => by simp only [SM_N hS1 h1_b3]; exact gvp_in_of h) hQ (fun hQ => ?_)
    intro S3 eS
    obtain ⟨V3, hS3, xS, hQ⟩ := st_sJ hS1 h1_b3 eS rfl rfl hQ
    have hx3 : Ex S0 S3 := Ex_tr hx1 xS
    exact gd_rt hQ _ hS3 hx3
  · by_cases cE : E = "java/lang/IndexOutOfBoundsException"
    · have hQ := gd_yes hQ cE
      exact Or.inl ⟨cE, gd_rt hQ _ hS9 (Ex_tr hx xS9)⟩
    have hQ := gd_no hQ cE
    by_cases cE : E = "java/lang/UnsupportedOperationException"
    · have hQ := gd_yes hQ cE
      exact Or.inr (Or.inl ⟨cE, gd_rt hQ _ hS9 (Ex_tr hx xS9)⟩)
    have hQ := gd_no hQ cE
    by_cases cE : E = "java/lang/IllegalStateException"
    · have hQ := gd_yes hQ cE
      exact Or.inr (Or.inr (Or.inl ⟨cE, gd_rt hQ _ hS9 (Ex_tr hx xS9)⟩))
    have hQ := gd_no hQ cE
    by_cases cE : E = "java/lang/IllegalArgumentException"
    · have hQ := gd_yes hQ cE
      exact Or.inr (Or.inr (Or.inr (⟨cE, gd_rt hQ _ hS9 (Ex_tr hx xS9)⟩)))
    have hQ := gd_no hQ cE
    exact (gd_none hQ).elim
def ev_L_throwAt (n : Nat) (V : VS) (b1v : Nat) (x2 : Int32) (b3v : Nat) : Rs Int32 := eL_throwAt_0 n V b1v x2 b3v
theorem sim_L_throwAt (n : Nat) {Q : Int32 → MS → Prop} {QX : String → MS → Prop} {S : MS} {V : VS} {b1 b1v : Nat} {x2 x2z : Int32} {b3 b3v : Nat} (hS : SM S V) (h_b1 : Ad S b1 b1v) (e_x2 : x2 = x2z) (h_b3 : Ad S b3 b3v) (hQ : gd (ev_L_throwAt n V b1v x2z b3v) (SQ Q S) (SX QX S)) : wp_L_throwAt Q QX S b1 x2 b3 := by
  subst e_x2
  exact sL_throwAt_0 n hS Ex_rf h_b1 h_b3 hQ
def eL_guard_0 (n : Nat) (V : VS) (b1v : Nat) (b2v : Nat) : Rs Int32 := bd (ev_X8_guard n V b1v) (fun r2 V1 => (if gvp_in 0 (vN V1 b2v) = true then sq (wJ V1 b2v ((0 : Int32).toNatClampNeg) ((r2 : Int32).toInt64)) (fun V3 => rt 0 V3) else none)) (fun E V9 => (if E = "java/lang/UnsupportedOperationException" then rt 1 V9 else (if E = "java/lang/IllegalStateException" then rt 2 V9 else none)))
set_option maxHeartbeats 4000000 in
set_option maxRecDepth 100000 in
theorem sL_guard_0 (n : Nat) {S0 : MS} {Q : Int32 → MS → Prop} {QX : String → MS → Prop} {S : MS} {V : VS} {b1 b1v : Nat} {b2 b2v : Nat} (hS : SM S V) (hx : Ex S0 S) (h_b1 : Ad S b1 b1v) (h_b2 : Ad S b2 b2v) (hQ : gd (eL_guard_0 n V b1v b2v) (SQ Q S0) (SX QX S0)) : wL_guard_0 Q QX S b1 b2 := by
  unfold wL_guard_0
  unfold eL_guard_0 at hQ
  refine sim_X8_guard n hS h_b1 ?_
  refine gd_mono (gd_bd hQ) (fun r2 V1 hQ S1 hS1 xS => ?_) (fun E V9 hQ S9 hS9 xS9 => ?_)
  · have hx1 : Ex S0 S1 := Ex_tr hx xS
    have h1_b2 := xS _ _ h_b2
    refine st_gd (fun h => by simp only [SM_N hS1 h1_b2]; exact gvp_in_of h) hQ (fun hQ => ?_)
    intro S3 eS
    obtain ⟨V3, hS3, xS, hQ⟩ := st_sJ hS1 h1_b2 eS rfl rfl hQ
    have hx3 : Ex S0 S3 := Ex_tr hx1 xS
    exact gd_rt hQ _ hS3 hx3
  · by_cases cE : E = "java/lang/UnsupportedOperationException"
    · have hQ := gd_yes hQ cE
      exact Or.inl ⟨cE, gd_rt hQ _ hS9 (Ex_tr hx xS9)⟩
    have hQ := gd_no hQ cE
    by_cases cE : E = "java/lang/IllegalStateException"
    · have hQ := gd_yes hQ cE
      exact Or.inr (⟨cE, gd_rt hQ _ hS9 (Ex_tr hx xS9)⟩)
    have hQ := gd_no hQ cE
    exact (gd_none hQ).elim
def ev_L_guard (n : Nat) (V : VS) (b1v : Nat) (b2v : Nat) : Rs Int32 := eL_guard_0 n V b1v b2v
theorem sim_L_guard (n : Nat) {Q : Int32 → MS → Prop} {QX : String → MS → Prop} {S : MS} {V : VS} {b1 b1v : Nat} {b2 b2v : Nat} (hS : SM S V) (h_b1 : Ad S b1 b1v) (h_b2 : Ad S b2 b2v) (hQ : gd (ev_L_guard n V b1v b2v) (SQ Q S) (SX QX S)) : wp_L_guard Q QX S b1 b2 := by
  exact sL_guard_0 n hS Ex_rf h_b1 h_b2 hQ
def eL_watch_0 (n : Nat) (V : VS) (b1v : Nat) (b2v : Nat) : Rs Int32 := bd (ev_X8_watch n V b1v) (fun r2 V1 => (if gvp_in 0 (vN V1 b2v) = true then sq (wJ V1 b2v ((0 : Int32).toNatClampNeg) ((r2 : Int32).toInt64)) (fun V3 => rt 0 V3) else none)) (fun E V9 => (if E = "java/lang/UnsupportedOperationException" then rt 1 V9 else (if E = "java/lang/IllegalStateException" then rt 2 V9 else none)))
set_option maxHeartbeats 4000000 in
set_option maxRecDepth 100000 in
theorem sL_watch_0 (n : Nat) {S0 : MS} {Q : Int32 → MS → Prop} {QX : String → MS → Prop} {S : MS} {V : VS} {b1 b1v : Nat} {b2 b2v : Nat} (hS : SM S V) (hx : Ex S0 S) (h_b1 : Ad S b1 b1v) (h_b2 : Ad S b2 b2v) (hQ : gd (eL_watch_0 n V b1v b2v) (SQ Q S0) (SX QX S0)) : wL_watch_0 Q QX S b1 b2 := by
  unfold wL_watch_0
  unfold eL_watch_0 at hQ
  refine sim_X8_watch n hS h_b1 ?_
  refine gd_mono (gd_bd hQ) (fun r2 V1 hQ S1 hS1 xS => ?_) (fun E V9 hQ S9 hS9 xS9 => ?_)
  · have hx1 : Ex S0 S1 := Ex_tr hx xS
    have h1_b2 := xS _ _ h_b2
    refine st_gd (fun h => by simp only [SM_N hS1 h1_b2]; exact gvp_in_of h) hQ (fun hQ => ?_)
    intro S3 eS
    obtain ⟨V3, hS3, xS, hQ⟩ := st_sJ hS1 h1_b2 eS rfl rfl hQ
    have hx3 : Ex S0 S3 := Ex_tr hx1 xS
    exact gd_rt hQ _ hS3 hx3
  · by_cases cE : E = "java/lang/UnsupportedOperationException"
    · have hQ := gd_yes hQ cE
      exact Or.inl ⟨cE, gd_rt hQ _ hS9 (Ex_tr hx xS9)⟩
    have hQ := gd_no hQ cE
    by_cases cE : E = "java/lang/IllegalStateException"
    · have hQ := gd_yes hQ cE
      exact Or.inr (⟨cE, gd_rt hQ _ hS9 (Ex_tr hx xS9)⟩)
    have hQ := gd_no hQ cE
    exact (gd_none hQ).elim
def ev_L_watch (n : Nat) (V : VS) (b1v : Nat) (b2v : Nat) : Rs Int32 := eL_watch_0 n V b1v b2v
theorem sim_L_watch (n : Nat) {Q : Int32 → MS → Prop} {QX : String → MS → Prop} {S : MS} {V : VS} {b1 b1v : Nat} {b2 b2v : Nat} (hS : SM S V) (h_b1 : Ad S b1 b1v) (h_b2 : Ad S b2 b2v) (hQ : gd (ev_L_watch n V b1v b2v) (SQ Q S) (SX QX S)) : wp_L_watch Q QX S b1 b2 := by
  exact sL_watch_0 n hS Ex_rf h_b1 h_b2 hQ
def eL_reload_0 (n : Nat) (V : VS) (b1v : Nat) (b2v : Nat) : Rs Int32 := bd (ev_X8_reload n V b1v) (fun r2 V1 => (if gvp_in 0 (vN V1 b2v) = true then sq (wJ V1 b2v ((0 : Int32).toNatClampNeg) ((r2 : Int32).toInt64)) (fun V3 => rt 0 V3) else none)) (fun E V9 => (if E = "java/lang/UnsupportedOperationException" then rt 1 V9 else (if E = "java/lang/IllegalStateException" then rt 2 V9 else none)))
set_option maxHeartbeats 4000000 in
set_option maxRecDepth 100000 in
theorem sL_reload_0 (n : Nat) {S0 : MS} {Q : Int32 → MS → Prop} {QX : String → MS → Prop} {S : MS} {V : VS} {b1 b1v : Nat} {b2 b2v : Nat} (hS : SM S V) (hx : Ex S0 S) (h_b1 : Ad S b1 b1v) (h_b2 : Ad S b2 b2v) (hQ : gd (eL_reload_0 n V b1v b2v) (SQ Q S0) (SX QX S0)) : wL_reload_0 Q QX S b1 b2 := by
  unfold wL_reload_0
  unfold eL_reload_0 at hQ
  refine sim_X8_reload n hS h_b1 ?_
  refine gd_mono (gd_bd hQ) (fun r2 V1 hQ S1 hS1 xS => ?_) (fun E V9 hQ S9 hS9 xS9 => ?_)
  · have hx1 : Ex S0 S1 := Ex_tr hx xS
    have h1_b2 := xS _ _ h_b2
    refine st_gd (fun h => by simp only [SM_N hS1 h1_b2]; exact gvp_in_of h) hQ (fun hQ => ?_)
    intro S3 eS
    obtain ⟨V3, hS3, xS, hQ⟩ := st_sJ hS1 h1_b2 eS rfl rfl hQ
    have hx3 : Ex S0 S3 := Ex_tr hx1 xS
    exact gd_rt hQ _ hS3 hx3
  · by_cases cE : E = "java/lang/UnsupportedOperationException"
    · have hQ := gd_yes hQ cE
      exact Or.inl ⟨cE, gd_rt hQ _ hS9 (Ex_tr hx xS9)⟩
    have hQ := gd_no hQ cE
    by_cases cE : E = "java/lang/IllegalStateException"
    · have hQ := gd_yes hQ cE
      exact Or.inr (⟨cE, gd_rt hQ _ hS9 (Ex_tr hx xS9)⟩)
    have hQ := gd_no hQ cE
    exact (gd_none hQ).elim
def ev_L_reload (n : Nat) (V : VS) (b1v : Nat) (b2v : Nat) : Rs Int32 := eL_reload_0 n V b1v b2v
theorem sim_L_reload (n : Nat) {Q : Int32 → MS → Prop} {QX : String → MS → Prop} {S : MS} {V : VS} {b1 b1v : Nat} {b2 b2v : Nat} (hS : SM S V) (h_b1 : Ad S b1 b1v) (h_b2 : Ad S b2 b2v) (hQ : gd (ev_L_reload n V b1v b2v) (SQ Q S) (SX QX S)) : wp_L_reload Q QX S b1 b2 := by
  exact sL_reload_0 n hS Ex_rf h_b1 h_b2 hQ
def eL_endTurn_0 (n : Nat) (V : VS) (b1v : Nat) (b2v : Nat) : Rs Int32 := bd (ev_X8_endTurn n V b1v) (fun r2 V1 => (if gvp_in 0 (vN V1 b2v) = true then sq (wJ V1 b2v ((0 : Int32).toNatClampNeg) ((r2 : Int32).toInt64)) (fun V3 => rt 0 V3) else none)) (fun E V9 => (if E = "java/lang/UnsupportedOperationException" then rt 1 V9 else none))
set_option maxHeartbeats 4000000 in
set_option maxRecDepth 100000 in
theorem sL_endTurn_0 (n : Nat) {S0 : MS} {Q : Int32 → MS → Prop} {QX : String → MS → Prop} {S : MS} {V : VS} {b1 b1v : Nat} {b2 b2v : Nat} (hS : SM S V) (hx : Ex S0 S) (h_b1 : Ad S b1 b1v) (h_b2 : Ad S b2 b2v) (hQ : gd (eL_endTurn_0 n V b1v b2v) (SQ Q S0) (SX QX S0)) : wL_endTurn_0 Q QX S b1 b2 := by
  unfold wL_endTurn_0
  unfold eL_endTurn_0 at hQ
  refine sim_X8_endTurn n hS h_b1 ?_
  refine gd_mono (gd_bd hQ) (fun r2 V1 hQ S1 hS1 xS => ?_) (fun E V9 hQ S9 hS9 xS9 => ?_)
  · have hx1 : Ex S0 S1 := Ex_tr hx xS
    have h1_b2 := xS _ _ h_b2
    refine st_gd (fun h => by simp only [SM_N hS1 h1_b2]; exact gvp_in_of h) hQ (fun hQ => ?_)
    intro S3 eS
    obtain ⟨V3, hS3, xS, hQ⟩ := st_sJ hS1 h1_b2 eS rfl rfl hQ
    have hx3 : Ex S0 S3 := Ex_tr hx1 xS
    exact gd_rt hQ _ hS3 hx3
  · by_cases cE : E = "java/lang/UnsupportedOperationException"
    · have hQ := gd_yes hQ cE
      exact ⟨cE, gd_rt hQ _ hS9 (Ex_tr hx xS9)⟩
    have hQ := gd_no hQ cE
    exact (gd_none hQ).elim
def ev_L_endTurn (n : Nat) (V : VS) (b1v : Nat) (b2v : Nat) : Rs Int32 := eL_endTurn_0 n V b1v b2v
theorem sim_L_endTurn (n : Nat) {Q : Int32 → MS → Prop} {QX : String → MS → Prop} {S : MS} {V : VS} {b1 b1v : Nat} {b2 b2v : Nat} (hS : SM S V) (h_b1 : Ad S b1 b1v) (h_b2 : Ad S b2 b2v) (hQ : gd (ev_L_endTurn n V b1v b2v) (SQ Q S) (SX QX S)) : wp_L_endTurn Q QX S b1 b2 := by
  exact sL_endTurn_0 n hS Ex_rf h_b1 h_b2 hQ
def eL_event_0 (n : Nat) (V : VS) (b1v : Nat) (x2 : Int32) (x3 : Int32) (b4v : Nat) : Rs Int32 := bd (ev_X8_event n V b1v x2 x3) (fun r2 V1 => (if gvp_in 0 (vN V1 b4v) = true then sq (wJ V1 b4v ((0 : Int32).toNatClampNeg) ((r2 : Int32).toInt64)) (fun V3 => rt 0 V3) else none)) (fun E V9 => (if E = "java/lang/IndexOutOfBoundsException" then rt 1 V9 else none))
set_option maxHeartbeats 4000000 in
set_option maxRecDepth 100000 in
theorem sL_event_0 (n : Nat) {S0 : MS} {Q : Int32 → MS → Prop} {QX : String → MS → Prop} {S : MS} {V : VS} {b1 b1v : Nat} {x2 : Int32} {x3 : Int32} {b4 b4v : Nat} (hS : SM S V) (hx : Ex S0 S) (h_b1 : Ad S b1 b1v) (h_b4 : Ad S b4 b4v) (hQ : gd (eL_event_0 n V b1v x2 x3 b4v) (SQ Q S0) (SX QX S0)) : wL_event_0 Q QX S b1 x2 x3 b4 := by
  unfold wL_event_0
  unfold eL_event_0 at hQ
  refine sim_X8_event n hS h_b1 rfl rfl ?_
  refine gd_mono (gd_bd hQ) (fun r2 V1 hQ S1 hS1 xS => ?_) (fun E V9 hQ S9 hS9 xS9 => ?_)
  · have hx1 : Ex S0 S1 := Ex_tr hx xS
    have h1_b4 := xS _ _ h_b4
    refine st_gd (fun h => by simp only [SM_N hS1 h1_b4]; exact gvp_in_of h) hQ (fun hQ => ?_)
    intro S3 eS
    obtain ⟨V3, hS3, xS, hQ⟩ := st_sJ hS1 h1_b4 eS rfl rfl hQ
    have hx3 : Ex S0 S3 := Ex_tr hx1 xS
    exact gd_rt hQ _ hS3 hx3
  · by_cases cE : E = "java/lang/IndexOutOfBoundsException"
    · have hQ := gd_yes hQ cE
      exact ⟨cE, gd_rt hQ _ hS9 (Ex_tr hx xS9)⟩
    have hQ := gd_no hQ cE
    exact (gd_none hQ).elim
def ev_L_event (n : Nat) (V : VS) (b1v : Nat) (x2 : Int32) (x3 : Int32) (b4v : Nat) : Rs Int32 := eL_event_0 n V b1v x2 x3 b4v
theorem sim_L_event (n : Nat) {Q : Int32 → MS → Prop} {QX : String → MS → Prop} {S : MS} {V : VS} {b1 b1v : Nat} {x2 x2z : Int32} {x3 x3z : Int32} {b4 b4v : Nat} (hS : SM S V) (h_b1 : Ad S b1 b1v) (e_x2 : x2 = x2z) (e_x3 : x3 = x3z) (h_b4 : Ad S b4 b4v) (hQ : gd (ev_L_event n V b1v x2z x3z b4v) (SQ Q S) (SX QX S)) : wp_L_event Q QX S b1 x2 x3 b4 := by
  subst e_x2 e_x3
  exact sL_event_0 n hS Ex_rf h_b1 h_b4 hQ
def eL_undo_0 (n : Nat) (V : VS) (b1v : Nat) (b2v : Nat) : Rs Int32 := bd (ev_X8_undo n V b1v) (fun r2 V1 => (if gvp_in 0 (vN V1 b2v) = true then sq (wJ V1 b2v ((0 : Int32).toNatClampNeg) ((r2 : Int32).toInt64)) (fun V3 => rt 0 V3) else none)) (fun E V9 => (if E = "java/lang/IllegalStateException" then rt 1 V9 else none))
set_option maxHeartbeats 4000000 in
set_option maxRecDepth 100000 in
theorem sL_undo_0 (n : Nat) {S0 : MS} {Q : Int32 → MS → Prop} {QX : String → MS → Prop} {S : MS} {V : VS} {b1 b1v : Nat} {b2 b2v : Nat} (hS : SM S V) (hx : Ex S0 S) (h_b1 : Ad S b1 b1v) (h_b2 : Ad S b2 b2v) (hQ : gd (eL_undo_0 n V b1v b2v) (SQ Q S0) (SX QX S0)) : wL_undo_0 Q QX S b1 b2 := by
  unfold wL_undo_0
  unfold eL_undo_0 at hQ
  refine sim_X8_undo n hS h_b1 ?_
  refine gd_mono (gd_bd hQ) (fun r2 V1 hQ S1 hS1 xS => ?_) (fun E V9 hQ S9 hS9 xS9 => ?_)
  · have hx1 : Ex S0 S1 := Ex_tr hx xS
    have h1_b2 := xS _ _ h_b2
    refine st_gd (fun h => by simp only [SM_N hS1 h1_b2]; exact gvp_in_of h) hQ (fun hQ => ?_)
    intro S3 eS
    obtain ⟨V3, hS3, xS, hQ⟩ := st_sJ hS1 h1_b2 eS rfl rfl hQ
    have hx3 : Ex S0 S3 := Ex_tr hx1 xS
    exact gd_rt hQ _ hS3 hx3
  · by_cases cE : E = "java/lang/IllegalStateException"
    · have hQ := gd_yes hQ cE
      exact ⟨cE, gd_rt hQ _ hS9 (Ex_tr hx xS9)⟩
    have hQ := gd_no hQ cE
    exact (gd_none hQ).elim
def ev_L_undo (n : Nat) (V : VS) (b1v : Nat) (b2v : Nat) : Rs Int32 := eL_undo_0 n V b1v b2v
theorem sim_L_undo (n : Nat) {Q : Int32 → MS → Prop} {QX : String → MS → Prop} {S : MS} {V : VS} {b1 b1v : Nat} {b2 b2v : Nat} (hS : SM S V) (h_b1 : Ad S b1 b1v) (h_b2 : Ad S b2 b2v) (hQ : gd (ev_L_undo n V b1v b2v) (SQ Q S) (SX QX S)) : wp_L_undo Q QX S b1 b2 := by
  exact sL_undo_0 n hS Ex_rf h_b1 h_b2 hQ
def eL_isReplayed_0 (n : Nat) (V : VS) (b1v : Nat) (b2v : Nat) : Rs Int32 := bd (ev_X8_isReplayed n V b1v) (fun r2 V1 => (if r2 = 0 then (if gvp_in 0 (vN V1 b2v) = true then sq (wJ V1 b2v ((0 : Int32).toNatClampNeg) 0) (fun V3 => rt 0 V3) else none) else (if gvp_in 0 (vN V1 b2v) = true then sq (wJ V1 b2v ((0 : Int32).toNatClampNeg) 1) (fun V4 => rt 0 V4) else none))) (fun E V9 => (if E = "java/lang/IllegalStateException" then rt 1 V9 else none))
set_option maxHeartbeats 4000000 in
set_option maxRecDepth 100000 in
theorem sL_isReplayed_0 (n : Nat) {S0 : MS} {Q : Int32 → MS → Prop} {QX : String → MS → Prop} {S : MS} {V : VS} {b1 b1v : Nat} {b2 b2v : Nat} (hS : SM S V) (hx : Ex S0 S) (h_b1 : Ad S b1 b1v) (h_b2 : Ad S b2 b2v) (hQ : gd (eL_isReplayed_0 n V b1v b2v) (SQ Q S0) (SX QX S0)) : wL_isReplayed_0 Q QX S b1 b2 := by
  unfold wL_isReplayed_0
  unfold eL_isReplayed_0 at hQ
  refine sim_X8_isReplayed n hS h_b1 ?_
  refine gd_mono (gd_bd hQ) (fun r2 V1 hQ S1 hS1 xS => ?_) (fun E V9 hQ S9 hS9 xS9 => ?_)
  · have hx1 : Ex S0 S1 := Ex_tr hx xS
    have h1_b2 := xS _ _ h_b2
    refine st_if rfl hQ (fun hQ => ?_) (fun hQ => ?_)
    · refine st_gd (fun h => by simp only [SM_N hS1 h1_b2]; exact gvp_in_of h) hQ (fun hQ => ?_)
      intro S3 eS
      obtain ⟨V3, hS3, xS, hQ⟩ := st_sJ hS1 h1_b2 eS rfl rfl hQ
      have hx3 : Ex S0 S3 := Ex_tr hx1 xS
      exact gd_rt hQ _ hS3 hx3
    · refine st_gd (fun h => by simp only [SM_N hS1 h1_b2]; exact gvp_in_of h) hQ (fun hQ => ?_)
      intro S4 eS
      obtain ⟨V4, hS4, xS, hQ⟩ := st_sJ hS1 h1_b2 eS rfl rfl hQ
      have hx4 : Ex S0 S4 := Ex_tr hx1 xS
      exact gd_rt hQ _ hS4 hx4
  · by_cases cE : E = "java/lang/IllegalStateException"
    · have hQ := gd_yes hQ cE
      exact ⟨cE, gd_rt hQ _ hS9 (Ex_tr hx xS9)⟩
    have hQ := gd_no hQ cE
    exact (gd_none hQ).elim
def ev_L_isReplayed (n : Nat) (V : VS) (b1v : Nat) (b2v : Nat) : Rs Int32 := eL_isReplayed_0 n V b1v b2v
theorem sim_L_isReplayed (n : Nat) {Q : Int32 → MS → Prop} {QX : String → MS → Prop} {S : MS} {V : VS} {b1 b1v : Nat} {b2 b2v : Nat} (hS : SM S V) (h_b1 : Ad S b1 b1v) (h_b2 : Ad S b2 b2v) (hQ : gd (ev_L_isReplayed n V b1v b2v) (SQ Q S) (SX QX S)) : wp_L_isReplayed Q QX S b1 b2 := by
  exact sL_isReplayed_0 n hS Ex_rf h_b1 h_b2 hQ
def eL_meanHealth_0 (n : Nat) (V : VS) (b1v : Nat) (x2 : Int32) (b3v : Nat) : Rs Int32 := bd (ev_X8_meanHealth n V b1v x2) (fun r2 V1 => (if gvf_n64 (FP.f2d r2) = true then (if gvp_in 0 (vN V1 b3v) = true then sq (wD V1 b3v ((0 : Int32).toNatClampNeg) (FP.f2d r2)) (fun V3 => rt 0 V3) else none) else none)) (fun E V9 => (if E = "java/lang/IndexOutOfBoundsException" then rt 1 V9 else (if E = "java/lang/ArithmeticException" then rt 2 V9 else none)))
set_option maxHeartbeats 4000000 in
set_option maxRecDepth 100000 in
theorem sL_meanHealth_0 (n : Nat) {S0 : MS} {Q : Int32 → MS → Prop} {QX : String → MS → Prop} {S : MS} {V : VS} {b1 b1v : Nat} {x2 : Int32} {b3 b3v : Nat} (hS : SM S V) (hx : Ex S0 S) (h_b1 : Ad S b1 b1v) (h_b3 : Ad S b3 b3v) (hQ : gd (eL_meanHealth_0 n V b1v x2 b3v) (SQ Q S0) (SX QX S0)) : wL_meanHealth_0 Q QX S b1 x2 b3 := by
  unfold wL_meanHealth_0
  unfold eL_meanHealth_0 at hQ
  refine sim_X8_meanHealth n hS h_b1 rfl ?_
  refine gd_mono (gd_bd hQ) (fun r2 V1 hQ S1 hS1 xS => ?_) (fun E V9 hQ S9 hS9 xS9 => ?_)
  · have hx1 : Ex S0 S1 := Ex_tr hx xS
    have h1_b3 := xS _ _ h_b3
    refine st_gd (fun h => by exact gvf_n64_of h) hQ (fun hQ => ?_)
    refine st_gd (fun h => by simp only [SM_N hS1 h1_b3]; exact gvp_in_of h) hQ (fun hQ => ?_)
    intro S3 eS
    obtain ⟨V3, hS3, xS, hQ⟩ := st_sD hS1 h1_b3 eS rfl rfl hQ
    have hx3 : Ex S0 S3 := Ex_tr hx1 xS
    exact gd_rt hQ _ hS3 hx3
  · by_cases cE : E = "java/lang/IndexOutOfBoundsException"
    · have hQ := gd_yes hQ cE
      exact Or.inl ⟨cE, gd_rt hQ _ hS9 (Ex_tr hx xS9)⟩
    have hQ := gd_no hQ cE
    by_cases cE : E = "java/lang/ArithmeticException"
    · have hQ := gd_yes hQ cE
      exact Or.inr (⟨cE, gd_rt hQ _ hS9 (Ex_tr hx xS9)⟩)
    have hQ := gd_no hQ cE
    exact (gd_none hQ).elim
def ev_L_meanHealth (n : Nat) (V : VS) (b1v : Nat) (x2 : Int32) (b3v : Nat) : Rs Int32 := eL_meanHealth_0 n V b1v x2 b3v
theorem sim_L_meanHealth (n : Nat) {Q : Int32 → MS → Prop} {QX : String → MS → Prop} {S : MS} {V : VS} {b1 b1v : Nat} {x2 x2z : Int32} {b3 b3v : Nat} (hS : SM S V) (h_b1 : Ad S b1 b1v) (e_x2 : x2 = x2z) (h_b3 : Ad S b3 b3v) (hQ : gd (ev_L_meanHealth n V b1v x2z b3v) (SQ Q S) (SX QX S)) : wp_L_meanHealth Q QX S b1 x2 b3 := by
  subst e_x2
  exact sL_meanHealth_0 n hS Ex_rf h_b1 h_b3 hQ
def eL_storeHealths_0 (n : Nat) (V : VS) (b1v : Nat) (x2 : Int32) (x3 : Int32) (b4v : Nat) : Rs Int32 := bd (ev_X8_storeHealths n V b1v x2 x3) (fun r2 V1 => (if gvp_in 0 (vN V1 b4v) = true then sq (wJ V1 b4v ((0 : Int32).toNatClampNeg) ((r2 : Int32).toInt64)) (fun V3 => rt 0 V3) else none)) (fun E V9 => (if E = "java/lang/IndexOutOfBoundsException" then rt 1 V9 else none))
set_option maxHeartbeats 4000000 in
set_option maxRecDepth 100000 in
theorem sL_storeHealths_0 (n : Nat) {S0 : MS} {Q : Int32 → MS → Prop} {QX : String → MS → Prop} {S : MS} {V : VS} {b1 b1v : Nat} {x2 : Int32} {x3 : Int32} {b4 b4v : Nat} (hS : SM S V) (hx : Ex S0 S) (h_b1 : Ad S b1 b1v) (h_b4 : Ad S b4 b4v) (hQ : gd (eL_storeHealths_0 n V b1v x2 x3 b4v) (SQ Q S0) (SX QX S0)) : wL_storeHealths_0 Q QX S b1 x2 x3 b4 := by
  unfold wL_storeHealths_0
  unfold eL_storeHealths_0 at hQ
  refine sim_X8_storeHealths n hS h_b1 rfl rfl ?_
  refine gd_mono (gd_bd hQ) (fun r2 V1 hQ S1 hS1 xS => ?_) (fun E V9 hQ S9 hS9 xS9 => ?_)
  · have hx1 : Ex S0 S1 := Ex_tr hx xS
    have h1_b4 := xS _ _ h_b4
    refine st_gd (fun h => by simp only [SM_N hS1 h1_b4]; exact gvp_in_of h) hQ (fun hQ => ?_)
    intro S3 eS
    obtain ⟨V3, hS3, xS, hQ⟩ := st_sJ hS1 h1_b4 eS rfl rfl hQ
    have hx3 : Ex S0 S3 := Ex_tr hx1 xS
    exact gd_rt hQ _ hS3 hx3
  · by_cases cE : E = "java/lang/IndexOutOfBoundsException"
    · have hQ := gd_yes hQ cE
      exact ⟨cE, gd_rt hQ _ hS9 (Ex_tr hx xS9)⟩
    have hQ := gd_no hQ cE
    exact (gd_none hQ).elim
def ev_L_storeHealths (n : Nat) (V : VS) (b1v : Nat) (x2 : Int32) (x3 : Int32) (b4v : Nat) : Rs Int32 := eL_storeHealths_0 n V b1v x2 x3 b4v
theorem sim_L_storeHealths (n : Nat) {Q : Int32 → MS → Prop} {QX : String → MS → Prop} {S : MS} {V : VS} {b1 b1v : Nat} {x2 x2z : Int32} {x3 x3z : Int32} {b4 b4v : Nat} (hS : SM S V) (h_b1 : Ad S b1 b1v) (e_x2 : x2 = x2z) (e_x3 : x3 = x3z) (h_b4 : Ad S b4 b4v) (hQ : gd (ev_L_storeHealths n V b1v x2z x3z b4v) (SQ Q S) (SX QX S)) : wp_L_storeHealths Q QX S b1 x2 x3 b4 := by
  subst e_x2 e_x3
  exact sL_storeHealths_0 n hS Ex_rf h_b1 h_b4 hQ
def eL_copyHealths_0 (n : Nat) (V : VS) (b1v : Nat) (x2 : Int32) (x3 : Int32) (b4v : Nat) : Rs Int32 := bd (ev_X8_copyHealths n V b1v x2 x3) (fun r2 V1 => (if r2 = 0 then (if gvp_in 0 (vN V1 b4v) = true then sq (wJ V1 b4v ((0 : Int32).toNatClampNeg) 0) (fun V3 => rt 0 V3) else none) else (if gvp_in 0 (vN V1 b4v) = true then sq (wJ V1 b4v ((0 : Int32).toNatClampNeg) 1) (fun V4 => rt 0 V4) else none))) (fun E V9 => (if E = "java/lang/IndexOutOfBoundsException" then rt 1 V9 else (if E = "java/util/NoSuchElementException" then rt 2 V9 else (if E = "java/lang/UnsupportedOperationException" then rt 3 V9 else (if E = "java/lang/IllegalArgumentException" then rt 4 V9 else none)))))
set_option maxHeartbeats 4000000 in
set_option maxRecDepth 100000 in
theorem sL_copyHealths_0 (n : Nat) {S0 : MS} {Q : Int32 → MS → Prop} {QX : String → MS → Prop} {S : MS} {V : VS} {b1 b1v : Nat} {x2 : Int32} {x3 : Int32} {b4 b4v : Nat} (hS : SM S V) (hx : Ex S0 S) (h_b1 : Ad S b1 b1v) (h_b4 : Ad S b4 b4v) (hQ : gd (eL_copyHealths_0 n V b1v x2 x3 b4v) (SQ Q S0) (SX QX S0)) : wL_copyHealths_0 Q QX S b1 x2 x3 b4 := by
  unfold wL_copyHealths_0
  unfold eL_copyHealths_0 at hQ
  refine sim_X8_copyHealths n hS h_b1 rfl rfl ?_
  refine gd_mono (gd_bd hQ) (fun r2 V1 hQ S1 hS1 xS => ?_) (fun E V9 hQ S9 hS9 xS9 => ?_)
  · have hx1 : Ex S0 S1 := Ex_tr hx xS
    have h1_b4 := xS _ _ h_b4
    refine st_if rfl hQ (fun hQ => ?_) (fun hQ => ?_)
    · refine st_gd (fun h => by simp only [SM_N hS1 h1_b4]; exact gvp_in_of h) hQ (fun hQ => ?_)
      intro S3 eS
      obtain ⟨V3, hS3, xS, hQ⟩ := st_sJ hS1 h1_b4 eS rfl rfl hQ
      have hx3 : Ex S0 S3 := Ex_tr hx1 xS
      exact gd_rt hQ _ hS3 hx3
    · refine st_gd (fun h => by simp only [SM_N hS1 h1_b4]; exact gvp_in_of h) hQ (fun hQ => ?_)
      intro S4 eS
      obtain ⟨V4, hS4, xS, hQ⟩ := st_sJ hS1 h1_b4 eS rfl rfl hQ
      have hx4 : Ex S0 S4 := Ex_tr hx1 xS
      exact gd_rt hQ _ hS4 hx4
  · by_cases cE : E = "java/lang/IndexOutOfBoundsException"
    · have hQ := gd_yes hQ cE
      exact Or.inl ⟨cE, gd_rt hQ _ hS9 (Ex_tr hx xS9)⟩
    have hQ := gd_no hQ cE
    by_cases cE : E = "java/util/NoSuchElementException"
    · have hQ := gd_yes hQ cE
      exact Or.inr (Or.inl ⟨cE, gd_rt hQ _ hS9 (Ex_tr hx xS9)⟩)
    have hQ := gd_no hQ cE
    by_cases cE : E = "java/lang/UnsupportedOperationException"
    · have hQ := gd_yes hQ cE
      exact Or.inr (Or.inr (Or.inl ⟨cE, gd_rt hQ _ hS9 (Ex_tr hx xS9)⟩))
    have hQ := gd_no hQ cE
    by_cases cE : E = "java/lang/IllegalArgumentException"
    · have hQ := gd_yes hQ cE
      exact Or.inr (Or.inr (Or.inr (⟨cE, gd_rt hQ _ hS9 (Ex_tr hx xS9)⟩)))
    have hQ := gd_no hQ cE
    exact (gd_none hQ).elim
def ev_L_copyHealths (n : Nat) (V : VS) (b1v : Nat) (x2 : Int32) (x3 : Int32) (b4v : Nat) : Rs Int32 := eL_copyHealths_0 n V b1v x2 x3 b4v
theorem sim_L_copyHealths (n : Nat) {Q : Int32 → MS → Prop} {QX : String → MS → Prop} {S : MS} {V : VS} {b1 b1v : Nat} {x2 x2z : Int32} {x3 x3z : Int32} {b4 b4v : Nat} (hS : SM S V) (h_b1 : Ad S b1 b1v) (e_x2 : x2 = x2z) (e_x3 : x3 = x3z) (h_b4 : Ad S b4 b4v) (hQ : gd (ev_L_copyHealths n V b1v x2z x3z b4v) (SQ Q S) (SX QX S)) : wp_L_copyHealths Q QX S b1 x2 x3 b4 := by
  subst e_x2 e_x3
  exact sL_copyHealths_0 n hS Ex_rf h_b1 h_b4 hQ
def eL_storedBits_0 (n : Nat) (V : VS) (b1v : Nat) (x2 : Int32) (x3 : Int32) (b4v : Nat) : Rs Int32 := bd (ev_X8_storedBits n V b1v x2 x3) (fun r2 V1 => (if gvp_in 0 (vN V1 b4v) = true then sq (wJ V1 b4v ((0 : Int32).toNatClampNeg) ((r2 : Int32).toInt64)) (fun V3 => rt 0 V3) else none)) (fun E V9 => (if E = "java/lang/IndexOutOfBoundsException" then rt 1 V9 else (if E = "java/util/NoSuchElementException" then rt 2 V9 else none)))
set_option maxHeartbeats 4000000 in
set_option maxRecDepth 100000 in
theorem sL_storedBits_0 (n : Nat) {S0 : MS} {Q : Int32 → MS → Prop} {QX : String → MS → Prop} {S : MS} {V : VS} {b1 b1v : Nat} {x2 : Int32} {x3 : Int32} {b4 b4v : Nat} (hS : SM S V) (hx : Ex S0 S) (h_b1 : Ad S b1 b1v) (h_b4 : Ad S b4 b4v) (hQ : gd (eL_storedBits_0 n V b1v x2 x3 b4v) (SQ Q S0) (SX QX S0)) : wL_storedBits_0 Q QX S b1 x2 x3 b4 := by
  unfold wL_storedBits_0
  unfold eL_storedBits_0 at hQ
  refine sim_X8_storedBits n hS h_b1 rfl rfl ?_
  refine gd_mono (gd_bd hQ) (fun r2 V1 hQ S1 hS1 xS => ?_) (fun E V9 hQ S9 hS9 xS9 => ?_)
  · have hx1 : Ex S0 S1 := Ex_tr hx xS
    have h1_b4 := xS _ _ h_b4
    refine st_gd (fun h => by simp only [SM_N hS1 h1_b4]; exact gvp_in_of h) hQ (fun hQ => ?_)
    intro S3 eS
    obtain ⟨V3, hS3, xS, hQ⟩ := st_sJ hS1 h1_b4 eS rfl rfl hQ
    have hx3 : Ex S0 S3 := Ex_tr hx1 xS
    exact gd_rt hQ _ hS3 hx3
  · by_cases cE : E = "java/lang/IndexOutOfBoundsException"
    · have hQ := gd_yes hQ cE
      exact Or.inl ⟨cE, gd_rt hQ _ hS9 (Ex_tr hx xS9)⟩
    have hQ := gd_no hQ cE
    by_cases cE : E = "java/util/NoSuchElementException"
    · have hQ := gd_yes hQ cE
      exact Or.inr (⟨cE, gd_rt hQ _ hS9 (Ex_tr hx xS9)⟩)
    have hQ := gd_no hQ cE
    exact (gd_none hQ).elim
def ev_L_storedBits (n : Nat) (V : VS) (b1v : Nat) (x2 : Int32) (x3 : Int32) (b4v : Nat) : Rs Int32 := eL_storedBits_0 n V b1v x2 x3 b4v
theorem sim_L_storedBits (n : Nat) {Q : Int32 → MS → Prop} {QX : String → MS → Prop} {S : MS} {V : VS} {b1 b1v : Nat} {x2 x2z : Int32} {x3 x3z : Int32} {b4 b4v : Nat} (hS : SM S V) (h_b1 : Ad S b1 b1v) (e_x2 : x2 = x2z) (e_x3 : x3 = x3z) (h_b4 : Ad S b4 b4v) (hQ : gd (ev_L_storedBits n V b1v x2z x3z b4v) (SQ Q S) (SX QX S)) : wp_L_storedBits Q QX S b1 x2 x3 b4 := by
  subst e_x2 e_x3
  exact sL_storedBits_0 n hS Ex_rf h_b1 h_b4 hQ
def eL_restore_0 (n : Nat) (V : VS) (b1v : Nat) (b2v : Nat) : Rs Int32 := bd (ev_X8_restore n V b1v) (fun r2 V1 => (if gvp_in 0 (vN V1 b2v) = true then sq (wJ V1 b2v ((0 : Int32).toNatClampNeg) ((r2 : Int32).toInt64)) (fun V3 => rt 0 V3) else none)) (fun E V9 => (if E = "java/lang/IllegalStateException" then rt 1 V9 else none))
set_option maxHeartbeats 4000000 in
set_option maxRecDepth 100000 in
theorem sL_restore_0 (n : Nat) {S0 : MS} {Q : Int32 → MS → Prop} {QX : String → MS → Prop} {S : MS} {V : VS} {b1 b1v : Nat} {b2 b2v : Nat} (hS : SM S V) (hx : Ex S0 S) (h_b1 : Ad S b1 b1v) (h_b2 : Ad S b2 b2v) (hQ : gd (eL_restore_0 n V b1v b2v) (SQ Q S0) (SX QX S0)) : wL_restore_0 Q QX S b1 b2 := by
  unfold wL_restore_0
  unfold eL_restore_0 at hQ
  refine sim_X8_restore n hS h_b1 ?_
  refine gd_mono (gd_bd hQ) (fun r2 V1 hQ S1 hS1 xS => ?_) (fun E V9 hQ S9 hS9 xS9 => ?_)
  · have hx1 : Ex S0 S1 := Ex_tr hx xS
    have h1_b2 := xS _ _ h_b2
    refine st_gd (fun h => by simp only [SM_N hS1 h1_b2]; exact gvp_in_of h) hQ (fun hQ => ?_)
    intro S3 eS
    obtain ⟨V3, hS3, xS, hQ⟩ := st_sJ hS1 h1_b2 eS rfl rfl hQ
    have hx3 : Ex S0 S3 := Ex_tr hx1 xS
    exact gd_rt hQ _ hS3 hx3
  · by_cases cE : E = "java/lang/IllegalStateException"
    · have hQ := gd_yes hQ cE
      exact ⟨cE, gd_rt hQ _ hS9 (Ex_tr hx xS9)⟩
    have hQ := gd_no hQ cE
    exact (gd_none hQ).elim
def ev_L_restore (n : Nat) (V : VS) (b1v : Nat) (b2v : Nat) : Rs Int32 := eL_restore_0 n V b1v b2v
theorem sim_L_restore (n : Nat) {Q : Int32 → MS → Prop} {QX : String → MS → Prop} {S : MS} {V : VS} {b1 b1v : Nat} {b2 b2v : Nat} (hS : SM S V) (h_b1 : Ad S b1 b1v) (h_b2 : Ad S b2 b2v) (hQ : gd (ev_L_restore n V b1v b2v) (SQ Q S) (SX QX S)) : wp_L_restore Q QX S b1 b2 := by
  exact sL_restore_0 n hS Ex_rf h_b1 h_b2 hQ
