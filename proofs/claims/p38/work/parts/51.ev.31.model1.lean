def eX9_sees_17 (n : Nat) (k17v : VS → Nat → Int32 → Int32 → Int32 → Int32 → Rs Int32) (V : VS) (a0v : Nat) (y1 : Int32) (y2 : Int32) (y3 : Int32) (y4 : Int32) : Rs Int32 := (if y3 ≤ y4 then rt 1 V else (vR V a0v 1).bind (fun a1v => (if gvp_in (2 + y4) (vN V a1v) = true then (if (vI V a1v ((2 + y4) : Int32).toNatClampNeg) = 1 then (if y4 = y1 then k17v V a0v y1 y2 y3 (y4 + 1) else (if y4 = y2 then k17v V a0v y1 y2 y3 (y4 + 1) else bd (ev_X9_isMet n V a0v y4 y1 y2) (fun r3 V2 => (if r3 = 0 then k17v V2 a0v y1 y2 y3 (y4 + 1) else rt 0 V2)) th)) else k17v V a0v y1 y2 y3 (y4 + 1)) else none)))
set_option maxHeartbeats 4000000 in
set_option maxRecDepth 100000 in
theorem sX9_sees_17 (n : Nat) {S0 : MS} {Q : Int32 → MS → Prop} {QX : String → MS → Prop} {k17 : MS → Nat → Int32 → Int32 → Int32 → Int32 → Prop} {k17v : VS → Nat → Int32 → Int32 → Int32 → Int32 → Rs Int32} (hk17 : ∀ (S : MS) (V : VS) (p0 p0v : Nat) (p1 : Int32) (p2 : Int32) (p3 : Int32) (p4 : Int32), SM S V → Ex S0 S → Ad S p0 p0v → gd (k17v V p0v p1 p2 p3 p4) (SQ Q S0) (SX QX S0) → k17 S p0 p1 p2 p3 p4) {S : MS} {V : VS} {a0 a0v : Nat} {y1 : Int32} {y2 : Int32} {y3 : Int32} {y4 : Int32} (hS : SM S V) (hx : Ex S0 S) (h_a0 : Ad S a0 a0v) (hQ : gd (eX9_sees_17 n k17v V a0v y1 y2 y3 y4) (SQ Q S0) (SX QX S0)) : wX9_sees_17 Q QX k17 S a0 y1 y2 y3 y4 := by
  unfold wX9_sees_17
  unfold eX9_sees_17 at hQ
  refine st_if rfl hQ (fun hQ => ?_) (fun hQ => ?_)
  · exact gd_rt hQ _ hS hx
  · refine st_rd hS h_a0 rfl hQ (fun a1 a1v h_a1 hQ => ?_)
    refine st_gd (fun h => by simp only [SM_N hS h_a1]; exact gvp_in_of h) hQ (fun hQ => ?_)
    refine st_ifn (show ((mI S a1 ((2 + y4) : Int32).toNatClampNeg) = 1) = ((vI V a1v ((2 + y4) : Int32).toNatClampNeg) = 1) from by simp only [SM_I hS h_a1]) hQ (fun hQ => ?_) (fun hQ => ?_)
    · exact hk17 _ _ _ _ _ _ _ _ hS hx h_a0 hQ
    · refine st_if rfl hQ (fun hQ => ?_) (fun hQ => ?_)
      · exact hk17 _ _ _ _ _ _ _ _ hS hx h_a0 hQ
      · refine st_if rfl hQ (fun hQ => ?_) (fun hQ => ?_)
        · exact hk17 _ _ _ _ _ _ _ _ hS hx h_a0 hQ
        · refine sim_X9_isMet n hS h_a0 rfl rfl rfl ?_
          refine gd_mono (gd_bd hQ) (fun r3 V2 hQ S2 hS2 xS => ?_) (fun E V9 hQ S9 hS9 xS9 => gd_th hQ S9 hS9 (Ex_tr hx xS9))
          have hx2 : Ex S0 S2 := Ex_tr hx xS
          have h2_a0 := xS _ _ h_a0
          refine st_if rfl hQ (fun hQ => ?_) (fun hQ => ?_)
          · exact hk17 _ _ _ _ _ _ _ _ hS2 hx2 h2_a0 hQ
          · exact gd_rt hQ _ hS2 hx2
def elX9_sees_17 (n : Nat) : Nat → VS → Nat → Int32 → Int32 → Int32 → Int32 → Rs Int32
  | 0 => fun _ _ _ _ _ _ => none
  | m + 1 => fun V a0v y1 y2 y3 y4 => eX9_sees_17 n (elX9_sees_17 n m) V a0v y1 y2 y3 y4
theorem selX9_sees_17 (n : Nat) {S0 : MS} {Q : Int32 → MS → Prop} {QX : String → MS → Prop} : ∀ (m : Nat), ∀ (S : MS) (V : VS) (p0 p0v : Nat) (p1 : Int32) (p2 : Int32) (p3 : Int32) (p4 : Int32), SM S V → Ex S0 S → Ad S p0 p0v → gd (elX9_sees_17 n m V p0v p1 p2 p3 p4) (SQ Q S0) (SX QX S0) → lX9_sees_17 Q QX m S p0 p1 p2 p3 p4 := by
  intro m
  induction m with
  | zero => intro S V p0 p0v p1 p2 p3 p4 hS hx q0 hQ; exact (gd_none hQ).elim
  | succ m ih => intro S V p0 p0v p1 p2 p3 p4 hS hx q0 hQ; exact sX9_sees_17 n ih hS hx q0 hQ
def eX9_sees_0 (n : Nat) (V : VS) (a0v : Nat) (x1 : Int32) (x2 : Int32) : Rs Int32 := (vR V a0v 1).bind (fun a1v => (if gvp_in 0 (vN V a1v) = true then (vR V a0v 1).bind (fun a2v => (if gvp_in 1 (vN V a2v) = true then elX9_sees_17 n n V a0v x1 x2 ((vI V a1v (0 : Int32).toNatClampNeg) * (vI V a2v (1 : Int32).toNatClampNeg)) 0 else none)) else none))
set_option maxHeartbeats 4000000 in
set_option maxRecDepth 100000 in
theorem sX9_sees_0 (n : Nat) {S0 : MS} {Q : Int32 → MS → Prop} {QX : String → MS → Prop} {S : MS} {V : VS} {a0 a0v : Nat} {x1 : Int32} {x2 : Int32} (hS : SM S V) (hx : Ex S0 S) (h_a0 : Ad S a0 a0v) (hQ : gd (eX9_sees_0 n V a0v x1 x2) (SQ Q S0) (SX QX S0)) : wX9_sees_0 Q QX S a0 x1 x2 := by
  unfold wX9_sees_0
  unfold eX9_sees_0 at hQ
  refine st_rd hS h_a0 rfl hQ (fun a1 a1v h_a1 hQ => ?_)
  refine st_gd (fun h => by simp only [SM_N hS h_a1]; exact gvp_in_of h) hQ (fun hQ => ?_)
  refine st_rd hS h_a0 rfl hQ (fun a2 a2v h_a2 hQ => ?_)
  refine st_gd (fun h => by simp only [SM_N hS h_a2]; exact gvp_in_of h) hQ (fun hQ => ?_)
  refine ⟨n, ?_⟩
  simp only [SM_I hS h_a1, SM_I hS h_a2]
  exact selX9_sees_17 n n _ _ _ _ _ _ _ _ hS hx h_a0 hQ
def ev_X9_sees (n : Nat) (V : VS) (a0v : Nat) (x1 : Int32) (x2 : Int32) : Rs Int32 := eX9_sees_0 n V a0v x1 x2
theorem sim_X9_sees (n : Nat) {Q : Int32 → MS → Prop} {QX : String → MS → Prop} {S : MS} {V : VS} {a0 a0v : Nat} {x1 x1z : Int32} {x2 x2z : Int32} (hS : SM S V) (h_a0 : Ad S a0 a0v) (e_x1 : x1 = x1z) (e_x2 : x2 = x2z) (hQ : gd (ev_X9_sees n V a0v x1z x2z) (SQ Q S) (SX QX S)) : wp_X9_sees Q QX S a0 x1 x2 := by
  subst e_x1 e_x2
  exact sX9_sees_0 n hS Ex_rf h_a0 hQ
def eX9_isPair_22 (n : Nat) (V : VS) (a0v : Nat) (z0 : Int32) (w1v : Nat) : Rs Int32 := sq (wI V w1v 0 z0) (fun V1 => (if (vI V1 a0v 0) = 0 then rt 1 V1 else rt 0 V1))
set_option maxHeartbeats 4000000 in
set_option maxRecDepth 100000 in
theorem sX9_isPair_22 (n : Nat) {S0 : MS} {Q : Int32 → MS → Prop} {QX : String → MS → Prop} {S : MS} {V : VS} {a0 a0v : Nat} {z0 : Int32} {w1 w1v : Nat} (hS : SM S V) (hx : Ex S0 S) (h_a0 : Ad S a0 a0v) (h_w1 : Ad S w1 w1v) (hQ : gd (eX9_isPair_22 n V a0v z0 w1v) (SQ Q S0) (SX QX S0)) : wX9_isPair_22 Q QX S a0 z0 w1 := by
  unfold wX9_isPair_22
  unfold eX9_isPair_22 at hQ
  intro S1 eS
  obtain ⟨V1, hS1, xS, hQ⟩ := st_sI hS h_w1 eS rfl rfl hQ
  have hx1 : Ex S0 S1 := Ex_tr hx xS
  have h1_a0 := xS _ _ h_a0
  refine st_ifn (show ((mI S1 a0 0) = 0) = ((vI V1 a0v 0) = 0) from by simp only [SM_I hS1 h1_a0]) hQ (fun hQ => ?_) (fun hQ => ?_)
  · exact gd_rt hQ _ hS1 hx1
  · exact gd_rt hQ _ hS1 hx1
def eX9_isPair_21 (n : Nat) (V : VS) (a0v : Nat) (w0v : Nat) : Rs Int32 := eX9_isPair_22 n V a0v 1 w0v
set_option maxHeartbeats 4000000 in
set_option maxRecDepth 100000 in
theorem sX9_isPair_21 (n : Nat) {S0 : MS} {Q : Int32 → MS → Prop} {QX : String → MS → Prop} {S : MS} {V : VS} {a0 a0v : Nat} {w0 w0v : Nat} (hS : SM S V) (hx : Ex S0 S) (h_a0 : Ad S a0 a0v) (h_w0 : Ad S w0 w0v) (hQ : gd (eX9_isPair_21 n V a0v w0v) (SQ Q S0) (SX QX S0)) : wX9_isPair_21 Q QX S a0 w0 := by
  unfold wX9_isPair_21
  unfold eX9_isPair_21 at hQ
  exact sX9_isPair_22 n hS hx h_a0 h_w0 hQ
def eX9_isPair_0 (n : Nat) (V : VS) (a0v : Nat) (x1 : Int32) (x2 : Int32) : Rs Int32 := bd (ev_X9_isCell n V a0v x1) (fun r2 V1 => (if r2 = 0 then eX9_isPair_21 n V1 a0v a0v else bd (ev_X9_isCell n V1 a0v x2) (fun r4 V3 => (if r4 = 0 then eX9_isPair_21 n V3 a0v a0v else eX9_isPair_22 n V3 a0v 0 a0v)) th)) th
set_option maxHeartbeats 4000000 in
set_option maxRecDepth 100000 in
theorem sX9_isPair_0 (n : Nat) {S0 : MS} {Q : Int32 → MS → Prop} {QX : String → MS → Prop} {S : MS} {V : VS} {a0 a0v : Nat} {x1 : Int32} {x2 : Int32} (hS : SM S V) (hx : Ex S0 S) (h_a0 : Ad S a0 a0v) (hQ : gd (eX9_isPair_0 n V a0v x1 x2) (SQ Q S0) (SX QX S0)) : wX9_isPair_0 Q QX S a0 x1 x2 := by
  unfold wX9_isPair_0
  unfold eX9_isPair_0 at hQ
  refine sim_X9_isCell n hS h_a0 rfl ?_
  refine gd_mono (gd_bd hQ) (fun r2 V1 hQ S1 hS1 xS => ?_) (fun E V9 hQ S9 hS9 xS9 => gd_th hQ S9 hS9 (Ex_tr hx xS9))
  have hx1 : Ex S0 S1 := Ex_tr hx xS
  have h1_a0 := xS _ _ h_a0
  refine st_if rfl hQ (fun hQ => ?_) (fun hQ => ?_)
  · exact sX9_isPair_21 n hS1 hx1 h1_a0 h1_a0 hQ
  · refine sim_X9_isCell n hS1 h1_a0 rfl ?_
    refine gd_mono (gd_bd hQ) (fun r4 V3 hQ S3 hS3 xS => ?_) (fun E V9 hQ S9 hS9 xS9 => gd_th hQ S9 hS9 (Ex_tr hx1 xS9))
    have hx3 : Ex S0 S3 := Ex_tr hx1 xS
    have h3_a0 := xS _ _ h1_a0
    refine st_if rfl hQ (fun hQ => ?_) (fun hQ => ?_)
    · exact sX9_isPair_21 n hS3 hx3 h3_a0 h3_a0 hQ
    · exact sX9_isPair_22 n hS3 hx3 h3_a0 h3_a0 hQ
def ev_X9_isPair (n : Nat) (V : VS) (a0v : Nat) (x1 : Int32) (x2 : Int32) : Rs Int32 := eX9_isPair_0 n V a0v x1 x2
theorem sim_X9_isPair (n : Nat) {Q : Int32 → MS → Prop} {QX : String → MS → Prop} {S : MS} {V : VS} {a0 a0v : Nat} {x1 x1z : Int32} {x2 x2z : Int32} (hS : SM S V) (h_a0 : Ad S a0 a0v) (e_x1 : x1 = x1z) (e_x2 : x2 = x2z) (hQ : gd (ev_X9_isPair n V a0v x1z x2z) (SQ Q S) (SX QX S)) : wp_X9_isPair Q QX S a0 x1 x2 := by
  subst e_x1 e_x2
  exact sX9_isPair_0 n hS Ex_rf h_a0 hQ
def eX9_isSeen_0 (n : Nat) (V : VS) (a0v : Nat) (x1 : Int32) (x2 : Int32) : Rs Int32 := bd (ev_X9_isPair n V a0v x1 x2) (fun r2 V1 => (if r2 = 0 then rt 0 V1 else bd (ev_X9_sees n V1 a0v x1 x2) (fun r4 V3 => (if r4 = 0 then rt 0 V3 else rt 1 V3)) th)) th
set_option maxHeartbeats 4000000 in
set_option maxRecDepth 100000 in
theorem sX9_isSeen_0 (n : Nat) {S0 : MS} {Q : Int32 → MS → Prop} {QX : String → MS → Prop} {S : MS} {V : VS} {a0 a0v : Nat} {x1 : Int32} {x2 : Int32} (hS : SM S V) (hx : Ex S0 S) (h_a0 : Ad S a0 a0v) (hQ : gd (eX9_isSeen_0 n V a0v x1 x2) (SQ Q S0) (SX QX S0)) : wX9_isSeen_0 Q QX S a0 x1 x2 := by
  unfold wX9_isSeen_0
  unfold eX9_isSeen_0 at hQ
  refine sim_X9_isPair n hS h_a0 rfl rfl ?_
  refine gd_mono (gd_bd hQ) (fun r2 V1 hQ S1 hS1 xS => ?_) (fun E V9 hQ S9 hS9 xS9 => gd_th hQ S9 hS9 (Ex_tr hx xS9))
  have hx1 : Ex S0 S1 := Ex_tr hx xS
  have h1_a0 := xS _ _ h_a0
  refine st_if rfl hQ (fun hQ => ?_) (fun hQ => ?_)
  · exact gd_rt hQ _ hS1 hx1
  · refine sim_X9_sees n hS1 h1_a0 rfl rfl ?_
    refine gd_mono (gd_bd hQ) (fun r4 V3 hQ S3 hS3 xS => ?_) (fun E V9 hQ S9 hS9 xS9 => gd_th hQ S9 hS9 (Ex_tr hx1 xS9))
    have hx3 : Ex S0 S3 := Ex_tr hx1 xS
    refine st_if rfl hQ (fun hQ => ?_) (fun hQ => ?_)
    · exact gd_rt hQ _ hS3 hx3
    · exact gd_rt hQ _ hS3 hx3
def ev_X9_isSeen (n : Nat) (V : VS) (a0v : Nat) (x1 : Int32) (x2 : Int32) : Rs Int32 := eX9_isSeen_0 n V a0v x1 x2
theorem sim_X9_isSeen (n : Nat) {Q : Int32 → MS → Prop} {QX : String → MS → Prop} {S : MS} {V : VS} {a0 a0v : Nat} {x1 x1z : Int32} {x2 x2z : Int32} (hS : SM S V) (h_a0 : Ad S a0 a0v) (e_x1 : x1 = x1z) (e_x2 : x2 = x2z) (hQ : gd (ev_X9_isSeen n V a0v x1z x2z) (SQ Q S) (SX QX S)) : wp_X9_isSeen Q QX S a0 x1 x2 := by
  subst e_x1 e_x2
  exact sX9_isSeen_0 n hS Ex_rf h_a0 hQ
def eX9_covers_115 (n : Nat) (V : VS) (y4 : Int32) (z0 : Int32) : Rs Int32 := (if y4 = 1 then rt 2 V else (if z0 = 1 then rt 2 V else (if y4 = 2 then rt 1 V else (if z0 = 2 then rt 1 V else rt 0 V))))
set_option maxHeartbeats 4000000 in
set_option maxRecDepth 100000 in
theorem sX9_covers_115 (n : Nat) {S0 : MS} {Q : Int32 → MS → Prop} {QX : String → MS → Prop} {S : MS} {V : VS} {y4 : Int32} {z0 : Int32} (hS : SM S V) (hx : Ex S0 S) (hQ : gd (eX9_covers_115 n V y4 z0) (SQ Q S0) (SX QX S0)) : wX9_covers_115 Q QX S y4 z0 := by
  unfold wX9_covers_115
  unfold eX9_covers_115 at hQ
  refine st_if rfl hQ (fun hQ => ?_) (fun hQ => ?_)
  · exact gd_rt hQ _ hS hx
  · refine st_ifn rfl hQ (fun hQ => ?_) (fun hQ => ?_)
    · refine st_if rfl hQ (fun hQ => ?_) (fun hQ => ?_)
      · exact gd_rt hQ _ hS hx
      · refine st_ifn rfl hQ (fun hQ => ?_) (fun hQ => ?_)
        · exact gd_rt hQ _ hS hx
        · exact gd_rt hQ _ hS hx
    · exact gd_rt hQ _ hS hx
def eX9_covers_60 (n : Nat) (V : VS) (a0v : Nat) (y1 : Int32) (y2 : Int32) (z0 : Int32) : Rs Int32 := bd (ev_X9_column n V a0v y2) (fun r2 V1 => bd (ev_X9_column n V1 a0v y1) (fun r4 V3 => (if r4 ≤ r2 then bd (ev_X9_column n V3 a0v y2) (fun r6 V5 => bd (ev_X9_column n V5 a0v y1) (fun r8 V7 => (if r6 ≤ r8 then eX9_covers_115 n V7 z0 0 else (vR V7 a0v 1).bind (fun a9v => (if gvp_in ((2 + y1) + 1) (vN V7 a9v) = true then eX9_covers_115 n V7 z0 (vI V7 a9v (((2 + y1) + 1) : Int32).toNatClampNeg) else none)))) th) th else (vR V3 a0v 1).bind (fun a10v => (if gvp_in ((2 + y1) - 1) (vN V3 a10v) = true then eX9_covers_115 n V3 z0 (vI V3 a10v (((2 + y1) - 1) : Int32).toNatClampNeg) else none)))) th) th
set_option maxHeartbeats 4000000 in
set_option maxRecDepth 100000 in
theorem sX9_covers_60 (n : Nat) {S0 : MS} {Q : Int32 → MS → Prop} {QX : String → MS → Prop} {S : MS} {V : VS} {a0 a0v : Nat} {y1 : Int32} {y2 : Int32} {z0 : Int32} (hS : SM S V) (hx : Ex S0 S) (h_a0 : Ad S a0 a0v) (hQ : gd (eX9_covers_60 n V a0v y1 y2 z0) (SQ Q S0) (SX QX S0)) : wX9_covers_60 Q QX S a0 y1 y2 z0 := by
  unfold wX9_covers_60
  unfold eX9_covers_60 at hQ
  refine sim_X9_column n hS h_a0 rfl ?_
  refine gd_mono (gd_bd hQ) (fun r2 V1 hQ S1 hS1 xS => ?_) (fun E V9 hQ S9 hS9 xS9 => gd_th hQ S9 hS9 (Ex_tr hx xS9))
  have hx1 : Ex S0 S1 := Ex_tr hx xS
  have h1_a0 := xS _ _ h_a0
  refine sim_X9_column n hS1 h1_a0 rfl ?_
  refine gd_mono (gd_bd hQ) (fun r4 V3 hQ S3 hS3 xS => ?_) (fun E V9 hQ S9 hS9 xS9 => gd_th hQ S9 hS9 (Ex_tr hx1 xS9))
  have hx3 : Ex S0 S3 := Ex_tr hx1 xS
  have h3_a0 := xS _ _ h1_a0
  refine st_if rfl hQ (fun hQ => ?_) (fun hQ => ?_)
  · refine sim_X9_column n hS3 h3_a0 rfl ?_
    refine gd_mono (gd_bd hQ) (fun r6 V5 hQ S5 hS5 xS => ?_) (fun E V9 hQ S9 hS9 xS9 => gd_th hQ S9 hS9 (Ex_tr hx3 xS9))
    have hx5 : Ex S0 S5 := Ex_tr hx3 xS
    have h5_a0 := xS _ _ h3_a0
    refine sim_X9_column n hS5 h5_a0 rfl ?_
    refine gd_mono (gd_bd hQ) (fun r8 V7 hQ S7 hS7 xS => ?_) (fun E V9 hQ S9 hS9 xS9 => gd_th hQ S9 hS9 (Ex_tr hx5 xS9))
    have hx7 : Ex S0 S7 := Ex_tr hx5 xS
    have h7_a0 := xS _ _ h5_a0
    refine st_if rfl hQ (fun hQ => ?_) (fun hQ => ?_)
    · exact sX9_covers_115 n hS7 hx7 hQ
    · refine st_rd hS7 h7_a0 rfl hQ (fun a9 a9v h7_a9 hQ => ?_)
      refine st_gd (fun h => by simp only [SM_N hS7 h7_a9]; exact gvp_in_of h) hQ (fun hQ => ?_)
      simp only [SM_I hS7 h7_a9]
      exact sX9_covers_115 n hS7 hx7 hQ
  · refine st_rd hS3 h3_a0 rfl hQ (fun a10 a10v h3_a10 hQ => ?_)
    refine st_gd (fun h => by simp only [SM_N hS3 h3_a10]; exact gvp_in_of h) hQ (fun hQ => ?_)
    simp only [SM_I hS3 h3_a10]
    exact sX9_covers_115 n hS3 hx3 hQ
def eX9_covers_0 (n : Nat) (V : VS) (a0v : Nat) (x1 : Int32) (x2 : Int32) : Rs Int32 := (vR V a0v 1).bind (fun a1v => (if gvp_in 1 (vN V a1v) = true then bd (ev_X9_row n V a0v x2) (fun r3 V2 => bd (ev_X9_row n V2 a0v x1) (fun r5 V4 => (if r5 ≤ r3 then bd (ev_X9_row n V4 a0v x2) (fun r7 V6 => bd (ev_X9_row n V6 a0v x1) (fun r9 V8 => (if r7 ≤ r9 then eX9_covers_60 n V8 a0v x1 x2 0 else (vR V8 a0v 1).bind (fun a10v => (if gvp_in ((2 + x1) + (vI V a1v (1 : Int32).toNatClampNeg)) (vN V8 a10v) = true then eX9_covers_60 n V8 a0v x1 x2 (vI V8 a10v (((2 + x1) + (vI V a1v (1 : Int32).toNatClampNeg)) : Int32).toNatClampNeg) else none)))) th) th else (vR V4 a0v 1).bind (fun a11v => (if gvp_in ((2 + x1) - (vI V a1v (1 : Int32).toNatClampNeg)) (vN V4 a11v) = true then eX9_covers_60 n V4 a0v x1 x2 (vI V4 a11v (((2 + x1) - (vI V a1v (1 : Int32).toNatClampNeg)) : Int32).toNatClampNeg) else none)))) th) th else none))
set_option maxHeartbeats 4000000 in
set_option maxRecDepth 100000 in
theorem sX9_covers_0 (n : Nat) {S0 : MS} {Q : Int32 → MS → Prop} {QX : String → MS → Prop} {S : MS} {V : VS} {a0 a0v : Nat} {x1 : Int32} {x2 : Int32} (hS : SM S V) (hx : Ex S0 S) (h_a0 : Ad S a0 a0v) (hQ : gd (eX9_covers_0 n V a0v x1 x2) (SQ Q S0) (SX QX S0)) : wX9_covers_0 Q QX S a0 x1 x2 := by
  unfold wX9_covers_0
  unfold eX9_covers_0 at hQ
  refine st_rd hS h_a0 rfl hQ (fun a1 a1v h_a1 hQ => ?_)
  refine st_gd (fun h => by simp only [SM_N hS h_a1]; exact gvp_in_of h) hQ (fun hQ => ?_)
  refine sim_X9_row n hS h_a0 rfl ?_
  refine gd_mono (gd_bd hQ) (fun r3 V2 hQ S2 hS2 xS => ?_) (fun E V9 hQ S9 hS9 xS9 => gd_th hQ S9 hS9 (Ex_tr hx xS9))
  have hx2 : Ex S0 S2 := Ex_tr hx xS
  have h2_a0 := xS _ _ h_a0
  have h2_a1 := xS _ _ h_a1
  refine sim_X9_row n hS2 h2_a0 rfl ?_
  refine gd_mono (gd_bd hQ) (fun r5 V4 hQ S4 hS4 xS => ?_) (fun E V9 hQ S9 hS9 xS9 => gd_th hQ S9 hS9 (Ex_tr hx2 xS9))
  have hx4 : Ex S0 S4 := Ex_tr hx2 xS
  have h4_a0 := xS _ _ h2_a0
  have h4_a1 := xS _ _ h2_a1
  refine st_if rfl hQ (fun hQ => ?_) (fun hQ => ?_)
  · refine sim_X9_row n hS4 h4_a0 rfl ?_
    refine gd_mono (gd_bd hQ) (fun r7 V6 hQ S6 hS6 xS => ?_) (fun E V9 hQ S9 hS9 xS9 => gd_th hQ S9 hS9 (Ex_tr hx4 xS9))
    have hx6 : Ex S0 S6 := Ex_tr hx4 xS
    have h6_a0 := xS _ _ h4_a0
    have h6_a1 := xS _ _ h4_a1
    refine sim_X9_row n hS6 h6_a0 rfl ?_
    refine gd_mono (gd_bd hQ) (fun r9 V8 hQ S8 hS8 xS => ?_) (fun E V9 hQ S9 hS9 xS9 => gd_th hQ S9 hS9 (Ex_tr hx6 xS9))
    have hx8 : Ex S0 S8 := Ex_tr hx6 xS
    have h8_a0 := xS _ _ h6_a0
    have h8_a1 := xS _ _ h6_a1
    refine st_if rfl hQ (fun hQ => ?_) (fun hQ => ?_)
    · exact sX9_covers_60 n hS8 hx8 h8_a0 hQ
    · refine st_rd hS8 h8_a0 rfl hQ (fun a10 a10v h8_a10 hQ => ?_)
      refine st_gd (fun h => by simp only [SM_I hS h_a1, SM_N hS8 h8_a10]; exact gvp_in_of h) hQ (fun hQ => ?_)
      simp only [SM_I hS8 h8_a10, SM_I hS h_a1]
      exact sX9_covers_60 n hS8 hx8 h8_a0 hQ
  · refine st_rd hS4 h4_a0 rfl hQ (fun a11 a11v h4_a11 hQ => ?_)
    refine st_gd (fun h => by simp only [SM_I hS h_a1, SM_N hS4 h4_a11]; exact gvp_in_of h) hQ (fun hQ => ?_)
    simp only [SM_I hS4 h4_a11, SM_I hS h_a1]
    exact sX9_covers_60 n hS4 hx4 h4_a0 hQ
def ev_X9_covers (n : Nat) (V : VS) (a0v : Nat) (x1 : Int32) (x2 : Int32) : Rs Int32 := eX9_covers_0 n V a0v x1 x2
theorem sim_X9_covers (n : Nat) {Q : Int32 → MS → Prop} {QX : String → MS → Prop} {S : MS} {V : VS} {a0 a0v : Nat} {x1 x1z : Int32} {x2 x2z : Int32} (hS : SM S V) (h_a0 : Ad S a0 a0v) (e_x1 : x1 = x1z) (e_x2 : x2 = x2z) (hQ : gd (ev_X9_covers n V a0v x1z x2z) (SQ Q S) (SX QX S)) : wp_X9_covers Q QX S a0 x1 x2 := by
  subst e_x1 e_x2
  exact sX9_covers_0 n hS Ex_rf h_a0 hQ
def eX9_cover_0 (n : Nat) (V : VS) (a0v : Nat) (x1 : Int32) (x2 : Int32) : Rs Int32 := bd (ev_X9_isPair n V a0v x1 x2) (fun r2 V1 => (if r2 = 0 then rt 0 V1 else bd (ev_X9_covers n V1 a0v x1 x2) (fun r4 V3 => rt r4 V3) th)) th
set_option maxHeartbeats 4000000 in
set_option maxRecDepth 100000 in
theorem sX9_cover_0 (n : Nat) {S0 : MS} {Q : Int32 → MS → Prop} {QX : String → MS → Prop} {S : MS} {V : VS} {a0 a0v : Nat} {x1 : Int32} {x2 : Int32} (hS : SM S V) (hx : Ex S0 S) (h_a0 : Ad S a0 a0v) (hQ : gd (eX9_cover_0 n V a0v x1 x2) (SQ Q S0) (SX QX S0)) : wX9_cover_0 Q QX S a0 x1 x2 := by
  unfold wX9_cover_0
  unfold eX9_cover_0 at hQ
  refine sim_X9_isPair n hS h_a0 rfl rfl ?_
  refine gd_mono (gd_bd hQ) (fun r2 V1 hQ S1 hS1 xS => ?_) (fun E V9 hQ S9 hS9 xS9 => gd_th hQ S9 hS9 (Ex_tr hx xS9))
  have hx1 : Ex S0 S1 := Ex_tr hx xS
  have h1_a0 := xS _ _ h_a0
  refine st_if rfl hQ (fun hQ => ?_) (fun hQ => ?_)
  · exact gd_rt hQ _ hS1 hx1
  · refine sim_X9_covers n hS1 h1_a0 rfl rfl ?_
    refine gd_mono (gd_bd hQ) (fun r4 V3 hQ S3 hS3 xS => ?_) (fun E V9 hQ S9 hS9 xS9 => gd_th hQ S9 hS9 (Ex_tr hx1 xS9))
    have hx3 : Ex S0 S3 := Ex_tr hx1 xS
    exact gd_rt hQ _ hS3 hx3
def ev_X9_cover (n : Nat) (V : VS) (a0v : Nat) (x1 : Int32) (x2 : Int32) : Rs Int32 := eX9_cover_0 n V a0v x1 x2
theorem sim_X9_cover (n : Nat) {Q : Int32 → MS → Prop} {QX : String → MS → Prop} {S : MS} {V : VS} {a0 a0v : Nat} {x1 x1z : Int32} {x2 x2z : Int32} (hS : SM S V) (h_a0 : Ad S a0 a0v) (e_x1 : x1 = x1z) (e_x2 : x2 = x2z) (hQ : gd (ev_X9_cover n V a0v x1z x2z) (SQ Q S) (SX QX S)) : wp_X9_cover Q QX S a0 x1 x2 := by
  subst e_x1 e_x2
  exact sX9_cover_0 n hS Ex_rf h_a0 hQ
def eX9_unitOn_2 (n : Nat) (k2v : VS → Nat → Int32 → Int32 → Rs Int32) (V : VS) (a0v : Nat) (y1 : Int32) (y2 : Int32) : Rs Int32 := (vR V a0v 1).bind (fun a1v => (if gvp_in 66 (vN V a1v) = true then (if (vI V a1v (66 : Int32).toNatClampNeg) ≤ y2 then rt (-1) V else bd (ev_X9_lives n V a0v y2) (fun r3 V2 => (if r3 = 0 then k2v V2 a0v y1 (y2 + 1) else bd (ev_X9_of n V2 a0v y2 2) (fun r5 V4 => (if r5 = y1 then rt y2 V4 else k2v V4 a0v y1 (y2 + 1))) th)) th) else none))
set_option maxHeartbeats 4000000 in
set_option maxRecDepth 100000 in
theorem sX9_unitOn_2 (n : Nat) {S0 : MS} {Q : Int32 → MS → Prop} {QX : String → MS → Prop} {k2 : MS → Nat → Int32 → Int32 → Prop} {k2v : VS → Nat → Int32 → Int32 → Rs Int32} (hk2 : ∀ (S : MS) (V : VS) (p0 p0v : Nat) (p1 : Int32) (p2 : Int32), SM S V → Ex S0 S → Ad S p0 p0v → gd (k2v V p0v p1 p2) (SQ Q S0) (SX QX S0) → k2 S p0 p1 p2) {S : MS} {V : VS} {a0 a0v : Nat} {y1 : Int32} {y2 : Int32} (hS : SM S V) (hx : Ex S0 S) (h_a0 : Ad S a0 a0v) (hQ : gd (eX9_unitOn_2 n k2v V a0v y1 y2) (SQ Q S0) (SX QX S0)) : wX9_unitOn_2 Q QX k2 S a0 y1 y2 := by
  unfold wX9_unitOn_2
  unfold eX9_unitOn_2 at hQ
  refine st_rd hS h_a0 rfl hQ (fun a1 a1v h_a1 hQ => ?_)
  refine st_gd (fun h => by simp only [SM_N hS h_a1]; exact gvp_in_of h) hQ (fun hQ => ?_)
  refine st_if (show ((mI S a1 (66 : Int32).toNatClampNeg) ≤ y2) = ((vI V a1v (66 : Int32).toNatClampNeg) ≤ y2) from by simp only [SM_I hS h_a1]) hQ (fun hQ => ?_) (fun hQ => ?_)
  · exact gd_rt hQ _ hS hx
  · refine sim_X9_lives n hS h_a0 rfl ?_
    refine gd_mono (gd_bd hQ) (fun r3 V2 hQ S2 hS2 xS => ?_) (fun E V9 hQ S9 hS9 xS9 => gd_th hQ S9 hS9 (Ex_tr hx xS9))
    have hx2 : Ex S0 S2 := Ex_tr hx xS
    have h2_a0 := xS _ _ h_a0
    refine st_if rfl hQ (fun hQ => ?_) (fun hQ => ?_)
    · exact hk2 _ _ _ _ _ _ hS2 hx2 h2_a0 hQ
    · refine sim_X9_of n hS2 h2_a0 rfl rfl ?_
      refine gd_mono (gd_bd hQ) (fun r5 V4 hQ S4 hS4 xS => ?_) (fun E V9 hQ S9 hS9 xS9 => gd_th hQ S9 hS9 (Ex_tr hx2 xS9))
      have hx4 : Ex S0 S4 := Ex_tr hx2 xS
      have h4_a0 := xS _ _ h2_a0
      refine st_ifn rfl hQ (fun hQ => ?_) (fun hQ => ?_)
      · exact hk2 _ _ _ _ _ _ hS4 hx4 h4_a0 hQ
      · exact gd_rt hQ _ hS4 hx4
def elX9_unitOn_2 (n : Nat) : Nat → VS → Nat → Int32 → Int32 → Rs Int32
  | 0 => fun _ _ _ _ => none
  | m + 1 => fun V a0v y1 y2 => eX9_unitOn_2 n (elX9_unitOn_2 n m) V a0v y1 y2
theorem selX9_unitOn_2 (n : Nat) {S0 : MS} {Q : Int32 → MS → Prop} {QX : String → MS → Prop} : ∀ (m : Nat), ∀ (S : MS) (V : VS) (p0 p0v : Nat) (p1 : Int32) (p2 : Int32), SM S V → Ex S0 S → Ad S p0 p0v → gd (elX9_unitOn_2 n m V p0v p1 p2) (SQ Q S0) (SX QX S0) → lX9_unitOn_2 Q QX m S p0 p1 p2 := by
  intro m
  induction m with
  | zero => intro S V p0 p0v p1 p2 hS hx q0 hQ; exact (gd_none hQ).elim
  | succ m ih => intro S V p0 p0v p1 p2 hS hx q0 hQ; exact sX9_unitOn_2 n ih hS hx q0 hQ
def eX9_unitOn_0 (n : Nat) (V : VS) (a0v : Nat) (x1 : Int32) : Rs Int32 := elX9_unitOn_2 n n V a0v x1 0
set_option maxHeartbeats 4000000 in
set_option maxRecDepth 100000 in
theorem sX9_unitOn_0 (n : Nat) {S0 : MS} {Q : Int32 → MS → Prop} {QX : String → MS → Prop} {S : MS} {V : VS} {a0 a0v : Nat} {x1 : Int32} (hS : SM S V) (hx : Ex S0 S) (h_a0 : Ad S a0 a0v) (hQ : gd (eX9_unitOn_0 n V a0v x1) (SQ Q S0) (SX QX S0)) : wX9_unitOn_0 Q QX S a0 x1 := by
  unfold wX9_unitOn_0
  unfold eX9_unitOn_0 at hQ
  refine ⟨n, ?_⟩
  exact selX9_unitOn_2 n n _ _ _ _ _ _ hS hx h_a0 hQ
def ev_X9_unitOn (n : Nat) (V : VS) (a0v : Nat) (x1 : Int32) : Rs Int32 := eX9_unitOn_0 n V a0v x1
theorem sim_X9_unitOn (n : Nat) {Q : Int32 → MS → Prop} {QX : String → MS → Prop} {S : MS} {V : VS} {a0 a0v : Nat} {x1 x1z : Int32} (hS : SM S V) (h_a0 : Ad S a0 a0v) (e_x1 : x1 = x1z) (hQ : gd (ev_X9_unitOn n V a0v x1z) (SQ Q S) (SX QX S)) : wp_X9_unitOn Q QX S a0 x1 := by
  subst e_x1
  exact sX9_unitOn_0 n hS Ex_rf h_a0 hQ
def eX9_hasBegun_0 (n : Nat) (V : VS) (a0v : Nat) : Rs Int32 := (vR V a0v 1).bind (fun a1v => (if gvp_in 156 (vN V a1v) = true then (if (vI V a1v (156 : Int32).toNatClampNeg) ≤ 0 then rt 0 V else rt 1 V) else none))
set_option maxHeartbeats 4000000 in
set_option maxRecDepth 100000 in
theorem sX9_hasBegun_0 (n : Nat) {S0 : MS} {Q : Int32 → MS → Prop} {QX : String → MS → Prop} {S : MS} {V : VS} {a0 a0v : Nat} (hS : SM S V) (hx : Ex S0 S) (h_a0 : Ad S a0 a0v) (hQ : gd (eX9_hasBegun_0 n V a0v) (SQ Q S0) (SX QX S0)) : wX9_hasBegun_0 Q QX S a0 := by
  unfold wX9_hasBegun_0
  unfold eX9_hasBegun_0 at hQ
  refine st_rd hS h_a0 rfl hQ (fun a1 a1v h_a1 hQ => ?_)
  refine st_gd (fun h => by simp only [SM_N hS h_a1]; exact gvp_in_of h) hQ (fun hQ => ?_)
  refine st_if (show ((mI S a1 (156 : Int32).toNatClampNeg) ≤ 0) = ((vI V a1v (156 : Int32).toNatClampNeg) ≤ 0) from by simp only [SM_I hS h_a1]) hQ (fun hQ => ?_) (fun hQ => ?_)
  · exact gd_rt hQ _ hS hx
  · exact gd_rt hQ _ hS hx
def ev_X9_hasBegun (n : Nat) (V : VS) (a0v : Nat) : Rs Int32 := eX9_hasBegun_0 n V a0v
theorem sim_X9_hasBegun (n : Nat) {Q : Int32 → MS → Prop} {QX : String → MS → Prop} {S : MS} {V : VS} {a0 a0v : Nat} (hS : SM S V) (h_a0 : Ad S a0 a0v) (hQ : gd (ev_X9_hasBegun n V a0v) (SQ Q S) (SX QX S)) : wp_X9_hasBegun Q QX S a0 := by
  exact sX9_hasBegun_0 n hS Ex_rf h_a0 hQ
def eX9_addUnit_31 (n : Nat) (V : VS) (a0v : Nat) : Rs Int32 := bd (ev_X9_no n V a0v 1) (fun r2 V1 => rt r2 V1) th
set_option maxHeartbeats 4000000 in
set_option maxRecDepth 100000 in
theorem sX9_addUnit_31 (n : Nat) {S0 : MS} {Q : Int32 → MS → Prop} {QX : String → MS → Prop} {S : MS} {V : VS} {a0 a0v : Nat} (hS : SM S V) (hx : Ex S0 S) (h_a0 : Ad S a0 a0v) (hQ : gd (eX9_addUnit_31 n V a0v) (SQ Q S0) (SX QX S0)) : wX9_addUnit_31 Q QX S a0 := by
  unfold wX9_addUnit_31
  unfold eX9_addUnit_31 at hQ
  refine sim_X9_no n hS h_a0 rfl ?_
  refine gd_mono (gd_bd hQ) (fun r2 V1 hQ S1 hS1 xS => ?_) (fun E V9 hQ S9 hS9 xS9 => gd_th hQ S9 hS9 (Ex_tr hx xS9))
  have hx1 : Ex S0 S1 := Ex_tr hx xS
  exact gd_rt hQ _ hS1 hx1
def eX9_addUnit_57 (n : Nat) (V : VS) (a0v : Nat) : Rs Int32 := bd (ev_X9_no n V a0v 2) (fun r2 V1 => rt r2 V1) th
set_option maxHeartbeats 4000000 in
set_option maxRecDepth 100000 in
theorem sX9_addUnit_57 (n : Nat) {S0 : MS} {Q : Int32 → MS → Prop} {QX : String → MS → Prop} {S : MS} {V : VS} {a0 a0v : Nat} (hS : SM S V) (hx : Ex S0 S) (h_a0 : Ad S a0 a0v) (hQ : gd (eX9_addUnit_57 n V a0v) (SQ Q S0) (SX QX S0)) : wX9_addUnit_57 Q QX S a0 := by
  unfold wX9_addUnit_57
  unfold eX9_addUnit_57 at hQ
  refine sim_X9_no n hS h_a0 rfl ?_
  refine gd_mono (gd_bd hQ) (fun r2 V1 hQ S1 hS1 xS => ?_) (fun E V9 hQ S9 hS9 xS9 => gd_th hQ S9 hS9 (Ex_tr hx xS9))
  have hx1 : Ex S0 S1 := Ex_tr hx xS
  exact gd_rt hQ _ hS1 hx1
def eX9_addUnit_82 (n : Nat) (V : VS) (a0v : Nat) : Rs Int32 := bd (ev_X9_no n V a0v 3) (fun r2 V1 => rt r2 V1) th
set_option maxHeartbeats 4000000 in
set_option maxRecDepth 100000 in
theorem sX9_addUnit_82 (n : Nat) {S0 : MS} {Q : Int32 → MS → Prop} {QX : String → MS → Prop} {S : MS} {V : VS} {a0 a0v : Nat} (hS : SM S V) (hx : Ex S0 S) (h_a0 : Ad S a0 a0v) (hQ : gd (eX9_addUnit_82 n V a0v) (SQ Q S0) (SX QX S0)) : wX9_addUnit_82 Q QX S a0 := by
  unfold wX9_addUnit_82
  unfold eX9_addUnit_82 at hQ
  refine sim_X9_no n hS h_a0 rfl ?_
  refine gd_mono (gd_bd hQ) (fun r2 V1 hQ S1 hS1 xS => ?_) (fun E V9 hQ S9 hS9 xS9 => gd_th hQ S9 hS9 (Ex_tr hx xS9))
  have hx1 : Ex S0 S1 := Ex_tr hx xS
  exact gd_rt hQ _ hS1 hx1
def eX9_addUnit_111 (n : Nat) (k111v : VS → Nat → Int32 → Int32 → Int32 → Int32 → Int32 → Rs Int32) (V : VS) (a0v : Nat) (y1 : Int32) (y2 : Int32) (y3 : Int32) (y4 : Int32) (y5 : Int32) : Rs Int32 := (if 11 ≤ y5 then bd (ev_X9_sets n V a0v y4 0 y1) (fun _ V1 => bd (ev_X9_sets n V1 a0v y4 1 y2) (fun _ V2 => bd (ev_X9_sets n V2 a0v y4 2 y3) (fun _ V3 => bd (ev_X9_number n V3 y2 0) (fun r5 V4 => bd (ev_X9_sets n V4 a0v y4 3 r5) (fun _ V6 => bd (ev_X9_number n V6 y2 7) (fun r8 V7 => bd (ev_X9_sets n V7 a0v y4 4 r8) (fun _ V9 => bd (ev_X9_number n V9 y2 8) (fun r11 V10 => bd (ev_X9_sets n V10 a0v y4 5 r11) (fun _ V12 => rt y4 V12) th) th) th) th) th) th) th) th) th else bd (ev_X9_sets n V a0v y4 y5 0) (fun _ V13 => k111v V13 a0v y1 y2 y3 y4 (y5 + 1)) th)
set_option maxHeartbeats 4000000 in
set_option maxRecDepth 100000 in
theorem sX9_addUnit_111 (n : Nat) {S0 : MS} {Q : Int32 → MS → Prop} {QX : String → MS → Prop} {k111 : MS → Nat → Int32 → Int32 → Int32 → Int32 → Int32 → Prop} {k111v : VS → Nat → Int32 → Int32 → Int32 → Int32 → Int32 → Rs Int32} (hk111 : ∀ (S : MS) (V : VS) (p0 p0v : Nat) (p1 : Int32) (p2 : Int32) (p3 : Int32) (p4 : Int32) (p5 : Int32), SM S V → Ex S0 S → Ad S p0 p0v → gd (k111v V p0v p1 p2 p3 p4 p5) (SQ Q S0) (SX QX S0) → k111 S p0 p1 p2 p3 p4 p5) {S : MS} {V : VS} {a0 a0v : Nat} {y1 : Int32} {y2 : Int32} {y3 : Int32} {y4 : Int32} {y5 : Int32} (hS : SM S V) (hx : Ex S0 S) (h_a0 : Ad S a0 a0v) (hQ : gd (eX9_addUnit_111 n k111v V a0v y1 y2 y3 y4 y5) (SQ Q S0) (SX QX S0)) : wX9_addUnit_111 Q QX k111 S a0 y1 y2 y3 y4 y5 := by
  unfold wX9_addUnit_111
  unfold eX9_addUnit_111 at hQ
  refine st_if rfl hQ (fun hQ => ?_) (fun hQ => ?_)
  · refine sim_X9_sets n hS h_a0 rfl rfl rfl ?_
    refine gd_mono (gd_bd hQ) (fun _ V1 hQ S1 hS1 xS => ?_) (fun E V9 hQ S9 hS9 xS9 => gd_th hQ S9 hS9 (Ex_tr hx xS9))
    have hx1 : Ex S0 S1 := Ex_tr hx xS
    have h1_a0 := xS _ _ h_a0
    refine sim_X9_sets n hS1 h1_a0 rfl rfl rfl ?_
    refine gd_mono (gd_bd hQ) (fun _ V2 hQ S2 hS2 xS => ?_) (fun E V9 hQ S9 hS9 xS9 => gd_th hQ S9 hS9 (Ex_tr hx1 xS9))
    have hx2 : Ex S0 S2 := Ex_tr hx1 xS
    have h2_a0 := xS _ _ h1_a0
    refine sim_X9_sets n hS2 h2_a0 rfl rfl rfl ?_
    refine gd_mono (gd_bd hQ) (fun _ V3 hQ S3 hS3 xS => ?_) (fun E V9 hQ S9 hS9 xS9 => gd_th hQ S9 hS9 (Ex_tr hx2 xS9))
    have hx3 : Ex S0 S3 := Ex_tr hx2 xS
    have h3_a0 := xS _ _ h2_a0
    refine sim_X9_number n hS3 rfl rfl ?_
    refine gd_mono (gd_bd hQ) (fun r5 V4 hQ S4 hS4 xS => ?_) (fun E V9 hQ S9 hS9 xS9 => gd_th hQ S9 hS9 (Ex_tr hx3 xS9))
    have hx4 : Ex S0 S4 := Ex_tr hx3 xS
    have h4_a0 := xS _ _ h3_a0
    refine sim_X9_sets n hS4 h4_a0 rfl rfl rfl ?_
    refine gd_mono (gd_bd hQ) (fun _ V6 hQ S6 hS6 xS => ?_) (fun E V9 hQ S9 hS9 xS9 => gd_th hQ S9 hS9 (Ex_tr hx4 xS9))
    have hx6 : Ex S0 S6 := Ex_tr hx4 xS
    have h6_a0 := xS _ _ h4_a0
    refine sim_X9_number n hS6 rfl rfl ?_
    refine gd_mono (gd_bd hQ) (fun r8 V7 hQ S7 hS7 xS => ?_) (fun E V9 hQ S9 hS9 xS9 => gd_th hQ S9 hS9 (Ex_tr hx6 xS9))
    have hx7 : Ex S0 S7 := Ex_tr hx6 xS
    have h7_a0 := xS _ _ h6_a0
    refine sim_X9_sets n hS7 h7_a0 rfl rfl rfl ?_
    refine gd_mono (gd_bd hQ) (fun _ V9 hQ S9 hS9 xS => ?_) (fun E V9 hQ S9 hS9 xS9 => gd_th hQ S9 hS9 (Ex_tr hx7 xS9))
    have hx9 : Ex S0 S9 := Ex_tr hx7 xS
    have h9_a0 := xS _ _ h7_a0
    refine sim_X9_number n hS9 rfl rfl ?_
    refine gd_mono (gd_bd hQ) (fun r11 V10 hQ S10 hS10 xS => ?_) (fun E V9 hQ S9 hS9 xS9 => gd_th hQ S9 hS9 (Ex_tr hx9 xS9))
    have hx10 : Ex S0 S10 := Ex_tr hx9 xS
    have h10_a0 := xS _ _ h9_a0
    refine sim_X9_sets n hS10 h10_a0 rfl rfl rfl ?_
    refine gd_mono (gd_bd hQ) (fun _ V12 hQ S12 hS12 xS => ?_) (fun E V9 hQ S9 hS9 xS9 => gd_th hQ S9 hS9 (Ex_tr hx10 xS9))
    have hx12 : Ex S0 S12 := Ex_tr hx10 xS
    exact gd_rt hQ _ hS12 hx12
  · refine sim_X9_sets n hS h_a0 rfl rfl rfl ?_
    refine gd_mono (gd_bd hQ) (fun _ V13 hQ S13 hS13 xS => ?_) (fun E V9 hQ S9 hS9 xS9 => gd_th hQ S9 hS9 (Ex_tr hx xS9))
    have hx13 : Ex S0 S13 := Ex_tr hx xS
    have h13_a0 := xS _ _ h_a0
    exact hk111 _ _ _ _ _ _ _ _ _ hS13 hx13 h13_a0 hQ
def elX9_addUnit_111 (n : Nat) : Nat → VS → Nat → Int32 → Int32 → Int32 → Int32 → Int32 → Rs Int32
  | 0 => fun _ _ _ _ _ _ _ => none
  | m + 1 => fun V a0v y1 y2 y3 y4 y5 => eX9_addUnit_111 n (elX9_addUnit_111 n m) V a0v y1 y2 y3 y4 y5
theorem selX9_addUnit_111 (n : Nat) {S0 : MS} {Q : Int32 → MS → Prop} {QX : String → MS → Prop} : ∀ (m : Nat), ∀ (S : MS) (V : VS) (p0 p0v : Nat) (p1 : Int32) (p2 : Int32) (p3 : Int32) (p4 : Int32) (p5 : Int32), SM S V → Ex S0 S → Ad S p0 p0v → gd (elX9_addUnit_111 n m V p0v p1 p2 p3 p4 p5) (SQ Q S0) (SX QX S0) → lX9_addUnit_111 Q QX m S p0 p1 p2 p3 p4 p5 := by
  intro m
  induction m with
  | zero => intro S V p0 p0v p1 p2 p3 p4 p5 hS hx q0 hQ; exact (gd_none hQ).elim
  | succ m ih => intro S V p0 p0v p1 p2 p3 p4 p5 hS hx q0 hQ; exact sX9_addUnit_111 n ih hS hx q0 hQ
def eX9_addUnit_0 (n : Nat) (V : VS) (a0v : Nat) (x1 : Int32) (x2 : Int32) (x3 : Int32) : Rs Int32 := sq (wI V a0v 0 0) (fun V1 => bd (ev_X9_isIn n V1 x1 0 1) (fun r3 V2 => (if r3 = 0 then eX9_addUnit_31 n V2 a0v else bd (ev_X9_isIn n V2 x2 0 3) (fun r5 V4 => (if r5 = 0 then eX9_addUnit_31 n V4 a0v else bd (ev_X9_isCell n V4 a0v x3) (fun r7 V6 => (if r7 = 0 then eX9_addUnit_31 n V6 a0v else (vR V6 a0v 1).bind (fun a8v => (if gvp_in (2 + x3) (vN V6 a8v) = true then (if (vI V6 a8v ((2 + x3) : Int32).toNatClampNeg) = 1 then eX9_addUnit_57 n V6 a0v else bd (ev_X9_unitOn n V6 a0v x3) (fun r10 V9 => (if r10 < 0 then bd (ev_X9_hasBegun n V9 a0v) (fun r12 V11 => (if r12 = 0 then (vR V11 a0v 1).bind (fun a13v => (if gvp_in 66 (vN V11 a13v) = true then (if (vI V11 a13v (66 : Int32).toNatClampNeg) = 8 then eX9_addUnit_82 n V11 a0v else (vR V11 a0v 1).bind (fun a14v => (if gvp_in 66 (vN V11 a14v) = true then (vR V11 a0v 1).bind (fun a15v => (if gvp_in 66 (vN V11 a15v) = true then (if gvp_in 66 (vN V11 a15v) = true then sq (wI V11 a15v ((66 : Int32).toNatClampNeg) ((vI V11 a15v (66 : Int32).toNatClampNeg) + 1)) (fun V16 => elX9_addUnit_111 n n V16 a0v x1 x2 x3 (vI V11 a14v (66 : Int32).toNatClampNeg) 0) else none) else none)) else none))) else none)) else eX9_addUnit_82 n V11 a0v)) th else eX9_addUnit_57 n V9 a0v)) th) else none)))) th)) th)) th)
set_option maxHeartbeats 4000000 in
set_option maxRecDepth 100000 in
theorem sX9_addUnit_0 (n : Nat) {S0 : MS} {Q : Int32 → MS → Prop} {QX : String → MS → Prop} {S : MS} {V : VS} {a0 a0v : Nat} {x1 : Int32} {x2 : Int32} {x3 : Int32} (hS : SM S V) (hx : Ex S0 S) (h_a0 : Ad S a0 a0v) (hQ : gd (eX9_addUnit_0 n V a0v x1 x2 x3) (SQ Q S0) (SX QX S0)) : wX9_addUnit_0 Q QX S a0 x1 x2 x3 := by
  unfold wX9_addUnit_0
  unfold eX9_addUnit_0 at hQ
  intro S1 eS
  obtain ⟨V1, hS1, xS, hQ⟩ := st_sI hS h_a0 eS rfl rfl hQ
  have hx1 : Ex S0 S1 := Ex_tr hx xS
  have h1_a0 := xS _ _ h_a0
  refine sim_X9_isIn n hS1 rfl rfl rfl ?_
  refine gd_mono (gd_bd hQ) (fun r3 V2 hQ S2 hS2 xS => ?_) (fun E V9 hQ S9 hS9 xS9 => gd_th hQ S9 hS9 (Ex_tr hx1 xS9))
  have hx2 : Ex S0 S2 := Ex_tr hx1 xS
  have h2_a0 := xS _ _ h1_a0
  refine st_if rfl hQ (fun hQ => ?_) (fun hQ => ?_)
  · exact sX9_addUnit_31 n hS2 hx2 h2_a0 hQ
  · refine sim_X9_isIn n hS2 rfl rfl rfl ?_
    refine gd_mono (gd_bd hQ) (fun r5 V4 hQ S4 hS4 xS => ?_) (fun E V9 hQ S9 hS9 xS9 => gd_th hQ S9 hS9 (Ex_tr hx2 xS9))
    have hx4 : Ex S0 S4 := Ex_tr hx2 xS
    have h4_a0 := xS _ _ h2_a0
    refine st_if rfl hQ (fun hQ => ?_) (fun hQ => ?_)
    · exact sX9_addUnit_31 n hS4 hx4 h4_a0 hQ
    · refine sim_X9_isCell n hS4 h4_a0 rfl ?_
      refine gd_mono (gd_bd hQ) (fun r7 V6 hQ S6 hS6 xS => ?_) (fun E V9 hQ S9 hS9 xS9 => gd_th hQ S9 hS9 (Ex_tr hx4 xS9))
      have hx6 : Ex S0 S6 := Ex_tr hx4 xS
      have h6_a0 := xS _ _ h4_a0
      refine st_ifn rfl hQ (fun hQ => ?_) (fun hQ => ?_)
      · refine st_rd hS6 h6_a0 rfl hQ (fun a8 a8v h6_a8 hQ => ?_)
        refine st_gd (fun h => by simp only [SM_N hS6 h6_a8]; exact gvp_in_of h) hQ (fun hQ => ?_)
        refine st_if (show ((mI S6 a8 ((2 + x3) : Int32).toNatClampNeg) = 1) = ((vI V6 a8v ((2 + x3) : Int32).toNatClampNeg) = 1) from by simp only [SM_I hS6 h6_a8]) hQ (fun hQ => ?_) (fun hQ => ?_)
        · exact sX9_addUnit_57 n hS6 hx6 h6_a0 hQ
        · refine sim_X9_unitOn n hS6 h6_a0 rfl ?_
          refine gd_mono (gd_bd hQ) (fun r10 V9 hQ S9 hS9 xS => ?_) (fun E V9 hQ S9 hS9 xS9 => gd_th hQ S9 hS9 (Ex_tr hx6 xS9))
          have hx9 : Ex S0 S9 := Ex_tr hx6 xS
          have h9_a0 := xS _ _ h6_a0
          refine st_if rfl hQ (fun hQ => ?_) (fun hQ => ?_)
          · refine sim_X9_hasBegun n hS9 h9_a0 ?_
            refine gd_mono (gd_bd hQ) (fun r12 V11 hQ S11 hS11 xS => ?_) (fun E V9 hQ S9 hS9 xS9 => gd_th hQ S9 hS9 (Ex_tr hx9 xS9))
            have hx11 : Ex S0 S11 := Ex_tr hx9 xS
            have h11_a0 := xS _ _ h9_a0
            refine st_ifn rfl hQ (fun hQ => ?_) (fun hQ => ?_)
            · exact sX9_addUnit_82 n hS11 hx11 h11_a0 hQ
            · refine st_rd hS11 h11_a0 rfl hQ (fun a13 a13v h11_a13 hQ => ?_)
              refine st_gd (fun h => by simp only [SM_N hS11 h11_a13]; exact gvp_in_of h) hQ (fun hQ => ?_)
              refine st_ifn (show ((mI S11 a13 (66 : Int32).toNatClampNeg) = 8) = ((vI V11 a13v (66 : Int32).toNatClampNeg) = 8) from by simp only [SM_I hS11 h11_a13]) hQ (fun hQ => ?_) (fun hQ => ?_)
              · refine st_rd hS11 h11_a0 rfl hQ (fun a14 a14v h11_a14 hQ => ?_)
                refine st_gd (fun h => by simp only [SM_N hS11 h11_a14]; exact gvp_in_of h) hQ (fun hQ => ?_)
                refine st_rd hS11 h11_a0 rfl hQ (fun a15 a15v h11_a15 hQ => ?_)
                refine st_gd (fun h => by simp only [SM_N hS11 h11_a15]; exact gvp_in_of h) hQ (fun hQ => ?_)
                refine st_gd (fun h => by simp only [SM_N hS11 h11_a15]; exact gvp_in_of h) hQ (fun hQ => ?_)
                intro S16 eS
                obtain ⟨V16, hS16, xS, hQ⟩ := st_sI hS11 h11_a15 eS rfl (show (((mI S11 a15 (66 : Int32).toNatClampNeg) + 1)) = (((vI V11 a15v (66 : Int32).toNatClampNeg) + 1)) from by simp only [SM_I hS11 h11_a15]) hQ
                have hx16 : Ex S0 S16 := Ex_tr hx11 xS
                have h16_a0 := xS _ _ h11_a0
                have h16_a14 := xS _ _ h11_a14
                refine ⟨n, ?_⟩
                simp only [SM_I hS11 h11_a14]
                exact selX9_addUnit_111 n n _ _ _ _ _ _ _ _ _ hS16 hx16 h16_a0 hQ
              · exact sX9_addUnit_82 n hS11 hx11 h11_a0 hQ
          · exact sX9_addUnit_57 n hS9 hx9 h9_a0 hQ
      · exact sX9_addUnit_31 n hS6 hx6 h6_a0 hQ
def ev_X9_addUnit (n : Nat) (V : VS) (a0v : Nat) (x1 : Int32) (x2 : Int32) (x3 : Int32) : Rs Int32 := eX9_addUnit_0 n V a0v x1 x2 x3
theorem sim_X9_addUnit (n : Nat) {Q : Int32 → MS → Prop} {QX : String → MS → Prop} {S : MS} {V : VS} {a0 a0v : Nat} {x1 x1z : Int32} {x2 x2z : Int32} {x3 x3z : Int32} (hS : SM S V) (h_a0 : Ad S a0 a0v) (e_x1 : x1 = x1z) (e_x2 : x2 = x2z) (e_x3 : x3 = x3z) (hQ : gd (ev_X9_addUnit n V a0v x1z x2z x3z) (SQ Q S) (SX QX S)) : wp_X9_addUnit Q QX S a0 x1 x2 x3 := by
  subst e_x1 e_x2 e_x3
  exact sX9_addUnit_0 n hS Ex_rf h_a0 hQ
def eX9_unitCount_0 (n : Nat) (V : VS) (a0v : Nat) : Rs Int32 := sq (wI V a0v 0 0) (fun V1 => (vR V1 a0v 1).bind (fun a2v => (if gvp_in 66 (vN V1 a2v) = true then rt (vI V1 a2v (66 : Int32).toNatClampNeg) V1 else none)))
set_option maxHeartbeats 4000000 in
set_option maxRecDepth 100000 in
theorem sX9_unitCount_0 (n : Nat) {S0 : MS} {Q : Int32 → MS → Prop} {QX : String → MS → Prop} {S : MS} {V : VS} {a0 a0v : Nat} (hS : SM S V) (hx : Ex S0 S) (h_a0 : Ad S a0 a0v) (hQ : gd (eX9_unitCount_0 n V a0v) (SQ Q S0) (SX QX S0)) : wX9_unitCount_0 Q QX S a0 := by
  unfold wX9_unitCount_0
  unfold eX9_unitCount_0 at hQ
  intro S1 eS
  obtain ⟨V1, hS1, xS, hQ⟩ := st_sI hS h_a0 eS rfl rfl hQ
  have hx1 : Ex S0 S1 := Ex_tr hx xS
  have h1_a0 := xS _ _ h_a0
  refine st_rd hS1 h1_a0 rfl hQ (fun a2 a2v h1_a2 hQ => ?_)
  refine st_gd (fun h => by simp only [SM_N hS1 h1_a2]; exact gvp_in_of h) hQ (fun hQ => ?_)
  simp only [SM_I hS1 h1_a2]
  exact gd_rt hQ _ hS1 hx1
def ev_X9_unitCount (n : Nat) (V : VS) (a0v : Nat) : Rs Int32 := eX9_unitCount_0 n V a0v
theorem sim_X9_unitCount (n : Nat) {Q : Int32 → MS → Prop} {QX : String → MS → Prop} {S : MS} {V : VS} {a0 a0v : Nat} (hS : SM S V) (h_a0 : Ad S a0 a0v) (hQ : gd (ev_X9_unitCount n V a0v) (SQ Q S) (SX QX S)) : wp_X9_unitCount Q QX S a0 := by
  exact sX9_unitCount_0 n hS Ex_rf h_a0 hQ
def eX9_unit_0 (n : Nat) (V : VS) (a0v : Nat) (x1 : Int32) (x2 : Int32) : Rs Int32 := sq (wI V a0v 0 0) (fun V1 => bd (ev_X9_isUnit n V1 a0v x1) (fun r3 V2 => (if r3 = 0 then bd (ev_X9_no n V2 a0v 1) (fun r15 V14 => rt r15 V14) th else bd (ev_X9_isIn n V2 x2 0 11) (fun r5 V4 => (if r5 = 0 then bd (ev_X9_no n V4 a0v 2) (fun r13 V12 => rt r13 V12) th else (if 6 ≤ x2 then (if x2 = 6 then (vR V4 a0v 1).bind (fun a8v => (if gvp_in 166 (vN V4 a8v) = true then (if (vI V4 a8v (166 : Int32).toNatClampNeg) = x1 then (vR V4 a0v 1).bind (fun a9v => (if gvp_in 167 (vN V4 a9v) = true then rt (vI V4 a9v (167 : Int32).toNatClampNeg) V4 else none)) else rt 0 V4) else none)) else bd (ev_X9_of n V4 a0v x1 (x2 - 1)) (fun r7 V6 => rt r7 V6) th) else bd (ev_X9_of n V4 a0v x1 x2) (fun r11 V10 => rt r11 V10) th))) th)) th)
set_option maxHeartbeats 4000000 in
set_option maxRecDepth 100000 in
theorem sX9_unit_0 (n : Nat) {S0 : MS} {Q : Int32 → MS → Prop} {QX : String → MS → Prop} {S : MS} {V : VS} {a0 a0v : Nat} {x1 : Int32} {x2 : Int32} (hS : SM S V) (hx : Ex S0 S) (h_a0 : Ad S a0 a0v) (hQ : gd (eX9_unit_0 n V a0v x1 x2) (SQ Q S0) (SX QX S0)) : wX9_unit_0 Q QX S a0 x1 x2 := by
  unfold wX9_unit_0
  unfold eX9_unit_0 at hQ
  intro S1 eS
  obtain ⟨V1, hS1, xS, hQ⟩ := st_sI hS h_a0 eS rfl rfl hQ
  have hx1 : Ex S0 S1 := Ex_tr hx xS
  have h1_a0 := xS _ _ h_a0
  refine sim_X9_isUnit n hS1 h1_a0 rfl ?_
  refine gd_mono (gd_bd hQ) (fun r3 V2 hQ S2 hS2 xS => ?_) (fun E V9 hQ S9 hS9 xS9 => gd_th hQ S9 hS9 (Ex_tr hx1 xS9))
  have hx2 : Ex S0 S2 := Ex_tr hx1 xS
  have h2_a0 := xS _ _ h1_a0
  refine st_ifn rfl hQ (fun hQ => ?_) (fun hQ => ?_)
  · refine sim_X9_isIn n hS2 rfl rfl rfl ?_
    refine gd_mono (gd_bd hQ) (fun r5 V4 hQ S4 hS4 xS => ?_) (fun E V9 hQ S9 hS9 xS9 => gd_th hQ S9 hS9 (Ex_tr hx2 xS9))
    have hx4 : Ex S0 S4 := Ex_tr hx2 xS
    have h4_a0 := xS _ _ h2_a0
    refine st_ifn rfl hQ (fun hQ => ?_) (fun hQ => ?_)
    · refine st_if rfl hQ (fun hQ => ?_) (fun hQ => ?_)
      · refine st_ifn rfl hQ (fun hQ => ?_) (fun hQ => ?_)
        · refine sim_X9_of n hS4 h4_a0 rfl rfl ?_
          refine gd_mono (gd_bd hQ) (fun r7 V6 hQ S6 hS6 xS => ?_) (fun E V9 hQ S9 hS9 xS9 => gd_th hQ S9 hS9 (Ex_tr hx4 xS9))
          have hx6 : Ex S0 S6 := Ex_tr hx4 xS
          exact gd_rt hQ _ hS6 hx6
        · refine st_rd hS4 h4_a0 rfl hQ (fun a8 a8v h4_a8 hQ => ?_)
          refine st_gd (fun h => by simp only [SM_N hS4 h4_a8]; exact gvp_in_of h) hQ (fun hQ => ?_)
          refine st_ifn (show ((mI S4 a8 (166 : Int32).toNatClampNeg) = x1) = ((vI V4 a8v (166 : Int32).toNatClampNeg) = x1) from by simp only [SM_I hS4 h4_a8]) hQ (fun hQ => ?_) (fun hQ => ?_)
          · exact gd_rt hQ _ hS4 hx4
          · refine st_rd hS4 h4_a0 rfl hQ (fun a9 a9v h4_a9 hQ => ?_)
            refine st_gd (fun h => by simp only [SM_N hS4 h4_a9]; exact gvp_in_of h) hQ (fun hQ => ?_)
            simp only [SM_I hS4 h4_a9]
            exact gd_rt hQ _ hS4 hx4
      · refine sim_X9_of n hS4 h4_a0 rfl rfl ?_
        refine gd_mono (gd_bd hQ) (fun r11 V10 hQ S10 hS10 xS => ?_) (fun E V9 hQ S9 hS9 xS9 => gd_th hQ S9 hS9 (Ex_tr hx4 xS9))
        have hx10 : Ex S0 S10 := Ex_tr hx4 xS
        exact gd_rt hQ _ hS10 hx10
    · refine sim_X9_no n hS4 h4_a0 rfl ?_
      refine gd_mono (gd_bd hQ) (fun r13 V12 hQ S12 hS12 xS => ?_) (fun E V9 hQ S9 hS9 xS9 => gd_th hQ S9 hS9 (Ex_tr hx4 xS9))
      have hx12 : Ex S0 S12 := Ex_tr hx4 xS
      exact gd_rt hQ _ hS12 hx12
  · refine sim_X9_no n hS2 h2_a0 rfl ?_
    refine gd_mono (gd_bd hQ) (fun r15 V14 hQ S14 hS14 xS => ?_) (fun E V9 hQ S9 hS9 xS9 => gd_th hQ S9 hS9 (Ex_tr hx2 xS9))
    have hx14 : Ex S0 S14 := Ex_tr hx2 xS
    exact gd_rt hQ _ hS14 hx14
def ev_X9_unit (n : Nat) (V : VS) (a0v : Nat) (x1 : Int32) (x2 : Int32) : Rs Int32 := eX9_unit_0 n V a0v x1 x2
theorem sim_X9_unit (n : Nat) {Q : Int32 → MS → Prop} {QX : String → MS → Prop} {S : MS} {V : VS} {a0 a0v : Nat} {x1 x1z : Int32} {x2 x2z : Int32} (hS : SM S V) (h_a0 : Ad S a0 a0v) (e_x1 : x1 = x1z) (e_x2 : x2 = x2z) (hQ : gd (ev_X9_unit n V a0v x1z x2z) (SQ Q S) (SX QX S)) : wp_X9_unit Q QX S a0 x1 x2 := by
  subst e_x1 e_x2
  exact sX9_unit_0 n hS Ex_rf h_a0 hQ
def eX9_living_39 (n : Nat) (k4v : VS → Nat → Int32 → Int32 → Int32 → Rs Int32) (V : VS) (a0v : Nat) (y1 : Int32) (y3 : Int32) (z0 : Int32) (z1 : Int32) : Rs Int32 := k4v V a0v y1 (z1 + z0) (y3 + 1)
set_option maxHeartbeats 4000000 in
set_option maxRecDepth 100000 in
theorem sX9_living_39 (n : Nat) {S0 : MS} {Q : Int32 → MS → Prop} {QX : String → MS → Prop} {k4 : MS → Nat → Int32 → Int32 → Int32 → Prop} {k4v : VS → Nat → Int32 → Int32 → Int32 → Rs Int32} (hk4 : ∀ (S : MS) (V : VS) (p0 p0v : Nat) (p1 : Int32) (p2 : Int32) (p3 : Int32), SM S V → Ex S0 S → Ad S p0 p0v → gd (k4v V p0v p1 p2 p3) (SQ Q S0) (SX QX S0) → k4 S p0 p1 p2 p3) {S : MS} {V : VS} {a0 a0v : Nat} {y1 : Int32} {y3 : Int32} {z0 : Int32} {z1 : Int32} (hS : SM S V) (hx : Ex S0 S) (h_a0 : Ad S a0 a0v) (hQ : gd (eX9_living_39 n k4v V a0v y1 y3 z0 z1) (SQ Q S0) (SX QX S0)) : wX9_living_39 Q QX k4 S a0 y1 y3 z0 z1 := by
  unfold wX9_living_39
  unfold eX9_living_39 at hQ
  exact hk4 _ _ _ _ _ _ _ hS hx h_a0 hQ
def eX9_living_38 (n : Nat) (k4v : VS → Nat → Int32 → Int32 → Int32 → Rs Int32) (V : VS) (a0v : Nat) (y1 : Int32) (y3 : Int32) (z0 : Int32) : Rs Int32 := eX9_living_39 n k4v V a0v y1 y3 0 z0
set_option maxHeartbeats 4000000 in
set_option maxRecDepth 100000 in
theorem sX9_living_38 (n : Nat) {S0 : MS} {Q : Int32 → MS → Prop} {QX : String → MS → Prop} {k4 : MS → Nat → Int32 → Int32 → Int32 → Prop} {k4v : VS → Nat → Int32 → Int32 → Int32 → Rs Int32} (hk4 : ∀ (S : MS) (V : VS) (p0 p0v : Nat) (p1 : Int32) (p2 : Int32) (p3 : Int32), SM S V → Ex S0 S → Ad S p0 p0v → gd (k4v V p0v p1 p2 p3) (SQ Q S0) (SX QX S0) → k4 S p0 p1 p2 p3) {S : MS} {V : VS} {a0 a0v : Nat} {y1 : Int32} {y3 : Int32} {z0 : Int32} (hS : SM S V) (hx : Ex S0 S) (h_a0 : Ad S a0 a0v) (hQ : gd (eX9_living_38 n k4v V a0v y1 y3 z0) (SQ Q S0) (SX QX S0)) : wX9_living_38 Q QX k4 S a0 y1 y3 z0 := by
  unfold wX9_living_38
  unfold eX9_living_38 at hQ
  exact sX9_living_39 n hk4 hS hx h_a0 hQ
def eX9_living_4 (n : Nat) (k4v : VS → Nat → Int32 → Int32 → Int32 → Rs Int32) (V : VS) (a0v : Nat) (y1 : Int32) (y2 : Int32) (y3 : Int32) : Rs Int32 := (vR V a0v 1).bind (fun a1v => (if gvp_in 66 (vN V a1v) = true then (if (vI V a1v (66 : Int32).toNatClampNeg) ≤ y3 then rt y2 V else bd (ev_X9_lives n V a0v y3) (fun r3 V2 => (if r3 = 0 then eX9_living_38 n k4v V2 a0v y1 y3 y2 else bd (ev_X9_of n V2 a0v y3 0) (fun r5 V4 => (if r5 = y1 then eX9_living_39 n k4v V4 a0v y1 y3 1 y2 else eX9_living_38 n k4v V4 a0v y1 y3 y2)) th)) th) else none))
set_option maxHeartbeats 4000000 in
set_option maxRecDepth 100000 in
theorem sX9_living_4 (n : Nat) {S0 : MS} {Q : Int32 → MS → Prop} {QX : String → MS → Prop} {k4 : MS → Nat → Int32 → Int32 → Int32 → Prop} {k4v : VS → Nat → Int32 → Int32 → Int32 → Rs Int32} (hk4 : ∀ (S : MS) (V : VS) (p0 p0v : Nat) (p1 : Int32) (p2 : Int32) (p3 : Int32), SM S V → Ex S0 S → Ad S p0 p0v → gd (k4v V p0v p1 p2 p3) (SQ Q S0) (SX QX S0) → k4 S p0 p1 p2 p3) {S : MS} {V : VS} {a0 a0v : Nat} {y1 : Int32} {y2 : Int32} {y3 : Int32} (hS : SM S V) (hx : Ex S0 S) (h_a0 : Ad S a0 a0v) (hQ : gd (eX9_living_4 n k4v V a0v y1 y2 y3) (SQ Q S0) (SX QX S0)) : wX9_living_4 Q QX k4 S a0 y1 y2 y3 := by
  unfold wX9_living_4
  unfold eX9_living_4 at hQ
  refine st_rd hS h_a0 rfl hQ (fun a1 a1v h_a1 hQ => ?_)
  refine st_gd (fun h => by simp only [SM_N hS h_a1]; exact gvp_in_of h) hQ (fun hQ => ?_)
  refine st_if (show ((mI S a1 (66 : Int32).toNatClampNeg) ≤ y3) = ((vI V a1v (66 : Int32).toNatClampNeg) ≤ y3) from by simp only [SM_I hS h_a1]) hQ (fun hQ => ?_) (fun hQ => ?_)
  · exact gd_rt hQ _ hS hx
  · refine sim_X9_lives n hS h_a0 rfl ?_
    refine gd_mono (gd_bd hQ) (fun r3 V2 hQ S2 hS2 xS => ?_) (fun E V9 hQ S9 hS9 xS9 => gd_th hQ S9 hS9 (Ex_tr hx xS9))
    have hx2 : Ex S0 S2 := Ex_tr hx xS
    have h2_a0 := xS _ _ h_a0
    refine st_if rfl hQ (fun hQ => ?_) (fun hQ => ?_)
    · exact sX9_living_38 n hk4 hS2 hx2 h2_a0 hQ
    · refine sim_X9_of n hS2 h2_a0 rfl rfl ?_
      refine gd_mono (gd_bd hQ) (fun r5 V4 hQ S4 hS4 xS => ?_) (fun E V9 hQ S9 hS9 xS9 => gd_th hQ S9 hS9 (Ex_tr hx2 xS9))
      have hx4 : Ex S0 S4 := Ex_tr hx2 xS
      have h4_a0 := xS _ _ h2_a0
      refine st_ifn rfl hQ (fun hQ => ?_) (fun hQ => ?_)
      · exact sX9_living_38 n hk4 hS4 hx4 h4_a0 hQ
      · exact sX9_living_39 n hk4 hS4 hx4 h4_a0 hQ
def elX9_living_4 (n : Nat) : Nat → VS → Nat → Int32 → Int32 → Int32 → Rs Int32
  | 0 => fun _ _ _ _ _ => none
  | m + 1 => fun V a0v y1 y2 y3 => eX9_living_4 n (elX9_living_4 n m) V a0v y1 y2 y3
theorem selX9_living_4 (n : Nat) {S0 : MS} {Q : Int32 → MS → Prop} {QX : String → MS → Prop} : ∀ (m : Nat), ∀ (S : MS) (V : VS) (p0 p0v : Nat) (p1 : Int32) (p2 : Int32) (p3 : Int32), SM S V → Ex S0 S → Ad S p0 p0v → gd (elX9_living_4 n m V p0v p1 p2 p3) (SQ Q S0) (SX QX S0) → lX9_living_4 Q QX m S p0 p1 p2 p3 := by
  intro m
  induction m with
  | zero => intro S V p0 p0v p1 p2 p3 hS hx q0 hQ; exact (gd_none hQ).elim
  | succ m ih => intro S V p0 p0v p1 p2 p3 hS hx q0 hQ; exact sX9_living_4 n ih hS hx q0 hQ
def eX9_living_0 (n : Nat) (V : VS) (a0v : Nat) (x1 : Int32) : Rs Int32 := elX9_living_4 n n V a0v x1 0 0
set_option maxHeartbeats 4000000 in
set_option maxRecDepth 100000 in
theorem sX9_living_0 (n : Nat) {S0 : MS} {Q : Int32 → MS → Prop} {QX : String → MS → Prop} {S : MS} {V : VS} {a0 a0v : Nat} {x1 : Int32} (hS : SM S V) (hx : Ex S0 S) (h_a0 : Ad S a0 a0v) (hQ : gd (eX9_living_0 n V a0v x1) (SQ Q S0) (SX QX S0)) : wX9_living_0 Q QX S a0 x1 := by
  unfold wX9_living_0
  unfold eX9_living_0 at hQ
  refine ⟨n, ?_⟩
  exact selX9_living_4 n n _ _ _ _ _ _ _ hS hx h_a0 hQ
def ev_X9_living (n : Nat) (V : VS) (a0v : Nat) (x1 : Int32) : Rs Int32 := eX9_living_0 n V a0v x1
theorem sim_X9_living (n : Nat) {Q : Int32 → MS → Prop} {QX : String → MS → Prop} {S : MS} {V : VS} {a0 a0v : Nat} {x1 x1z : Int32} (hS : SM S V) (h_a0 : Ad S a0 a0v) (e_x1 : x1 = x1z) (hQ : gd (ev_X9_living n V a0v x1z) (SQ Q S) (SX QX S)) : wp_X9_living Q QX S a0 x1 := by
  subst e_x1
  exact sX9_living_0 n hS Ex_rf h_a0 hQ
def eX9_conditions_33 (n : Nat) (V : VS) (y1 : Int32) (y2 : Int32) : Rs Int32 := (if y1 ≤ 0 then (if y2 ≤ 0 then rt 4 V else rt 3 V) else rt 2 V)
set_option maxHeartbeats 4000000 in
set_option maxRecDepth 100000 in
theorem sX9_conditions_33 (n : Nat) {S0 : MS} {Q : Int32 → MS → Prop} {QX : String → MS → Prop} {S : MS} {V : VS} {y1 : Int32} {y2 : Int32} (hS : SM S V) (hx : Ex S0 S) (hQ : gd (eX9_conditions_33 n V y1 y2) (SQ Q S0) (SX QX S0)) : wX9_conditions_33 Q QX S y1 y2 := by
  unfold wX9_conditions_33
  unfold eX9_conditions_33 at hQ
  refine st_if rfl hQ (fun hQ => ?_) (fun hQ => ?_)
  · refine st_if rfl hQ (fun hQ => ?_) (fun hQ => ?_)
    · exact gd_rt hQ _ hS hx
    · exact gd_rt hQ _ hS hx
  · exact gd_rt hQ _ hS hx
def eX9_conditions_0 (n : Nat) (V : VS) (a0v : Nat) : Rs Int32 := bd (ev_X9_hasBegun n V a0v) (fun r2 V1 => (if r2 = 0 then rt 0 V1 else bd (ev_X9_living n V1 a0v 0) (fun r4 V3 => bd (ev_X9_living n V3 a0v 1) (fun r6 V5 => (if r4 ≤ 0 then eX9_conditions_33 n V5 r4 r6 else (if r6 ≤ 0 then eX9_conditions_33 n V5 r4 r6 else rt 1 V5))) th) th)) th
set_option maxHeartbeats 4000000 in
set_option maxRecDepth 100000 in
theorem sX9_conditions_0 (n : Nat) {S0 : MS} {Q : Int32 → MS → Prop} {QX : String → MS → Prop} {S : MS} {V : VS} {a0 a0v : Nat} (hS : SM S V) (hx : Ex S0 S) (h_a0 : Ad S a0 a0v) (hQ : gd (eX9_conditions_0 n V a0v) (SQ Q S0) (SX QX S0)) : wX9_conditions_0 Q QX S a0 := by
  unfold wX9_conditions_0
  unfold eX9_conditions_0 at hQ
  refine sim_X9_hasBegun n hS h_a0 ?_
  refine gd_mono (gd_bd hQ) (fun r2 V1 hQ S1 hS1 xS => ?_) (fun E V9 hQ S9 hS9 xS9 => gd_th hQ S9 hS9 (Ex_tr hx xS9))
  have hx1 : Ex S0 S1 := Ex_tr hx xS
  have h1_a0 := xS _ _ h_a0
  refine st_ifn rfl hQ (fun hQ => ?_) (fun hQ => ?_)
  · refine sim_X9_living n hS1 h1_a0 rfl ?_
    refine gd_mono (gd_bd hQ) (fun r4 V3 hQ S3 hS3 xS => ?_) (fun E V9 hQ S9 hS9 xS9 => gd_th hQ S9 hS9 (Ex_tr hx1 xS9))
    have hx3 : Ex S0 S3 := Ex_tr hx1 xS
    have h3_a0 := xS _ _ h1_a0
    refine sim_X9_living n hS3 h3_a0 rfl ?_
    refine gd_mono (gd_bd hQ) (fun r6 V5 hQ S5 hS5 xS => ?_) (fun E V9 hQ S9 hS9 xS9 => gd_th hQ S9 hS9 (Ex_tr hx3 xS9))
    have hx5 : Ex S0 S5 := Ex_tr hx3 xS
    refine st_if rfl hQ (fun hQ => ?_) (fun hQ => ?_)
    · exact sX9_conditions_33 n hS5 hx5 hQ
    · refine st_if rfl hQ (fun hQ => ?_) (fun hQ => ?_)
      · exact sX9_conditions_33 n hS5 hx5 hQ
      · exact gd_rt hQ _ hS5 hx5
  · exact gd_rt hQ _ hS1 hx1
def ev_X9_conditions (n : Nat) (V : VS) (a0v : Nat) : Rs Int32 := eX9_conditions_0 n V a0v
theorem sim_X9_conditions (n : Nat) {Q : Int32 → MS → Prop} {QX : String → MS → Prop} {S : MS} {V : VS} {a0 a0v : Nat} (hS : SM S V) (h_a0 : Ad S a0 a0v) (hQ : gd (ev_X9_conditions n V a0v) (SQ Q S) (SX QX S)) : wp_X9_conditions Q QX S a0 := by
  exact sX9_conditions_0 n hS Ex_rf h_a0 hQ
def eX9_condition_0 (n : Nat) (V : VS) (a0v : Nat) : Rs Int32 := sq (wI V a0v 0 0) (fun V1 => bd (ev_X9_conditions n V1 a0v) (fun r3 V2 => rt r3 V2) th)
set_option maxHeartbeats 4000000 in
set_option maxRecDepth 100000 in
theorem sX9_condition_0 (n : Nat) {S0 : MS} {Q : Int32 → MS → Prop} {QX : String → MS → Prop} {S : MS} {V : VS} {a0 a0v : Nat} (hS : SM S V) (hx : Ex S0 S) (h_a0 : Ad S a0 a0v) (hQ : gd (eX9_condition_0 n V a0v) (SQ Q S0) (SX QX S0)) : wX9_condition_0 Q QX S a0 := by
  unfold wX9_condition_0
  unfold eX9_condition_0 at hQ
  intro S1 eS
  obtain ⟨V1, hS1, xS, hQ⟩ := st_sI hS h_a0 eS rfl rfl hQ
  have hx1 : Ex S0 S1 := Ex_tr hx xS
  have h1_a0 := xS _ _ h_a0
  refine sim_X9_conditions n hS1 h1_a0 ?_
  refine gd_mono (gd_bd hQ) (fun r3 V2 hQ S2 hS2 xS => ?_) (fun E V9 hQ S9 hS9 xS9 => gd_th hQ S9 hS9 (Ex_tr hx1 xS9))
  have hx2 : Ex S0 S2 := Ex_tr hx1 xS
  exact gd_rt hQ _ hS2 hx2
def ev_X9_condition (n : Nat) (V : VS) (a0v : Nat) : Rs Int32 := eX9_condition_0 n V a0v
theorem sim_X9_condition (n : Nat) {Q : Int32 → MS → Prop} {QX : String → MS → Prop} {S : MS} {V : VS} {a0 a0v : Nat} (hS : SM S V) (h_a0 : Ad S a0 a0v) (hQ : gd (ev_X9_condition n V a0v) (SQ Q S) (SX QX S)) : wp_X9_condition Q QX S a0 := by
  exact sX9_condition_0 n hS Ex_rf h_a0 hQ
def eX9_round_0 (n : Nat) (V : VS) (a0v : Nat) : Rs Int32 := sq (wI V a0v 0 0) (fun V1 => (vR V1 a0v 1).bind (fun a2v => (if gvp_in 156 (vN V1 a2v) = true then rt (vI V1 a2v (156 : Int32).toNatClampNeg) V1 else none)))
set_option maxHeartbeats 4000000 in
set_option maxRecDepth 100000 in
theorem sX9_round_0 (n : Nat) {S0 : MS} {Q : Int32 → MS → Prop} {QX : String → MS → Prop} {S : MS} {V : VS} {a0 a0v : Nat} (hS : SM S V) (hx : Ex S0 S) (h_a0 : Ad S a0 a0v) (hQ : gd (eX9_round_0 n V a0v) (SQ Q S0) (SX QX S0)) : wX9_round_0 Q QX S a0 := by
  unfold wX9_round_0
  unfold eX9_round_0 at hQ
  intro S1 eS
  obtain ⟨V1, hS1, xS, hQ⟩ := st_sI hS h_a0 eS rfl rfl hQ
  have hx1 : Ex S0 S1 := Ex_tr hx xS
  have h1_a0 := xS _ _ h_a0
  refine st_rd hS1 h1_a0 rfl hQ (fun a2 a2v h1_a2 hQ => ?_)
  refine st_gd (fun h => by simp only [SM_N hS1 h1_a2]; exact gvp_in_of h) hQ (fun hQ => ?_)
  simp only [SM_I hS1 h1_a2]
  exact gd_rt hQ _ hS1 hx1
def ev_X9_round (n : Nat) (V : VS) (a0v : Nat) : Rs Int32 := eX9_round_0 n V a0v
theorem sim_X9_round (n : Nat) {Q : Int32 → MS → Prop} {QX : String → MS → Prop} {S : MS} {V : VS} {a0 a0v : Nat} (hS : SM S V) (h_a0 : Ad S a0 a0v) (hQ : gd (ev_X9_round n V a0v) (SQ Q S) (SX QX S)) : wp_X9_round Q QX S a0 := by
  exact sX9_round_0 n hS Ex_rf h_a0 hQ
def eX9_current_14 (n : Nat) (V : VS) (a0v : Nat) (z0 : Int32) (w1v : Nat) : Rs Int32 := sq (wI V w1v 0 z0) (fun V1 => (if (vI V1 a0v 0) = 0 then (vR V1 a0v 1).bind (fun a2v => (if gvp_in 166 (vN V1 a2v) = true then rt (vI V1 a2v (166 : Int32).toNatClampNeg) V1 else none)) else rt 0 V1))
set_option maxHeartbeats 4000000 in
set_option maxRecDepth 100000 in
theorem sX9_current_14 (n : Nat) {S0 : MS} {Q : Int32 → MS → Prop} {QX : String → MS → Prop} {S : MS} {V : VS} {a0 a0v : Nat} {z0 : Int32} {w1 w1v : Nat} (hS : SM S V) (hx : Ex S0 S) (h_a0 : Ad S a0 a0v) (h_w1 : Ad S w1 w1v) (hQ : gd (eX9_current_14 n V a0v z0 w1v) (SQ Q S0) (SX QX S0)) : wX9_current_14 Q QX S a0 z0 w1 := by
  unfold wX9_current_14
  unfold eX9_current_14 at hQ
  intro S1 eS
  obtain ⟨V1, hS1, xS, hQ⟩ := st_sI hS h_w1 eS rfl rfl hQ
  have hx1 : Ex S0 S1 := Ex_tr hx xS
  have h1_a0 := xS _ _ h_a0
  refine st_ifn (show ((mI S1 a0 0) = 0) = ((vI V1 a0v 0) = 0) from by simp only [SM_I hS1 h1_a0]) hQ (fun hQ => ?_) (fun hQ => ?_)
  · exact gd_rt hQ _ hS1 hx1
  · refine st_rd hS1 h1_a0 rfl hQ (fun a2 a2v h1_a2 hQ => ?_)
    refine st_gd (fun h => by simp only [SM_N hS1 h1_a2]; exact gvp_in_of h) hQ (fun hQ => ?_)
    simp only [SM_I hS1 h1_a2]
    exact gd_rt hQ _ hS1 hx1
def eX9_current_0 (n : Nat) (V : VS) (a0v : Nat) : Rs Int32 := bd (ev_X9_conditions n V a0v) (fun r2 V1 => (if r2 = 1 then eX9_current_14 n V1 a0v 0 a0v else eX9_current_14 n V1 a0v 1 a0v)) th
set_option maxHeartbeats 4000000 in
set_option maxRecDepth 100000 in
theorem sX9_current_0 (n : Nat) {S0 : MS} {Q : Int32 → MS → Prop} {QX : String → MS → Prop} {S : MS} {V : VS} {a0 a0v : Nat} (hS : SM S V) (hx : Ex S0 S) (h_a0 : Ad S a0 a0v) (hQ : gd (eX9_current_0 n V a0v) (SQ Q S0) (SX QX S0)) : wX9_current_0 Q QX S a0 := by
  unfold wX9_current_0
  unfold eX9_current_0 at hQ
  refine sim_X9_conditions n hS h_a0 ?_
  refine gd_mono (gd_bd hQ) (fun r2 V1 hQ S1 hS1 xS => ?_) (fun E V9 hQ S9 hS9 xS9 => gd_th hQ S9 hS9 (Ex_tr hx xS9))
  have hx1 : Ex S0 S1 := Ex_tr hx xS
  have h1_a0 := xS _ _ h_a0
  refine st_ifn rfl hQ (fun hQ => ?_) (fun hQ => ?_)
  · exact sX9_current_14 n hS1 hx1 h1_a0 h1_a0 hQ
  · exact sX9_current_14 n hS1 hx1 h1_a0 h1_a0 hQ
def ev_X9_current (n : Nat) (V : VS) (a0v : Nat) : Rs Int32 := eX9_current_0 n V a0v
theorem sim_X9_current (n : Nat) {Q : Int32 → MS → Prop} {QX : String → MS → Prop} {S : MS} {V : VS} {a0 a0v : Nat} (hS : SM S V) (h_a0 : Ad S a0 a0v) (hQ : gd (ev_X9_current n V a0v) (SQ Q S) (SX QX S)) : wp_X9_current Q QX S a0 := by
  exact sX9_current_0 n hS Ex_rf h_a0 hQ
def eX9_order_24 (n : Nat) (V : VS) (a0v : Nat) (y1 : Int32) (z0 : Int32) (w1v : Nat) : Rs Int32 := sq (wI V w1v 0 z0) (fun V1 => (if (vI V1 a0v 0) = 0 then (vR V1 a0v 1).bind (fun a2v => (if gvp_in (158 + y1) (vN V1 a2v) = true then rt (vI V1 a2v ((158 + y1) : Int32).toNatClampNeg) V1 else none)) else rt 0 V1))
set_option maxHeartbeats 4000000 in
set_option maxRecDepth 100000 in
theorem sX9_order_24 (n : Nat) {S0 : MS} {Q : Int32 → MS → Prop} {QX : String → MS → Prop} {S : MS} {V : VS} {a0 a0v : Nat} {y1 : Int32} {z0 : Int32} {w1 w1v : Nat} (hS : SM S V) (hx : Ex S0 S) (h_a0 : Ad S a0 a0v) (h_w1 : Ad S w1 w1v) (hQ : gd (eX9_order_24 n V a0v y1 z0 w1v) (SQ Q S0) (SX QX S0)) : wX9_order_24 Q QX S a0 y1 z0 w1 := by
  unfold wX9_order_24
  unfold eX9_order_24 at hQ
  intro S1 eS
  obtain ⟨V1, hS1, xS, hQ⟩ := st_sI hS h_w1 eS rfl rfl hQ
  have hx1 : Ex S0 S1 := Ex_tr hx xS
  have h1_a0 := xS _ _ h_a0
  refine st_ifn (show ((mI S1 a0 0) = 0) = ((vI V1 a0v 0) = 0) from by simp only [SM_I hS1 h1_a0]) hQ (fun hQ => ?_) (fun hQ => ?_)
  · exact gd_rt hQ _ hS1 hx1
  · refine st_rd hS1 h1_a0 rfl hQ (fun a2 a2v h1_a2 hQ => ?_)
    refine st_gd (fun h => by simp only [SM_N hS1 h1_a2]; exact gvp_in_of h) hQ (fun hQ => ?_)
    simp only [SM_I hS1 h1_a2]
    exact gd_rt hQ _ hS1 hx1
def eX9_order_0 (n : Nat) (V : VS) (a0v : Nat) (x1 : Int32) : Rs Int32 := (vR V a0v 1).bind (fun a1v => (if gvp_in 157 (vN V a1v) = true then bd (ev_X9_isIn n V x1 0 ((vI V a1v (157 : Int32).toNatClampNeg) - 1)) (fun r3 V2 => (if r3 = 0 then eX9_order_24 n V2 a0v x1 1 a0v else eX9_order_24 n V2 a0v x1 0 a0v)) th else none))
set_option maxHeartbeats 4000000 in
set_option maxRecDepth 100000 in
theorem sX9_order_0 (n : Nat) {S0 : MS} {Q : Int32 → MS → Prop} {QX : String → MS → Prop} {S : MS} {V : VS} {a0 a0v : Nat} {x1 : Int32} (hS : SM S V) (hx : Ex S0 S) (h_a0 : Ad S a0 a0v) (hQ : gd (eX9_order_0 n V a0v x1) (SQ Q S0) (SX QX S0)) : wX9_order_0 Q QX S a0 x1 := by
  unfold wX9_order_0
  unfold eX9_order_0 at hQ
  refine st_rd hS h_a0 rfl hQ (fun a1 a1v h_a1 hQ => ?_)
  refine st_gd (fun h => by simp only [SM_N hS h_a1]; exact gvp_in_of h) hQ (fun hQ => ?_)
  refine sim_X9_isIn n hS rfl rfl (show (((mI S a1 (157 : Int32).toNatClampNeg) - 1)) = (((vI V a1v (157 : Int32).toNatClampNeg) - 1)) from by simp only [SM_I hS h_a1]) ?_
  refine gd_mono (gd_bd hQ) (fun r3 V2 hQ S2 hS2 xS => ?_) (fun E V9 hQ S9 hS9 xS9 => gd_th hQ S9 hS9 (Ex_tr hx xS9))
  have hx2 : Ex S0 S2 := Ex_tr hx xS
  have h2_a0 := xS _ _ h_a0
  refine st_if rfl hQ (fun hQ => ?_) (fun hQ => ?_)
  · exact sX9_order_24 n hS2 hx2 h2_a0 h2_a0 hQ
  · exact sX9_order_24 n hS2 hx2 h2_a0 h2_a0 hQ
def ev_X9_order (n : Nat) (V : VS) (a0v : Nat) (x1 : Int32) : Rs Int32 := eX9_order_0 n V a0v x1
theorem sim_X9_order (n : Nat) {Q : Int32 → MS → Prop} {QX : String → MS → Prop} {S : MS} {V : VS} {a0 a0v : Nat} {x1 x1z : Int32} (hS : SM S V) (h_a0 : Ad S a0 a0v) (e_x1 : x1 = x1z) (hQ : gd (ev_X9_order n V a0v x1z) (SQ Q S) (SX QX S)) : wp_X9_order Q QX S a0 x1 := by
  subst e_x1
  exact sX9_order_0 n hS Ex_rf h_a0 hQ
def eX9_roll_0 (n : Nat) (V : VS) (a0v : Nat) (x1 : Int32) : Rs Int32 := (vR V a0v 1).bind (fun a1v => (vR V a0v 1).bind (fun a2v => (if gvp_in 155 (vN V a2v) = true then (if gvp_in 155 (vN V a1v) = true then sq (wI V a1v ((155 : Int32).toNatClampNeg) (((vI V a2v (155 : Int32).toNatClampNeg) * 1103515245) + 12345)) (fun V3 => (vR V3 a0v 1).bind (fun a4v => (if gvp_in 155 (vN V3 a4v) = true then (if ¬ x1 = 0 then rt (((((vI V3 a4v (155 : Int32).toNatClampNeg).toUInt32 >>> ((16 : Int32).toUInt32 &&& Int32.toUInt32 31)).toInt32) - (((vI V3 a4v (155 : Int32).toNatClampNeg).toUInt32 >>> ((16 : Int32).toUInt32 &&& Int32.toUInt32 31)).toInt32) / x1 * x1) + 1) V3 else none) else none))) else none) else none)))
set_option maxHeartbeats 4000000 in
set_option maxRecDepth 100000 in
theorem sX9_roll_0 (n : Nat) {S0 : MS} {Q : Int32 → MS → Prop} {QX : String → MS → Prop} {S : MS} {V : VS} {a0 a0v : Nat} {x1 : Int32} (hS : SM S V) (hx : Ex S0 S) (h_a0 : Ad S a0 a0v) (hQ : gd (eX9_roll_0 n V a0v x1) (SQ Q S0) (SX QX S0)) : wX9_roll_0 Q QX S a0 x1 := by
  unfold wX9_roll_0
  unfold eX9_roll_0 at hQ
  refine st_rd hS h_a0 rfl hQ (fun a1 a1v h_a1 hQ => ?_)
  refine st_rd hS h_a0 rfl hQ (fun a2 a2v h_a2 hQ => ?_)
  refine st_gd (fun h => by simp only [SM_N hS h_a2]; exact gvp_in_of h) hQ (fun hQ => ?_)
  refine st_gd (fun h => by simp only [SM_N hS h_a1]; exact gvp_in_of h) hQ (fun hQ => ?_)
  intro S3 eS
  obtain ⟨V3, hS3, xS, hQ⟩ := st_sI hS h_a1 eS rfl (show ((((mI S a2 (155 : Int32).toNatClampNeg) * 1103515245) + 12345)) = ((((vI V a2v (155 : Int32).toNatClampNeg) * 1103515245) + 12345)) from by simp only [SM_I hS h_a2]) hQ
  have hx3 : Ex S0 S3 := Ex_tr hx xS
  have h3_a0 := xS _ _ h_a0
  refine st_rd hS3 h3_a0 rfl hQ (fun a4 a4v h3_a4 hQ => ?_)
  refine st_gd (fun h => by simp only [SM_N hS3 h3_a4]; exact gvp_in_of h) hQ (fun hQ => ?_)
  refine st_gd (fun h => by exact h) hQ (fun hQ => ?_)
  simp only [SM_I hS3 h3_a4]
  exact gd_rt hQ _ hS3 hx3
def ev_X9_roll (n : Nat) (V : VS) (a0v : Nat) (x1 : Int32) : Rs Int32 := eX9_roll_0 n V a0v x1
theorem sim_X9_roll (n : Nat) {Q : Int32 → MS → Prop} {QX : String → MS → Prop} {S : MS} {V : VS} {a0 a0v : Nat} {x1 x1z : Int32} (hS : SM S V) (h_a0 : Ad S a0 a0v) (e_x1 : x1 = x1z) (hQ : gd (ev_X9_roll n V a0v x1z) (SQ Q S) (SX QX S)) : wp_X9_roll Q QX S a0 x1 := by
  subst e_x1
  exact sX9_roll_0 n hS Ex_rf h_a0 hQ
def eX9_tells_65 (n : Nat) (V : VS) (a0v : Nat) (y1 : Int32) (y2 : Int32) (y3 : Int32) : Rs Unit := (vR V a0v 1).bind (fun a1v => (if gvp_in 168 (vN V a1v) = true then (vR V a0v 1).bind (fun a2v => (if gvp_in (169 + (3 * (vI V a1v (168 : Int32).toNatClampNeg))) (vN V a2v) = true then sq (wI V a2v (((169 + (3 * (vI V a1v (168 : Int32).toNatClampNeg))) : Int32).toNatClampNeg) y1) (fun V3 => (vR V3 a0v 1).bind (fun a4v => (if gvp_in ((169 + (3 * (vI V a1v (168 : Int32).toNatClampNeg))) + 1) (vN V3 a4v) = true then sq (wI V3 a4v ((((169 + (3 * (vI V a1v (168 : Int32).toNatClampNeg))) + 1) : Int32).toNatClampNeg) y2) (fun V5 => (vR V5 a0v 1).bind (fun a6v => (if gvp_in ((169 + (3 * (vI V a1v (168 : Int32).toNatClampNeg))) + 2) (vN V5 a6v) = true then sq (wI V5 a6v ((((169 + (3 * (vI V a1v (168 : Int32).toNatClampNeg))) + 2) : Int32).toNatClampNeg) y3) (fun V7 => (vR V7 a0v 1).bind (fun a8v => (if gvp_in 168 (vN V7 a8v) = true then (if gvp_in 168 (vN V7 a8v) = true then sq (wI V7 a8v ((168 : Int32).toNatClampNeg) ((vI V7 a8v (168 : Int32).toNatClampNeg) + 1)) (fun V9 => rt () V9) else none) else none))) else none))) else none))) else none)) else none))
set_option maxHeartbeats 4000000 in
set_option maxRecDepth 100000 in
theorem sX9_tells_65 (n : Nat) {S0 : MS} {Q : MS → Prop} {QX : String → MS → Prop} {S : MS} {V : VS} {a0 a0v : Nat} {y1 : Int32} {y2 : Int32} {y3 : Int32} (hS : SM S V) (hx : Ex S0 S) (h_a0 : Ad S a0 a0v) (hQ : gd (eX9_tells_65 n V a0v y1 y2 y3) (SU Q S0) (SX QX S0)) : wX9_tells_65 Q QX S a0 y1 y2 y3 := by
  unfold wX9_tells_65
  unfold eX9_tells_65 at hQ
  refine st_rd hS h_a0 rfl hQ (fun a1 a1v h_a1 hQ => ?_)
  refine st_gd (fun h => by simp only [SM_N hS h_a1]; exact gvp_in_of h) hQ (fun hQ => ?_)
  refine st_rd hS h_a0 rfl hQ (fun a2 a2v h_a2 hQ => ?_)
  refine st_gd (fun h => by simp only [SM_I hS h_a1, SM_N hS h_a2]; exact gvp_in_of h) hQ (fun hQ => ?_)
  intro S3 eS
  obtain ⟨V3, hS3, xS, hQ⟩ := st_sI hS h_a2 eS (show (((169 + (3 * (mI S a1 (168 : Int32).toNatClampNeg))) : Int32).toNatClampNeg) = (((169 + (3 * (vI V a1v (168 : Int32).toNatClampNeg))) : Int32).toNatClampNeg) from by simp only [SM_I hS h_a1]) rfl hQ
  have hx3 : Ex S0 S3 := Ex_tr hx xS
  have h3_a0 := xS _ _ h_a0
  have h3_a1 := xS _ _ h_a1
  refine st_rd hS3 h3_a0 rfl hQ (fun a4 a4v h3_a4 hQ => ?_)
  refine st_gd (fun h => by simp only [SM_I hS h_a1, SM_N hS3 h3_a4]; exact gvp_in_of h) hQ (fun hQ => ?_)
  intro S5 eS
  obtain ⟨V5, hS5, xS, hQ⟩ := st_sI hS3 h3_a4 eS (show ((((169 + (3 * (mI S a1 (168 : Int32).toNatClampNeg))) + 1) : Int32).toNatClampNeg) = ((((169 + (3 * (vI V a1v (168 : Int32).toNatClampNeg))) + 1) : Int32).toNatClampNeg) from by simp only [SM_I hS h_a1]) rfl hQ
  have hx5 : Ex S0 S5 := Ex_tr hx3 xS
  have h5_a0 := xS _ _ h3_a0
  have h5_a1 := xS _ _ h3_a1
  refine st_rd hS5 h5_a0 rfl hQ (fun a6 a6v h5_a6 hQ => ?_)
  refine st_gd (fun h => by simp only [SM_I hS h_a1, SM_N hS5 h5_a6]; exact gvp_in_of h) hQ (fun hQ => ?_)
  intro S7 eS
  obtain ⟨V7, hS7, xS, hQ⟩ := st_sI hS5 h5_a6 eS (show ((((169 + (3 * (mI S a1 (168 : Int32).toNatClampNeg))) + 2) : Int32).toNatClampNeg) = ((((169 + (3 * (vI V a1v (168 : Int32).toNatClampNeg))) + 2) : Int32).toNatClampNeg) from by simp only [SM_I hS h_a1]) rfl hQ
  have hx7 : Ex S0 S7 := Ex_tr hx5 xS
  have h7_a0 := xS _ _ h5_a0
  refine st_rd hS7 h7_a0 rfl hQ (fun a8 a8v h7_a8 hQ => ?_)
  refine st_gd (fun h => by simp only [SM_N hS7 h7_a8]; exact gvp_in_of h) hQ (fun hQ => ?_)
  refine st_gd (fun h => by simp only [SM_N hS7 h7_a8]; exact gvp_in_of h) hQ (fun hQ => ?_)
  intro S9 eS
  obtain ⟨V9, hS9, xS, hQ⟩ := st_sI hS7 h7_a8 eS rfl (show (((mI S7 a8 (168 : Int32).toNatClampNeg) + 1)) = (((vI V7 a8v (168 : Int32).toNatClampNeg) + 1)) from by simp only [SM_I hS7 h7_a8]) hQ
  have hx9 : Ex S0 S9 := Ex_tr hx7 xS
  exact gd_rt hQ _ hS9 hx9
def eX9_tells_16 (n : Nat) (k16v : VS → Nat → Int32 → Int32 → Int32 → Int32 → Rs Unit) (V : VS) (a0v : Nat) (y1 : Int32) (y2 : Int32) (y3 : Int32) (y4 : Int32) : Rs Unit := (if 117 ≤ y4 then (vR V a0v 1).bind (fun a1v => (if gvp_in 168 (vN V a1v) = true then (if gvp_in 168 (vN V a1v) = true then sq (wI V a1v ((168 : Int32).toNatClampNeg) ((vI V a1v (168 : Int32).toNatClampNeg) - 1)) (fun V2 => eX9_tells_65 n V2 a0v y1 y2 y3) else none) else none)) else (vR V a0v 1).bind (fun a3v => (vR V a0v 1).bind (fun a4v => (if gvp_in ((169 + y4) + 3) (vN V a4v) = true then (if gvp_in (169 + y4) (vN V a3v) = true then sq (wI V a3v (((169 + y4) : Int32).toNatClampNeg) (vI V a4v (((169 + y4) + 3) : Int32).toNatClampNeg)) (fun V5 => k16v V5 a0v y1 y2 y3 (y4 + 1)) else none) else none))))
set_option maxHeartbeats 4000000 in
set_option maxRecDepth 100000 in
theorem sX9_tells_16 (n : Nat) {S0 : MS} {Q : MS → Prop} {QX : String → MS → Prop} {k16 : MS → Nat → Int32 → Int32 → Int32 → Int32 → Prop} {k16v : VS → Nat → Int32 → Int32 → Int32 → Int32 → Rs Unit} (hk16 : ∀ (S : MS) (V : VS) (p0 p0v : Nat) (p1 : Int32) (p2 : Int32) (p3 : Int32) (p4 : Int32), SM S V → Ex S0 S → Ad S p0 p0v → gd (k16v V p0v p1 p2 p3 p4) (SU Q S0) (SX QX S0) → k16 S p0 p1 p2 p3 p4) {S : MS} {V : VS} {a0 a0v : Nat} {y1 : Int32} {y2 : Int32} {y3 : Int32} {y4 : Int32} (hS : SM S V) (hx : Ex S0 S) (h_a0 : Ad S a0 a0v) (hQ : gd (eX9_tells_16 n k16v V a0v y1 y2 y3 y4) (SU Q S0) (SX QX S0)) : wX9_tells_16 Q QX k16 S a0 y1 y2 y3 y4 := by
  unfold wX9_tells_16
  unfold eX9_tells_16 at hQ
  refine st_if rfl hQ (fun hQ => ?_) (fun hQ => ?_)
  · refine st_rd hS h_a0 rfl hQ (fun a1 a1v h_a1 hQ => ?_)
    refine st_gd (fun h => by simp only [SM_N hS h_a1]; exact gvp_in_of h) hQ (fun hQ => ?_)
    refine st_gd (fun h => by simp only [SM_N hS h_a1]; exact gvp_in_of h) hQ (fun hQ => ?_)
    intro S2 eS
    obtain ⟨V2, hS2, xS, hQ⟩ := st_sI hS h_a1 eS rfl (show (((mI S a1 (168 : Int32).toNatClampNeg) - 1)) = (((vI V a1v (168 : Int32).toNatClampNeg) - 1)) from by simp only [SM_I hS h_a1]) hQ
    have hx2 : Ex S0 S2 := Ex_tr hx xS
    have h2_a0 := xS _ _ h_a0
    exact sX9_tells_65 n hS2 hx2 h2_a0 hQ
  · refine st_rd hS h_a0 rfl hQ (fun a3 a3v h_a3 hQ => ?_)
    refine st_rd hS h_a0 rfl hQ (fun a4 a4v h_a4 hQ => ?_)
    refine st_gd (fun h => by simp only [SM_N hS h_a4]; exact gvp_in_of h) hQ (fun hQ => ?_)
    refine st_gd (fun h => by simp only [SM_N hS h_a3]; exact gvp_in_of h) hQ (fun hQ => ?_)
    intro S5 eS
    obtain ⟨V5, hS5, xS, hQ⟩ := st_sI hS h_a3 eS rfl (show ((mI S a4 (((169 + y4) + 3) : Int32).toNatClampNeg)) = ((vI V a4v (((169 + y4) + 3) : Int32).toNatClampNeg)) from by simp only [SM_I hS h_a4]) hQ
    have hx5 : Ex S0 S5 := Ex_tr hx xS
    have h5_a0 := xS _ _ h_a0
    exact hk16 _ _ _ _ _ _ _ _ hS5 hx5 h5_a0 hQ
def elX9_tells_16 (n : Nat) : Nat → VS → Nat → Int32 → Int32 → Int32 → Int32 → Rs Unit
  | 0 => fun _ _ _ _ _ _ => none
  | m + 1 => fun V a0v y1 y2 y3 y4 => eX9_tells_16 n (elX9_tells_16 n m) V a0v y1 y2 y3 y4
theorem selX9_tells_16 (n : Nat) {S0 : MS} {Q : MS → Prop} {QX : String → MS → Prop} : ∀ (m : Nat), ∀ (S : MS) (V : VS) (p0 p0v : Nat) (p1 : Int32) (p2 : Int32) (p3 : Int32) (p4 : Int32), SM S V → Ex S0 S → Ad S p0 p0v → gd (elX9_tells_16 n m V p0v p1 p2 p3 p4) (SU Q S0) (SX QX S0) → lX9_tells_16 Q QX m S p0 p1 p2 p3 p4 := by
  intro m
  induction m with
  | zero => intro S V p0 p0v p1 p2 p3 p4 hS hx q0 hQ; exact (gd_none hQ).elim
  | succ m ih => intro S V p0 p0v p1 p2 p3 p4 hS hx q0 hQ; exact sX9_tells_16 n ih hS hx q0 hQ
def eX9_tells_0 (n : Nat) (V : VS) (a0v : Nat) (x1 : Int32) (x2 : Int32) (x3 : Int32) : Rs Unit := (vR V a0v 1).bind (fun a1v => (if gvp_in 168 (vN V a1v) = true then (if (vI V a1v (168 : Int32).toNatClampNeg) = 40 then elX9_tells_16 n n V a0v x1 x2 x3 0 else eX9_tells_65 n V a0v x1 x2 x3) else none))
set_option maxHeartbeats 4000000 in
set_option maxRecDepth 100000 in
theorem sX9_tells_0 (n : Nat) {S0 : MS} {Q : MS → Prop} {QX : String → MS → Prop} {S : MS} {V : VS} {a0 a0v : Nat} {x1 : Int32} {x2 : Int32} {x3 : Int32} (hS : SM S V) (hx : Ex S0 S) (h_a0 : Ad S a0 a0v) (hQ : gd (eX9_tells_0 n V a0v x1 x2 x3) (SU Q S0) (SX QX S0)) : wX9_tells_0 Q QX S a0 x1 x2 x3 := by
  unfold wX9_tells_0
  unfold eX9_tells_0 at hQ
  refine st_rd hS h_a0 rfl hQ (fun a1 a1v h_a1 hQ => ?_)
  refine st_gd (fun h => by simp only [SM_N hS h_a1]; exact gvp_in_of h) hQ (fun hQ => ?_)
  refine st_ifn (show ((mI S a1 (168 : Int32).toNatClampNeg) = 40) = ((vI V a1v (168 : Int32).toNatClampNeg) = 40) from by simp only [SM_I hS h_a1]) hQ (fun hQ => ?_) (fun hQ => ?_)
  · exact sX9_tells_65 n hS hx h_a0 hQ
  · refine ⟨n, ?_⟩
    exact selX9_tells_16 n n _ _ _ _ _ _ _ _ hS hx h_a0 hQ
def ev_X9_tells (n : Nat) (V : VS) (a0v : Nat) (x1 : Int32) (x2 : Int32) (x3 : Int32) : Rs Unit := eX9_tells_0 n V a0v x1 x2 x3
theorem sim_X9_tells (n : Nat) {Q : MS → Prop} {QX : String → MS → Prop} {S : MS} {V : VS} {a0 a0v : Nat} {x1 x1z : Int32} {x2 x2z : Int32} {x3 x3z : Int32} (hS : SM S V) (h_a0 : Ad S a0 a0v) (e_x1 : x1 = x1z) (e_x2 : x2 = x2z) (e_x3 : x3 = x3z) (hQ : gd (ev_X9_tells n V a0v x1z x2z x3z) (SU Q S) (SX QX S)) : wp_X9_tells Q QX S a0 x1 x2 x3 := by
  subst e_x1 e_x2 e_x3
  exact sX9_tells_0 n hS Ex_rf h_a0 hQ
def eX9_loses_21 (n : Nat) (V : VS) (z0 : Int32) (z1 : Int32) (z2 : Int32) (w3v : Nat) : Rs Unit := bd (ev_X9_sets n V w3v z2 z1 z0) (fun _ V1 => rt () V1) th
set_option maxHeartbeats 4000000 in
set_option maxRecDepth 100000 in
theorem sX9_loses_21 (n : Nat) {S0 : MS} {Q : MS → Prop} {QX : String → MS → Prop} {S : MS} {V : VS} {z0 : Int32} {z1 : Int32} {z2 : Int32} {w3 w3v : Nat} (hS : SM S V) (hx : Ex S0 S) (h_w3 : Ad S w3 w3v) (hQ : gd (eX9_loses_21 n V z0 z1 z2 w3v) (SU Q S0) (SX QX S0)) : wX9_loses_21 Q QX S z0 z1 z2 w3 := by
  unfold wX9_loses_21
  unfold eX9_loses_21 at hQ
  refine sim_X9_sets n hS h_w3 rfl rfl rfl ?_
  refine gd_mono (gd_bd hQ) (fun _ V1 hQ S1 hS1 xS => ?_) (fun E V9 hQ S9 hS9 xS9 => gd_th hQ S9 hS9 (Ex_tr hx xS9))
  have hx1 : Ex S0 S1 := Ex_tr hx xS
  exact gd_rt hQ _ hS1 hx1
def eX9_loses_0 (n : Nat) (V : VS) (a0v : Nat) (x1 : Int32) (x2 : Int32) : Rs Unit := bd (ev_X9_of n V a0v x1 3) (fun r2 V1 => (if 0 ≤ (r2 - x2) then eX9_loses_21 n V1 (r2 - x2) 3 x1 a0v else eX9_loses_21 n V1 0 3 x1 a0v)) th
set_option maxHeartbeats 4000000 in
set_option maxRecDepth 100000 in
theorem sX9_loses_0 (n : Nat) {S0 : MS} {Q : MS → Prop} {QX : String → MS → Prop} {S : MS} {V : VS} {a0 a0v : Nat} {x1 : Int32} {x2 : Int32} (hS : SM S V) (hx : Ex S0 S) (h_a0 : Ad S a0 a0v) (hQ : gd (eX9_loses_0 n V a0v x1 x2) (SU Q S0) (SX QX S0)) : wX9_loses_0 Q QX S a0 x1 x2 := by
  unfold wX9_loses_0
  unfold eX9_loses_0 at hQ
  refine sim_X9_of n hS h_a0 rfl rfl ?_
  refine gd_mono (gd_bd hQ) (fun r2 V1 hQ S1 hS1 xS => ?_) (fun E V9 hQ S9 hS9 xS9 => gd_th hQ S9 hS9 (Ex_tr hx xS9))
  have hx1 : Ex S0 S1 := Ex_tr hx xS
  have h1_a0 := xS _ _ h_a0
  refine st_if rfl hQ (fun hQ => ?_) (fun hQ => ?_)
  · exact sX9_loses_21 n hS1 hx1 h1_a0 hQ
  · exact sX9_loses_21 n hS1 hx1 h1_a0 hQ
def ev_X9_loses (n : Nat) (V : VS) (a0v : Nat) (x1 : Int32) (x2 : Int32) : Rs Unit := eX9_loses_0 n V a0v x1 x2
theorem sim_X9_loses (n : Nat) {Q : MS → Prop} {QX : String → MS → Prop} {S : MS} {V : VS} {a0 a0v : Nat} {x1 x1z : Int32} {x2 x2z : Int32} (hS : SM S V) (h_a0 : Ad S a0 a0v) (e_x1 : x1 = x1z) (e_x2 : x2 = x2z) (hQ : gd (ev_X9_loses n V a0v x1z x2z) (SU Q S) (SX QX S)) : wp_X9_loses Q QX S a0 x1 x2 := by
  subst e_x1 e_x2
  exact sX9_loses_0 n hS Ex_rf h_a0 hQ
def eX9_dies_0 (n : Nat) (V : VS) (a0v : Nat) (x1 : Int32) : Rs Unit := bd (ev_X9_lives n V a0v x1) (fun r2 V1 => (if r2 = 0 then bd (ev_X9_tells n V1 a0v 4 x1 0) (fun _ V3 => rt () V3) th else rt () V1)) th
set_option maxHeartbeats 4000000 in
set_option maxRecDepth 100000 in
theorem sX9_dies_0 (n : Nat) {S0 : MS} {Q : MS → Prop} {QX : String → MS → Prop} {S : MS} {V : VS} {a0 a0v : Nat} {x1 : Int32} (hS : SM S V) (hx : Ex S0 S) (h_a0 : Ad S a0 a0v) (hQ : gd (eX9_dies_0 n V a0v x1) (SU Q S0) (SX QX S0)) : wX9_dies_0 Q QX S a0 x1 := by
  unfold wX9_dies_0
  unfold eX9_dies_0 at hQ
  refine sim_X9_lives n hS h_a0 rfl ?_
  refine gd_mono (gd_bd hQ) (fun r2 V1 hQ S1 hS1 xS => ?_) (fun E V9 hQ S9 hS9 xS9 => gd_th hQ S9 hS9 (Ex_tr hx xS9))
  have hx1 : Ex S0 S1 := Ex_tr hx xS
  have h1_a0 := xS _ _ h_a0
  refine st_ifn rfl hQ (fun hQ => ?_) (fun hQ => ?_)
  · exact gd_rt hQ _ hS1 hx1
  · refine sim_X9_tells n hS1 h1_a0 rfl rfl rfl ?_
    refine gd_mono (gd_bd hQ) (fun _ V3 hQ S3 hS3 xS => ?_) (fun E V9 hQ S9 hS9 xS9 => gd_th hQ S9 hS9 (Ex_tr hx1 xS9))
    have hx3 : Ex S0 S3 := Ex_tr hx1 xS
    exact gd_rt hQ _ hS3 hx3
def ev_X9_dies (n : Nat) (V : VS) (a0v : Nat) (x1 : Int32) : Rs Unit := eX9_dies_0 n V a0v x1
theorem sim_X9_dies (n : Nat) {Q : MS → Prop} {QX : String → MS → Prop} {S : MS} {V : VS} {a0 a0v : Nat} {x1 x1z : Int32} (hS : SM S V) (h_a0 : Ad S a0 a0v) (e_x1 : x1 = x1z) (hQ : gd (ev_X9_dies n V a0v x1z) (SU Q S) (SX QX S)) : wp_X9_dies Q QX S a0 x1 := by
  subst e_x1
  exact sX9_dies_0 n hS Ex_rf h_a0 hQ
def eX9_begins_157 (n : Nat) (k38v : VS → Nat → Int32 → Rs Unit) (V : VS) (a0v : Nat) (y1 : Int32) (y2 : Int32) : Rs Unit := (vR V a0v 1).bind (fun a1v => (if gvp_in (158 + y2) (vN V a1v) = true then sq (wI V a1v (((158 + y2) : Int32).toNatClampNeg) y1) (fun V2 => (vR V2 a0v 1).bind (fun a3v => (if gvp_in 157 (vN V2 a3v) = true then (if gvp_in 157 (vN V2 a3v) = true then sq (wI V2 a3v ((157 : Int32).toNatClampNeg) ((vI V2 a3v (157 : Int32).toNatClampNeg) + 1)) (fun V4 => k38v V4 a0v (y1 + 1)) else none) else none))) else none))
set_option maxHeartbeats 4000000 in
set_option maxRecDepth 100000 in
theorem sX9_begins_157 (n : Nat) {S0 : MS} {Q : MS → Prop} {QX : String → MS → Prop} {k38 : MS → Nat → Int32 → Prop} {k38v : VS → Nat → Int32 → Rs Unit} (hk38 : ∀ (S : MS) (V : VS) (p0 p0v : Nat) (p1 : Int32), SM S V → Ex S0 S → Ad S p0 p0v → gd (k38v V p0v p1) (SU Q S0) (SX QX S0) → k38 S p0 p1) {S : MS} {V : VS} {a0 a0v : Nat} {y1 : Int32} {y2 : Int32} (hS : SM S V) (hx : Ex S0 S) (h_a0 : Ad S a0 a0v) (hQ : gd (eX9_begins_157 n k38v V a0v y1 y2) (SU Q S0) (SX QX S0)) : wX9_begins_157 Q QX k38 S a0 y1 y2 := by
  unfold wX9_begins_157
  unfold eX9_begins_157 at hQ
  refine st_rd hS h_a0 rfl hQ (fun a1 a1v h_a1 hQ => ?_)
  refine st_gd (fun h => by simp only [SM_N hS h_a1]; exact gvp_in_of h) hQ (fun hQ => ?_)
  intro S2 eS
  obtain ⟨V2, hS2, xS, hQ⟩ := st_sI hS h_a1 eS rfl rfl hQ
  have hx2 : Ex S0 S2 := Ex_tr hx xS
  have h2_a0 := xS _ _ h_a0
  refine st_rd hS2 h2_a0 rfl hQ (fun a3 a3v h2_a3 hQ => ?_)
  refine st_gd (fun h => by simp only [SM_N hS2 h2_a3]; exact gvp_in_of h) hQ (fun hQ => ?_)
  refine st_gd (fun h => by simp only [SM_N hS2 h2_a3]; exact gvp_in_of h) hQ (fun hQ => ?_)
  intro S4 eS
  obtain ⟨V4, hS4, xS, hQ⟩ := st_sI hS2 h2_a3 eS rfl (show (((mI S2 a3 (157 : Int32).toNatClampNeg) + 1)) = (((vI V2 a3v (157 : Int32).toNatClampNeg) + 1)) from by simp only [SM_I hS2 h2_a3]) hQ
  have hx4 : Ex S0 S4 := Ex_tr hx2 xS
  have h4_a0 := xS _ _ h2_a0
  exact hk38 _ _ _ _ _ hS4 hx4 h4_a0 hQ
def eX9_begins_97 (n : Nat) (k38v : VS → Nat → Int32 → Rs Unit) (k97v : VS → Nat → Int32 → Int32 → Rs Unit) (V : VS) (a0v : Nat) (y1 : Int32) (y2 : Int32) : Rs Unit := (if y2 ≤ 0 then eX9_begins_157 n k38v V a0v y1 y2 else (vR V a0v 1).bind (fun a1v => (if gvp_in ((158 + y2) - 1) (vN V a1v) = true then bd (ev_X9_of n V a0v (vI V a1v (((158 + y2) - 1) : Int32).toNatClampNeg) 6) (fun r3 V2 => bd (ev_X9_of n V2 a0v y1 6) (fun r5 V4 => (if r5 ≤ r3 then eX9_begins_157 n k38v V4 a0v y1 y2 else (vR V4 a0v 1).bind (fun a6v => (vR V4 a0v 1).bind (fun a7v => (if gvp_in ((158 + y2) - 1) (vN V4 a7v) = true then (if gvp_in (158 + y2) (vN V4 a6v) = true then sq (wI V4 a6v (((158 + y2) : Int32).toNatClampNeg) (vI V4 a7v (((158 + y2) - 1) : Int32).toNatClampNeg)) (fun V8 => k97v V8 a0v y1 (y2 + (-1))) else none) else none))))) th) th else none)))
set_option maxHeartbeats 4000000 in
set_option maxRecDepth 100000 in
theorem sX9_begins_97 (n : Nat) {S0 : MS} {Q : MS → Prop} {QX : String → MS → Prop} {k38 : MS → Nat → Int32 → Prop} {k38v : VS → Nat → Int32 → Rs Unit} {k97 : MS → Nat → Int32 → Int32 → Prop} {k97v : VS → Nat → Int32 → Int32 → Rs Unit} (hk38 : ∀ (S : MS) (V : VS) (p0 p0v : Nat) (p1 : Int32), SM S V → Ex S0 S → Ad S p0 p0v → gd (k38v V p0v p1) (SU Q S0) (SX QX S0) → k38 S p0 p1) (hk97 : ∀ (S : MS) (V : VS) (p0 p0v : Nat) (p1 : Int32) (p2 : Int32), SM S V → Ex S0 S → Ad S p0 p0v → gd (k97v V p0v p1 p2) (SU Q S0) (SX QX S0) → k97 S p0 p1 p2) {S : MS} {V : VS} {a0 a0v : Nat} {y1 : Int32} {y2 : Int32} (hS : SM S V) (hx : Ex S0 S) (h_a0 : Ad S a0 a0v) (hQ : gd (eX9_begins_97 n k38v k97v V a0v y1 y2) (SU Q S0) (SX QX S0)) : wX9_begins_97 Q QX k38 k97 S a0 y1 y2 := by
  unfold wX9_begins_97
  unfold eX9_begins_97 at hQ
  refine st_if rfl hQ (fun hQ => ?_) (fun hQ => ?_)
  · exact sX9_begins_157 n hk38 hS hx h_a0 hQ
  · refine st_rd hS h_a0 rfl hQ (fun a1 a1v h_a1 hQ => ?_)
    refine st_gd (fun h => by simp only [SM_N hS h_a1]; exact gvp_in_of h) hQ (fun hQ => ?_)
    refine sim_X9_of n hS h_a0 (show ((mI S a1 (((158 + y2) - 1) : Int32).toNatClampNeg)) = ((vI V a1v (((158 + y2) - 1) : Int32).toNatClampNeg)) from by simp only [SM_I hS h_a1]) rfl ?_
    refine gd_mono (gd_bd hQ) (fun r3 V2 hQ S2 hS2 xS => ?_) (fun E V9 hQ S9 hS9 xS9 => gd_th hQ S9 hS9 (Ex_tr hx xS9))
    have hx2 : Ex S0 S2 := Ex_tr hx xS
    have h2_a0 := xS _ _ h_a0
    refine sim_X9_of n hS2 h2_a0 rfl rfl ?_
    refine gd_mono (gd_bd hQ) (fun r5 V4 hQ S4 hS4 xS => ?_) (fun E V9 hQ S9 hS9 xS9 => gd_th hQ S9 hS9 (Ex_tr hx2 xS9))
    have hx4 : Ex S0 S4 := Ex_tr hx2 xS
    have h4_a0 := xS _ _ h2_a0
    refine st_if rfl hQ (fun hQ => ?_) (fun hQ => ?_)
    · exact sX9_begins_157 n hk38 hS4 hx4 h4_a0 hQ
    · refine st_rd hS4 h4_a0 rfl hQ (fun a6 a6v h4_a6 hQ => ?_)
      refine st_rd hS4 h4_a0 rfl hQ (fun a7 a7v h4_a7 hQ => ?_)
      refine st_gd (fun h => by simp only [SM_N hS4 h4_a7]; exact gvp_in_of h) hQ (fun hQ => ?_)
      refine st_gd (fun h => by simp only [SM_N hS4 h4_a6]; exact gvp_in_of h) hQ (fun hQ => ?_)
      intro S8 eS
      obtain ⟨V8, hS8, xS, hQ⟩ := st_sI hS4 h4_a6 eS rfl (show ((mI S4 a7 (((158 + y2) - 1) : Int32).toNatClampNeg)) = ((vI V4 a7v (((158 + y2) - 1) : Int32).toNatClampNeg)) from by simp only [SM_I hS4 h4_a7]) hQ
      have hx8 : Ex S0 S8 := Ex_tr hx4 xS
      have h8_a0 := xS _ _ h4_a0
      exact hk97 _ _ _ _ _ _ hS8 hx8 h8_a0 hQ
def elX9_begins_97 (n : Nat) (k38v : VS → Nat → Int32 → Rs Unit) : Nat → VS → Nat → Int32 → Int32 → Rs Unit
  | 0 => fun _ _ _ _ => none
  | m + 1 => fun V a0v y1 y2 => eX9_begins_97 n k38v (elX9_begins_97 n k38v m) V a0v y1 y2
theorem selX9_begins_97 (n : Nat) {S0 : MS} {Q : MS → Prop} {QX : String → MS → Prop} {k38 : MS → Nat → Int32 → Prop} {k38v : VS → Nat → Int32 → Rs Unit} (hk38 : ∀ (S : MS) (V : VS) (p0 p0v : Nat) (p1 : Int32), SM S V → Ex S0 S → Ad S p0 p0v → gd (k38v V p0v p1) (SU Q S0) (SX QX S0) → k38 S p0 p1) : ∀ (m : Nat), ∀ (S : MS) (V : VS) (p0 p0v : Nat) (p1 : Int32) (p2 : Int32), SM S V → Ex S0 S → Ad S p0 p0v → gd (elX9_begins_97 n k38v m V p0v p1 p2) (SU Q S0) (SX QX S0) → lX9_begins_97 Q QX k38 m S p0 p1 p2 := by
  intro m
  induction m with
  | zero => intro S V p0 p0v p1 p2 hS hx q0 hQ; exact (gd_none hQ).elim
  | succ m ih => intro S V p0 p0v p1 p2 hS hx q0 hQ; exact sX9_begins_97 n hk38 ih hS hx q0 hQ
def eX9_begins_38 (n : Nat) (k38v : VS → Nat → Int32 → Rs Unit) (V : VS) (a0v : Nat) (y1 : Int32) : Rs Unit := (vR V a0v 1).bind (fun a1v => (if gvp_in 66 (vN V a1v) = true then (if (vI V a1v (66 : Int32).toNatClampNeg) ≤ y1 then sq (wI V a0v 16 (-1)) (fun V2 => rt () V2) else bd (ev_X9_sets n V a0v y1 6 0) (fun _ V3 => bd (ev_X9_lives n V3 a0v y1) (fun r5 V4 => (if r5 = 0 then k38v V4 a0v (y1 + 1) else bd (ev_X9_roll n V4 a0v 6) (fun r7 V6 => bd (ev_X9_kindly n V6 a0v y1 5) (fun r9 V8 => bd (ev_X9_sets n V8 a0v y1 6 (r7 + r9)) (fun _ V10 => (vR V10 a0v 1).bind (fun a11v => (if gvp_in 157 (vN V10 a11v) = true then elX9_begins_97 n k38v n V10 a0v y1 (vI V10 a11v (157 : Int32).toNatClampNeg) else none))) th) th) th)) th) th) else none))
set_option maxHeartbeats 4000000 in
set_option maxRecDepth 100000 in
theorem sX9_begins_38 (n : Nat) {S0 : MS} {Q : MS → Prop} {QX : String → MS → Prop} {k38 : MS → Nat → Int32 → Prop} {k38v : VS → Nat → Int32 → Rs Unit} (hk38 : ∀ (S : MS) (V : VS) (p0 p0v : Nat) (p1 : Int32), SM S V → Ex S0 S → Ad S p0 p0v → gd (k38v V p0v p1) (SU Q S0) (SX QX S0) → k38 S p0 p1) {S : MS} {V : VS} {a0 a0v : Nat} {y1 : Int32} (hS : SM S V) (hx : Ex S0 S) (h_a0 : Ad S a0 a0v) (hQ : gd (eX9_begins_38 n k38v V a0v y1) (SU Q S0) (SX QX S0)) : wX9_begins_38 Q QX k38 S a0 y1 := by
  unfold wX9_begins_38
  unfold eX9_begins_38 at hQ
  refine st_rd hS h_a0 rfl hQ (fun a1 a1v h_a1 hQ => ?_)
  refine st_gd (fun h => by simp only [SM_N hS h_a1]; exact gvp_in_of h) hQ (fun hQ => ?_)
  refine st_if (show ((mI S a1 (66 : Int32).toNatClampNeg) ≤ y1) = ((vI V a1v (66 : Int32).toNatClampNeg) ≤ y1) from by simp only [SM_I hS h_a1]) hQ (fun hQ => ?_) (fun hQ => ?_)
  · intro S2 eS
    obtain ⟨V2, hS2, xS, hQ⟩ := st_sI hS h_a0 eS rfl rfl hQ
    have hx2 : Ex S0 S2 := Ex_tr hx xS
    exact gd_rt hQ _ hS2 hx2
  · refine sim_X9_sets n hS h_a0 rfl rfl rfl ?_
    refine gd_mono (gd_bd hQ) (fun _ V3 hQ S3 hS3 xS => ?_) (fun E V9 hQ S9 hS9 xS9 => gd_th hQ S9 hS9 (Ex_tr hx xS9))
    have hx3 : Ex S0 S3 := Ex_tr hx xS
    have h3_a0 := xS _ _ h_a0
    refine sim_X9_lives n hS3 h3_a0 rfl ?_
    refine gd_mono (gd_bd hQ) (fun r5 V4 hQ S4 hS4 xS => ?_) (fun E V9 hQ S9 hS9 xS9 => gd_th hQ S9 hS9 (Ex_tr hx3 xS9))
    have hx4 : Ex S0 S4 := Ex_tr hx3 xS
    have h4_a0 := xS _ _ h3_a0
    refine st_ifn rfl hQ (fun hQ => ?_) (fun hQ => ?_)
    · refine sim_X9_roll n hS4 h4_a0 rfl ?_
      refine gd_mono (gd_bd hQ) (fun r7 V6 hQ S6 hS6 xS => ?_) (fun E V9 hQ S9 hS9 xS9 => gd_th hQ S9 hS9 (Ex_tr hx4 xS9))
      have hx6 : Ex S0 S6 := Ex_tr hx4 xS
      have h6_a0 := xS _ _ h4_a0
      refine sim_X9_kindly n hS6 h6_a0 rfl rfl ?_
      refine gd_mono (gd_bd hQ) (fun r9 V8 hQ S8 hS8 xS => ?_) (fun E V9 hQ S9 hS9 xS9 => gd_th hQ S9 hS9 (Ex_tr hx6 xS9))
      have hx8 : Ex S0 S8 := Ex_tr hx6 xS
      have h8_a0 := xS _ _ h6_a0
      refine sim_X9_sets n hS8 h8_a0 rfl rfl rfl ?_
      refine gd_mono (gd_bd hQ) (fun _ V10 hQ S10 hS10 xS => ?_) (fun E V9 hQ S9 hS9 xS9 => gd_th hQ S9 hS9 (Ex_tr hx8 xS9))
      have hx10 : Ex S0 S10 := Ex_tr hx8 xS
      have h10_a0 := xS _ _ h8_a0
      refine st_rd hS10 h10_a0 rfl hQ (fun a11 a11v h10_a11 hQ => ?_)
      refine st_gd (fun h => by simp only [SM_N hS10 h10_a11]; exact gvp_in_of h) hQ (fun hQ => ?_)
      refine ⟨n, ?_⟩
      simp only [SM_I hS10 h10_a11]
      exact selX9_begins_97 n hk38 n _ _ _ _ _ _ hS10 hx10 h10_a0 hQ
    · exact hk38 _ _ _ _ _ hS4 hx4 h4_a0 hQ
def elX9_begins_38 (n : Nat) : Nat → VS → Nat → Int32 → Rs Unit
  | 0 => fun _ _ _ => none
  | m + 1 => fun V a0v y1 => eX9_begins_38 n (elX9_begins_38 n m) V a0v y1
theorem selX9_begins_38 (n : Nat) {S0 : MS} {Q : MS → Prop} {QX : String → MS → Prop} : ∀ (m : Nat), ∀ (S : MS) (V : VS) (p0 p0v : Nat) (p1 : Int32), SM S V → Ex S0 S → Ad S p0 p0v → gd (elX9_begins_38 n m V p0v p1) (SU Q S0) (SX QX S0) → lX9_begins_38 Q QX m S p0 p1 := by
  intro m
  induction m with
  | zero => intro S V p0 p0v p1 hS hx q0 hQ; exact (gd_none hQ).elim
  | succ m ih => intro S V p0 p0v p1 hS hx q0 hQ; exact sX9_begins_38 n ih hS hx q0 hQ
def eX9_begins_0 (n : Nat) (V : VS) (a0v : Nat) : Rs Unit := (vR V a0v 1).bind (fun a1v => (if gvp_in 156 (vN V a1v) = true then (if gvp_in 156 (vN V a1v) = true then sq (wI V a1v ((156 : Int32).toNatClampNeg) ((vI V a1v (156 : Int32).toNatClampNeg) + 1)) (fun V2 => (vR V2 a0v 1).bind (fun a3v => (if gvp_in 156 (vN V2 a3v) = true then bd (ev_X9_tells n V2 a0v 9 (-1) (vI V2 a3v (156 : Int32).toNatClampNeg)) (fun _ V4 => (vR V4 a0v 1).bind (fun a5v => (if gvp_in 157 (vN V4 a5v) = true then sq (wI V4 a5v ((157 : Int32).toNatClampNeg) 0) (fun V6 => elX9_begins_38 n n V6 a0v 0) else none))) th else none))) else none) else none))
set_option maxHeartbeats 4000000 in
set_option maxRecDepth 100000 in
theorem sX9_begins_0 (n : Nat) {S0 : MS} {Q : MS → Prop} {QX : String → MS → Prop} {S : MS} {V : VS} {a0 a0v : Nat} (hS : SM S V) (hx : Ex S0 S) (h_a0 : Ad S a0 a0v) (hQ : gd (eX9_begins_0 n V a0v) (SU Q S0) (SX QX S0)) : wX9_begins_0 Q QX S a0 := by
  unfold wX9_begins_0
  unfold eX9_begins_0 at hQ
  refine st_rd hS h_a0 rfl hQ (fun a1 a1v h_a1 hQ => ?_)
  refine st_gd (fun h => by simp only [SM_N hS h_a1]; exact gvp_in_of h) hQ (fun hQ => ?_)
  refine st_gd (fun h => by simp only [SM_N hS h_a1]; exact gvp_in_of h) hQ (fun hQ => ?_)
  intro S2 eS
  obtain ⟨V2, hS2, xS, hQ⟩ := st_sI hS h_a1 eS rfl (show (((mI S a1 (156 : Int32).toNatClampNeg) + 1)) = (((vI V a1v (156 : Int32).toNatClampNeg) + 1)) from by simp only [SM_I hS h_a1]) hQ
  have hx2 : Ex S0 S2 := Ex_tr hx xS
  have h2_a0 := xS _ _ h_a0
  refine st_rd hS2 h2_a0 rfl hQ (fun a3 a3v h2_a3 hQ => ?_)
  refine st_gd (fun h => by simp only [SM_N hS2 h2_a3]; exact gvp_in_of h) hQ (fun hQ => ?_)
  refine sim_X9_tells n hS2 h2_a0 rfl rfl (show ((mI S2 a3 (156 : Int32).toNatClampNeg)) = ((vI V2 a3v (156 : Int32).toNatClampNeg)) from by simp only [SM_I hS2 h2_a3]) ?_
  refine gd_mono (gd_bd hQ) (fun _ V4 hQ S4 hS4 xS => ?_) (fun E V9 hQ S9 hS9 xS9 => gd_th hQ S9 hS9 (Ex_tr hx2 xS9))
  have hx4 : Ex S0 S4 := Ex_tr hx2 xS
  have h4_a0 := xS _ _ h2_a0
  refine st_rd hS4 h4_a0 rfl hQ (fun a5 a5v h4_a5 hQ => ?_)
  refine st_gd (fun h => by simp only [SM_N hS4 h4_a5]; exact gvp_in_of h) hQ (fun hQ => ?_)
  intro S6 eS
  obtain ⟨V6, hS6, xS, hQ⟩ := st_sI hS4 h4_a5 eS rfl rfl hQ
  have hx6 : Ex S0 S6 := Ex_tr hx4 xS
  have h6_a0 := xS _ _ h4_a0
  refine ⟨n, ?_⟩
  exact selX9_begins_38 n n _ _ _ _ _ hS6 hx6 h6_a0 hQ
def ev_X9_begins (n : Nat) (V : VS) (a0v : Nat) : Rs Unit := eX9_begins_0 n V a0v
theorem sim_X9_begins (n : Nat) {Q : MS → Prop} {QX : String → MS → Prop} {S : MS} {V : VS} {a0 a0v : Nat} (hS : SM S V) (h_a0 : Ad S a0 a0v) (hQ : gd (ev_X9_begins n V a0v) (SU Q S) (SX QX S)) : wp_X9_begins Q QX S a0 := by
  exact sX9_begins_0 n hS Ex_rf h_a0 hQ
def eX9_placeOfTurn_2 (n : Nat) (k2v : VS → Nat → Int32 → Rs Int32) (V : VS) (a0v : Nat) (y1 : Int32) : Rs Int32 := (vR V a0v 1).bind (fun a1v => (if gvp_in 157 (vN V a1v) = true then (if (vI V a1v (157 : Int32).toNatClampNeg) ≤ y1 then rt (-1) V else (vR V a0v 1).bind (fun a2v => (if gvp_in (158 + y1) (vN V a2v) = true then (vR V a0v 1).bind (fun a3v => (if gvp_in 166 (vN V a3v) = true then (if (vI V a2v ((158 + y1) : Int32).toNatClampNeg) = (vI V a3v (166 : Int32).toNatClampNeg) then rt y1 V else k2v V a0v (y1 + 1)) else none)) else none))) else none))
set_option maxHeartbeats 4000000 in
set_option maxRecDepth 100000 in
theorem sX9_placeOfTurn_2 (n : Nat) {S0 : MS} {Q : Int32 → MS → Prop} {QX : String → MS → Prop} {k2 : MS → Nat → Int32 → Prop} {k2v : VS → Nat → Int32 → Rs Int32} (hk2 : ∀ (S : MS) (V : VS) (p0 p0v : Nat) (p1 : Int32), SM S V → Ex S0 S → Ad S p0 p0v → gd (k2v V p0v p1) (SQ Q S0) (SX QX S0) → k2 S p0 p1) {S : MS} {V : VS} {a0 a0v : Nat} {y1 : Int32} (hS : SM S V) (hx : Ex S0 S) (h_a0 : Ad S a0 a0v) (hQ : gd (eX9_placeOfTurn_2 n k2v V a0v y1) (SQ Q S0) (SX QX S0)) : wX9_placeOfTurn_2 Q QX k2 S a0 y1 := by
  unfold wX9_placeOfTurn_2
  unfold eX9_placeOfTurn_2 at hQ
  refine st_rd hS h_a0 rfl hQ (fun a1 a1v h_a1 hQ => ?_)
  refine st_gd (fun h => by simp only [SM_N hS h_a1]; exact gvp_in_of h) hQ (fun hQ => ?_)
  refine st_if (show ((mI S a1 (157 : Int32).toNatClampNeg) ≤ y1) = ((vI V a1v (157 : Int32).toNatClampNeg) ≤ y1) from by simp only [SM_I hS h_a1]) hQ (fun hQ => ?_) (fun hQ => ?_)
  · exact gd_rt hQ _ hS hx
  · refine st_rd hS h_a0 rfl hQ (fun a2 a2v h_a2 hQ => ?_)
    refine st_gd (fun h => by simp only [SM_N hS h_a2]; exact gvp_in_of h) hQ (fun hQ => ?_)
    refine st_rd hS h_a0 rfl hQ (fun a3 a3v h_a3 hQ => ?_)
    refine st_gd (fun h => by simp only [SM_N hS h_a3]; exact gvp_in_of h) hQ (fun hQ => ?_)
    refine st_ifn (show ((mI S a2 ((158 + y1) : Int32).toNatClampNeg) = (mI S a3 (166 : Int32).toNatClampNeg)) = ((vI V a2v ((158 + y1) : Int32).toNatClampNeg) = (vI V a3v (166 : Int32).toNatClampNeg)) from by simp only [SM_I hS h_a2, SM_I hS h_a3]) hQ (fun hQ => ?_) (fun hQ => ?_)
    · exact hk2 _ _ _ _ _ hS hx h_a0 hQ
    · exact gd_rt hQ _ hS hx
def elX9_placeOfTurn_2 (n : Nat) : Nat → VS → Nat → Int32 → Rs Int32
  | 0 => fun _ _ _ => none
  | m + 1 => fun V a0v y1 => eX9_placeOfTurn_2 n (elX9_placeOfTurn_2 n m) V a0v y1
theorem selX9_placeOfTurn_2 (n : Nat) {S0 : MS} {Q : Int32 → MS → Prop} {QX : String → MS → Prop} : ∀ (m : Nat), ∀ (S : MS) (V : VS) (p0 p0v : Nat) (p1 : Int32), SM S V → Ex S0 S → Ad S p0 p0v → gd (elX9_placeOfTurn_2 n m V p0v p1) (SQ Q S0) (SX QX S0) → lX9_placeOfTurn_2 Q QX m S p0 p1 := by
  intro m
  induction m with
  | zero => intro S V p0 p0v p1 hS hx q0 hQ; exact (gd_none hQ).elim
  | succ m ih => intro S V p0 p0v p1 hS hx q0 hQ; exact sX9_placeOfTurn_2 n ih hS hx q0 hQ
def eX9_placeOfTurn_0 (n : Nat) (V : VS) (a0v : Nat) : Rs Int32 := elX9_placeOfTurn_2 n n V a0v 0
set_option maxHeartbeats 4000000 in
set_option maxRecDepth 100000 in
theorem sX9_placeOfTurn_0 (n : Nat) {S0 : MS} {Q : Int32 → MS → Prop} {QX : String → MS → Prop} {S : MS} {V : VS} {a0 a0v : Nat} (hS : SM S V) (hx : Ex S0 S) (h_a0 : Ad S a0 a0v) (hQ : gd (eX9_placeOfTurn_0 n V a0v) (SQ Q S0) (SX QX S0)) : wX9_placeOfTurn_0 Q QX S a0 := by
  unfold wX9_placeOfTurn_0
  unfold eX9_placeOfTurn_0 at hQ
  refine ⟨n, ?_⟩
  exact selX9_placeOfTurn_2 n n _ _ _ _ _ hS hx h_a0 hQ
def ev_X9_placeOfTurn (n : Nat) (V : VS) (a0v : Nat) : Rs Int32 := eX9_placeOfTurn_0 n V a0v
theorem sim_X9_placeOfTurn (n : Nat) {Q : Int32 → MS → Prop} {QX : String → MS → Prop} {S : MS} {V : VS} {a0 a0v : Nat} (hS : SM S V) (h_a0 : Ad S a0 a0v) (hQ : gd (ev_X9_placeOfTurn n V a0v) (SQ Q S) (SX QX S)) : wp_X9_placeOfTurn Q QX S a0 := by
  exact sX9_placeOfTurn_0 n hS Ex_rf h_a0 hQ
