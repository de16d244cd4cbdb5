def eX9_storeHealths_58 (n : Nat) (k58v : VS → Nat → Int32 → Int32 → Rs Int32) (V : VS) (a0v : Nat) (y1 : Int32) (y3 : Int32) : Rs Int32 := (vR V a0v 1).bind (fun a1v => (if gvp_in 66 (vN V a1v) = true then (if (vI V a1v (66 : Int32).toNatClampNeg) ≤ y3 then (vR V a0v 1).bind (fun a2v => (if gvp_in 66 (vN V a2v) = true then rt (vI V a2v (66 : Int32).toNatClampNeg) V else none)) else (vR V a0v 19).bind (fun a3v => bd (ev_X9_of n V a0v y3 3) (fun r5 V4 => (if gvp_in ((8 * y1) + y3) (vN V4 a3v) = true then sq (wI V4 a3v ((((8 * y1) + y3) : Int32).toNatClampNeg) r5) (fun V6 => (vR V6 a0v 22).bind (fun a7v => bd (ev_X9_of n V6 a0v y3 3) (fun r9 V8 => bd (ev_X9_kindly n V8 a0v y3 0) (fun r11 V10 => (if gvf_n32 (FP.fdiv (FP.i2f r9) (FP.i2f r11)) = true then (if gvp_in ((8 * y1) + y3) (vN V10 a7v) = true then sq (wF V10 a7v ((((8 * y1) + y3) : Int32).toNatClampNeg) (FP.fdiv (FP.i2f r9) (FP.i2f r11))) (fun V12 => k58v V12 a0v y1 (y3 + 1)) else none) else none)) th) th)) else none)) th)) else none))
set_option maxHeartbeats 4000000 in
set_option maxRecDepth 100000 in
theorem sX9_storeHealths_58 (n : Nat) {S0 : MS} {Q : Int32 → MS → Prop} {QX : String → MS → Prop} {k58 : MS → Nat → Int32 → Int32 → Prop} {k58v : VS → Nat → Int32 → Int32 → Rs Int32} (hk58 : ∀ (S : MS) (V : VS) (p0 p0v : Nat) (p1 : Int32) (p2 : Int32), SM S V → Ex S0 S → Ad S p0 p0v → gd (k58v V p0v p1 p2) (SQ Q S0) (SX QX S0) → k58 S p0 p1 p2) {S : MS} {V : VS} {a0 a0v : Nat} {y1 : Int32} {y3 : Int32} (hS : SM S V) (hx : Ex S0 S) (h_a0 : Ad S a0 a0v) (hQ : gd (eX9_storeHealths_58 n k58v V a0v y1 y3) (SQ Q S0) (SX QX S0)) : wX9_storeHealths_58 Q QX k58 S a0 y1 y3 := by
  unfold wX9_storeHealths_58
  unfold eX9_storeHealths_58 at hQ
  refine st_rd hS h_a0 rfl hQ (fun a1 a1v h_a1 hQ => ?_)
  refine st_gd (fun h => by simp only [SM_N hS h_a1]; exact gvp_in_of h) hQ (fun hQ => ?_)
  refine st_if (show ((mI S a1 (66 : Int32).toNatClampNeg) ≤ y3) = ((vI V a1v (66 : Int32).toNatClampNeg) ≤ y3) from by simp only [SM_I hS h_a1]) hQ (fun hQ => ?_) (fun hQ => ?_)
  · refine st_rd hS h_a0 rfl hQ (fun a2 a2v h_a2 hQ => ?_)
    refine st_gd (fun h => by simp only [SM_N hS h_a2]; exact gvp_in_of h) hQ (fun hQ => ?_)
    simp only [SM_I hS h_a2]
    exact gd_rt hQ _ hS hx
  · refine st_rd hS h_a0 rfl hQ (fun a3 a3v h_a3 hQ => ?_)
    refine sim_X9_of n hS h_a0 rfl rfl ?_
    refine gd_mono (gd_bd hQ) (fun r5 V4 hQ S4 hS4 xS => ?_) (fun E V9 hQ S9 hS9 xS9 => gd_th hQ S9 hS9 (Ex_tr hx xS9))
    have hx4 : Ex S0 S4 := Ex_tr hx xS
    have h4_a0 := xS _ _ h_a0
    have h4_a3 := xS _ _ h_a3
    refine st_gd (fun h => by simp only [SM_N hS4 h4_a3]; exact gvp_in_of h) hQ (fun hQ => ?_)
    intro S6 eS
    obtain ⟨V6, hS6, xS, hQ⟩ := st_sI hS4 h4_a3 eS rfl rfl hQ
    have hx6 : Ex S0 S6 := Ex_tr hx4 xS
    have h6_a0 := xS _ _ h4_a0
    refine st_rd hS6 h6_a0 rfl hQ (fun a7 a7v h6_a7 hQ => ?_)
    refine sim_X9_of n hS6 h6_a0 rfl rfl ?_
    refine gd_mono (gd_bd hQ) (fun r9 V8 hQ S8 hS8 xS => ?_) (fun E V9 hQ S9 hS9 xS9 => gd_th hQ S9 hS9 (Ex_tr hx6 xS9))
    have hx8 : Ex S0 S8 := Ex_tr hx6 xS
    have h8_a0 := xS _ _ h6_a0
    have h8_a7 := xS _ _ h6_a7
    refine sim_X9_kindly n hS8 h8_a0 rfl rfl ?_
    refine gd_mono (gd_bd hQ) (fun r11 V10 hQ S10 hS10 xS => ?_) (fun E V9 hQ S9 hS9 xS9 => gd_th hQ S9 hS9 (Ex_tr hx8 xS9))
    have hx10 : Ex S0 S10 := Ex_tr hx8 xS
    have h10_a0 := xS _ _ h8_a0
    have h10_a7 := xS _ _ h8_a7
    refine st_gd (fun h => by exact gvf_n32_of h) hQ (fun hQ => ?_)
    refine st_gd (fun h => by simp only [SM_N hS10 h10_a7]; exact gvp_in_of h) hQ (fun hQ => ?_)
    intro S12 eS
    obtain ⟨V12, hS12, xS, hQ⟩ := st_sF hS10 h10_a7 eS rfl rfl hQ
    have hx12 : Ex S0 S12 := Ex_tr hx10 xS
    have h12_a0 := xS _ _ h10_a0
    exact hk58 _ _ _ _ _ _ hS12 hx12 h12_a0 hQ
def elX9_storeHealths_58 (n : Nat) : Nat → VS → Nat → Int32 → Int32 → Rs Int32
  | 0 => fun _ _ _ _ => none
  | m + 1 => fun V a0v y1 y3 => eX9_storeHealths_58 n (elX9_storeHealths_58 n m) V a0v y1 y3
theorem selX9_storeHealths_58 (n : Nat) {S0 : MS} {Q : Int32 → MS → Prop} {QX : String → MS → Prop} : ∀ (m : Nat), ∀ (S : MS) (V : VS) (p0 p0v : Nat) (p1 : Int32) (p2 : Int32), SM S V → Ex S0 S → Ad S p0 p0v → gd (elX9_storeHealths_58 n m V p0v p1 p2) (SQ Q S0) (SX QX S0) → lX9_storeHealths_58 Q QX m S p0 p1 p2 := by
  intro m
  induction m with
  | zero => intro S V p0 p0v p1 p2 hS hx q0 hQ; exact (gd_none hQ).elim
  | succ m ih => intro S V p0 p0v p1 p2 hS hx q0 hQ; exact sX9_storeHealths_58 n ih hS hx q0 hQ
def eX9_storeHealths_42 (n : Nat) (V : VS) (a0v : Nat) (y1 : Int32) (z0 : Int32) (z1 : Int32) (w2v : Nat) : Rs Int32 := (if gvp_in z1 (vN V w2v) = true then sq (wI V w2v ((z1 : Int32).toNatClampNeg) z0) (fun V1 => (vR V1 a0v 20).bind (fun a2v => (vR V1 a0v 1).bind (fun a3v => (if gvp_in 66 (vN V1 a3v) = true then (if gvp_in y1 (vN V1 a2v) = true then sq (wI V1 a2v ((y1 : Int32).toNatClampNeg) (vI V1 a3v (66 : Int32).toNatClampNeg)) (fun V4 => elX9_storeHealths_58 n n V4 a0v y1 0) else none) else none)))) else none)
set_option maxHeartbeats 4000000 in
set_option maxRecDepth 100000 in
theorem sX9_storeHealths_42 (n : Nat) {S0 : MS} {Q : Int32 → MS → Prop} {QX : String → MS → Prop} {S : MS} {V : VS} {a0 a0v : Nat} {y1 : Int32} {z0 : Int32} {z1 : Int32} {w2 w2v : Nat} (hS : SM S V) (hx : Ex S0 S) (h_a0 : Ad S a0 a0v) (h_w2 : Ad S w2 w2v) (hQ : gd (eX9_storeHealths_42 n V a0v y1 z0 z1 w2v) (SQ Q S0) (SX QX S0)) : wX9_storeHealths_42 Q QX S a0 y1 z0 z1 w2 := by
  unfold wX9_storeHealths_42
  unfold eX9_storeHealths_42 at hQ
  refine st_gd (fun h => by simp only [SM_N hS h_w2]; exact gvp_in_of h) hQ (fun hQ => ?_)
  intro S1 eS
  obtain ⟨V1, hS1, xS, hQ⟩ := st_sI hS h_w2 eS rfl rfl hQ
  have hx1 : Ex S0 S1 := Ex_tr hx xS
  have h1_a0 := xS _ _ h_a0
  refine st_rd hS1 h1_a0 rfl hQ (fun a2 a2v h1_a2 hQ => ?_)
  refine st_rd hS1 h1_a0 rfl hQ (fun a3 a3v h1_a3 hQ => ?_)
  refine st_gd (fun h => by simp only [SM_N hS1 h1_a3]; exact gvp_in_of h) hQ (fun hQ => ?_)
  refine st_gd (fun h => by simp only [SM_N hS1 h1_a2]; exact gvp_in_of h) hQ (fun hQ => ?_)
  intro S4 eS
  obtain ⟨V4, hS4, xS, hQ⟩ := st_sI hS1 h1_a2 eS rfl (show ((mI S1 a3 (66 : Int32).toNatClampNeg)) = ((vI V1 a3v (66 : Int32).toNatClampNeg)) from by simp only [SM_I hS1 h1_a3]) hQ
  have hx4 : Ex S0 S4 := Ex_tr hx1 xS
  have h4_a0 := xS _ _ h1_a0
  refine ⟨n, ?_⟩
  exact selX9_storeHealths_58 n n _ _ _ _ _ _ hS4 hx4 h4_a0 hQ
def eX9_storeHealths_15 (n : Nat) (V : VS) (a0v : Nat) (y1 : Int32) (y2 : Int32) (z0 : Int32) (w1v : Nat) : Rs Int32 := sq (wI V w1v 0 z0) (fun V1 => (if (vI V1 a0v 0) = 1 then rt 0 V1 else (vR V1 a0v 21).bind (fun a2v => (if y2 = 0 then eX9_storeHealths_42 n V1 a0v y1 2 y1 a2v else eX9_storeHealths_42 n V1 a0v y1 1 y1 a2v))))
set_option maxHeartbeats 4000000 in
set_option maxRecDepth 100000 in
theorem sX9_storeHealths_15 (n : Nat) {S0 : MS} {Q : Int32 → MS → Prop} {QX : String → MS → Prop} {S : MS} {V : VS} {a0 a0v : Nat} {y1 : Int32} {y2 : Int32} {z0 : Int32} {w1 w1v : Nat} (hS : SM S V) (hx : Ex S0 S) (h_a0 : Ad S a0 a0v) (h_w1 : Ad S w1 w1v) (hQ : gd (eX9_storeHealths_15 n V a0v y1 y2 z0 w1v) (SQ Q S0) (SX QX S0)) : wX9_storeHealths_15 Q QX S a0 y1 y2 z0 w1 := by
  unfold wX9_storeHealths_15
  unfold eX9_storeHealths_15 at hQ
  intro S1 eS
  obtain ⟨V1, hS1, xS, hQ⟩ := st_sI hS h_w1 eS rfl rfl hQ
  have hx1 : Ex S0 S1 := Ex_tr hx xS
  have h1_a0 := xS _ _ h_a0
  refine st_ifn (show ((mI S1 a0 0) = 1) = ((vI V1 a0v 0) = 1) from by simp only [SM_I hS1 h1_a0]) hQ (fun hQ => ?_) (fun hQ => ?_)
  · refine st_rd hS1 h1_a0 rfl hQ (fun a2 a2v h1_a2 hQ => ?_)
    refine st_if rfl hQ (fun hQ => ?_) (fun hQ => ?_)
    · exact sX9_storeHealths_42 n hS1 hx1 h1_a0 h1_a2 hQ
    · exact sX9_storeHealths_42 n hS1 hx1 h1_a0 h1_a2 hQ
  · exact gd_rt hQ _ hS1 hx1
def eX9_storeHealths_0 (n : Nat) (V : VS) (a0v : Nat) (x1 : Int32) (x2 : Int32) : Rs Int32 := bd (ev_X9_isIn n V x1 0 1) (fun r2 V1 => (if r2 = 0 then eX9_storeHealths_15 n V1 a0v x1 x2 1 a0v else eX9_storeHealths_15 n V1 a0v x1 x2 0 a0v)) th
set_option maxHeartbeats 4000000 in
set_option maxRecDepth 100000 in
theorem sX9_storeHealths_0 (n : Nat) {S0 : MS} {Q : Int32 → MS → Prop} {QX : String → MS → Prop} {S : MS} {V : VS} {a0 a0v : Nat} {x1 : Int32} {x2 : Int32} (hS : SM S V) (hx : Ex S0 S) (h_a0 : Ad S a0 a0v) (hQ : gd (eX9_storeHealths_0 n V a0v x1 x2) (SQ Q S0) (SX QX S0)) : wX9_storeHealths_0 Q QX S a0 x1 x2 := by
  unfold wX9_storeHealths_0
  unfold eX9_storeHealths_0 at hQ
  refine sim_X9_isIn n hS rfl rfl rfl ?_
  refine gd_mono (gd_bd hQ) (fun r2 V1 hQ S1 hS1 xS => ?_) (fun E V9 hQ S9 hS9 xS9 => gd_th hQ S9 hS9 (Ex_tr hx xS9))
  have hx1 : Ex S0 S1 := Ex_tr hx xS
  have h1_a0 := xS _ _ h_a0
  refine st_if rfl hQ (fun hQ => ?_) (fun hQ => ?_)
  · exact sX9_storeHealths_15 n hS1 hx1 h1_a0 h1_a0 hQ
  · exact sX9_storeHealths_15 n hS1 hx1 h1_a0 h1_a0 hQ
def ev_X9_storeHealths (n : Nat) (V : VS) (a0v : Nat) (x1 : Int32) (x2 : Int32) : Rs Int32 := eX9_storeHealths_0 n V a0v x1 x2
theorem sim_X9_storeHealths (n : Nat) {Q : Int32 → MS → Prop} {QX : String → MS → Prop} {S : MS} {V : VS} {a0 a0v : Nat} {x1 x1z : Int32} {x2 x2z : Int32} (hS : SM S V) (h_a0 : Ad S a0 a0v) (e_x1 : x1 = x1z) (e_x2 : x2 = x2z) (hQ : gd (ev_X9_storeHealths n V a0v x1z x2z) (SQ Q S) (SX QX S)) : wp_X9_storeHealths Q QX S a0 x1 x2 := by
  subst e_x1 e_x2
  exact sX9_storeHealths_0 n hS Ex_rf h_a0 hQ
def eX9_copyHealths_186 (n : Nat) (k101v : VS → Nat → Int32 → Int32 → Int32 → Int32 → Rs Int32) (V : VS) (a0v : Nat) (y1 : Int32) (y2 : Int32) (y4 : Int32) (y5 : Int32) (y6 : Int32) (z0 : Int32) (z1 : Int32) : Rs Int32 := (vR V a0v 19).bind (fun a1v => (vR V a0v 19).bind (fun a2v => (if gvp_in y5 (vN V a2v) = true then (if gvp_in y6 (vN V a1v) = true then sq (wI V a1v ((y6 : Int32).toNatClampNeg) (vI V a2v (y5 : Int32).toNatClampNeg)) (fun V3 => (vR V3 a0v 22).bind (fun a4v => (vR V3 a0v 22).bind (fun a5v => (if gvp_in y5 (vN V3 a5v) = true then (if gvp_in y6 (vN V3 a4v) = true then sq (wF V3 a4v ((y6 : Int32).toNatClampNeg) (vF V3 a5v (y5 : Int32).toNatClampNeg)) (fun V6 => k101v V6 a0v y1 y2 (z1 ||| z0) (y4 + 1)) else none) else none)))) else none) else none)))
set_option maxHeartbeats 4000000 in
set_option maxRecDepth 100000 in
theorem sX9_copyHealths_186 (n : Nat) {S0 : MS} {Q : Int32 → MS → Prop} {QX : String → MS → Prop} {k101 : MS → Nat → Int32 → Int32 → Int32 → Int32 → Prop} {k101v : VS → Nat → Int32 → Int32 → Int32 → Int32 → Rs Int32} (hk101 : ∀ (S : MS) (V : VS) (p0 p0v : Nat) (p1 : Int32) (p2 : Int32) (p3 : Int32) (p4 : Int32), SM S V → Ex S0 S → Ad S p0 p0v → gd (k101v V p0v p1 p2 p3 p4) (SQ Q S0) (SX QX S0) → k101 S p0 p1 p2 p3 p4) {S : MS} {V : VS} {a0 a0v : Nat} {y1 : Int32} {y2 : Int32} {y4 : Int32} {y5 : Int32} {y6 : Int32} {z0 : Int32} {z1 : Int32} (hS : SM S V) (hx : Ex S0 S) (h_a0 : Ad S a0 a0v) (hQ : gd (eX9_copyHealths_186 n k101v V a0v y1 y2 y4 y5 y6 z0 z1) (SQ Q S0) (SX QX S0)) : wX9_copyHealths_186 Q QX k101 S a0 y1 y2 y4 y5 y6 z0 z1 := by
  unfold wX9_copyHealths_186
  unfold eX9_copyHealths_186 at hQ
  refine st_rd hS h_a0 rfl hQ (fun a1 a1v h_a1 hQ => ?_)
  refine st_rd hS h_a0 rfl hQ (fun a2 a2v h_a2 hQ => ?_)
  refine st_gd (fun h => by simp only [SM_N hS h_a2]; exact gvp_in_of h) hQ (fun hQ => ?_)
  refine st_gd (fun h => by simp only [SM_N hS h_a1]; exact gvp_in_of h) hQ (fun hQ => ?_)
  intro S3 eS
  obtain ⟨V3, hS3, xS, hQ⟩ := st_sI hS h_a1 eS rfl (show ((mI S a2 (y5 : Int32).toNatClampNeg)) = ((vI V a2v (y5 : Int32).toNatClampNeg)) from by simp only [SM_I hS h_a2]) hQ
  have hx3 : Ex S0 S3 := Ex_tr hx xS
  have h3_a0 := xS _ _ h_a0
  refine st_rd hS3 h3_a0 rfl hQ (fun a4 a4v h3_a4 hQ => ?_)
  refine st_rd hS3 h3_a0 rfl hQ (fun a5 a5v h3_a5 hQ => ?_)
  refine st_gd (fun h => by simp only [SM_N hS3 h3_a5]; exact gvp_in_of h) hQ (fun hQ => ?_)
  refine st_gd (fun h => by simp only [SM_N hS3 h3_a4]; exact gvp_in_of h) hQ (fun hQ => ?_)
  intro S6 eS
  obtain ⟨V6, hS6, xS, hQ⟩ := st_sF hS3 h3_a4 eS rfl (show ((mF S3 a5 (y5 : Int32).toNatClampNeg)) = ((vF V3 a5v (y5 : Int32).toNatClampNeg)) from by simp only [SM_F hS3 h3_a5]) hQ
  have hx6 : Ex S0 S6 := Ex_tr hx3 xS
  have h6_a0 := xS _ _ h3_a0
  exact hk101 _ _ _ _ _ _ _ _ hS6 hx6 h6_a0 hQ
def eX9_copyHealths_101 (n : Nat) (k101v : VS → Nat → Int32 → Int32 → Int32 → Int32 → Rs Int32) (V : VS) (a0v : Nat) (y1 : Int32) (y2 : Int32) (y3 : Int32) (y4 : Int32) : Rs Int32 := (if y2 ≤ y4 then (if gisZ y3 = true then rt y3 V else none) else (vR V a0v 21).bind (fun a1v => (if gvp_in 0 (vN V a1v) = true then (if (vI V a1v (0 : Int32).toNatClampNeg) = 1 then (vR V a0v 19).bind (fun a4v => (if gvp_in ((8 * y1) + y4) (vN V a4v) = true then (vR V a0v 19).bind (fun a5v => (if gvp_in ((8 * (1 - y1)) + y4) (vN V a5v) = true then (if (vI V a4v (((8 * y1) + y4) : Int32).toNatClampNeg) = (vI V a5v (((8 * (1 - y1)) + y4) : Int32).toNatClampNeg) then eX9_copyHealths_186 n k101v V a0v y1 y2 y4 ((8 * y1) + y4) ((8 * (1 - y1)) + y4) 0 y3 else eX9_copyHealths_186 n k101v V a0v y1 y2 y4 ((8 * y1) + y4) ((8 * (1 - y1)) + y4) 1 y3) else none)) else none)) else (vR V a0v 22).bind (fun a2v => (if gvp_in ((8 * y1) + y4) (vN V a2v) = true then (vR V a0v 22).bind (fun a3v => (if gvp_in ((8 * (1 - y1)) + y4) (vN V a3v) = true then (if (Op.cmpValue (FP.fcmp (vF V a2v (((8 * y1) + y4) : Int32).toNatClampNeg) (vF V a3v (((8 * (1 - y1)) + y4) : Int32).toNatClampNeg)) CmpOp.l) = 0 then eX9_copyHealths_186 n k101v V a0v y1 y2 y4 ((8 * y1) + y4) ((8 * (1 - y1)) + y4) 0 y3 else eX9_copyHealths_186 n k101v V a0v y1 y2 y4 ((8 * y1) + y4) ((8 * (1 - y1)) + y4) 1 y3) else none)) else none))) else none)))
set_option maxHeartbeats 4000000 in
set_option maxRecDepth 100000 in
theorem sX9_copyHealths_101 (n : Nat) {S0 : MS} {Q : Int32 → MS → Prop} {QX : String → MS → Prop} {k101 : MS → Nat → Int32 → Int32 → Int32 → Int32 → Prop} {k101v : VS → Nat → Int32 → Int32 → Int32 → Int32 → Rs Int32} (hk101 : ∀ (S : MS) (V : VS) (p0 p0v : Nat) (p1 : Int32) (p2 : Int32) (p3 : Int32) (p4 : Int32), SM S V → Ex S0 S → Ad S p0 p0v → gd (k101v V p0v p1 p2 p3 p4) (SQ Q S0) (SX QX S0) → k101 S p0 p1 p2 p3 p4) {S : MS} {V : VS} {a0 a0v : Nat} {y1 : Int32} {y2 : Int32} {y3 : Int32} {y4 : Int32} (hS : SM S V) (hx : Ex S0 S) (h_a0 : Ad S a0 a0v) (hQ : gd (eX9_copyHealths_101 n k101v V a0v y1 y2 y3 y4) (SQ Q S0) (SX QX S0)) : wX9_copyHealths_101 Q QX k101 S a0 y1 y2 y3 y4 := by
  unfold wX9_copyHealths_101
  unfold eX9_copyHealths_101 at hQ
  refine st_if rfl hQ (fun hQ => ?_) (fun hQ => ?_)
  · refine st_gd (fun h => by exact gisZ_of h) hQ (fun hQ => ?_)
    exact gd_rt hQ _ hS hx
  · refine st_rd hS h_a0 rfl hQ (fun a1 a1v h_a1 hQ => ?_)
    refine st_gd (fun h => by simp only [SM_N hS h_a1]; exact gvp_in_of h) hQ (fun hQ => ?_)
    refine st_ifn (show ((mI S a1 (0 : Int32).toNatClampNeg) = 1) = ((vI V a1v (0 : Int32).toNatClampNeg) = 1) from by simp only [SM_I hS h_a1]) hQ (fun hQ => ?_) (fun hQ => ?_)
    · refine st_rd hS h_a0 rfl hQ (fun a2 a2v h_a2 hQ => ?_)
      refine st_gd (fun h => by simp only [SM_N hS h_a2]; exact gvp_in_of h) hQ (fun hQ => ?_)
      refine st_rd hS h_a0 rfl hQ (fun a3 a3v h_a3 hQ => ?_)
      refine st_gd (fun h => by simp only [SM_N hS h_a3]; exact gvp_in_of h) hQ (fun hQ => ?_)
      refine st_if (show ((Op.cmpValue (FP.fcmp (mF S a2 (((8 * y1) + y4) : Int32).toNatClampNeg) (mF S a3 (((8 * (1 - y1)) + y4) : Int32).toNatClampNeg)) CmpOp.l) = 0) = ((Op.cmpValue (FP.fcmp (vF V a2v (((8 * y1) + y4) : Int32).toNatClampNeg) (vF V a3v (((8 * (1 - y1)) + y4) : Int32).toNatClampNeg)) CmpOp.l) = 0) from by simp only [SM_F hS h_a2, SM_F hS h_a3]) hQ (fun hQ => ?_) (fun hQ => ?_)
      · exact sX9_copyHealths_186 n hk101 hS hx h_a0 hQ
      · exact sX9_copyHealths_186 n hk101 hS hx h_a0 hQ
    · refine st_rd hS h_a0 rfl hQ (fun a4 a4v h_a4 hQ => ?_)
      refine st_gd (fun h => by simp only [SM_N hS h_a4]; exact gvp_in_of h) hQ (fun hQ => ?_)
      refine st_rd hS h_a0 rfl hQ (fun a5 a5v h_a5 hQ => ?_)
      refine st_gd (fun h => by simp only [SM_N hS h_a5]; exact gvp_in_of h) hQ (fun hQ => ?_)
      refine st_if (show ((mI S a4 (((8 * y1) + y4) : Int32).toNatClampNeg) = (mI S a5 (((8 * (1 - y1)) + y4) : Int32).toNatClampNeg)) = ((vI V a4v (((8 * y1) + y4) : Int32).toNatClampNeg) = (vI V a5v (((8 * (1 - y1)) + y4) : Int32).toNatClampNeg)) from by simp only [SM_I hS h_a4, SM_I hS h_a5]) hQ (fun hQ => ?_) (fun hQ => ?_)
      · exact sX9_copyHealths_186 n hk101 hS hx h_a0 hQ
      · exact sX9_copyHealths_186 n hk101 hS hx h_a0 hQ
def elX9_copyHealths_101 (n : Nat) : Nat → VS → Nat → Int32 → Int32 → Int32 → Int32 → Rs Int32
  | 0 => fun _ _ _ _ _ _ => none
  | m + 1 => fun V a0v y1 y2 y3 y4 => eX9_copyHealths_101 n (elX9_copyHealths_101 n m) V a0v y1 y2 y3 y4
theorem selX9_copyHealths_101 (n : Nat) {S0 : MS} {Q : Int32 → MS → Prop} {QX : String → MS → Prop} : ∀ (m : Nat), ∀ (S : MS) (V : VS) (p0 p0v : Nat) (p1 : Int32) (p2 : Int32) (p3 : Int32) (p4 : Int32), SM S V → Ex S0 S → Ad S p0 p0v → gd (elX9_copyHealths_101 n m V p0v p1 p2 p3 p4) (SQ Q S0) (SX QX S0) → lX9_copyHealths_101 Q QX m S p0 p1 p2 p3 p4 := by
  intro m
  induction m with
  | zero => intro S V p0 p0v p1 p2 p3 p4 hS hx q0 hQ; exact (gd_none hQ).elim
  | succ m ih => intro S V p0 p0v p1 p2 p3 p4 hS hx q0 hQ; exact sX9_copyHealths_101 n ih hS hx q0 hQ
def eX9_copyHealths_84 (n : Nat) (V : VS) (a0v : Nat) (y1 : Int32) (y2 : Int32) (z0 : Int32) (w1v : Nat) : Rs Int32 := sq (wI V w1v 0 z0) (fun V1 => (if (vI V1 a0v 0) ≤ 0 then elX9_copyHealths_101 n n V1 a0v y1 y2 0 0 else rt 0 V1))
set_option maxHeartbeats 4000000 in
set_option maxRecDepth 100000 in
theorem sX9_copyHealths_84 (n : Nat) {S0 : MS} {Q : Int32 → MS → Prop} {QX : String → MS → Prop} {S : MS} {V : VS} {a0 a0v : Nat} {y1 : Int32} {y2 : Int32} {z0 : Int32} {w1 w1v : Nat} (hS : SM S V) (hx : Ex S0 S) (h_a0 : Ad S a0 a0v) (h_w1 : Ad S w1 w1v) (hQ : gd (eX9_copyHealths_84 n V a0v y1 y2 z0 w1v) (SQ Q S0) (SX QX S0)) : wX9_copyHealths_84 Q QX S a0 y1 y2 z0 w1 := by
  unfold wX9_copyHealths_84
  unfold eX9_copyHealths_84 at hQ
  intro S1 eS
  obtain ⟨V1, hS1, xS, hQ⟩ := st_sI hS h_w1 eS rfl rfl hQ
  have hx1 : Ex S0 S1 := Ex_tr hx xS
  have h1_a0 := xS _ _ h_a0
  refine st_if (show ((mI S1 a0 0) ≤ 0) = ((vI V1 a0v 0) ≤ 0) from by simp only [SM_I hS1 h1_a0]) hQ (fun hQ => ?_) (fun hQ => ?_)
  · refine ⟨n, ?_⟩
    exact selX9_copyHealths_101 n n _ _ _ _ _ _ _ _ hS1 hx1 h1_a0 hQ
  · exact gd_rt hQ _ hS1 hx1
def eX9_copyHealths_32 (n : Nat) (V : VS) (a0v : Nat) (y1 : Int32) (y2 : Int32) (w0v : Nat) : Rs Int32 := eX9_copyHealths_84 n V a0v y1 y2 2 w0v
set_option maxHeartbeats 4000000 in
set_option maxRecDepth 100000 in
theorem sX9_copyHealths_32 (n : Nat) {S0 : MS} {Q : Int32 → MS → Prop} {QX : String → MS → Prop} {S : MS} {V : VS} {a0 a0v : Nat} {y1 : Int32} {y2 : Int32} {w0 w0v : Nat} (hS : SM S V) (hx : Ex S0 S) (h_a0 : Ad S a0 a0v) (h_w0 : Ad S w0 w0v) (hQ : gd (eX9_copyHealths_32 n V a0v y1 y2 w0v) (SQ Q S0) (SX QX S0)) : wX9_copyHealths_32 Q QX S a0 y1 y2 w0 := by
  unfold wX9_copyHealths_32
  unfold eX9_copyHealths_32 at hQ
  exact sX9_copyHealths_84 n hS hx h_a0 h_w0 hQ
def eX9_copyHealths_79 (n : Nat) (V : VS) (a0v : Nat) (y1 : Int32) (y2 : Int32) (w0v : Nat) : Rs Int32 := eX9_copyHealths_84 n V a0v y1 y2 4 w0v
set_option maxHeartbeats 4000000 in
set_option maxRecDepth 100000 in
theorem sX9_copyHealths_79 (n : Nat) {S0 : MS} {Q : Int32 → MS → Prop} {QX : String → MS → Prop} {S : MS} {V : VS} {a0 a0v : Nat} {y1 : Int32} {y2 : Int32} {w0 w0v : Nat} (hS : SM S V) (hx : Ex S0 S) (h_a0 : Ad S a0 a0v) (h_w0 : Ad S w0 w0v) (hQ : gd (eX9_copyHealths_79 n V a0v y1 y2 w0v) (SQ Q S0) (SX QX S0)) : wX9_copyHealths_79 Q QX S a0 y1 y2 w0 := by
  unfold wX9_copyHealths_79
  unfold eX9_copyHealths_79 at hQ
  exact sX9_copyHealths_84 n hS hx h_a0 h_w0 hQ
def eX9_copyHealths_0 (n : Nat) (V : VS) (a0v : Nat) (x1 : Int32) (x2 : Int32) : Rs Int32 := bd (ev_X9_isIn n V x1 0 1) (fun r2 V1 => (if r2 = 0 then eX9_copyHealths_84 n V1 a0v x1 x2 1 a0v else (vR V1 a0v 21).bind (fun a3v => (if gvp_in 0 (vN V1 a3v) = true then (if (vI V1 a3v (0 : Int32).toNatClampNeg) = 0 then eX9_copyHealths_32 n V1 a0v x1 x2 a0v else (vR V1 a0v 21).bind (fun a4v => (if gvp_in 1 (vN V1 a4v) = true then (if (vI V1 a4v (1 : Int32).toNatClampNeg) = 0 then eX9_copyHealths_32 n V1 a0v x1 x2 a0v else (vR V1 a0v 21).bind (fun a5v => (if gvp_in 0 (vN V1 a5v) = true then (vR V1 a0v 21).bind (fun a6v => (if gvp_in 1 (vN V1 a6v) = true then (if (vI V1 a5v (0 : Int32).toNatClampNeg) = (vI V1 a6v (1 : Int32).toNatClampNeg) then (if x2 < 0 then eX9_copyHealths_79 n V1 a0v x1 x2 a0v else (vR V1 a0v 20).bind (fun a7v => (if gvp_in 0 (vN V1 a7v) = true then (if (vI V1 a7v (0 : Int32).toNatClampNeg) < x2 then eX9_copyHealths_79 n V1 a0v x1 x2 a0v else (vR V1 a0v 20).bind (fun a8v => (if gvp_in 1 (vN V1 a8v) = true then (if x2 ≤ (vI V1 a8v (1 : Int32).toNatClampNeg) then eX9_copyHealths_84 n V1 a0v x1 x2 0 a0v else eX9_copyHealths_79 n V1 a0v x1 x2 a0v) else none))) else none))) else eX9_copyHealths_84 n V1 a0v x1 x2 3 a0v) else none)) else none))) else none))) else none)))) th
set_option maxHeartbeats 4000000 in
set_option maxRecDepth 100000 in
theorem sX9_copyHealths_0 (n : Nat) {S0 : MS} {Q : Int32 → MS → Prop} {QX : String → MS → Prop} {S : MS} {V : VS} {a0 a0v : Nat} {x1 : Int32} {x2 : Int32} (hS : SM S V) (hx : Ex S0 S) (h_a0 : Ad S a0 a0v) (hQ : gd (eX9_copyHealths_0 n V a0v x1 x2) (SQ Q S0) (SX QX S0)) : wX9_copyHealths_0 Q QX S a0 x1 x2 := by
  unfold wX9_copyHealths_0
  unfold eX9_copyHealths_0 at hQ
  refine sim_X9_isIn n hS rfl rfl rfl ?_
  refine gd_mono (gd_bd hQ) (fun r2 V1 hQ S1 hS1 xS => ?_) (fun E V9 hQ S9 hS9 xS9 => gd_th hQ S9 hS9 (Ex_tr hx xS9))
  have hx1 : Ex S0 S1 := Ex_tr hx xS
  have h1_a0 := xS _ _ h_a0
  refine st_ifn rfl hQ (fun hQ => ?_) (fun hQ => ?_)
  · refine st_rd hS1 h1_a0 rfl hQ (fun a3 a3v h1_a3 hQ => ?_)
    refine st_gd (fun h => by simp only [SM_N hS1 h1_a3]; exact gvp_in_of h) hQ (fun hQ => ?_)
    refine st_if (show ((mI S1 a3 (0 : Int32).toNatClampNeg) = 0) = ((vI V1 a3v (0 : Int32).toNatClampNeg) = 0) from by simp only [SM_I hS1 h1_a3]) hQ (fun hQ => ?_) (fun hQ => ?_)
    · exact sX9_copyHealths_32 n hS1 hx1 h1_a0 h1_a0 hQ
    · refine st_rd hS1 h1_a0 rfl hQ (fun a4 a4v h1_a4 hQ => ?_)
      refine st_gd (fun h => by simp only [SM_N hS1 h1_a4]; exact gvp_in_of h) hQ (fun hQ => ?_)
      refine st_ifn (show ((mI S1 a4 (1 : Int32).toNatClampNeg) = 0) = ((vI V1 a4v (1 : Int32).toNatClampNeg) = 0) from by simp only [SM_I hS1 h1_a4]) hQ (fun hQ => ?_) (fun hQ => ?_)
      · refine st_rd hS1 h1_a0 rfl hQ (fun a5 a5v h1_a5 hQ => ?_)
        refine st_gd (fun h => by simp only [SM_N hS1 h1_a5]; exact gvp_in_of h) hQ (fun hQ => ?_)
        refine st_rd hS1 h1_a0 rfl hQ (fun a6 a6v h1_a6 hQ => ?_)
        refine st_gd (fun h => by simp only [SM_N hS1 h1_a6]; exact gvp_in_of h) hQ (fun hQ => ?_)
        refine st_if (show ((mI S1 a5 (0 : Int32).toNatClampNeg) = (mI S1 a6 (1 : Int32).toNatClampNeg)) = ((vI V1 a5v (0 : Int32).toNatClampNeg) = (vI V1 a6v (1 : Int32).toNatClampNeg)) from by simp only [SM_I hS1 h1_a5, SM_I hS1 h1_a6]) hQ (fun hQ => ?_) (fun hQ => ?_)
        · refine st_if rfl hQ (fun hQ => ?_) (fun hQ => ?_)
          · exact sX9_copyHealths_79 n hS1 hx1 h1_a0 h1_a0 hQ
          · refine st_rd hS1 h1_a0 rfl hQ (fun a7 a7v h1_a7 hQ => ?_)
            refine st_gd (fun h => by simp only [SM_N hS1 h1_a7]; exact gvp_in_of h) hQ (fun hQ => ?_)
            refine st_if (show ((mI S1 a7 (0 : Int32).toNatClampNeg) < x2) = ((vI V1 a7v (0 : Int32).toNatClampNeg) < x2) from by simp only [SM_I hS1 h1_a7]) hQ (fun hQ => ?_) (fun hQ => ?_)
            · exact sX9_copyHealths_79 n hS1 hx1 h1_a0 h1_a0 hQ
            · refine st_rd hS1 h1_a0 rfl hQ (fun a8 a8v h1_a8 hQ => ?_)
              refine st_gd (fun h => by simp only [SM_N hS1 h1_a8]; exact gvp_in_of h) hQ (fun hQ => ?_)
              refine st_if (show (x2 ≤ (mI S1 a8 (1 : Int32).toNatClampNeg)) = (x2 ≤ (vI V1 a8v (1 : Int32).toNatClampNeg)) from by simp only [SM_I hS1 h1_a8]) hQ (fun hQ => ?_) (fun hQ => ?_)
              · exact sX9_copyHealths_84 n hS1 hx1 h1_a0 h1_a0 hQ
              · exact sX9_copyHealths_79 n hS1 hx1 h1_a0 h1_a0 hQ
        · exact sX9_copyHealths_84 n hS1 hx1 h1_a0 h1_a0 hQ
      · exact sX9_copyHealths_32 n hS1 hx1 h1_a0 h1_a0 hQ
  · exact sX9_copyHealths_84 n hS1 hx1 h1_a0 h1_a0 hQ
def ev_X9_copyHealths (n : Nat) (V : VS) (a0v : Nat) (x1 : Int32) (x2 : Int32) : Rs Int32 := eX9_copyHealths_0 n V a0v x1 x2
theorem sim_X9_copyHealths (n : Nat) {Q : Int32 → MS → Prop} {QX : String → MS → Prop} {S : MS} {V : VS} {a0 a0v : Nat} {x1 x1z : Int32} {x2 x2z : Int32} (hS : SM S V) (h_a0 : Ad S a0 a0v) (e_x1 : x1 = x1z) (e_x2 : x2 = x2z) (hQ : gd (ev_X9_copyHealths n V a0v x1z x2z) (SQ Q S) (SX QX S)) : wp_X9_copyHealths Q QX S a0 x1 x2 := by
  subst e_x1 e_x2
  exact sX9_copyHealths_0 n hS Ex_rf h_a0 hQ
def eX9_snapshot_0 (n : Nat) (V : VS) (a0v : Nat) : Rs Int32 := sq (wI V a0v 0 0) (fun V1 => (vR V1 a0v 1).bind (fun a2v => (vR V1 a0v 3).bind (fun a3v => bd (ev_X9_copies n V1 a2v a3v 290) (fun _ V4 => (vR V4 a0v 2).bind (fun a5v => (vR V4 a0v 4).bind (fun a6v => bd (ev_X9_copies n V4 a5v a6v 290) (fun _ V7 => (vR V7 a0v 7).bind (fun a8v => (vR V7 a0v 8).bind (fun a9v => (vR V7 a0v 1).bind (fun a10v => (if gvp_in 289 (vN V7 a10v) = true then bd (ev_X9_copies n V7 a8v a9v (2 * (vI V7 a10v (289 : Int32).toNatClampNeg))) (fun _ V11 => sq (wI V11 a0v 10 1) (fun V12 => (vR V12 a0v 1).bind (fun a13v => (if gvp_in 66 (vN V12 a13v) = true then rt (vI V12 a13v (66 : Int32).toNatClampNeg) V12 else none)))) th else none))))) th))) th)))
set_option maxHeartbeats 4000000 in
set_option maxRecDepth 100000 in
theorem sX9_snapshot_0 (n : Nat) {S0 : MS} {Q : Int32 → MS → Prop} {QX : String → MS → Prop} {S : MS} {V : VS} {a0 a0v : Nat} (hS : SM S V) (hx : Ex S0 S) (h_a0 : Ad S a0 a0v) (hQ : gd (eX9_snapshot_0 n V a0v) (SQ Q S0) (SX QX S0)) : wX9_snapshot_0 Q QX S a0 := by
  unfold wX9_snapshot_0
  unfold eX9_snapshot_0 at hQ
  intro S1 eS
  obtain ⟨V1, hS1, xS, hQ⟩ := st_sI hS h_a0 eS rfl rfl hQ
  have hx1 : Ex S0 S1 := Ex_tr hx xS
  have h1_a0 := xS _ _ h_a0
  refine st_rd hS1 h1_a0 rfl hQ (fun a2 a2v h1_a2 hQ => ?_)
  refine st_rd hS1 h1_a0 rfl hQ (fun a3 a3v h1_a3 hQ => ?_)
  refine sim_X9_copies n hS1 h1_a2 h1_a3 rfl ?_
  refine gd_mono (gd_bd hQ) (fun _ V4 hQ S4 hS4 xS => ?_) (fun E V9 hQ S9 hS9 xS9 => gd_th hQ S9 hS9 (Ex_tr hx1 xS9))
  have hx4 : Ex S0 S4 := Ex_tr hx1 xS
  have h4_a0 := xS _ _ h1_a0
  refine st_rd hS4 h4_a0 rfl hQ (fun a5 a5v h4_a5 hQ => ?_)
  refine st_rd hS4 h4_a0 rfl hQ (fun a6 a6v h4_a6 hQ => ?_)
  refine sim_X9_copies n hS4 h4_a5 h4_a6 rfl ?_
  refine gd_mono (gd_bd hQ) (fun _ V7 hQ S7 hS7 xS => ?_) (fun E V9 hQ S9 hS9 xS9 => gd_th hQ S9 hS9 (Ex_tr hx4 xS9))
  have hx7 : Ex S0 S7 := Ex_tr hx4 xS
  have h7_a0 := xS _ _ h4_a0
  refine st_rd hS7 h7_a0 rfl hQ (fun a8 a8v h7_a8 hQ => ?_)
  refine st_rd hS7 h7_a0 rfl hQ (fun a9 a9v h7_a9 hQ => ?_)
  refine st_rd hS7 h7_a0 rfl hQ (fun a10 a10v h7_a10 hQ => ?_)
  refine st_gd (fun h => by simp only [SM_N hS7 h7_a10]; exact gvp_in_of h) hQ (fun hQ => ?_)
  refine sim_X9_copies n hS7 h7_a8 h7_a9 (show ((2 * (mI S7 a10 (289 : Int32).toNatClampNeg))) = ((2 * (vI V7 a10v (289 : Int32).toNatClampNeg))) from by simp only [SM_I hS7 h7_a10]) ?_
  refine gd_mono (gd_bd hQ) (fun _ V11 hQ S11 hS11 xS => ?_) (fun E V9 hQ S9 hS9 xS9 => gd_th hQ S9 hS9 (Ex_tr hx7 xS9))
  have hx11 : Ex S0 S11 := Ex_tr hx7 xS
  have h11_a0 := xS _ _ h7_a0
  intro S12 eS
  obtain ⟨V12, hS12, xS, hQ⟩ := st_sI hS11 h11_a0 eS rfl rfl hQ
  have hx12 : Ex S0 S12 := Ex_tr hx11 xS
  have h12_a0 := xS _ _ h11_a0
  refine st_rd hS12 h12_a0 rfl hQ (fun a13 a13v h12_a13 hQ => ?_)
  refine st_gd (fun h => by simp only [SM_N hS12 h12_a13]; exact gvp_in_of h) hQ (fun hQ => ?_)
  simp only [SM_I hS12 h12_a13]
  exact gd_rt hQ _ hS12 hx12
def ev_X9_snapshot (n : Nat) (V : VS) (a0v : Nat) : Rs Int32 := eX9_snapshot_0 n V a0v
theorem sim_X9_snapshot (n : Nat) {Q : Int32 → MS → Prop} {QX : String → MS → Prop} {S : MS} {V : VS} {a0 a0v : Nat} (hS : SM S V) (h_a0 : Ad S a0 a0v) (hQ : gd (ev_X9_snapshot n V a0v) (SQ Q S) (SX QX S)) : wp_X9_snapshot Q QX S a0 := by
  exact sX9_snapshot_0 n hS Ex_rf h_a0 hQ
def eX9_restore_13 (n : Nat) (V : VS) (a0v : Nat) (z0 : Int32) (w1v : Nat) : Rs Int32 := sq (wI V w1v 0 z0) (fun V1 => (if (vI V1 a0v 10) = 0 then rt 0 V1 else (vR V1 a0v 3).bind (fun a2v => (vR V1 a0v 1).bind (fun a3v => bd (ev_X9_copies n V1 a2v a3v 290) (fun _ V4 => (vR V4 a0v 4).bind (fun a5v => (vR V4 a0v 2).bind (fun a6v => bd (ev_X9_copies n V4 a5v a6v 290) (fun _ V7 => (vR V7 a0v 8).bind (fun a8v => (vR V7 a0v 7).bind (fun a9v => (vR V7 a0v 1).bind (fun a10v => (if gvp_in 289 (vN V7 a10v) = true then bd (ev_X9_copies n V7 a8v a9v (2 * (vI V7 a10v (289 : Int32).toNatClampNeg))) (fun _ V11 => sq (wI V11 a0v 9 0) (fun V12 => (vR V12 a0v 1).bind (fun a13v => (if gvp_in 66 (vN V12 a13v) = true then rt (vI V12 a13v (66 : Int32).toNatClampNeg) V12 else none)))) th else none))))) th))) th))))
set_option maxHeartbeats 4000000 in
set_option maxRecDepth 100000 in
theorem sX9_restore_13 (n : Nat) {S0 : MS} {Q : Int32 → MS → Prop} {QX : String → MS → Prop} {S : MS} {V : VS} {a0 a0v : Nat} {z0 : Int32} {w1 w1v : Nat} (hS : SM S V) (hx : Ex S0 S) (h_a0 : Ad S a0 a0v) (h_w1 : Ad S w1 w1v) (hQ : gd (eX9_restore_13 n V a0v z0 w1v) (SQ Q S0) (SX QX S0)) : wX9_restore_13 Q QX S a0 z0 w1 := by
  unfold wX9_restore_13
  unfold eX9_restore_13 at hQ
  intro S1 eS
  obtain ⟨V1, hS1, xS, hQ⟩ := st_sI hS h_w1 eS rfl rfl hQ
  have hx1 : Ex S0 S1 := Ex_tr hx xS
  have h1_a0 := xS _ _ h_a0
  refine st_ifn (show ((mI S1 a0 10) = 0) = ((vI V1 a0v 10) = 0) from by simp only [SM_I hS1 h1_a0]) hQ (fun hQ => ?_) (fun hQ => ?_)
  · refine st_rd hS1 h1_a0 rfl hQ (fun a2 a2v h1_a2 hQ => ?_)
    refine st_rd hS1 h1_a0 rfl hQ (fun a3 a3v h1_a3 hQ => ?_)
    refine sim_X9_copies n hS1 h1_a2 h1_a3 rfl ?_
    refine gd_mono (gd_bd hQ) (fun _ V4 hQ S4 hS4 xS => ?_) (fun E V9 hQ S9 hS9 xS9 => gd_th hQ S9 hS9 (Ex_tr hx1 xS9))
    have hx4 : Ex S0 S4 := Ex_tr hx1 xS
    have h4_a0 := xS _ _ h1_a0
    refine st_rd hS4 h4_a0 rfl hQ (fun a5 a5v h4_a5 hQ => ?_)
    refine st_rd hS4 h4_a0 rfl hQ (fun a6 a6v h4_a6 hQ => ?_)
    refine sim_X9_copies n hS4 h4_a5 h4_a6 rfl ?_
    refine gd_mono (gd_bd hQ) (fun _ V7 hQ S7 hS7 xS => ?_) (fun E V9 hQ S9 hS9 xS9 => gd_th hQ S9 hS9 (Ex_tr hx4 xS9))
    have hx7 : Ex S0 S7 := Ex_tr hx4 xS
    have h7_a0 := xS _ _ h4_a0
    refine st_rd hS7 h7_a0 rfl hQ (fun a8 a8v h7_a8 hQ => ?_)
    refine st_rd hS7 h7_a0 rfl hQ (fun a9 a9v h7_a9 hQ => ?_)
    refine st_rd hS7 h7_a0 rfl hQ (fun a10 a10v h7_a10 hQ => ?_)
    refine st_gd (fun h => by simp only [SM_N hS7 h7_a10]; exact gvp_in_of h) hQ (fun hQ => ?_)
    refine sim_X9_copies n hS7 h7_a8 h7_a9 (show ((2 * (mI S7 a10 (289 : Int32).toNatClampNeg))) = ((2 * (vI V7 a10v (289 : Int32).toNatClampNeg))) from by simp only [SM_I hS7 h7_a10]) ?_
    refine gd_mono (gd_bd hQ) (fun _ V11 hQ S11 hS11 xS => ?_) (fun E V9 hQ S9 hS9 xS9 => gd_th hQ S9 hS9 (Ex_tr hx7 xS9))
    have hx11 : Ex S0 S11 := Ex_tr hx7 xS
    have h11_a0 := xS _ _ h7_a0
    intro S12 eS
    obtain ⟨V12, hS12, xS, hQ⟩ := st_sI hS11 h11_a0 eS rfl rfl hQ
    have hx12 : Ex S0 S12 := Ex_tr hx11 xS
    have h12_a0 := xS _ _ h11_a0
    refine st_rd hS12 h12_a0 rfl hQ (fun a13 a13v h12_a13 hQ => ?_)
    refine st_gd (fun h => by simp only [SM_N hS12 h12_a13]; exact gvp_in_of h) hQ (fun hQ => ?_)
    simp only [SM_I hS12 h12_a13]
    exact gd_rt hQ _ hS12 hx12
  · exact gd_rt hQ _ hS1 hx1
def eX9_restore_0 (n : Nat) (V : VS) (a0v : Nat) : Rs Int32 := (if (vI V a0v 10) = 0 then eX9_restore_13 n V a0v 1 a0v else eX9_restore_13 n V a0v 0 a0v)
set_option maxHeartbeats 4000000 in
set_option maxRecDepth 100000 in
theorem sX9_restore_0 (n : Nat) {S0 : MS} {Q : Int32 → MS → Prop} {QX : String → MS → Prop} {S : MS} {V : VS} {a0 a0v : Nat} (hS : SM S V) (hx : Ex S0 S) (h_a0 : Ad S a0 a0v) (hQ : gd (eX9_restore_0 n V a0v) (SQ Q S0) (SX QX S0)) : wX9_restore_0 Q QX S a0 := by
  unfold wX9_restore_0
  unfold eX9_restore_0 at hQ
  refine st_if (show ((mI S a0 10) = 0) = ((vI V a0v 10) = 0) from by simp only [SM_I hS h_a0]) hQ (fun hQ => ?_) (fun hQ => ?_)
  · exact sX9_restore_13 n hS hx h_a0 h_a0 hQ
  · exact sX9_restore_13 n hS hx h_a0 h_a0 hQ
def ev_X9_restore (n : Nat) (V : VS) (a0v : Nat) : Rs Int32 := eX9_restore_0 n V a0v
theorem sim_X9_restore (n : Nat) {Q : Int32 → MS → Prop} {QX : String → MS → Prop} {S : MS} {V : VS} {a0 a0v : Nat} (hS : SM S V) (h_a0 : Ad S a0 a0v) (hQ : gd (ev_X9_restore n V a0v) (SQ Q S) (SX QX S)) : wp_X9_restore Q QX S a0 := by
  exact sX9_restore_0 n hS Ex_rf h_a0 hQ
def eX9_storedBits_92 (n : Nat) (V : VS) (z0 : UInt32) : Rs Int32 := bd (ev_Jxf58ca_floatToIntBits_5c35a n V z0) (fun r2 V1 => rt r2 V1) th
set_option maxHeartbeats 4000000 in
set_option maxRecDepth 100000 in
theorem sX9_storedBits_92 (n : Nat) {S0 : MS} {Q : Int32 → MS → Prop} {QX : String → MS → Prop} {S : MS} {V : VS} {z0 : UInt32} (hS : SM S V) (hx : Ex S0 S) (hQ : gd (eX9_storedBits_92 n V z0) (SQ Q S0) (SX QX S0)) : wX9_storedBits_92 Q QX S z0 := by
  unfold wX9_storedBits_92
  unfold eX9_storedBits_92 at hQ
  refine sim_Jxf58ca_floatToIntBits_5c35a n hS rfl ?_
  refine gd_mono (gd_bd hQ) (fun r2 V1 hQ S1 hS1 xS => ?_) (fun E V9 hQ S9 hS9 xS9 => gd_th hQ S9 hS9 (Ex_tr hx xS9))
  have hx1 : Ex S0 S1 := Ex_tr hx xS
  exact gd_rt hQ _ hS1 hx1
def eX9_storedBits_44 (n : Nat) (V : VS) (a0v : Nat) (y1 : Int32) (y2 : Int32) (z0 : Int32) (w1v : Nat) : Rs Int32 := sq (wI V w1v 0 z0) (fun V1 => (if (vI V1 a0v 0) ≤ 0 then (vR V1 a0v 21).bind (fun a2v => (if gvp_in y1 (vN V1 a2v) = true then (if (vI V1 a2v (y1 : Int32).toNatClampNeg) = 1 then (vR V1 a0v 19).bind (fun a4v => (if gvp_in ((8 * y1) + y2) (vN V1 a4v) = true then eX9_storedBits_92 n V1 (FP.i2f (vI V1 a4v (((8 * y1) + y2) : Int32).toNatClampNeg)) else none)) else (vR V1 a0v 22).bind (fun a3v => (if gvp_in ((8 * y1) + y2) (vN V1 a3v) = true then eX9_storedBits_92 n V1 (vF V1 a3v (((8 * y1) + y2) : Int32).toNatClampNeg) else none))) else none)) else rt 0 V1))
set_option maxHeartbeats 4000000 in
set_option maxRecDepth 100000 in
theorem sX9_storedBits_44 (n : Nat) {S0 : MS} {Q : Int32 → MS → Prop} {QX : String → MS → Prop} {S : MS} {V : VS} {a0 a0v : Nat} {y1 : Int32} {y2 : Int32} {z0 : Int32} {w1 w1v : Nat} (hS : SM S V) (hx : Ex S0 S) (h_a0 : Ad S a0 a0v) (h_w1 : Ad S w1 w1v) (hQ : gd (eX9_storedBits_44 n V a0v y1 y2 z0 w1v) (SQ Q S0) (SX QX S0)) : wX9_storedBits_44 Q QX S a0 y1 y2 z0 w1 := by
  unfold wX9_storedBits_44
  unfold eX9_storedBits_44 at hQ
  intro S1 eS
  obtain ⟨V1, hS1, xS, hQ⟩ := st_sI hS h_w1 eS rfl rfl hQ
  have hx1 : Ex S0 S1 := Ex_tr hx xS
  have h1_a0 := xS _ _ h_a0
  refine st_if (show ((mI S1 a0 0) ≤ 0) = ((vI V1 a0v 0) ≤ 0) from by simp only [SM_I hS1 h1_a0]) hQ (fun hQ => ?_) (fun hQ => ?_)
  · refine st_rd hS1 h1_a0 rfl hQ (fun a2 a2v h1_a2 hQ => ?_)
    refine st_gd (fun h => by simp only [SM_N hS1 h1_a2]; exact gvp_in_of h) hQ (fun hQ => ?_)
    refine st_ifn (show ((mI S1 a2 (y1 : Int32).toNatClampNeg) = 1) = ((vI V1 a2v (y1 : Int32).toNatClampNeg) = 1) from by simp only [SM_I hS1 h1_a2]) hQ (fun hQ => ?_) (fun hQ => ?_)
    · refine st_rd hS1 h1_a0 rfl hQ (fun a3 a3v h1_a3 hQ => ?_)
      refine st_gd (fun h => by simp only [SM_N hS1 h1_a3]; exact gvp_in_of h) hQ (fun hQ => ?_)
      simp only [SM_F hS1 h1_a3]
      exact sX9_storedBits_92 n hS1 hx1 hQ
    · refine st_rd hS1 h1_a0 rfl hQ (fun a4 a4v h1_a4 hQ => ?_)
      refine st_gd (fun h => by simp only [SM_N hS1 h1_a4]; exact gvp_in_of h) hQ (fun hQ => ?_)
      simp only [SM_I hS1 h1_a4]
      exact sX9_storedBits_92 n hS1 hx1 hQ
  · exact gd_rt hQ _ hS1 hx1
def eX9_storedBits_39 (n : Nat) (V : VS) (a0v : Nat) (y1 : Int32) (y2 : Int32) (w0v : Nat) : Rs Int32 := eX9_storedBits_44 n V a0v y1 y2 2 w0v
set_option maxHeartbeats 4000000 in
set_option maxRecDepth 100000 in
theorem sX9_storedBits_39 (n : Nat) {S0 : MS} {Q : Int32 → MS → Prop} {QX : String → MS → Prop} {S : MS} {V : VS} {a0 a0v : Nat} {y1 : Int32} {y2 : Int32} {w0 w0v : Nat} (hS : SM S V) (hx : Ex S0 S) (h_a0 : Ad S a0 a0v) (h_w0 : Ad S w0 w0v) (hQ : gd (eX9_storedBits_39 n V a0v y1 y2 w0v) (SQ Q S0) (SX QX S0)) : wX9_storedBits_39 Q QX S a0 y1 y2 w0 := by
  unfold wX9_storedBits_39
  unfold eX9_storedBits_39 at hQ
  exact sX9_storedBits_44 n hS hx h_a0 h_w0 hQ
def eX9_storedBits_0 (n : Nat) (V : VS) (a0v : Nat) (x1 : Int32) (x2 : Int32) : Rs Int32 := bd (ev_X9_isIn n V x1 0 1) (fun r2 V1 => (if r2 = 0 then eX9_storedBits_44 n V1 a0v x1 x2 1 a0v else (vR V1 a0v 21).bind (fun a3v => (if gvp_in x1 (vN V1 a3v) = true then (if (vI V1 a3v (x1 : Int32).toNatClampNeg) = 0 then eX9_storedBits_39 n V1 a0v x1 x2 a0v else (vR V1 a0v 20).bind (fun a4v => (if gvp_in x1 (vN V1 a4v) = true then bd (ev_X9_isIn n V1 x2 0 ((vI V1 a4v (x1 : Int32).toNatClampNeg) - 1)) (fun r6 V5 => (if r6 = 0 then eX9_storedBits_39 n V5 a0v x1 x2 a0v else eX9_storedBits_44 n V5 a0v x1 x2 0 a0v)) th else none))) else none)))) th
set_option maxHeartbeats 4000000 in
set_option maxRecDepth 100000 in
theorem sX9_storedBits_0 (n : Nat) {S0 : MS} {Q : Int32 → MS → Prop} {QX : String → MS → Prop} {S : MS} {V : VS} {a0 a0v : Nat} {x1 : Int32} {x2 : Int32} (hS : SM S V) (hx : Ex S0 S) (h_a0 : Ad S a0 a0v) (hQ : gd (eX9_storedBits_0 n V a0v x1 x2) (SQ Q S0) (SX QX S0)) : wX9_storedBits_0 Q QX S a0 x1 x2 := by
  unfold wX9_storedBits_0
  unfold eX9_storedBits_0 at hQ
  refine sim_X9_isIn n hS rfl rfl rfl ?_
  refine gd_mono (gd_bd hQ) (fun r2 V1 hQ S1 hS1 xS => ?_) (fun E V9 hQ S9 hS9 xS9 => gd_th hQ S9 hS9 (Ex_tr hx xS9))
  have hx1 : Ex S0 S1 := Ex_tr hx xS
  have h1_a0 := xS _ _ h_a0
  refine st_ifn rfl hQ (fun hQ => ?_) (fun hQ => ?_)
  · refine st_rd hS1 h1_a0 rfl hQ (fun a3 a3v h1_a3 hQ => ?_)
    refine st_gd (fun h => by simp only [SM_N hS1 h1_a3]; exact gvp_in_of h) hQ (fun hQ => ?_)
    refine st_if (show ((mI S1 a3 (x1 : Int32).toNatClampNeg) = 0) = ((vI V1 a3v (x1 : Int32).toNatClampNeg) = 0) from by simp only [SM_I hS1 h1_a3]) hQ (fun hQ => ?_) (fun hQ => ?_)
    · exact sX9_storedBits_39 n hS1 hx1 h1_a0 h1_a0 hQ
    · refine st_rd hS1 h1_a0 rfl hQ (fun a4 a4v h1_a4 hQ => ?_)
      refine st_gd (fun h => by simp only [SM_N hS1 h1_a4]; exact gvp_in_of h) hQ (fun hQ => ?_)
      refine sim_X9_isIn n hS1 rfl rfl (show (((mI S1 a4 (x1 : Int32).toNatClampNeg) - 1)) = (((vI V1 a4v (x1 : Int32).toNatClampNeg) - 1)) from by simp only [SM_I hS1 h1_a4]) ?_
      refine gd_mono (gd_bd hQ) (fun r6 V5 hQ S5 hS5 xS => ?_) (fun E V9 hQ S9 hS9 xS9 => gd_th hQ S9 hS9 (Ex_tr hx1 xS9))
      have hx5 : Ex S0 S5 := Ex_tr hx1 xS
      have h5_a0 := xS _ _ h1_a0
      refine st_ifn rfl hQ (fun hQ => ?_) (fun hQ => ?_)
      · exact sX9_storedBits_44 n hS5 hx5 h5_a0 h5_a0 hQ
      · exact sX9_storedBits_39 n hS5 hx5 h5_a0 h5_a0 hQ
  · exact sX9_storedBits_44 n hS1 hx1 h1_a0 h1_a0 hQ
def ev_X9_storedBits (n : Nat) (V : VS) (a0v : Nat) (x1 : Int32) (x2 : Int32) : Rs Int32 := eX9_storedBits_0 n V a0v x1 x2
theorem sim_X9_storedBits (n : Nat) {Q : Int32 → MS → Prop} {QX : String → MS → Prop} {S : MS} {V : VS} {a0 a0v : Nat} {x1 x1z : Int32} {x2 x2z : Int32} (hS : SM S V) (h_a0 : Ad S a0 a0v) (e_x1 : x1 = x1z) (e_x2 : x2 = x2z) (hQ : gd (ev_X9_storedBits n V a0v x1z x2z) (SQ Q S) (SX QX S)) : wp_X9_storedBits Q QX S a0 x1 x2 := by
  subst e_x1 e_x2
  exact sX9_storedBits_0 n hS Ex_rf h_a0 hQ
