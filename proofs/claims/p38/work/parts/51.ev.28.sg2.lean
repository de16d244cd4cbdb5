def eX8_requireTarget_0 (n : Nat) (V : VS) (a0v : Nat) (b1v : Nat) (b2v : Nat) : Rs Unit := (vR V a0v 3).bind (fun a1v => bd (ev_X2_canStrike n V a1v b1v b2v) (fun r3 V2 => (if r3 = 0 then th "java/lang/IllegalArgumentException" V2 else rt () V2)) th)
set_option maxHeartbeats 4000000 in
set_option maxRecDepth 100000 in
theorem sX8_requireTarget_0 (n : Nat) {S0 : MS} {Q : MS → Prop} {QX : String → MS → Prop} {S : MS} {V : VS} {a0 a0v : Nat} {b1 b1v : Nat} {b2 b2v : Nat} (hS : SM S V) (hx : Ex S0 S) (h_a0 : Ad S a0 a0v) (h_b1 : Ad S b1 b1v) (h_b2 : Ad S b2 b2v) (hQ : gd (eX8_requireTarget_0 n V a0v b1v b2v) (SU Q S0) (SX QX S0)) : wX8_requireTarget_0 Q QX S a0 b1 b2 := by
  unfold wX8_requireTarget_0
  unfold eX8_requireTarget_0 at hQ
  refine st_rd hS h_a0 rfl hQ (fun a1 a1v h_a1 hQ => ?_)
  refine sim_X2_canStrike n hS h_a1 h_b1 h_b2 ?_
  refine gd_mono (gd_bd hQ) (fun r3 V2 hQ S2 hS2 xS => ?_) (fun E V9 hQ S9 hS9 xS9 => gd_th hQ S9 hS9 (Ex_tr hx xS9))
  have hx2 : Ex S0 S2 := Ex_tr hx xS
  refine st_ifn rfl hQ (fun hQ => ?_) (fun hQ => ?_)
  · exact gd_rt hQ _ hS2 hx2
  · exact gd_th hQ _ hS2 hx2
def ev_X8_requireTarget (n : Nat) (V : VS) (a0v : Nat) (b1v : Nat) (b2v : Nat) : Rs Unit := eX8_requireTarget_0 n V a0v b1v b2v
theorem sim_X8_requireTarget (n : Nat) {Q : MS → Prop} {QX : String → MS → Prop} {S : MS} {V : VS} {a0 a0v : Nat} {b1 b1v : Nat} {b2 b2v : Nat} (hS : SM S V) (h_a0 : Ad S a0 a0v) (h_b1 : Ad S b1 b1v) (h_b2 : Ad S b2 b2v) (hQ : gd (ev_X8_requireTarget n V a0v b1v b2v) (SU Q S) (SX QX S)) : wp_X8_requireTarget Q QX S a0 b1 b2 := by
  exact sX8_requireTarget_0 n hS Ex_rf h_a0 h_b1 h_b2 hQ
def eX8_chance_0 (n : Nat) (V : VS) (a0v : Nat) (x1 : Int32) (x2 : Int32) : Rs UInt64 := bd (ev_X8_requireUnit n V a0v x1) (fun r2v V1 => Option.bind r2v (fun a3v => bd (ev_X8_requireUnit n V1 a0v x2) (fun r5v V4 => Option.bind r5v (fun a6v => bd (ev_X8_requireTarget n V4 a0v a3v a6v) (fun _ V7 => (vR V7 a0v 3).bind (fun a8v => bd (ev_X2_countHits n V7 a8v a3v a6v) (fun r10 V9 => (if gvf_n64 (FP.ddiv (FP.i2d r10) (4626322717216342016 : UInt64)) = true then rt (FP.ddiv (FP.i2d r10) (4626322717216342016 : UInt64)) V9 else none)) th)) th)) th)) th
set_option maxHeartbeats 4000000 in
set_option maxRecDepth 100000 in
theorem sX8_chance_0 (n : Nat) {S0 : MS} {Q : UInt64 → MS → Prop} {QX : String → MS → Prop} {S : MS} {V : VS} {a0 a0v : Nat} {x1 : Int32} {x2 : Int32} (hS : SM S V) (hx : Ex S0 S) (h_a0 : Ad S a0 a0v) (hQ : gd (eX8_chance_0 n V a0v x1 x2) (SQ Q S0) (SX QX S0)) : wX8_chance_0 Q QX S a0 x1 x2 := by
  unfold wX8_chance_0
  unfold eX8_chance_0 at hQ
  refine sim_X8_requireUnit n hS h_a0 rfl ?_
  refine gd_mono (gd_bd hQ) (fun r2v V1 hQ S1 r2 hS1 xS o1_r2 => ?_) (fun E V9 hQ S9 hS9 xS9 => gd_th hQ S9 hS9 (Ex_tr hx xS9))
  have hx1 : Ex S0 S1 := Ex_tr hx xS
  have h1_a0 := xS _ _ h_a0
  refine st_un o1_r2 hQ (fun a3 a3v h1_a3 hQ => ?_)
  refine sim_X8_requireUnit n hS1 h1_a0 rfl ?_
  refine gd_mono (gd_bd hQ) (fun r5v V4 hQ S4 r5 hS4 xS o4_r5 => ?_) (fun E V9 hQ S9 hS9 xS9 => gd_th hQ S9 hS9 (Ex_tr hx1 xS9))
  have hx4 : Ex S0 S4 := Ex_tr hx1 xS
  have h4_a0 := xS _ _ h1_a0
  have h4_a3 := xS _ _ h1_a3
  refine st_un o4_r5 hQ (fun a6 a6v h4_a6 hQ => ?_)
  refine sim_X8_requireTarget n hS4 h4_a0 h4_a3 h4_a6 ?_
  refine gd_mono (gd_bd hQ) (fun _ V7 hQ S7 hS7 xS => ?_) (fun E V9 hQ S9 hS9 xS9 => gd_th hQ S9 hS9 (Ex_tr hx4 xS9))
  have hx7 : Ex S0 S7 := Ex_tr hx4 xS
  have h7_a0 := xS _ _ h4_a0
  have h7_a3 := xS _ _ h4_a3
  have h7_a6 := xS _ _ h4_a6
  refine st_rd hS7 h7_a0 rfl hQ (fun a8 a8v h7_a8 hQ => ?_)
  refine sim_X2_countHits n hS7 h7_a8 h7_a3 h7_a6 ?_
  refine gd_mono (gd_bd hQ) (fun r10 V9 hQ S9 hS9 xS => ?_) (fun E V9 hQ S9 hS9 xS9 => gd_th hQ S9 hS9 (Ex_tr hx7 xS9))
  have hx9 : Ex S0 S9 := Ex_tr hx7 xS
  refine st_gd (fun h => by exact gvf_n64_of h) hQ (fun hQ => ?_)
  exact gd_rt hQ _ hS9 hx9
def ev_X8_chance (n : Nat) (V : VS) (a0v : Nat) (x1 : Int32) (x2 : Int32) : Rs UInt64 := eX8_chance_0 n V a0v x1 x2
theorem sim_X8_chance (n : Nat) {Q : UInt64 → MS → Prop} {QX : String → MS → Prop} {S : MS} {V : VS} {a0 a0v : Nat} {x1 x1z : Int32} {x2 x2z : Int32} (hS : SM S V) (h_a0 : Ad S a0 a0v) (e_x1 : x1 = x1z) (e_x2 : x2 = x2z) (hQ : gd (ev_X8_chance n V a0v x1z x2z) (SQ Q S) (SX QX S)) : wp_X8_chance Q QX S a0 x1 x2 := by
  subst e_x1 e_x2
  exact sX8_chance_0 n hS Ex_rf h_a0 hQ
def eX8_meanDamage_0 (n : Nat) (V : VS) (a0v : Nat) (x1 : Int32) (x2 : Int32) : Rs UInt64 := bd (ev_X8_requireUnit n V a0v x1) (fun r2v V1 => Option.bind r2v (fun a3v => bd (ev_X8_requireUnit n V1 a0v x2) (fun r5v V4 => Option.bind r5v (fun a6v => bd (ev_X8_requireTarget n V4 a0v a3v a6v) (fun _ V7 => (vR V7 a0v 3).bind (fun a8v => bd (ev_X2_sumDamages n V7 a8v a3v a6v) (fun r10 V9 => (if gvf_n64 (FP.ddiv (FP.i2d r10) (4635329916471083008 : UInt64)) = true then rt (FP.ddiv (FP.i2d r10) (4635329916471083008 : UInt64)) V9 else none)) th)) th)) th)) th
set_option maxHeartbeats 4000000 in
set_option maxRecDepth 100000 in
theorem sX8_meanDamage_0 (n : Nat) {S0 : MS} {Q : UInt64 → MS → Prop} {QX : String → MS → Prop} {S : MS} {V : VS} {a0 a0v : Nat} {x1 : Int32} {x2 : Int32} (hS : SM S V) (hx : Ex S0 S) (h_a0 : Ad S a0 a0v) (hQ : gd (eX8_meanDamage_0 n V a0v x1 x2) (SQ Q S0) (SX QX S0)) : wX8_meanDamage_0 Q QX S a0 x1 x2 := by
  unfold wX8_meanDamage_0
  unfold eX8_meanDamage_0 at hQ
  refine sim_X8_requireUnit n hS h_a0 rfl ?_
  refine gd_mono (gd_bd hQ) (fun r2v V1 hQ S1 r2 hS1 xS o1_r2 => ?_) (fun E V9 hQ S9 hS9 xS9 => gd_th hQ S9 hS9 (Ex_tr hx xS9))
  have hx1 : Ex S0 S1 := Ex_tr hx xS
  have h1_a0 := xS _ _ h_a0
  refine st_un o1_r2 hQ (fun a3 a3v h1_a3 hQ => ?_)
  refine sim_X8_requireUnit n hS1 h1_a0 rfl ?_
  refine gd_mono (gd_bd hQ) (fun r5v V4 hQ S4 r5 hS4 xS o4_r5 => ?_) (fun E V9 hQ S9 hS9 xS9 => gd_th hQ S9 hS9 (Ex_tr hx1 xS9))
  have hx4 : Ex S0 S4 := Ex_tr hx1 xS
  have h4_a0 := xS _ _ h1_a0
  have h4_a3 := xS _ _ h1_a3
  refine st_un o4_r5 hQ (fun a6 a6v h4_a6 hQ => ?_)
  refine sim_X8_requireTarget n hS4 h4_a0 h4_a3 h4_a6 ?_
  refine gd_mono (gd_bd hQ) (fun _ V7 hQ S7 hS7 xS => ?_) (fun E V9 hQ S9 hS9 xS9 => gd_th hQ S9 hS9 (Ex_tr hx4 xS9))
  have hx7 : Ex S0 S7 := Ex_tr hx4 xS
  have h7_a0 := xS _ _ h4_a0
  have h7_a3 := xS _ _ h4_a3
  have h7_a6 := xS _ _ h4_a6
  refine st_rd hS7 h7_a0 rfl hQ (fun a8 a8v h7_a8 hQ => ?_)
  refine sim_X2_sumDamages n hS7 h7_a8 h7_a3 h7_a6 ?_
  refine gd_mono (gd_bd hQ) (fun r10 V9 hQ S9 hS9 xS => ?_) (fun E V9 hQ S9 hS9 xS9 => gd_th hQ S9 hS9 (Ex_tr hx7 xS9))
  have hx9 : Ex S0 S9 := Ex_tr hx7 xS
  refine st_gd (fun h => by exact gvf_n64_of h) hQ (fun hQ => ?_)
  exact gd_rt hQ _ hS9 hx9
def ev_X8_meanDamage (n : Nat) (V : VS) (a0v : Nat) (x1 : Int32) (x2 : Int32) : Rs UInt64 := eX8_meanDamage_0 n V a0v x1 x2
theorem sim_X8_meanDamage (n : Nat) {Q : UInt64 → MS → Prop} {QX : String → MS → Prop} {S : MS} {V : VS} {a0 a0v : Nat} {x1 x1z : Int32} {x2 x2z : Int32} (hS : SM S V) (h_a0 : Ad S a0 a0v) (e_x1 : x1 = x1z) (e_x2 : x2 = x2z) (hQ : gd (ev_X8_meanDamage n V a0v x1z x2z) (SQ Q S) (SX QX S)) : wp_X8_meanDamage Q QX S a0 x1 x2 := by
  subst e_x1 e_x2
  exact sX8_meanDamage_0 n hS Ex_rf h_a0 hQ
def eX8_bestTarget_0 (n : Nat) (V : VS) (a0v : Nat) : Rs Int32 := (vR V a0v 3).bind (fun a1v => bd (ev_X8_requireTurn n V a0v) (fun r3v V2 => Option.bind r3v (fun a4v => bd (ev_X2_chooseTarget n V2 a1v a4v) (fun r6 V5 => (if 0 ≤ r6 then rt r6 V5 else th "java/util/NoSuchElementException" V5)) th)) th)
set_option maxHeartbeats 4000000 in
set_option maxRecDepth 100000 in
theorem sX8_bestTarget_0 (n : Nat) {S0 : MS} {Q : Int32 → MS → Prop} {QX : String → MS → Prop} {S : MS} {V : VS} {a0 a0v : Nat} (hS : SM S V) (hx : Ex S0 S) (h_a0 : Ad S a0 a0v) (hQ : gd (eX8_bestTarget_0 n V a0v) (SQ Q S0) (SX QX S0)) : wX8_bestTarget_0 Q QX S a0 := by
  unfold wX8_bestTarget_0
  unfold eX8_bestTarget_0 at hQ
  refine st_rd hS h_a0 rfl hQ (fun a1 a1v h_a1 hQ => ?_)
  refine sim_X8_requireTurn n hS h_a0 ?_
  refine gd_mono (gd_bd hQ) (fun r3v V2 hQ S2 r3 hS2 xS o2_r3 => ?_) (fun E V9 hQ S9 hS9 xS9 => gd_th hQ S9 hS9 (Ex_tr hx xS9))
  have hx2 : Ex S0 S2 := Ex_tr hx xS
  have h2_a1 := xS _ _ h_a1
  refine st_un o2_r3 hQ (fun a4 a4v h2_a4 hQ => ?_)
  refine sim_X2_chooseTarget n hS2 h2_a1 h2_a4 ?_
  refine gd_mono (gd_bd hQ) (fun r6 V5 hQ S5 hS5 xS => ?_) (fun E V9 hQ S9 hS9 xS9 => gd_th hQ S9 hS9 (Ex_tr hx2 xS9))
  have hx5 : Ex S0 S5 := Ex_tr hx2 xS
  refine st_if rfl hQ (fun hQ => ?_) (fun hQ => ?_)
  · exact gd_rt hQ _ hS5 hx5
  · exact gd_th hQ _ hS5 hx5
def ev_X8_bestTarget (n : Nat) (V : VS) (a0v : Nat) : Rs Int32 := eX8_bestTarget_0 n V a0v
theorem sim_X8_bestTarget (n : Nat) {Q : Int32 → MS → Prop} {QX : String → MS → Prop} {S : MS} {V : VS} {a0 a0v : Nat} (hS : SM S V) (h_a0 : Ad S a0 a0v) (hQ : gd (ev_X8_bestTarget n V a0v) (SQ Q S) (SX QX S)) : wp_X8_bestTarget Q QX S a0 := by
  exact sX8_bestTarget_0 n hS Ex_rf h_a0 hQ
def eX8_requireActions_0 (n : Nat) (V : VS) (a0v : Nat) : Rs Unit := (vR V a0v 3).bind (fun a1v => (if 1 ≤ (vI V a1v 7) then rt () V else th "java/lang/IllegalStateException" V))
set_option maxHeartbeats 4000000 in
set_option maxRecDepth 100000 in
theorem sX8_requireActions_0 (n : Nat) {S0 : MS} {Q : MS → Prop} {QX : String → MS → Prop} {S : MS} {V : VS} {a0 a0v : Nat} (hS : SM S V) (hx : Ex S0 S) (h_a0 : Ad S a0 a0v) (hQ : gd (eX8_requireActions_0 n V a0v) (SU Q S0) (SX QX S0)) : wX8_requireActions_0 Q QX S a0 := by
  unfold wX8_requireActions_0
  unfold eX8_requireActions_0 at hQ
  refine st_rd hS h_a0 rfl hQ (fun a1 a1v h_a1 hQ => ?_)
  refine st_if (show (1 ≤ (mI S a1 7)) = (1 ≤ (vI V a1v 7)) from by simp only [SM_I hS h_a1]) hQ (fun hQ => ?_) (fun hQ => ?_)
  · exact gd_rt hQ _ hS hx
  · exact gd_th hQ _ hS hx
def ev_X8_requireActions (n : Nat) (V : VS) (a0v : Nat) : Rs Unit := eX8_requireActions_0 n V a0v
theorem sim_X8_requireActions (n : Nat) {Q : MS → Prop} {QX : String → MS → Prop} {S : MS} {V : VS} {a0 a0v : Nat} (hS : SM S V) (h_a0 : Ad S a0 a0v) (hQ : gd (ev_X8_requireActions n V a0v) (SU Q S) (SX QX S)) : wp_X8_requireActions Q QX S a0 := by
  exact sX8_requireActions_0 n hS Ex_rf h_a0 hQ
def eX8_requireAmmunition_0 (n : Nat) (V : VS) (b1v : Nat) : Rs Unit := (if 1 ≤ (vI V b1v 6) then rt () V else th "java/lang/IllegalStateException" V)
set_option maxHeartbeats 4000000 in
set_option maxRecDepth 100000 in
theorem sX8_requireAmmunition_0 (n : Nat) {S0 : MS} {Q : MS → Prop} {QX : String → MS → Prop} {S : MS} {V : VS} {b1 b1v : Nat} (hS : SM S V) (hx : Ex S0 S) (h_b1 : Ad S b1 b1v) (hQ : gd (eX8_requireAmmunition_0 n V b1v) (SU Q S0) (SX QX S0)) : wX8_requireAmmunition_0 Q QX S b1 := by
  unfold wX8_requireAmmunition_0
  unfold eX8_requireAmmunition_0 at hQ
  refine st_if (show (1 ≤ (mI S b1 6)) = (1 ≤ (vI V b1v 6)) from by simp only [SM_I hS h_b1]) hQ (fun hQ => ?_) (fun hQ => ?_)
  · exact gd_rt hQ _ hS hx
  · exact gd_th hQ _ hS hx
def ev_X8_requireAmmunition (n : Nat) (V : VS) (b1v : Nat) : Rs Unit := eX8_requireAmmunition_0 n V b1v
theorem sim_X8_requireAmmunition (n : Nat) {Q : MS → Prop} {QX : String → MS → Prop} {S : MS} {V : VS} {b1 b1v : Nat} (hS : SM S V) (h_b1 : Ad S b1 b1v) (hQ : gd (ev_X8_requireAmmunition n V b1v) (SU Q S) (SX QX S)) : wp_X8_requireAmmunition Q QX S b1 := by
  exact sX8_requireAmmunition_0 n hS Ex_rf h_b1 hQ
def eX8_remember_0 (n : Nat) (V : VS) (a0v : Nat) (x1 : Int32) (x2 : Int32) : Rs Unit := (vR V a0v 5).bind (fun a1v => (vR V a0v 3).bind (fun a2v => bd (ev_X4_save n V a1v a2v) (fun _ V3 => (vR V3 a0v 4).bind (fun a4v => bd (ev_X0_add n V3 a4v x1 x2) (fun _ V5 => rt () V5) th)) th))
set_option maxHeartbeats 4000000 in
set_option maxRecDepth 100000 in
theorem sX8_remember_0 (n : Nat) {S0 : MS} {Q : MS → Prop} {QX : String → MS → Prop} {S : MS} {V : VS} {a0 a0v : Nat} {x1 : Int32} {x2 : Int32} (hS : SM S V) (hx : Ex S0 S) (h_a0 : Ad S a0 a0v) (hQ : gd (eX8_remember_0 n V a0v x1 x2) (SU Q S0) (SX QX S0)) : wX8_remember_0 Q QX S a0 x1 x2 := by
  unfold wX8_remember_0
  unfold eX8_remember_0 at hQ
  refine st_rd hS h_a0 rfl hQ (fun a1 a1v h_a1 hQ => ?_)
  refine st_rd hS h_a0 rfl hQ (fun a2 a2v h_a2 hQ => ?_)
  refine sim_X4_save n hS h_a1 h_a2 ?_
  refine gd_mono (gd_bd hQ) (fun _ V3 hQ S3 hS3 xS => ?_) (fun E V9 hQ S9 hS9 xS9 => gd_th hQ S9 hS9 (Ex_tr hx xS9))
  have hx3 : Ex S0 S3 := Ex_tr hx xS
  have h3_a0 := xS _ _ h_a0
  refine st_rd hS3 h3_a0 rfl hQ (fun a4 a4v h3_a4 hQ => ?_)
  refine sim_X0_add n hS3 h3_a4 rfl rfl ?_
  refine gd_mono (gd_bd hQ) (fun _ V5 hQ S5 hS5 xS => ?_) (fun E V9 hQ S9 hS9 xS9 => gd_th hQ S9 hS9 (Ex_tr hx3 xS9))
  have hx5 : Ex S0 S5 := Ex_tr hx3 xS
  exact gd_rt hQ _ hS5 hx5
def ev_X8_remember (n : Nat) (V : VS) (a0v : Nat) (x1 : Int32) (x2 : Int32) : Rs Unit := eX8_remember_0 n V a0v x1 x2
theorem sim_X8_remember (n : Nat) {Q : MS → Prop} {QX : String → MS → Prop} {S : MS} {V : VS} {a0 a0v : Nat} {x1 x1z : Int32} {x2 x2z : Int32} (hS : SM S V) (h_a0 : Ad S a0 a0v) (e_x1 : x1 = x1z) (e_x2 : x2 = x2z) (hQ : gd (ev_X8_remember n V a0v x1z x2z) (SU Q S) (SX QX S)) : wp_X8_remember Q QX S a0 x1 x2 := by
  subst e_x1 e_x2
  exact sX8_remember_0 n hS Ex_rf h_a0 hQ
def eX8_move_56 (n : Nat) (V : VS) : Rs Int32 := th "java/lang/IllegalArgumentException" V
set_option maxHeartbeats 4000000 in
set_option maxRecDepth 100000 in
theorem sX8_move_56 (n : Nat) {S0 : MS} {Q : Int32 → MS → Prop} {QX : String → MS → Prop} {S : MS} {V : VS} (hS : SM S V) (hx : Ex S0 S) (hQ : gd (eX8_move_56 n V) (SQ Q S0) (SX QX S0)) : wX8_move_56 Q QX S := by
  unfold wX8_move_56
  unfold eX8_move_56 at hQ
  exact gd_th hQ _ hS hx
def eX8_move_0 (n : Nat) (V : VS) (a0v : Nat) (x1 : Int32) : Rs Int32 := bd (ev_X8_requireCell n V a0v x1) (fun _ V1 => bd (ev_X8_requireTurn n V1 a0v) (fun r3v V2 => Option.bind r3v (fun a4v => bd (ev_X8_requireActions n V2 a0v) (fun _ V5 => (vR V5 a0v 10).bind (fun a6v => (vR V5 a0v 3).bind (fun a7v => bd (ev_X5_measure n V5 a6v a7v x1) (fun _ V8 => (if x1 = (vI V8 a4v 4) then eX8_move_56 n V8 else (vR V8 a0v 10).bind (fun a9v => bd (ev_X5_costsFrom n V8 a9v (vI V8 a4v 4)) (fun r11 V10 => (if gvp_in (vI V10 a4v 2) 4 = true then (if r11 ≤ (tbI 4 (vI V10 a4v 2)) then bd (ev_X8_remember n V10 a0v 0 x1) (fun _ V13 => (vR V13 a0v 3).bind (fun a14v => (vR V13 a0v 10).bind (fun a15v => bd (ev_X2_walk n V13 a14v x1 a15v) (fun r17 V16 => rt r17 V16) th))) th else eX8_move_56 n V10) else none)) th))) th))) th)) th) th
set_option maxHeartbeats 4000000 in
set_option maxRecDepth 100000 in
theorem sX8_move_0 (n : Nat) {S0 : MS} {Q : Int32 → MS → Prop} {QX : String → MS → Prop} {S : MS} {V : VS} {a0 a0v : Nat} {x1 : Int32} (hS : SM S V) (hx : Ex S0 S) (h_a0 : Ad S a0 a0v) (hQ : gd (eX8_move_0 n V a0v x1) (SQ Q S0) (SX QX S0)) : wX8_move_0 Q QX S a0 x1 := by
  unfold wX8_move_0
  unfold eX8_move_0 at hQ
  refine sim_X8_requireCell n hS h_a0 rfl ?_
  refine gd_mono (gd_bd hQ) (fun _ V1 hQ S1 hS1 xS => ?_) (fun E V9 hQ S9 hS9 xS9 => gd_th hQ S9 hS9 (Ex_tr hx xS9))
  have hx1 : Ex S0 S1 := Ex_tr hx xS
  have h1_a0 := xS _ _ h_a0
  refine sim_X8_requireTurn n hS1 h1_a0 ?_
  refine gd_mono (gd_bd hQ) (fun r3v V2 hQ S2 r3 hS2 xS o2_r3 => ?_) (fun E V9 hQ S9 hS9 xS9 => gd_th hQ S9 hS9 (Ex_tr hx1 xS9))
  have hx2 : Ex S0 S2 := Ex_tr hx1 xS
  have h2_a0 := xS _ _ h1_a0
  refine st_un o2_r3 hQ (fun a4 a4v h2_a4 hQ => ?_)
  refine sim_X8_requireActions n hS2 h2_a0 ?_
  refine gd_mono (gd_bd hQ) (fun _ V5 hQ S5 hS5 xS => ?_) (fun E V9 hQ S9 hS9 xS9 => gd_th hQ S9 hS9 (Ex_tr hx2 xS9))
  have hx5 : Ex S0 S5 := Ex_tr hx2 xS
  have h5_a0 := xS _ _ h2_a0
  have h5_a4 := xS _ _ h2_a4
  refine st_rd hS5 h5_a0 rfl hQ (fun a6 a6v h5_a6 hQ => ?_)
  refine st_rd hS5 h5_a0 rfl hQ (fun a7 a7v h5_a7 hQ => ?_)
  refine sim_X5_measure n hS5 h5_a6 h5_a7 rfl ?_
  refine gd_mono (gd_bd hQ) (fun _ V8 hQ S8 hS8 xS => ?_) (fun E V9 hQ S9 hS9 xS9 => gd_th hQ S9 hS9 (Ex_tr hx5 xS9))
  have hx8 : Ex S0 S8 := Ex_tr hx5 xS
  have h8_a0 := xS _ _ h5_a0
  have h8_a4 := xS _ _ h5_a4
  refine st_if (show (x1 = (mI S8 a4 4)) = (x1 = (vI V8 a4v 4)) from by simp only [SM_I hS8 h8_a4]) hQ (fun hQ => ?_) (fun hQ => ?_)
  · exact sX8_move_56 n hS8 hx8 hQ
  · refine st_rd hS8 h8_a0 rfl hQ (fun a9 a9v h8_a9 hQ => ?_)
    refine sim_X5_costsFrom n hS8 h8_a9 (show ((mI S8 a4 4)) = ((vI V8 a4v 4)) from by simp only [SM_I hS8 h8_a4]) ?_
    refine gd_mono (gd_bd hQ) (fun r11 V10 hQ S10 hS10 xS => ?_) (fun E V9 hQ S9 hS9 xS9 => gd_th hQ S9 hS9 (Ex_tr hx8 xS9))
    have hx10 : Ex S0 S10 := Ex_tr hx8 xS
    have h10_a0 := xS _ _ h8_a0
    have h10_a4 := xS _ _ h8_a4
    refine st_gd (fun h => by simp only [SM_I hS10 h10_a4]; exact gvp_in_of h) hQ (fun hQ => ?_)
    refine st_if (show (r11 ≤ (tbI 4 (mI S10 a4 2))) = (r11 ≤ (tbI 4 (vI V10 a4v 2))) from by simp only [SM_I hS10 h10_a4]) hQ (fun hQ => ?_) (fun hQ => ?_)
    · refine sim_X8_remember n hS10 h10_a0 rfl rfl ?_
      refine gd_mono (gd_bd hQ) (fun _ V13 hQ S13 hS13 xS => ?_) (fun E V9 hQ S9 hS9 xS9 => gd_th hQ S9 hS9 (Ex_tr hx10 xS9))
      have hx13 : Ex S0 S13 := Ex_tr hx10 xS
      have h13_a0 := xS _ _ h10_a0
      refine st_rd hS13 h13_a0 rfl hQ (fun a14 a14v h13_a14 hQ => ?_)
      refine st_rd hS13 h13_a0 rfl hQ (fun a15 a15v h13_a15 hQ => ?_)
      refine sim_X2_walk n hS13 h13_a14 rfl h13_a15 ?_
      refine gd_mono (gd_bd hQ) (fun r17 V16 hQ S16 hS16 xS => ?_) (fun E V9 hQ S9 hS9 xS9 => gd_th hQ S9 hS9 (Ex_tr hx13 xS9))
      have hx16 : Ex S0 S16 := Ex_tr hx13 xS
      exact gd_rt hQ _ hS16 hx16
    · exact sX8_move_56 n hS10 hx10 hQ
def ev_X8_move (n : Nat) (V : VS) (a0v : Nat) (x1 : Int32) : Rs Int32 := eX8_move_0 n V a0v x1
theorem sim_X8_move (n : Nat) {Q : Int32 → MS → Prop} {QX : String → MS → Prop} {S : MS} {V : VS} {a0 a0v : Nat} {x1 x1z : Int32} (hS : SM S V) (h_a0 : Ad S a0 a0v) (e_x1 : x1 = x1z) (hQ : gd (ev_X8_move n V a0v x1z) (SQ Q S) (SX QX S)) : wp_X8_move Q QX S a0 x1 := by
  subst e_x1
  exact sX8_move_0 n hS Ex_rf h_a0 hQ
def eX8_attack_0 (n : Nat) (V : VS) (a0v : Nat) (x1 : Int32) : Rs Int32 := bd (ev_X8_requireUnit n V a0v x1) (fun r2v V1 => Option.bind r2v (fun a3v => bd (ev_X8_requireTurn n V1 a0v) (fun r5v V4 => Option.bind r5v (fun a6v => bd (ev_X8_requireActions n V4 a0v) (fun _ V7 => bd (ev_X8_requireAmmunition n V7 a6v) (fun _ V8 => bd (ev_X8_requireTarget n V8 a0v a6v a3v) (fun _ V9 => bd (ev_X8_remember n V9 a0v 1 x1) (fun _ V10 => (vR V10 a0v 3).bind (fun a11v => bd (ev_X2_shoot n V10 a11v x1) (fun r13 V12 => rt r13 V12) th)) th) th) th) th)) th)) th
set_option maxHeartbeats 4000000 in
set_option maxRecDepth 100000 in
theorem sX8_attack_0 (n : Nat) {S0 : MS} {Q : Int32 → MS → Prop} {QX : String → MS → Prop} {S : MS} {V : VS} {a0 a0v : Nat} {x1 : Int32} (hS : SM S V) (hx : Ex S0 S) (h_a0 : Ad S a0 a0v) (hQ : gd (eX8_attack_0 n V a0v x1) (SQ Q S0) (SX QX S0)) : wX8_attack_0 Q QX S a0 x1 := by
  unfold wX8_attack_0
  unfold eX8_attack_0 at hQ
  refine sim_X8_requireUnit n hS h_a0 rfl ?_
  refine gd_mono (gd_bd hQ) (fun r2v V1 hQ S1 r2 hS1 xS o1_r2 => ?_) (fun E V9 hQ S9 hS9 xS9 => gd_th hQ S9 hS9 (Ex_tr hx xS9))
  have hx1 : Ex S0 S1 := Ex_tr hx xS
  have h1_a0 := xS _ _ h_a0
  refine st_un o1_r2 hQ (fun a3 a3v h1_a3 hQ => ?_)
  refine sim_X8_requireTurn n hS1 h1_a0 ?_
  refine gd_mono (gd_bd hQ) (fun r5v V4 hQ S4 r5 hS4 xS o4_r5 => ?_) (fun E V9 hQ S9 hS9 xS9 => gd_th hQ S9 hS9 (Ex_tr hx1 xS9))
  have hx4 : Ex S0 S4 := Ex_tr hx1 xS
  have h4_a0 := xS _ _ h1_a0
  have h4_a3 := xS _ _ h1_a3
  refine st_un o4_r5 hQ (fun a6 a6v h4_a6 hQ => ?_)
  refine sim_X8_requireActions n hS4 h4_a0 ?_
  refine gd_mono (gd_bd hQ) (fun _ V7 hQ S7 hS7 xS => ?_) (fun E V9 hQ S9 hS9 xS9 => gd_th hQ S9 hS9 (Ex_tr hx4 xS9))
  have hx7 : Ex S0 S7 := Ex_tr hx4 xS
  have h7_a0 := xS _ _ h4_a0
  have h7_a3 := xS _ _ h4_a3
  have h7_a6 := xS _ _ h4_a6
  refine sim_X8_requireAmmunition n hS7 h7_a6 ?_
  refine gd_mono (gd_bd hQ) (fun _ V8 hQ S8 hS8 xS => ?_) (fun E V9 hQ S9 hS9 xS9 => gd_th hQ S9 hS9 (Ex_tr hx7 xS9))
  have hx8 : Ex S0 S8 := Ex_tr hx7 xS
  have h8_a0 := xS _ _ h7_a0
  have h8_a3 := xS _ _ h7_a3
  have h8_a6 := xS _ _ h7_a6
  refine sim_X8_requireTarget n hS8 h8_a0 h8_a6 h8_a3 ?_
  refine gd_mono (gd_bd hQ) (fun _ V9 hQ S9 hS9 xS => ?_) (fun E V9 hQ S9 hS9 xS9 => gd_th hQ S9 hS9 (Ex_tr hx8 xS9))
  have hx9 : Ex S0 S9 := Ex_tr hx8 xS
  have h9_a0 := xS _ _ h8_a0
  refine sim_X8_remember n hS9 h9_a0 rfl rfl ?_
  refine gd_mono (gd_bd hQ) (fun _ V10 hQ S10 hS10 xS => ?_) (fun E V9 hQ S9 hS9 xS9 => gd_th hQ S9 hS9 (Ex_tr hx9 xS9))
  have hx10 : Ex S0 S10 := Ex_tr hx9 xS
  have h10_a0 := xS _ _ h9_a0
  refine st_rd hS10 h10_a0 rfl hQ (fun a11 a11v h10_a11 hQ => ?_)
  refine sim_X2_shoot n hS10 h10_a11 rfl ?_
  refine gd_mono (gd_bd hQ) (fun r13 V12 hQ S12 hS12 xS => ?_) (fun E V9 hQ S9 hS9 xS9 => gd_th hQ S9 hS9 (Ex_tr hx10 xS9))
  have hx12 : Ex S0 S12 := Ex_tr hx10 xS
  exact gd_rt hQ _ hS12 hx12
def ev_X8_attack (n : Nat) (V : VS) (a0v : Nat) (x1 : Int32) : Rs Int32 := eX8_attack_0 n V a0v x1
theorem sim_X8_attack (n : Nat) {Q : Int32 → MS → Prop} {QX : String → MS → Prop} {S : MS} {V : VS} {a0 a0v : Nat} {x1 x1z : Int32} (hS : SM S V) (h_a0 : Ad S a0 a0v) (e_x1 : x1 = x1z) (hQ : gd (ev_X8_attack n V a0v x1z) (SQ Q S) (SX QX S)) : wp_X8_attack Q QX S a0 x1 := by
  subst e_x1
  exact sX8_attack_0 n hS Ex_rf h_a0 hQ
def eX8_throwAt_0 (n : Nat) (V : VS) (a0v : Nat) (x1 : Int32) : Rs Int32 := bd (ev_X8_requireCell n V a0v x1) (fun _ V1 => bd (ev_X8_requireTurn n V1 a0v) (fun r3v V2 => Option.bind r3v (fun a4v => bd (ev_X8_requireActions n V2 a0v) (fun _ V5 => (if 1 ≤ (vI V5 a4v 7) then (vR V5 a0v 3).bind (fun a6v => bd (ev_X2_canHurl n V5 a6v a4v x1) (fun r8 V7 => (if r8 = 0 then th "java/lang/IllegalArgumentException" V7 else bd (ev_X8_remember n V7 a0v 2 x1) (fun _ V9 => (vR V9 a0v 3).bind (fun a10v => bd (ev_X2_hurl n V9 a10v x1) (fun r12 V11 => rt r12 V11) th)) th)) th) else th "java/lang/IllegalStateException" V5)) th)) th) th
set_option maxHeartbeats 4000000 in
set_option maxRecDepth 100000 in
theorem sX8_throwAt_0 (n : Nat) {S0 : MS} {Q : Int32 → MS → Prop} {QX : String → MS → Prop} {S : MS} {V : VS} {a0 a0v : Nat} {x1 : Int32} (hS : SM S V) (hx : Ex S0 S) (h_a0 : Ad S a0 a0v) (hQ : gd (eX8_throwAt_0 n V a0v x1) (SQ Q S0) (SX QX S0)) : wX8_throwAt_0 Q QX S a0 x1 := by
  unfold wX8_throwAt_0
  unfold eX8_throwAt_0 at hQ
  refine sim_X8_requireCell n hS h_a0 rfl ?_
  refine gd_mono (gd_bd hQ) (fun _ V1 hQ S1 hS1 xS => ?_) (fun E V9 hQ S9 hS9 xS9 => gd_th hQ S9 hS9 (Ex_tr hx xS9))
  have hx1 : Ex S0 S1 := Ex_tr hx xS
  have h1_a0 := xS _ _ h_a0
  refine sim_X8_requireTurn n hS1 h1_a0 ?_
  refine gd_mono (gd_bd hQ) (fun r3v V2 hQ S2 r3 hS2 xS o2_r3 => ?_) (fun E V9 hQ S9 hS9 xS9 => gd_th hQ S9 hS9 (Ex_tr hx1 xS9))
  have hx2 : Ex S0 S2 := Ex_tr hx1 xS
  have h2_a0 := xS _ _ h1_a0
  refine st_un o2_r3 hQ (fun a4 a4v h2_a4 hQ => ?_)
  refine sim_X8_requireActions n hS2 h2_a0 ?_
  refine gd_mono (gd_bd hQ) (fun _ V5 hQ S5 hS5 xS => ?_) (fun E V9 hQ S9 hS9 xS9 => gd_th hQ S9 hS9 (Ex_tr hx2 xS9))
  have hx5 : Ex S0 S5 := Ex_tr hx2 xS
  have h5_a0 := xS _ _ h2_a0
  have h5_a4 := xS _ _ h2_a4
  refine st_if (show (1 ≤ (mI S5 a4 7)) = (1 ≤ (vI V5 a4v 7)) from by simp only [SM_I hS5 h5_a4]) hQ (fun hQ => ?_) (fun hQ => ?_)
  · refine st_rd hS5 h5_a0 rfl hQ (fun a6 a6v h5_a6 hQ => ?_)
    refine sim_X2_canHurl n hS5 h5_a6 h5_a4 rfl ?_
    refine gd_mono (gd_bd hQ) (fun r8 V7 hQ S7 hS7 xS => ?_) (fun E V9 hQ S9 hS9 xS9 => gd_th hQ S9 hS9 (Ex_tr hx5 xS9))
    have hx7 : Ex S0 S7 := Ex_tr hx5 xS
    have h7_a0 := xS _ _ h5_a0
    refine st_ifn rfl hQ (fun hQ => ?_) (fun hQ => ?_)
    · refine sim_X8_remember n hS7 h7_a0 rfl rfl ?_
      refine gd_mono (gd_bd hQ) (fun _ V9 hQ S9 hS9 xS => ?_) (fun E V9 hQ S9 hS9 xS9 => gd_th hQ S9 hS9 (Ex_tr hx7 xS9))
      have hx9 : Ex S0 S9 := Ex_tr hx7 xS
      have h9_a0 := xS _ _ h7_a0
      refine st_rd hS9 h9_a0 rfl hQ (fun a10 a10v h9_a10 hQ => ?_)
      refine sim_X2_hurl n hS9 h9_a10 rfl ?_
      refine gd_mono (gd_bd hQ) (fun r12 V11 hQ S11 hS11 xS => ?_) (fun E V9 hQ S9 hS9 xS9 => gd_th hQ S9 hS9 (Ex_tr hx9 xS9))
      have hx11 : Ex S0 S11 := Ex_tr hx9 xS
      exact gd_rt hQ _ hS11 hx11
    · exact gd_th hQ _ hS7 hx7
  · exact gd_th hQ _ hS5 hx5
def ev_X8_throwAt (n : Nat) (V : VS) (a0v : Nat) (x1 : Int32) : Rs Int32 := eX8_throwAt_0 n V a0v x1
theorem sim_X8_throwAt (n : Nat) {Q : Int32 → MS → Prop} {QX : String → MS → Prop} {S : MS} {V : VS} {a0 a0v : Nat} {x1 x1z : Int32} (hS : SM S V) (h_a0 : Ad S a0 a0v) (e_x1 : x1 = x1z) (hQ : gd (ev_X8_throwAt n V a0v x1z) (SQ Q S) (SX QX S)) : wp_X8_throwAt Q QX S a0 x1 := by
  subst e_x1
  exact sX8_throwAt_0 n hS Ex_rf h_a0 hQ
def eX8_guard_0 (n : Nat) (V : VS) (a0v : Nat) : Rs Int32 := bd (ev_X8_requireTurn n V a0v) (fun r2v V1 => Option.bind r2v (fun a3v => bd (ev_X8_requireActions n V1 a0v) (fun _ V4 => (if (vI V4 a3v 11) = 0 then bd (ev_X8_remember n V4 a0v 3 0) (fun _ V5 => (vR V5 a0v 3).bind (fun a6v => bd (ev_X2_startGuarding n V5 a6v) (fun r8 V7 => rt r8 V7) th)) th else th "java/lang/IllegalStateException" V4)) th)) th
set_option maxHeartbeats 4000000 in
set_option maxRecDepth 100000 in
theorem sX8_guard_0 (n : Nat) {S0 : MS} {Q : Int32 → MS → Prop} {QX : String → MS → Prop} {S : MS} {V : VS} {a0 a0v : Nat} (hS : SM S V) (hx : Ex S0 S) (h_a0 : Ad S a0 a0v) (hQ : gd (eX8_guard_0 n V a0v) (SQ Q S0) (SX QX S0)) : wX8_guard_0 Q QX S a0 := by
  unfold wX8_guard_0
  unfold eX8_guard_0 at hQ
  refine sim_X8_requireTurn n hS h_a0 ?_
  refine gd_mono (gd_bd hQ) (fun r2v V1 hQ S1 r2 hS1 xS o1_r2 => ?_) (fun E V9 hQ S9 hS9 xS9 => gd_th hQ S9 hS9 (Ex_tr hx xS9))
  have hx1 : Ex S0 S1 := Ex_tr hx xS
  have h1_a0 := xS _ _ h_a0
  refine st_un o1_r2 hQ (fun a3 a3v h1_a3 hQ => ?_)
  refine sim_X8_requireActions n hS1 h1_a0 ?_
  refine gd_mono (gd_bd hQ) (fun _ V4 hQ S4 hS4 xS => ?_) (fun E V9 hQ S9 hS9 xS9 => gd_th hQ S9 hS9 (Ex_tr hx1 xS9))
  have hx4 : Ex S0 S4 := Ex_tr hx1 xS
  have h4_a0 := xS _ _ h1_a0
  have h4_a3 := xS _ _ h1_a3
  refine st_if (show ((mI S4 a3 11) = 0) = ((vI V4 a3v 11) = 0) from by simp only [SM_I hS4 h4_a3]) hQ (fun hQ => ?_) (fun hQ => ?_)
  · refine sim_X8_remember n hS4 h4_a0 rfl rfl ?_
    refine gd_mono (gd_bd hQ) (fun _ V5 hQ S5 hS5 xS => ?_) (fun E V9 hQ S9 hS9 xS9 => gd_th hQ S9 hS9 (Ex_tr hx4 xS9))
    have hx5 : Ex S0 S5 := Ex_tr hx4 xS
    have h5_a0 := xS _ _ h4_a0
    refine st_rd hS5 h5_a0 rfl hQ (fun a6 a6v h5_a6 hQ => ?_)
    refine sim_X2_startGuarding n hS5 h5_a6 ?_
    refine gd_mono (gd_bd hQ) (fun r8 V7 hQ S7 hS7 xS => ?_) (fun E V9 hQ S9 hS9 xS9 => gd_th hQ S9 hS9 (Ex_tr hx5 xS9))
    have hx7 : Ex S0 S7 := Ex_tr hx5 xS
    exact gd_rt hQ _ hS7 hx7
  · exact gd_th hQ _ hS4 hx4
def ev_X8_guard (n : Nat) (V : VS) (a0v : Nat) : Rs Int32 := eX8_guard_0 n V a0v
theorem sim_X8_guard (n : Nat) {Q : Int32 → MS → Prop} {QX : String → MS → Prop} {S : MS} {V : VS} {a0 a0v : Nat} (hS : SM S V) (h_a0 : Ad S a0 a0v) (hQ : gd (ev_X8_guard n V a0v) (SQ Q S) (SX QX S)) : wp_X8_guard Q QX S a0 := by
  exact sX8_guard_0 n hS Ex_rf h_a0 hQ
def eX8_watch_0 (n : Nat) (V : VS) (a0v : Nat) : Rs Int32 := bd (ev_X8_requireTurn n V a0v) (fun r2v V1 => Option.bind r2v (fun a3v => bd (ev_X8_requireActions n V1 a0v) (fun _ V4 => bd (ev_X8_requireAmmunition n V4 a3v) (fun _ V5 => bd (ev_X8_remember n V5 a0v 4 0) (fun _ V6 => (vR V6 a0v 3).bind (fun a7v => bd (ev_X2_startWatching n V6 a7v) (fun r9 V8 => rt r9 V8) th)) th) th) th)) th
set_option maxHeartbeats 4000000 in
set_option maxRecDepth 100000 in
theorem sX8_watch_0 (n : Nat) {S0 : MS} {Q : Int32 → MS → Prop} {QX : String → MS → Prop} {S : MS} {V : VS} {a0 a0v : Nat} (hS : SM S V) (hx : Ex S0 S) (h_a0 : Ad S a0 a0v) (hQ : gd (eX8_watch_0 n V a0v) (SQ Q S0) (SX QX S0)) : wX8_watch_0 Q QX S a0 := by
  unfold wX8_watch_0
  unfold eX8_watch_0 at hQ
  refine sim_X8_requireTurn n hS h_a0 ?_
  refine gd_mono (gd_bd hQ) (fun r2v V1 hQ S1 r2 hS1 xS o1_r2 => ?_) (fun E V9 hQ S9 hS9 xS9 => gd_th hQ S9 hS9 (Ex_tr hx xS9))
  have hx1 : Ex S0 S1 := Ex_tr hx xS
  have h1_a0 := xS _ _ h_a0
  refine st_un o1_r2 hQ (fun a3 a3v h1_a3 hQ => ?_)
  refine sim_X8_requireActions n hS1 h1_a0 ?_
  refine gd_mono (gd_bd hQ) (fun _ V4 hQ S4 hS4 xS => ?_) (fun E V9 hQ S9 hS9 xS9 => gd_th hQ S9 hS9 (Ex_tr hx1 xS9))
  have hx4 : Ex S0 S4 := Ex_tr hx1 xS
  have h4_a0 := xS _ _ h1_a0
  have h4_a3 := xS _ _ h1_a3
  refine sim_X8_requireAmmunition n hS4 h4_a3 ?_
  refine gd_mono (gd_bd hQ) (fun _ V5 hQ S5 hS5 xS => ?_) (fun E V9 hQ S9 hS9 xS9 => gd_th hQ S9 hS9 (Ex_tr hx4 xS9))
  have hx5 : Ex S0 S5 := Ex_tr hx4 xS
  have h5_a0 := xS _ _ h4_a0
  refine sim_X8_remember n hS5 h5_a0 rfl rfl ?_
  refine gd_mono (gd_bd hQ) (fun _ V6 hQ S6 hS6 xS => ?_) (fun E V9 hQ S9 hS9 xS9 => gd_th hQ S9 hS9 (Ex_tr hx5 xS9))
  have hx6 : Ex S0 S6 := Ex_tr hx5 xS
  have h6_a0 := xS _ _ h5_a0
  refine st_rd hS6 h6_a0 rfl hQ (fun a7 a7v h6_a7 hQ => ?_)
  refine sim_X2_startWatching n hS6 h6_a7 ?_
  refine gd_mono (gd_bd hQ) (fun r9 V8 hQ S8 hS8 xS => ?_) (fun E V9 hQ S9 hS9 xS9 => gd_th hQ S9 hS9 (Ex_tr hx6 xS9))
  have hx8 : Ex S0 S8 := Ex_tr hx6 xS
  exact gd_rt hQ _ hS8 hx8
def ev_X8_watch (n : Nat) (V : VS) (a0v : Nat) : Rs Int32 := eX8_watch_0 n V a0v
theorem sim_X8_watch (n : Nat) {Q : Int32 → MS → Prop} {QX : String → MS → Prop} {S : MS} {V : VS} {a0 a0v : Nat} (hS : SM S V) (h_a0 : Ad S a0 a0v) (hQ : gd (ev_X8_watch n V a0v) (SQ Q S) (SX QX S)) : wp_X8_watch Q QX S a0 := by
  exact sX8_watch_0 n hS Ex_rf h_a0 hQ
def eX8_reload_0 (n : Nat) (V : VS) (a0v : Nat) : Rs Int32 := bd (ev_X8_requireTurn n V a0v) (fun r2v V1 => Option.bind r2v (fun a3v => bd (ev_X8_requireActions n V1 a0v) (fun _ V4 => bd (ev_X8_remember n V4 a0v 5 0) (fun _ V5 => (vR V5 a0v 3).bind (fun a6v => bd (ev_X2_refill n V5 a6v) (fun r8 V7 => rt r8 V7) th)) th) th)) th
set_option maxHeartbeats 4000000 in
set_option maxRecDepth 100000 in
theorem sX8_reload_0 (n : Nat) {S0 : MS} {Q : Int32 → MS → Prop} {QX : String → MS → Prop} {S : MS} {V : VS} {a0 a0v : Nat} (hS : SM S V) (hx : Ex S0 S) (h_a0 : Ad S a0 a0v) (hQ : gd (eX8_reload_0 n V a0v) (SQ Q S0) (SX QX S0)) : wX8_reload_0 Q QX S a0 := by
  unfold wX8_reload_0
  unfold eX8_reload_0 at hQ
  refine sim_X8_requireTurn n hS h_a0 ?_
  refine gd_mono (gd_bd hQ) (fun r2v V1 hQ S1 r2 hS1 xS o1_r2 => ?_) (fun E V9 hQ S9 hS9 xS9 => gd_th hQ S9 hS9 (Ex_tr hx xS9))
  have hx1 : Ex S0 S1 := Ex_tr hx xS
  have h1_a0 := xS _ _ h_a0
  refine st_un o1_r2 hQ (fun a3 a3v h1_a3 hQ => ?_)
  refine sim_X8_requireActions n hS1 h1_a0 ?_
  refine gd_mono (gd_bd hQ) (fun _ V4 hQ S4 hS4 xS => ?_) (fun E V9 hQ S9 hS9 xS9 => gd_th hQ S9 hS9 (Ex_tr hx1 xS9))
  have hx4 : Ex S0 S4 := Ex_tr hx1 xS
  have h4_a0 := xS _ _ h1_a0
  refine sim_X8_remember n hS4 h4_a0 rfl rfl ?_
  refine gd_mono (gd_bd hQ) (fun _ V5 hQ S5 hS5 xS => ?_) (fun E V9 hQ S9 hS9 xS9 => gd_th hQ S9 hS9 (Ex_tr hx4 xS9))
  have hx5 : Ex S0 S5 := Ex_tr hx4 xS
  have h5_a0 := xS _ _ h4_a0
  refine st_rd hS5 h5_a0 rfl hQ (fun a6 a6v h5_a6 hQ => ?_)
  refine sim_X2_refill n hS5 h5_a6 ?_
  refine gd_mono (gd_bd hQ) (fun r8 V7 hQ S7 hS7 xS => ?_) (fun E V9 hQ S9 hS9 xS9 => gd_th hQ S9 hS9 (Ex_tr hx5 xS9))
  have hx7 : Ex S0 S7 := Ex_tr hx5 xS
  exact gd_rt hQ _ hS7 hx7
def ev_X8_reload (n : Nat) (V : VS) (a0v : Nat) : Rs Int32 := eX8_reload_0 n V a0v
theorem sim_X8_reload (n : Nat) {Q : Int32 → MS → Prop} {QX : String → MS → Prop} {S : MS} {V : VS} {a0 a0v : Nat} (hS : SM S V) (h_a0 : Ad S a0 a0v) (hQ : gd (ev_X8_reload n V a0v) (SQ Q S) (SX QX S)) : wp_X8_reload Q QX S a0 := by
  exact sX8_reload_0 n hS Ex_rf h_a0 hQ
def eX8_endTurn_0 (n : Nat) (V : VS) (a0v : Nat) : Rs Int32 := bd (ev_X8_requireTurn n V a0v) (fun r2v V1 => Option.bind r2v (fun a3v => bd (ev_X8_remember n V1 a0v 6 0) (fun _ V4 => (vR V4 a0v 3).bind (fun a5v => bd (ev_X2_finishTurn n V4 a5v) (fun r7 V6 => rt r7 V6) th)) th)) th
set_option maxHeartbeats 4000000 in
set_option maxRecDepth 100000 in
theorem sX8_endTurn_0 (n : Nat) {S0 : MS} {Q : Int32 → MS → Prop} {QX : String → MS → Prop} {S : MS} {V : VS} {a0 a0v : Nat} (hS : SM S V) (hx : Ex S0 S) (h_a0 : Ad S a0 a0v) (hQ : gd (eX8_endTurn_0 n V a0v) (SQ Q S0) (SX QX S0)) : wX8_endTurn_0 Q QX S a0 := by
  unfold wX8_endTurn_0
  unfold eX8_endTurn_0 at hQ
  refine sim_X8_requireTurn n hS h_a0 ?_
  refine gd_mono (gd_bd hQ) (fun r2v V1 hQ S1 r2 hS1 xS o1_r2 => ?_) (fun E V9 hQ S9 hS9 xS9 => gd_th hQ S9 hS9 (Ex_tr hx xS9))
  have hx1 : Ex S0 S1 := Ex_tr hx xS
  have h1_a0 := xS _ _ h_a0
  refine st_un o1_r2 hQ (fun a3 a3v h1_a3 hQ => ?_)
  refine sim_X8_remember n hS1 h1_a0 rfl rfl ?_
  refine gd_mono (gd_bd hQ) (fun _ V4 hQ S4 hS4 xS => ?_) (fun E V9 hQ S9 hS9 xS9 => gd_th hQ S9 hS9 (Ex_tr hx1 xS9))
  have hx4 : Ex S0 S4 := Ex_tr hx1 xS
  have h4_a0 := xS _ _ h1_a0
  refine st_rd hS4 h4_a0 rfl hQ (fun a5 a5v h4_a5 hQ => ?_)
  refine sim_X2_finishTurn n hS4 h4_a5 ?_
  refine gd_mono (gd_bd hQ) (fun r7 V6 hQ S6 hS6 xS => ?_) (fun E V9 hQ S9 hS9 xS9 => gd_th hQ S9 hS9 (Ex_tr hx4 xS9))
  have hx6 : Ex S0 S6 := Ex_tr hx4 xS
  exact gd_rt hQ _ hS6 hx6
def ev_X8_endTurn (n : Nat) (V : VS) (a0v : Nat) : Rs Int32 := eX8_endTurn_0 n V a0v
theorem sim_X8_endTurn (n : Nat) {Q : Int32 → MS → Prop} {QX : String → MS → Prop} {S : MS} {V : VS} {a0 a0v : Nat} (hS : SM S V) (h_a0 : Ad S a0 a0v) (hQ : gd (ev_X8_endTurn n V a0v) (SQ Q S) (SX QX S)) : wp_X8_endTurn Q QX S a0 := by
  exact sX8_endTurn_0 n hS Ex_rf h_a0 hQ
def eX8_eventCount_0 (n : Nat) (V : VS) (a0v : Nat) : Rs Int32 := (vR V a0v 3).bind (fun a1v => (vR V a1v 11).bind (fun a2v => rt (vI V a2v 3) V))
set_option maxHeartbeats 4000000 in
set_option maxRecDepth 100000 in
theorem sX8_eventCount_0 (n : Nat) {S0 : MS} {Q : Int32 → MS → Prop} {QX : String → MS → Prop} {S : MS} {V : VS} {a0 a0v : Nat} (hS : SM S V) (hx : Ex S0 S) (h_a0 : Ad S a0 a0v) (hQ : gd (eX8_eventCount_0 n V a0v) (SQ Q S0) (SX QX S0)) : wX8_eventCount_0 Q QX S a0 := by
  unfold wX8_eventCount_0
  unfold eX8_eventCount_0 at hQ
  refine st_rd hS h_a0 rfl hQ (fun a1 a1v h_a1 hQ => ?_)
  refine st_rd hS h_a1 rfl hQ (fun a2 a2v h_a2 hQ => ?_)
  simp only [SM_I hS h_a2]
  exact gd_rt hQ _ hS hx
def ev_X8_eventCount (n : Nat) (V : VS) (a0v : Nat) : Rs Int32 := eX8_eventCount_0 n V a0v
theorem sim_X8_eventCount (n : Nat) {Q : Int32 → MS → Prop} {QX : String → MS → Prop} {S : MS} {V : VS} {a0 a0v : Nat} (hS : SM S V) (h_a0 : Ad S a0 a0v) (hQ : gd (ev_X8_eventCount n V a0v) (SQ Q S) (SX QX S)) : wp_X8_eventCount Q QX S a0 := by
  exact sX8_eventCount_0 n hS Ex_rf h_a0 hQ
def eX8_event_27 (n : Nat) (V : VS) : Rs Int32 := th "java/lang/IndexOutOfBoundsException" V
set_option maxHeartbeats 4000000 in
set_option maxRecDepth 100000 in
theorem sX8_event_27 (n : Nat) {S0 : MS} {Q : Int32 → MS → Prop} {QX : String → MS → Prop} {S : MS} {V : VS} (hS : SM S V) (hx : Ex S0 S) (hQ : gd (eX8_event_27 n V) (SQ Q S0) (SX QX S0)) : wX8_event_27 Q QX S := by
  unfold wX8_event_27
  unfold eX8_event_27 at hQ
  exact gd_th hQ _ hS hx
def eX8_event_0 (n : Nat) (V : VS) (a0v : Nat) (x1 : Int32) (x2 : Int32) : Rs Int32 := (if x1 < 0 then eX8_event_27 n V else (vR V a0v 3).bind (fun a1v => (vR V a1v 11).bind (fun a2v => (if (vI V a2v 3) ≤ x1 then eX8_event_27 n V else (if x2 < 0 then eX8_event_27 n V else (if x2 ≤ 2 then (vR V a0v 3).bind (fun a3v => (vR V a3v 11).bind (fun a4v => bd (ev_X1_valueAt n V a4v x1 x2) (fun r6 V5 => rt r6 V5) th)) else eX8_event_27 n V))))))
set_option maxHeartbeats 4000000 in
set_option maxRecDepth 100000 in
theorem sX8_event_0 (n : Nat) {S0 : MS} {Q : Int32 → MS → Prop} {QX : String → MS → Prop} {S : MS} {V : VS} {a0 a0v : Nat} {x1 : Int32} {x2 : Int32} (hS : SM S V) (hx : Ex S0 S) (h_a0 : Ad S a0 a0v) (hQ : gd (eX8_event_0 n V a0v x1 x2) (SQ Q S0) (SX QX S0)) : wX8_event_0 Q QX S a0 x1 x2 := by
  unfold wX8_event_0
  unfold eX8_event_0 at hQ
  refine st_if rfl hQ (fun hQ => ?_) (fun hQ => ?_)
  · exact sX8_event_27 n hS hx hQ
  · refine st_rd hS h_a0 rfl hQ (fun a1 a1v h_a1 hQ => ?_)
    refine st_rd hS h_a1 rfl hQ (fun a2 a2v h_a2 hQ => ?_)
    refine st_if (show ((mI S a2 3) ≤ x1) = ((vI V a2v 3) ≤ x1) from by simp only [SM_I hS h_a2]) hQ (fun hQ => ?_) (fun hQ => ?_)
    · exact sX8_event_27 n hS hx hQ
    · refine st_if rfl hQ (fun hQ => ?_) (fun hQ => ?_)
      · exact sX8_event_27 n hS hx hQ
      · refine st_if rfl hQ (fun hQ => ?_) (fun hQ => ?_)
        · refine st_rd hS h_a0 rfl hQ (fun a3 a3v h_a3 hQ => ?_)
          refine st_rd hS h_a3 rfl hQ (fun a4 a4v h_a4 hQ => ?_)
          refine sim_X1_valueAt n hS h_a4 rfl rfl ?_
          refine gd_mono (gd_bd hQ) (fun r6 V5 hQ S5 hS5 xS => ?_) (fun E V9 hQ S9 hS9 xS9 => gd_th hQ S9 hS9 (Ex_tr hx xS9))
          have hx5 : Ex S0 S5 := Ex_tr hx xS
          exact gd_rt hQ _ hS5 hx5
        · exact sX8_event_27 n hS hx hQ
def ev_X8_event (n : Nat) (V : VS) (a0v : Nat) (x1 : Int32) (x2 : Int32) : Rs Int32 := eX8_event_0 n V a0v x1 x2
theorem sim_X8_event (n : Nat) {Q : Int32 → MS → Prop} {QX : String → MS → Prop} {S : MS} {V : VS} {a0 a0v : Nat} {x1 x1z : Int32} {x2 x2z : Int32} (hS : SM S V) (h_a0 : Ad S a0 a0v) (e_x1 : x1 = x1z) (e_x2 : x2 = x2z) (hQ : gd (ev_X8_event n V a0v x1z x2z) (SQ Q S) (SX QX S)) : wp_X8_event Q QX S a0 x1 x2 := by
  subst e_x1 e_x2
  exact sX8_event_0 n hS Ex_rf h_a0 hQ
def eX8_commandCount_0 (n : Nat) (V : VS) (a0v : Nat) : Rs Int32 := (vR V a0v 4).bind (fun a1v => rt (vI V a1v 2) V)
set_option maxHeartbeats 4000000 in
set_option maxRecDepth 100000 in
theorem sX8_commandCount_0 (n : Nat) {S0 : MS} {Q : Int32 → MS → Prop} {QX : String → MS → Prop} {S : MS} {V : VS} {a0 a0v : Nat} (hS : SM S V) (hx : Ex S0 S) (h_a0 : Ad S a0 a0v) (hQ : gd (eX8_commandCount_0 n V a0v) (SQ Q S0) (SX QX S0)) : wX8_commandCount_0 Q QX S a0 := by
  unfold wX8_commandCount_0
  unfold eX8_commandCount_0 at hQ
  refine st_rd hS h_a0 rfl hQ (fun a1 a1v h_a1 hQ => ?_)
  simp only [SM_I hS h_a1]
  exact gd_rt hQ _ hS hx
def ev_X8_commandCount (n : Nat) (V : VS) (a0v : Nat) : Rs Int32 := eX8_commandCount_0 n V a0v
theorem sim_X8_commandCount (n : Nat) {Q : Int32 → MS → Prop} {QX : String → MS → Prop} {S : MS} {V : VS} {a0 a0v : Nat} (hS : SM S V) (h_a0 : Ad S a0 a0v) (hQ : gd (ev_X8_commandCount n V a0v) (SQ Q S) (SX QX S)) : wp_X8_commandCount Q QX S a0 := by
  exact sX8_commandCount_0 n hS Ex_rf h_a0 hQ
def eX8_undo_0 (n : Nat) (V : VS) (a0v : Nat) : Rs Int32 := (vR V a0v 5).bind (fun a1v => (if 1 ≤ (vI V a1v 2) then (vR V a0v 5).bind (fun a2v => (vR V a0v 3).bind (fun a3v => bd (ev_X4_takeBack n V a2v a3v) (fun _ V4 => (vR V4 a0v 4).bind (fun a5v => bd (ev_X0_dropLast n V4 a5v) (fun _ V6 => (vR V6 a0v 5).bind (fun a7v => rt (vI V6 a7v 2) V6)) th)) th)) else th "java/lang/IllegalStateException" V))
set_option maxHeartbeats 4000000 in
set_option maxRecDepth 100000 in
theorem sX8_undo_0 (n : Nat) {S0 : MS} {Q : Int32 → MS → Prop} {QX : String → MS → Prop} {S : MS} {V : VS} {a0 a0v : Nat} (hS : SM S V) (hx : Ex S0 S) (h_a0 : Ad S a0 a0v) (hQ : gd (eX8_undo_0 n V a0v) (SQ Q S0) (SX QX S0)) : wX8_undo_0 Q QX S a0 := by
  unfold wX8_undo_0
  unfold eX8_undo_0 at hQ
  refine st_rd hS h_a0 rfl hQ (fun a1 a1v h_a1 hQ => ?_)
  refine st_if (show (1 ≤ (mI S a1 2)) = (1 ≤ (vI V a1v 2)) from by simp only [SM_I hS h_a1]) hQ (fun hQ => ?_) (fun hQ => ?_)
  · refine st_rd hS h_a0 rfl hQ (fun a2 a2v h_a2 hQ => ?_)
    refine st_rd hS h_a0 rfl hQ (fun a3 a3v h_a3 hQ => ?_)
    refine sim_X4_takeBack n hS h_a2 h_a3 ?_
    refine gd_mono (gd_bd hQ) (fun _ V4 hQ S4 hS4 xS => ?_) (fun E V9 hQ S9 hS9 xS9 => gd_th hQ S9 hS9 (Ex_tr hx xS9))
    have hx4 : Ex S0 S4 := Ex_tr hx xS
    have h4_a0 := xS _ _ h_a0
    refine st_rd hS4 h4_a0 rfl hQ (fun a5 a5v h4_a5 hQ => ?_)
    refine sim_X0_dropLast n hS4 h4_a5 ?_
    refine gd_mono (gd_bd hQ) (fun _ V6 hQ S6 hS6 xS => ?_) (fun E V9 hQ S9 hS9 xS9 => gd_th hQ S9 hS9 (Ex_tr hx4 xS9))
    have hx6 : Ex S0 S6 := Ex_tr hx4 xS
    have h6_a0 := xS _ _ h4_a0
    refine st_rd hS6 h6_a0 rfl hQ (fun a7 a7v h6_a7 hQ => ?_)
    simp only [SM_I hS6 h6_a7]
    exact gd_rt hQ _ hS6 hx6
  · exact gd_th hQ _ hS hx
def ev_X8_undo (n : Nat) (V : VS) (a0v : Nat) : Rs Int32 := eX8_undo_0 n V a0v
theorem sim_X8_undo (n : Nat) {Q : Int32 → MS → Prop} {QX : String → MS → Prop} {S : MS} {V : VS} {a0 a0v : Nat} (hS : SM S V) (h_a0 : Ad S a0 a0v) (hQ : gd (ev_X8_undo n V a0v) (SQ Q S) (SX QX S)) : wp_X8_undo Q QX S a0 := by
  exact sX8_undo_0 n hS Ex_rf h_a0 hQ
def eX8_isReplayed_95 (n : Nat) (V : VS) (a0v : Nat) : Rs Int32 := (vR V a0v 9).bind (fun a1v => (vR V a0v 3).bind (fun a2v => bd (ev_X2_isSameAs n V a1v a2v) (fun r4 V3 => (if gisZ r4 = true then rt r4 V3 else none)) th))
set_option maxHeartbeats 4000000 in
set_option maxRecDepth 100000 in
theorem sX8_isReplayed_95 (n : Nat) {S0 : MS} {Q : Int32 → MS → Prop} {QX : String → MS → Prop} {S : MS} {V : VS} {a0 a0v : Nat} (hS : SM S V) (hx : Ex S0 S) (h_a0 : Ad S a0 a0v) (hQ : gd (eX8_isReplayed_95 n V a0v) (SQ Q S0) (SX QX S0)) : wX8_isReplayed_95 Q QX S a0 := by
  unfold wX8_isReplayed_95
  unfold eX8_isReplayed_95 at hQ
  refine st_rd hS h_a0 rfl hQ (fun a1 a1v h_a1 hQ => ?_)
  refine st_rd hS h_a0 rfl hQ (fun a2 a2v h_a2 hQ => ?_)
  refine sim_X2_isSameAs n hS h_a1 h_a2 ?_
  refine gd_mono (gd_bd hQ) (fun r4 V3 hQ S3 hS3 xS => ?_) (fun E V9 hQ S9 hS9 xS9 => gd_th hQ S9 hS9 (Ex_tr hx xS9))
  have hx3 : Ex S0 S3 := Ex_tr hx xS
  refine st_gd (fun h => by exact gisZ_of h) hQ (fun hQ => ?_)
  exact gd_rt hQ _ hS3 hx3
def eX8_isReplayed_41 (n : Nat) (k41v : VS → Nat → Int32 → Rs Int32) (V : VS) (a0v : Nat) (y1 : Int32) : Rs Int32 := (vR V a0v 4).bind (fun a1v => (if (vI V a1v 2) ≤ y1 then eX8_isReplayed_95 n V a0v else (if 512 ≤ y1 then eX8_isReplayed_95 n V a0v else (vR V a0v 9).bind (fun a2v => (vR V a0v 4).bind (fun a3v => (vR V a3v 0).bind (fun a4v => (if gvp_in y1 (vN V a4v) = true then (vR V a0v 4).bind (fun a5v => (vR V a5v 1).bind (fun a6v => (if gvp_in y1 (vN V a6v) = true then (vR V a0v 10).bind (fun a7v => bd (ev_X2_carryOut n V a2v (vI V a4v (y1 : Int32).toNatClampNeg) (vI V a6v (y1 : Int32).toNatClampNeg) a7v) (fun r9 V8 => k41v V8 a0v (y1 + 1)) th) else none))) else none)))))))
set_option maxHeartbeats 4000000 in
set_option maxRecDepth 100000 in
theorem sX8_isReplayed_41 (n : Nat) {S0 : MS} {Q : Int32 → MS → Prop} {QX : String → MS → Prop} {k41 : MS → Nat → Int32 → Prop} {k41v : VS → Nat → Int32 → Rs Int32} (hk41 : ∀ (S : MS) (V : VS) (p0 p0v : Nat) (p1 : Int32), SM S V → Ex S0 S → Ad S p0 p0v → gd (k41v V p0v p1) (SQ Q S0) (SX QX S0) → k41 S p0 p1) {S : MS} {V : VS} {a0 a0v : Nat} {y1 : Int32} (hS : SM S V) (hx : Ex S0 S) (h_a0 : Ad S a0 a0v) (hQ : gd (eX8_isReplayed_41 n k41v V a0v y1) (SQ Q S0) (SX QX S0)) : wX8_isReplayed_41 Q QX k41 S a0 y1 := by
  unfold wX8_isReplayed_41
  unfold eX8_isReplayed_41 at hQ
  refine st_rd hS h_a0 rfl hQ (fun a1 a1v h_a1 hQ => ?_)
  refine st_if (show ((mI S a1 2) ≤ y1) = ((vI V a1v 2) ≤ y1) from by simp only [SM_I hS h_a1]) hQ (fun hQ => ?_) (fun hQ => ?_)
  · exact sX8_isReplayed_95 n hS hx h_a0 hQ
  · refine st_if rfl hQ (fun hQ => ?_) (fun hQ => ?_)
    · exact sX8_isReplayed_95 n hS hx h_a0 hQ
    · refine st_rd hS h_a0 rfl hQ (fun a2 a2v h_a2 hQ => ?_)
      refine st_rd hS h_a0 rfl hQ (fun a3 a3v h_a3 hQ => ?_)
      refine st_rd hS h_a3 rfl hQ (fun a4 a4v h_a4 hQ => ?_)
      refine st_gd (fun h => by simp only [SM_N hS h_a4]; exact gvp_in_of h) hQ (fun hQ => ?_)
      refine st_rd hS h_a0 rfl hQ (fun a5 a5v h_a5 hQ => ?_)
      refine st_rd hS h_a5 rfl hQ (fun a6 a6v h_a6 hQ => ?_)
      refine st_gd (fun h => by simp only [SM_N hS h_a6]; exact gvp_in_of h) hQ (fun hQ => ?_)
      refine st_rd hS h_a0 rfl hQ (fun a7 a7v h_a7 hQ => ?_)
      refine sim_X2_carryOut n hS h_a2 (show ((mI S a4 (y1 : Int32).toNatClampNeg)) = ((vI V a4v (y1 : Int32).toNatClampNeg)) from by simp only [SM_I hS h_a4]) (show ((mI S a6 (y1 : Int32).toNatClampNeg)) = ((vI V a6v (y1 : Int32).toNatClampNeg)) from by simp only [SM_I hS h_a6]) h_a7 ?_
      refine gd_mono (gd_bd hQ) (fun r9 V8 hQ S8 hS8 xS => ?_) (fun E V9 hQ S9 hS9 xS9 => gd_th hQ S9 hS9 (Ex_tr hx xS9))
      have hx8 : Ex S0 S8 := Ex_tr hx xS
      have h8_a0 := xS _ _ h_a0
      exact hk41 _ _ _ _ _ hS8 hx8 h8_a0 hQ
def elX8_isReplayed_41 (n : Nat) : Nat → VS → Nat → Int32 → Rs Int32
  | 0 => fun _ _ _ => none
  | m + 1 => fun V a0v y1 => eX8_isReplayed_41 n (elX8_isReplayed_41 n m) V a0v y1
theorem selX8_isReplayed_41 (n : Nat) {S0 : MS} {Q : Int32 → MS → Prop} {QX : String → MS → Prop} : ∀ (m : Nat), ∀ (S : MS) (V : VS) (p0 p0v : Nat) (p1 : Int32), SM S V → Ex S0 S → Ad S p0 p0v → gd (elX8_isReplayed_41 n m V p0v p1) (SQ Q S0) (SX QX S0) → lX8_isReplayed_41 Q QX m S p0 p1 := by
  intro m
  induction m with
  | zero => intro S V p0 p0v p1 hS hx q0 hQ; exact (gd_none hQ).elim
  | succ m ih => intro S V p0 p0v p1 hS hx q0 hQ; exact sX8_isReplayed_41 n ih hS hx q0 hQ
def eX8_isReplayed_0 (n : Nat) (V : VS) (a0v : Nat) : Rs Int32 := (vR V a0v 3).bind (fun a1v => bd (ev_X2_hasBegun n V a1v) (fun r3 V2 => (if r3 = 0 then th "java/lang/IllegalStateException" V2 else (vR V2 a0v 9).bind (fun a4v => (vR V2 a0v 3).bind (fun a5v => bd (ev_X2_prepareLike n V2 a4v a5v) (fun _ V6 => (vR V6 a0v 9).bind (fun a7v => bd (ev_X2_startRounds n V6 a7v) (fun _ V8 => elX8_isReplayed_41 n n V8 a0v 0) th)) th)))) th)
set_option maxHeartbeats 4000000 in
set_option maxRecDepth 100000 in
theorem sX8_isReplayed_0 (n : Nat) {S0 : MS} {Q : Int32 → MS → Prop} {QX : String → MS → Prop} {S : MS} {V : VS} {a0 a0v : Nat} (hS : SM S V) (hx : Ex S0 S) (h_a0 : Ad S a0 a0v) (hQ : gd (eX8_isReplayed_0 n V a0v) (SQ Q S0) (SX QX S0)) : wX8_isReplayed_0 Q QX S a0 := by
  unfold wX8_isReplayed_0
  unfold eX8_isReplayed_0 at hQ
  refine st_rd hS h_a0 rfl hQ (fun a1 a1v h_a1 hQ => ?_)
  refine sim_X2_hasBegun n hS h_a1 ?_
  refine gd_mono (gd_bd hQ) (fun r3 V2 hQ S2 hS2 xS => ?_) (fun E V9 hQ S9 hS9 xS9 => gd_th hQ S9 hS9 (Ex_tr hx xS9))
  have hx2 : Ex S0 S2 := Ex_tr hx xS
  have h2_a0 := xS _ _ h_a0
  refine st_ifn rfl hQ (fun hQ => ?_) (fun hQ => ?_)
  · refine st_rd hS2 h2_a0 rfl hQ (fun a4 a4v h2_a4 hQ => ?_)
    refine st_rd hS2 h2_a0 rfl hQ (fun a5 a5v h2_a5 hQ => ?_)
    refine sim_X2_prepareLike n hS2 h2_a4 h2_a5 ?_
    refine gd_mono (gd_bd hQ) (fun _ V6 hQ S6 hS6 xS => ?_) (fun E V9 hQ S9 hS9 xS9 => gd_th hQ S9 hS9 (Ex_tr hx2 xS9))
    have hx6 : Ex S0 S6 := Ex_tr hx2 xS
    have h6_a0 := xS _ _ h2_a0
    refine st_rd hS6 h6_a0 rfl hQ (fun a7 a7v h6_a7 hQ => ?_)
    refine sim_X2_startRounds n hS6 h6_a7 ?_
    refine gd_mono (gd_bd hQ) (fun _ V8 hQ S8 hS8 xS => ?_) (fun E V9 hQ S9 hS9 xS9 => gd_th hQ S9 hS9 (Ex_tr hx6 xS9))
    have hx8 : Ex S0 S8 := Ex_tr hx6 xS
    have h8_a0 := xS _ _ h6_a0
    refine ⟨n, ?_⟩
    exact selX8_isReplayed_41 n n _ _ _ _ _ hS8 hx8 h8_a0 hQ
  · exact gd_th hQ _ hS2 hx2
def ev_X8_isReplayed (n : Nat) (V : VS) (a0v : Nat) : Rs Int32 := eX8_isReplayed_0 n V a0v
theorem sim_X8_isReplayed (n : Nat) {Q : Int32 → MS → Prop} {QX : String → MS → Prop} {S : MS} {V : VS} {a0 a0v : Nat} (hS : SM S V) (h_a0 : Ad S a0 a0v) (hQ : gd (ev_X8_isReplayed n V a0v) (SQ Q S) (SX QX S)) : wp_X8_isReplayed Q QX S a0 := by
  exact sX8_isReplayed_0 n hS Ex_rf h_a0 hQ
