def eX2_finishTurn_0 (n : Nat) (V : VS) (a0v : Nat) : Rs Int32 := bd (ev_X2_onTurn n V a0v) (fun r2v V1 => om r2v (rt (-1) V1) (fun a3v => bd (ev_X7_shortenStatuses n V1 a3v) (fun _ V4 => bd (ev_X2_passTurn n V4 a0v) (fun _ V5 => rt (vI V5 a0v 6) V5) th) th)) th
set_option maxHeartbeats 4000000 in
set_option maxRecDepth 100000 in
theorem sX2_finishTurn_0 (n : Nat) {S0 : MS} {Q : Int32 → MS → Prop} {QX : String → MS → Prop} {S : MS} {V : VS} {a0 a0v : Nat} (hS : SM S V) (hx : Ex S0 S) (h_a0 : Ad S a0 a0v) (hQ : gd (eX2_finishTurn_0 n V a0v) (SQ Q S0) (SX QX S0)) : wX2_finishTurn_0 Q QX S a0 := by
  unfold wX2_finishTurn_0
  unfold eX2_finishTurn_0 at hQ
  refine sim_X2_onTurn n hS h_a0 ?_
  refine gd_mono (gd_bd hQ) (fun r2v V1 hQ S1 r2 hS1 xS o1_r2 => ?_) (fun E V9 hQ S9 hS9 xS9 => gd_th hQ S9 hS9 (Ex_tr hx xS9))
  have hx1 : Ex S0 S1 := Ex_tr hx xS
  have h1_a0 := xS _ _ h_a0
  refine st_om o1_r2 hQ (fun hQ => ?_) (fun a3 a3v h1_a3 hQ => ?_)
  · exact gd_rt hQ _ hS1 hx1
  · refine sim_X7_shortenStatuses n hS1 h1_a3 ?_
    refine gd_mono (gd_bd hQ) (fun _ V4 hQ S4 hS4 xS => ?_) (fun E V9 hQ S9 hS9 xS9 => gd_th hQ S9 hS9 (Ex_tr hx1 xS9))
    have hx4 : Ex S0 S4 := Ex_tr hx1 xS
    have h4_a0 := xS _ _ h1_a0
    refine sim_X2_passTurn n hS4 h4_a0 ?_
    refine gd_mono (gd_bd hQ) (fun _ V5 hQ S5 hS5 xS => ?_) (fun E V9 hQ S9 hS9 xS9 => gd_th hQ S9 hS9 (Ex_tr hx4 xS9))
    have hx5 : Ex S0 S5 := Ex_tr hx4 xS
    have h5_a0 := xS _ _ h4_a0
    simp only [SM_I hS5 h5_a0]
    exact gd_rt hQ _ hS5 hx5
def ev_X2_finishTurn (n : Nat) (V : VS) (a0v : Nat) : Rs Int32 := eX2_finishTurn_0 n V a0v
theorem sim_X2_finishTurn (n : Nat) {Q : Int32 → MS → Prop} {QX : String → MS → Prop} {S : MS} {V : VS} {a0 a0v : Nat} (hS : SM S V) (h_a0 : Ad S a0 a0v) (hQ : gd (ev_X2_finishTurn n V a0v) (SQ Q S) (SX QX S)) : wp_X2_finishTurn Q QX S a0 := by
  exact sX2_finishTurn_0 n hS Ex_rf h_a0 hQ
def eX2_suffer_0 (n : Nat) (V : VS) (a0v : Nat) (b1v : Nat) : Rs Unit := bd (ev_X7_lose n V b1v 3) (fun _ V1 => bd (ev_X7_lives n V1 b1v) (fun r3 V2 => (if r3 = 0 then (vR V2 a0v 11).bind (fun a9v => bd (ev_X1_note n V2 a9v 4 (vI V2 b1v 0) 0) (fun _ V10 => rt () V10) th) else bd (ev_X2_rollDie n V2 a0v 6) (fun r5 V4 => (if r5 < 5 then rt () V4 else (if (vI V4 b1v 9) = 0 then sq (wI V4 b1v 9 1) (fun V6 => (vR V6 a0v 11).bind (fun a7v => bd (ev_X1_note n V6 a7v 6 (vI V6 b1v 0) 1) (fun _ V8 => rt () V8) th)) else rt () V4))) th)) th) th
set_option maxHeartbeats 4000000 in
set_option maxRecDepth 100000 in
theorem sX2_suffer_0 (n : Nat) {S0 : MS} {Q : MS → Prop} {QX : String → MS → Prop} {S : MS} {V : VS} {a0 a0v : Nat} {b1 b1v : Nat} (hS : SM S V) (hx : Ex S0 S) (h_a0 : Ad S a0 a0v) (h_b1 : Ad S b1 b1v) (hQ : gd (eX2_suffer_0 n V a0v b1v) (SU Q S0) (SX QX S0)) : wX2_suffer_0 Q QX S a0 b1 := by
  unfold wX2_suffer_0
  unfold eX2_suffer_0 at hQ
  refine sim_X7_lose n hS h_b1 rfl ?_
  refine gd_mono (gd_bd hQ) (fun _ V1 hQ S1 hS1 xS => ?_) (fun E V9 hQ S9 hS9 xS9 => gd_th hQ S9 hS9 (Ex_tr hx xS9))
  have hx1 : Ex S0 S1 := Ex_tr hx xS
  have h1_a0 := xS _ _ h_a0
  have h1_b1 := xS _ _ h_b1
  refine sim_X7_lives n hS1 h1_b1 ?_
  refine gd_mono (gd_bd hQ) (fun r3 V2 hQ S2 hS2 xS => ?_) (fun E V9 hQ S9 hS9 xS9 => gd_th hQ S9 hS9 (Ex_tr hx1 xS9))
  have hx2 : Ex S0 S2 := Ex_tr hx1 xS
  have h2_a0 := xS _ _ h1_a0
  have h2_b1 := xS _ _ h1_b1
  refine st_ifn rfl hQ (fun hQ => ?_) (fun hQ => ?_)
  · refine sim_X2_rollDie n hS2 h2_a0 rfl ?_
    refine gd_mono (gd_bd hQ) (fun r5 V4 hQ S4 hS4 xS => ?_) (fun E V9 hQ S9 hS9 xS9 => gd_th hQ S9 hS9 (Ex_tr hx2 xS9))
    have hx4 : Ex S0 S4 := Ex_tr hx2 xS
    have h4_a0 := xS _ _ h2_a0
    have h4_b1 := xS _ _ h2_b1
    refine st_if rfl hQ (fun hQ => ?_) (fun hQ => ?_)
    · exact gd_rt hQ _ hS4 hx4
    · refine st_ifn (show ((mI S4 b1 9) = 0) = ((vI V4 b1v 9) = 0) from by simp only [SM_I hS4 h4_b1]) hQ (fun hQ => ?_) (fun hQ => ?_)
      · exact gd_rt hQ _ hS4 hx4
      · intro S6 eS
        obtain ⟨V6, hS6, xS, hQ⟩ := st_sI hS4 h4_b1 eS rfl rfl hQ
        have hx6 : Ex S0 S6 := Ex_tr hx4 xS
        have h6_a0 := xS _ _ h4_a0
        have h6_b1 := xS _ _ h4_b1
        refine st_rd hS6 h6_a0 rfl hQ (fun a7 a7v h6_a7 hQ => ?_)
        refine sim_X1_note n hS6 h6_a7 rfl (show ((mI S6 b1 0)) = ((vI V6 b1v 0)) from by simp only [SM_I hS6 h6_b1]) rfl ?_
        refine gd_mono (gd_bd hQ) (fun _ V8 hQ S8 hS8 xS => ?_) (fun E V9 hQ S9 hS9 xS9 => gd_th hQ S9 hS9 (Ex_tr hx6 xS9))
        have hx8 : Ex S0 S8 := Ex_tr hx6 xS
        exact gd_rt hQ _ hS8 hx8
  · refine st_rd hS2 h2_a0 rfl hQ (fun a9 a9v h2_a9 hQ => ?_)
    refine sim_X1_note n hS2 h2_a9 rfl (show ((mI S2 b1 0)) = ((vI V2 b1v 0)) from by simp only [SM_I hS2 h2_b1]) rfl ?_
    refine gd_mono (gd_bd hQ) (fun _ V10 hQ S10 hS10 xS => ?_) (fun E V9 hQ S9 hS9 xS9 => gd_th hQ S9 hS9 (Ex_tr hx2 xS9))
    have hx10 : Ex S0 S10 := Ex_tr hx2 xS
    exact gd_rt hQ _ hS10 hx10
def ev_X2_suffer (n : Nat) (V : VS) (a0v : Nat) (b1v : Nat) : Rs Unit := eX2_suffer_0 n V a0v b1v
theorem sim_X2_suffer (n : Nat) {Q : MS → Prop} {QX : String → MS → Prop} {S : MS} {V : VS} {a0 a0v : Nat} {b1 b1v : Nat} (hS : SM S V) (h_a0 : Ad S a0 a0v) (h_b1 : Ad S b1 b1v) (hQ : gd (ev_X2_suffer n V a0v b1v) (SU Q S) (SX QX S)) : wp_X2_suffer Q QX S a0 b1 := by
  exact sX2_suffer_0 n hS Ex_rf h_a0 h_b1 hQ
def eX2_canHurl_0 (n : Nat) (V : VS) (a0v : Nat) (b1v : Nat) (x2 : Int32) : Rs Int32 := (vR V a0v 0).bind (fun a1v => bd (ev_X3_ground n V a1v x2) (fun r3 V2 => (if r3 = 1 then rt 0 V2 else (vR V2 a0v 0).bind (fun a4v => bd (ev_X3_distance n V2 a4v (vI V2 b1v 4) x2) (fun r6 V5 => (if 4 < r6 then rt 0 V5 else (vR V5 a0v 0).bind (fun a7v => bd (ev_X3_isClear n V5 a7v (vI V5 b1v 4) x2) (fun r9 V8 => (if r9 = 0 then rt 0 V8 else rt 1 V8)) th))) th))) th)
set_option maxHeartbeats 4000000 in
set_option maxRecDepth 100000 in
theorem sX2_canHurl_0 (n : Nat) {S0 : MS} {Q : Int32 → MS → Prop} {QX : String → MS → Prop} {S : MS} {V : VS} {a0 a0v : Nat} {b1 b1v : Nat} {x2 : Int32} (hS : SM S V) (hx : Ex S0 S) (h_a0 : Ad S a0 a0v) (h_b1 : Ad S b1 b1v) (hQ : gd (eX2_canHurl_0 n V a0v b1v x2) (SQ Q S0) (SX QX S0)) : wX2_canHurl_0 Q QX S a0 b1 x2 := by
  unfold wX2_canHurl_0
  unfold eX2_canHurl_0 at hQ
  refine st_rd hS h_a0 rfl hQ (fun a1 a1v h_a1 hQ => ?_)
  refine sim_X3_ground n hS h_a1 rfl ?_
  refine gd_mono (gd_bd hQ) (fun r3 V2 hQ S2 hS2 xS => ?_) (fun E V9 hQ S9 hS9 xS9 => gd_th hQ S9 hS9 (Ex_tr hx xS9))
  have hx2 : Ex S0 S2 := Ex_tr hx xS
  have h2_a0 := xS _ _ h_a0
  have h2_b1 := xS _ _ h_b1
  refine st_if rfl hQ (fun hQ => ?_) (fun hQ => ?_)
  · exact gd_rt hQ _ hS2 hx2
  · refine st_rd hS2 h2_a0 rfl hQ (fun a4 a4v h2_a4 hQ => ?_)
    refine sim_X3_distance n hS2 h2_a4 (show ((mI S2 b1 4)) = ((vI V2 b1v 4)) from by simp only [SM_I hS2 h2_b1]) rfl ?_
    refine gd_mono (gd_bd hQ) (fun r6 V5 hQ S5 hS5 xS => ?_) (fun E V9 hQ S9 hS9 xS9 => gd_th hQ S9 hS9 (Ex_tr hx2 xS9))
    have hx5 : Ex S0 S5 := Ex_tr hx2 xS
    have h5_a0 := xS _ _ h2_a0
    have h5_b1 := xS _ _ h2_b1
    refine st_if rfl hQ (fun hQ => ?_) (fun hQ => ?_)
    · exact gd_rt hQ _ hS5 hx5
    · refine st_rd hS5 h5_a0 rfl hQ (fun a7 a7v h5_a7 hQ => ?_)
      refine sim_X3_isClear n hS5 h5_a7 (show ((mI S5 b1 4)) = ((vI V5 b1v 4)) from by simp only [SM_I hS5 h5_b1]) rfl ?_
      refine gd_mono (gd_bd hQ) (fun r9 V8 hQ S8 hS8 xS => ?_) (fun E V9 hQ S9 hS9 xS9 => gd_th hQ S9 hS9 (Ex_tr hx5 xS9))
      have hx8 : Ex S0 S8 := Ex_tr hx5 xS
      refine st_if rfl hQ (fun hQ => ?_) (fun hQ => ?_)
      · exact gd_rt hQ _ hS8 hx8
      · exact gd_rt hQ _ hS8 hx8
def ev_X2_canHurl (n : Nat) (V : VS) (a0v : Nat) (b1v : Nat) (x2 : Int32) : Rs Int32 := eX2_canHurl_0 n V a0v b1v x2
theorem sim_X2_canHurl (n : Nat) {Q : Int32 → MS → Prop} {QX : String → MS → Prop} {S : MS} {V : VS} {a0 a0v : Nat} {b1 b1v : Nat} {x2 x2z : Int32} (hS : SM S V) (h_a0 : Ad S a0 a0v) (h_b1 : Ad S b1 b1v) (e_x2 : x2 = x2z) (hQ : gd (ev_X2_canHurl n V a0v b1v x2z) (SQ Q S) (SX QX S)) : wp_X2_canHurl Q QX S a0 b1 x2 := by
  subst e_x2
  exact sX2_canHurl_0 n hS Ex_rf h_a0 h_b1 hQ
def eX2_hurl_50 (n : Nat) (k50v : VS → Nat → Int32 → Nat → Int32 → Int32 → Rs Int32) (V : VS) (a0v : Nat) (y1 : Int32) (u2v : Nat) (y3 : Int32) (y4 : Int32) : Rs Int32 := (if (vI V a0v 2) ≤ y4 then bd (ev_X2_settle n V a0v u2v) (fun _ V1 => rt y3 V1) th else (vR V a0v 1).bind (fun a2v => (if gvp_in y4 (vN V a2v) = true then (vR V a2v ((y4 : Int32).toNatClampNeg)).bind (fun a3v => bd (ev_X7_lives n V a3v) (fun r5 V4 => (if r5 = 0 then k50v V4 a0v y1 u2v y3 (y4 + 1) else (vR V4 a0v 0).bind (fun a6v => bd (ev_X3_distance n V4 a6v (vI V4 a3v 4) y1) (fun r8 V7 => (if 1 < r8 then k50v V7 a0v y1 u2v y3 (y4 + 1) else bd (ev_X2_suffer n V7 a0v a3v) (fun _ V9 => k50v V9 a0v y1 u2v (y3 + 1) (y4 + 1)) th)) th))) th) else none)))
set_option maxHeartbeats 4000000 in
set_option maxRecDepth 100000 in
theorem sX2_hurl_50 (n : Nat) {S0 : MS} {Q : Int32 → MS → Prop} {QX : String → MS → Prop} {k50 : MS → Nat → Int32 → Nat → Int32 → Int32 → Prop} {k50v : VS → Nat → Int32 → Nat → Int32 → Int32 → Rs Int32} (hk50 : ∀ (S : MS) (V : VS) (p0 p0v : Nat) (p1 : Int32) (p2 p2v : Nat) (p3 : Int32) (p4 : Int32), SM S V → Ex S0 S → Ad S p0 p0v → Ad S p2 p2v → gd (k50v V p0v p1 p2v p3 p4) (SQ Q S0) (SX QX S0) → k50 S p0 p1 p2 p3 p4) {S : MS} {V : VS} {a0 a0v : Nat} {y1 : Int32} {u2 u2v : Nat} {y3 : Int32} {y4 : Int32} (hS : SM S V) (hx : Ex S0 S) (h_a0 : Ad S a0 a0v) (h_u2 : Ad S u2 u2v) (hQ : gd (eX2_hurl_50 n k50v V a0v y1 u2v y3 y4) (SQ Q S0) (SX QX S0)) : wX2_hurl_50 Q QX k50 S a0 y1 u2 y3 y4 := by
  unfold wX2_hurl_50
  unfold eX2_hurl_50 at hQ
  refine st_if (show ((mI S a0 2) ≤ y4) = ((vI V a0v 2) ≤ y4) from by simp only [SM_I hS h_a0]) hQ (fun hQ => ?_) (fun hQ => ?_)
  · refine sim_X2_settle n hS h_a0 h_u2 ?_
    refine gd_mono (gd_bd hQ) (fun _ V1 hQ S1 hS1 xS => ?_) (fun E V9 hQ S9 hS9 xS9 => gd_th hQ S9 hS9 (Ex_tr hx xS9))
    have hx1 : Ex S0 S1 := Ex_tr hx xS
    exact gd_rt hQ _ hS1 hx1
  · refine st_rd hS h_a0 rfl hQ (fun a2 a2v h_a2 hQ => ?_)
    refine st_gd (fun h => by simp only [SM_N hS h_a2]; exact gvp_in_of h) hQ (fun hQ => ?_)
    refine st_rd hS h_a2 rfl hQ (fun a3 a3v h_a3 hQ => ?_)
    refine sim_X7_lives n hS h_a3 ?_
    refine gd_mono (gd_bd hQ) (fun r5 V4 hQ S4 hS4 xS => ?_) (fun E V9 hQ S9 hS9 xS9 => gd_th hQ S9 hS9 (Ex_tr hx xS9))
    have hx4 : Ex S0 S4 := Ex_tr hx xS
    have h4_a0 := xS _ _ h_a0
    have h4_u2 := xS _ _ h_u2
    have h4_a3 := xS _ _ h_a3
    refine st_if rfl hQ (fun hQ => ?_) (fun hQ => ?_)
    · exact hk50 _ _ _ _ _ _ _ _ _ hS4 hx4 h4_a0 h4_u2 hQ
    · refine st_rd hS4 h4_a0 rfl hQ (fun a6 a6v h4_a6 hQ => ?_)
      refine sim_X3_distance n hS4 h4_a6 (show ((mI S4 a3 4)) = ((vI V4 a3v 4)) from by simp only [SM_I hS4 h4_a3]) rfl ?_
      refine gd_mono (gd_bd hQ) (fun r8 V7 hQ S7 hS7 xS => ?_) (fun E V9 hQ S9 hS9 xS9 => gd_th hQ S9 hS9 (Ex_tr hx4 xS9))
      have hx7 : Ex S0 S7 := Ex_tr hx4 xS
      have h7_a0 := xS _ _ h4_a0
      have h7_u2 := xS _ _ h4_u2
      have h7_a3 := xS _ _ h4_a3
      refine st_if rfl hQ (fun hQ => ?_) (fun hQ => ?_)
      · exact hk50 _ _ _ _ _ _ _ _ _ hS7 hx7 h7_a0 h7_u2 hQ
      · refine sim_X2_suffer n hS7 h7_a0 h7_a3 ?_
        refine gd_mono (gd_bd hQ) (fun _ V9 hQ S9 hS9 xS => ?_) (fun E V9 hQ S9 hS9 xS9 => gd_th hQ S9 hS9 (Ex_tr hx7 xS9))
        have hx9 : Ex S0 S9 := Ex_tr hx7 xS
        have h9_a0 := xS _ _ h7_a0
        have h9_u2 := xS _ _ h7_u2
        exact hk50 _ _ _ _ _ _ _ _ _ hS9 hx9 h9_a0 h9_u2 hQ
def elX2_hurl_50 (n : Nat) : Nat → VS → Nat → Int32 → Nat → Int32 → Int32 → Rs Int32
  | 0 => fun _ _ _ _ _ _ => none
  | m + 1 => fun V a0v y1 u2v y3 y4 => eX2_hurl_50 n (elX2_hurl_50 n m) V a0v y1 u2v y3 y4
theorem selX2_hurl_50 (n : Nat) {S0 : MS} {Q : Int32 → MS → Prop} {QX : String → MS → Prop} : ∀ (m : Nat), ∀ (S : MS) (V : VS) (p0 p0v : Nat) (p1 : Int32) (p2 p2v : Nat) (p3 : Int32) (p4 : Int32), SM S V → Ex S0 S → Ad S p0 p0v → Ad S p2 p2v → gd (elX2_hurl_50 n m V p0v p1 p2v p3 p4) (SQ Q S0) (SX QX S0) → lX2_hurl_50 Q QX m S p0 p1 p2 p3 p4 := by
  intro m
  induction m with
  | zero => intro S V p0 p0v p1 p2 p2v p3 p4 hS hx q0 q2 hQ; exact (gd_none hQ).elim
  | succ m ih => intro S V p0 p0v p1 p2 p2v p3 p4 hS hx q0 q2 hQ; exact sX2_hurl_50 n ih hS hx q0 q2 hQ
def eX2_hurl_0 (n : Nat) (V : VS) (a0v : Nat) (x1 : Int32) : Rs Int32 := bd (ev_X2_onTurn n V a0v) (fun r2v V1 => om r2v (rt 0 V1) (fun a3v => sq (wI V1 a0v 7 ((vI V1 a0v 7) - 1)) (fun V4 => sq (wI V4 a3v 7 ((vI V4 a3v 7) - 1)) (fun V5 => (vR V5 a0v 11).bind (fun a6v => bd (ev_X1_note n V5 a6v 8 (vI V5 a3v 0) x1) (fun _ V7 => elX2_hurl_50 n n V7 a0v x1 a3v 0 0) th))))) th
set_option maxHeartbeats 4000000 in
set_option maxRecDepth 100000 in
theorem sX2_hurl_0 (n : Nat) {S0 : MS} {Q : Int32 → MS → Prop} {QX : String → MS → Prop} {S : MS} {V : VS} {a0 a0v : Nat} {x1 : Int32} (hS : SM S V) (hx : Ex S0 S) (h_a0 : Ad S a0 a0v) (hQ : gd (eX2_hurl_0 n V a0v x1) (SQ Q S0) (SX QX S0)) : wX2_hurl_0 Q QX S a0 x1 := by
  unfold wX2_hurl_0
  unfold eX2_hurl_0 at hQ
  refine sim_X2_onTurn n hS h_a0 ?_
  refine gd_mono (gd_bd hQ) (fun r2v V1 hQ S1 r2 hS1 xS o1_r2 => ?_) (fun E V9 hQ S9 hS9 xS9 => gd_th hQ S9 hS9 (Ex_tr hx xS9))
  have hx1 : Ex S0 S1 := Ex_tr hx xS
  have h1_a0 := xS _ _ h_a0
  refine st_om o1_r2 hQ (fun hQ => ?_) (fun a3 a3v h1_a3 hQ => ?_)
  · exact gd_rt hQ _ hS1 hx1
  · intro S4 eS
    obtain ⟨V4, hS4, xS, hQ⟩ := st_sI hS1 h1_a0 eS rfl (show (((mI S1 a0 7) - 1)) = (((vI V1 a0v 7) - 1)) from by simp only [SM_I hS1 h1_a0]) hQ
    have hx4 : Ex S0 S4 := Ex_tr hx1 xS
    have h4_a0 := xS _ _ h1_a0
    have h4_a3 := xS _ _ h1_a3
    intro S5 eS
    obtain ⟨V5, hS5, xS, hQ⟩ := st_sI hS4 h4_a3 eS rfl (show (((mI S4 a3 7) - 1)) = (((vI V4 a3v 7) - 1)) from by simp only [SM_I hS4 h4_a3]) hQ
    have hx5 : Ex S0 S5 := Ex_tr hx4 xS
    have h5_a0 := xS _ _ h4_a0
    have h5_a3 := xS _ _ h4_a3
    refine st_rd hS5 h5_a0 rfl hQ (fun a6 a6v h5_a6 hQ => ?_)
    refine sim_X1_note n hS5 h5_a6 rfl (show ((mI S5 a3 0)) = ((vI V5 a3v 0)) from by simp only [SM_I hS5 h5_a3]) rfl ?_
    refine gd_mono (gd_bd hQ) (fun _ V7 hQ S7 hS7 xS => ?_) (fun E V9 hQ S9 hS9 xS9 => gd_th hQ S9 hS9 (Ex_tr hx5 xS9))
    have hx7 : Ex S0 S7 := Ex_tr hx5 xS
    have h7_a0 := xS _ _ h5_a0
    have h7_a3 := xS _ _ h5_a3
    refine ⟨n, ?_⟩
    exact selX2_hurl_50 n n _ _ _ _ _ _ _ _ _ hS7 hx7 h7_a0 h7_a3 hQ
def ev_X2_hurl (n : Nat) (V : VS) (a0v : Nat) (x1 : Int32) : Rs Int32 := eX2_hurl_0 n V a0v x1
theorem sim_X2_hurl (n : Nat) {Q : Int32 → MS → Prop} {QX : String → MS → Prop} {S : MS} {V : VS} {a0 a0v : Nat} {x1 x1z : Int32} (hS : SM S V) (h_a0 : Ad S a0 a0v) (e_x1 : x1 = x1z) (hQ : gd (ev_X2_hurl n V a0v x1z) (SQ Q S) (SX QX S)) : wp_X2_hurl Q QX S a0 x1 := by
  subst e_x1
  exact sX2_hurl_0 n hS Ex_rf h_a0 hQ
def eX2_refill_0 (n : Nat) (V : VS) (a0v : Nat) : Rs Int32 := bd (ev_X2_onTurn n V a0v) (fun r2v V1 => om r2v (rt 0 V1) (fun a3v => (if gvp_in (vI V1 a3v 2) 4 = true then sq (wI V1 a3v 6 (tbI 7 (vI V1 a3v 2))) (fun V5 => sq (wI V5 a0v 7 ((vI V5 a0v 7) - 1)) (fun V6 => rt (vI V1 a3v 6) V6)) else none))) th
set_option maxHeartbeats 4000000 in
set_option maxRecDepth 100000 in
theorem sX2_refill_0 (n : Nat) {S0 : MS} {Q : Int32 → MS → Prop} {QX : String → MS → Prop} {S : MS} {V : VS} {a0 a0v : Nat} (hS : SM S V) (hx : Ex S0 S) (h_a0 : Ad S a0 a0v) (hQ : gd (eX2_refill_0 n V a0v) (SQ Q S0) (SX QX S0)) : wX2_refill_0 Q QX S a0 := by
  unfold wX2_refill_0
  unfold eX2_refill_0 at hQ
  refine sim_X2_onTurn n hS h_a0 ?_
  refine gd_mono (gd_bd hQ) (fun r2v V1 hQ S1 r2 hS1 xS o1_r2 => ?_) (fun E V9 hQ S9 hS9 xS9 => gd_th hQ S9 hS9 (Ex_tr hx xS9))
  have hx1 : Ex S0 S1 := Ex_tr hx xS
  have h1_a0 := xS _ _ h_a0
  refine st_om o1_r2 hQ (fun hQ => ?_) (fun a3 a3v h1_a3 hQ => ?_)
  · exact gd_rt hQ _ hS1 hx1
  · refine st_gd (fun h => by simp only [SM_I hS1 h1_a3]; exact gvp_in_of h) hQ (fun hQ => ?_)
    intro S5 eS
    obtain ⟨V5, hS5, xS, hQ⟩ := st_sI hS1 h1_a3 eS rfl (show ((tbI 7 (mI S1 a3 2))) = ((tbI 7 (vI V1 a3v 2))) from by simp only [SM_I hS1 h1_a3]) hQ
    have hx5 : Ex S0 S5 := Ex_tr hx1 xS
    have h5_a0 := xS _ _ h1_a0
    have h5_a3 := xS _ _ h1_a3
    intro S6 eS
    obtain ⟨V6, hS6, xS, hQ⟩ := st_sI hS5 h5_a0 eS rfl (show (((mI S5 a0 7) - 1)) = (((vI V5 a0v 7) - 1)) from by simp only [SM_I hS5 h5_a0]) hQ
    have hx6 : Ex S0 S6 := Ex_tr hx5 xS
    have h6_a3 := xS _ _ h5_a3
    simp only [SM_I hS1 h1_a3]
    exact gd_rt hQ _ hS6 hx6
def ev_X2_refill (n : Nat) (V : VS) (a0v : Nat) : Rs Int32 := eX2_refill_0 n V a0v
theorem sim_X2_refill (n : Nat) {Q : Int32 → MS → Prop} {QX : String → MS → Prop} {S : MS} {V : VS} {a0 a0v : Nat} (hS : SM S V) (h_a0 : Ad S a0 a0v) (hQ : gd (ev_X2_refill n V a0v) (SQ Q S) (SX QX S)) : wp_X2_refill Q QX S a0 := by
  exact sX2_refill_0 n hS Ex_rf h_a0 hQ
def eX2_shoot_0 (n : Nat) (V : VS) (a0v : Nat) (x1 : Int32) : Rs Int32 := bd (ev_X2_onTurn n V a0v) (fun r2v V1 => om r2v (bd (ev_X2_find n V1 a0v x1) (fun r5v V4 => om r5v (rt 0 V4) (fun a6v => rt 0 V4)) th) (fun a3v => bd (ev_X2_find n V1 a0v x1) (fun r8v V7 => om r8v (rt 0 V7) (fun a9v => sq (wI V7 a0v 7 ((vI V7 a0v 7) - 1)) (fun V10 => bd (ev_X2_strike n V10 a0v a3v a9v) (fun r12 V11 => bd (ev_X2_settle n V11 a0v a3v) (fun _ V13 => rt r12 V13) th) th))) th)) th
set_option maxHeartbeats 4000000 in
set_option maxRecDepth 100000 in
theorem sX2_shoot_0 (n : Nat) {S0 : MS} {Q : Int32 → MS → Prop} {QX : String → MS → Prop} {S : MS} {V : VS} {a0 a0v : Nat} {x1 : Int32} (hS : SM S V) (hx : Ex S0 S) (h_a0 : Ad S a0 a0v) (hQ : gd (eX2_shoot_0 n V a0v x1) (SQ Q S0) (SX QX S0)) : wX2_shoot_0 Q QX S a0 x1 := by
  unfold wX2_shoot_0
  unfold eX2_shoot_0 at hQ
  refine sim_X2_onTurn n hS h_a0 ?_
  refine gd_mono (gd_bd hQ) (fun r2v V1 hQ S1 r2 hS1 xS o1_r2 => ?_) (fun E V9 hQ S9 hS9 xS9 => gd_th hQ S9 hS9 (Ex_tr hx xS9))
  have hx1 : Ex S0 S1 := Ex_tr hx xS
  have h1_a0 := xS _ _ h_a0
  refine st_om o1_r2 hQ (fun hQ => ?_) (fun a3 a3v h1_a3 hQ => ?_)
  · refine sim_X2_find n hS1 h1_a0 rfl ?_
    refine gd_mono (gd_bd hQ) (fun r5v V4 hQ S4 r5 hS4 xS o4_r5 => ?_) (fun E V9 hQ S9 hS9 xS9 => gd_th hQ S9 hS9 (Ex_tr hx1 xS9))
    have hx4 : Ex S0 S4 := Ex_tr hx1 xS
    refine st_om o4_r5 hQ (fun hQ => ?_) (fun a6 a6v h4_a6 hQ => ?_)
    · exact gd_rt hQ _ hS4 hx4
    · exact gd_rt hQ _ hS4 hx4
  · refine sim_X2_find n hS1 h1_a0 rfl ?_
    refine gd_mono (gd_bd hQ) (fun r8v V7 hQ S7 r8 hS7 xS o7_r8 => ?_) (fun E V9 hQ S9 hS9 xS9 => gd_th hQ S9 hS9 (Ex_tr hx1 xS9))
    have hx7 : Ex S0 S7 := Ex_tr hx1 xS
    have h7_a0 := xS _ _ h1_a0
    have h7_a3 := xS _ _ h1_a3
    refine st_om o7_r8 hQ (fun hQ => ?_) (fun a9 a9v h7_a9 hQ => ?_)
    · exact gd_rt hQ _ hS7 hx7
    · intro S10 eS
      obtain ⟨V10, hS10, xS, hQ⟩ := st_sI hS7 h7_a0 eS rfl (show (((mI S7 a0 7) - 1)) = (((vI V7 a0v 7) - 1)) from by simp only [SM_I hS7 h7_a0]) hQ
      have hx10 : Ex S0 S10 := Ex_tr hx7 xS
      have h10_a0 := xS _ _ h7_a0
      have h10_a3 := xS _ _ h7_a3
      have h10_a9 := xS _ _ h7_a9
      refine sim_X2_strike n hS10 h10_a0 h10_a3 h10_a9 ?_
      refine gd_mono (gd_bd hQ) (fun r12 V11 hQ S11 hS11 xS => ?_) (fun E V9 hQ S9 hS9 xS9 => gd_th hQ S9 hS9 (Ex_tr hx10 xS9))
      have hx11 : Ex S0 S11 := Ex_tr hx10 xS
      have h11_a0 := xS _ _ h10_a0
      have h11_a3 := xS _ _ h10_a3
      refine sim_X2_settle n hS11 h11_a0 h11_a3 ?_
      refine gd_mono (gd_bd hQ) (fun _ V13 hQ S13 hS13 xS => ?_) (fun E V9 hQ S9 hS9 xS9 => gd_th hQ S9 hS9 (Ex_tr hx11 xS9))
      have hx13 : Ex S0 S13 := Ex_tr hx11 xS
      exact gd_rt hQ _ hS13 hx13
def ev_X2_shoot (n : Nat) (V : VS) (a0v : Nat) (x1 : Int32) : Rs Int32 := eX2_shoot_0 n V a0v x1
theorem sim_X2_shoot (n : Nat) {Q : Int32 → MS → Prop} {QX : String → MS → Prop} {S : MS} {V : VS} {a0 a0v : Nat} {x1 x1z : Int32} (hS : SM S V) (h_a0 : Ad S a0 a0v) (e_x1 : x1 = x1z) (hQ : gd (ev_X2_shoot n V a0v x1z) (SQ Q S) (SX QX S)) : wp_X2_shoot Q QX S a0 x1 := by
  subst e_x1
  exact sX2_shoot_0 n hS Ex_rf h_a0 hQ
def eX2_startGuarding_0 (n : Nat) (V : VS) (a0v : Nat) : Rs Int32 := bd (ev_X2_onTurn n V a0v) (fun r2v V1 => om r2v (rt 0 V1) (fun a3v => sq (wI V1 a3v 11 1) (fun V4 => sq (wI V4 a0v 7 ((vI V4 a0v 7) - 1)) (fun V5 => rt (vI V5 a0v 7) V5)))) th
set_option maxHeartbeats 4000000 in
set_option maxRecDepth 100000 in
theorem sX2_startGuarding_0 (n : Nat) {S0 : MS} {Q : Int32 → MS → Prop} {QX : String → MS → Prop} {S : MS} {V : VS} {a0 a0v : Nat} (hS : SM S V) (hx : Ex S0 S) (h_a0 : Ad S a0 a0v) (hQ : gd (eX2_startGuarding_0 n V a0v) (SQ Q S0) (SX QX S0)) : wX2_startGuarding_0 Q QX S a0 := by
  unfold wX2_startGuarding_0
  unfold eX2_startGuarding_0 at hQ
  refine sim_X2_onTurn n hS h_a0 ?_
  refine gd_mono (gd_bd hQ) (fun r2v V1 hQ S1 r2 hS1 xS o1_r2 => ?_) (fun E V9 hQ S9 hS9 xS9 => gd_th hQ S9 hS9 (Ex_tr hx xS9))
  have hx1 : Ex S0 S1 := Ex_tr hx xS
  have h1_a0 := xS _ _ h_a0
  refine st_om o1_r2 hQ (fun hQ => ?_) (fun a3 a3v h1_a3 hQ => ?_)
  · exact gd_rt hQ _ hS1 hx1
  · intro S4 eS
    obtain ⟨V4, hS4, xS, hQ⟩ := st_sI hS1 h1_a3 eS rfl rfl hQ
    have hx4 : Ex S0 S4 := Ex_tr hx1 xS
    have h4_a0 := xS _ _ h1_a0
    intro S5 eS
    obtain ⟨V5, hS5, xS, hQ⟩ := st_sI hS4 h4_a0 eS rfl (show (((mI S4 a0 7) - 1)) = (((vI V4 a0v 7) - 1)) from by simp only [SM_I hS4 h4_a0]) hQ
    have hx5 : Ex S0 S5 := Ex_tr hx4 xS
    have h5_a0 := xS _ _ h4_a0
    simp only [SM_I hS5 h5_a0]
    exact gd_rt hQ _ hS5 hx5
def ev_X2_startGuarding (n : Nat) (V : VS) (a0v : Nat) : Rs Int32 := eX2_startGuarding_0 n V a0v
theorem sim_X2_startGuarding (n : Nat) {Q : Int32 → MS → Prop} {QX : String → MS → Prop} {S : MS} {V : VS} {a0 a0v : Nat} (hS : SM S V) (h_a0 : Ad S a0 a0v) (hQ : gd (ev_X2_startGuarding n V a0v) (SQ Q S) (SX QX S)) : wp_X2_startGuarding Q QX S a0 := by
  exact sX2_startGuarding_0 n hS Ex_rf h_a0 hQ
def eX2_startWatching_0 (n : Nat) (V : VS) (a0v : Nat) : Rs Int32 := bd (ev_X2_onTurn n V a0v) (fun r2v V1 => om r2v (rt 0 V1) (fun a3v => sq (wI V1 a3v 12 1) (fun V4 => sq (wI V4 a0v 7 0) (fun V5 => rt (vI V4 a0v 7) V5)))) th
set_option maxHeartbeats 4000000 in
set_option maxRecDepth 100000 in
theorem sX2_startWatching_0 (n : Nat) {S0 : MS} {Q : Int32 → MS → Prop} {QX : String → MS → Prop} {S : MS} {V : VS} {a0 a0v : Nat} (hS : SM S V) (hx : Ex S0 S) (h_a0 : Ad S a0 a0v) (hQ : gd (eX2_startWatching_0 n V a0v) (SQ Q S0) (SX QX S0)) : wX2_startWatching_0 Q QX S a0 := by
  unfold wX2_startWatching_0
  unfold eX2_startWatching_0 at hQ
  refine sim_X2_onTurn n hS h_a0 ?_
  refine gd_mono (gd_bd hQ) (fun r2v V1 hQ S1 r2 hS1 xS o1_r2 => ?_) (fun E V9 hQ S9 hS9 xS9 => gd_th hQ S9 hS9 (Ex_tr hx xS9))
  have hx1 : Ex S0 S1 := Ex_tr hx xS
  have h1_a0 := xS _ _ h_a0
  refine st_om o1_r2 hQ (fun hQ => ?_) (fun a3 a3v h1_a3 hQ => ?_)
  · exact gd_rt hQ _ hS1 hx1
  · intro S4 eS
    obtain ⟨V4, hS4, xS, hQ⟩ := st_sI hS1 h1_a3 eS rfl rfl hQ
    have hx4 : Ex S0 S4 := Ex_tr hx1 xS
    have h4_a0 := xS _ _ h1_a0
    intro S5 eS
    obtain ⟨V5, hS5, xS, hQ⟩ := st_sI hS4 h4_a0 eS rfl rfl hQ
    have hx5 : Ex S0 S5 := Ex_tr hx4 xS
    have h5_a0 := xS _ _ h4_a0
    simp only [SM_I hS4 h4_a0]
    exact gd_rt hQ _ hS5 hx5
def ev_X2_startWatching (n : Nat) (V : VS) (a0v : Nat) : Rs Int32 := eX2_startWatching_0 n V a0v
theorem sim_X2_startWatching (n : Nat) {Q : Int32 → MS → Prop} {QX : String → MS → Prop} {S : MS} {V : VS} {a0 a0v : Nat} (hS : SM S V) (h_a0 : Ad S a0 a0v) (hQ : gd (ev_X2_startWatching n V a0v) (SQ Q S) (SX QX S)) : wp_X2_startWatching Q QX S a0 := by
  exact sX2_startWatching_0 n hS Ex_rf h_a0 hQ
def eX2_isStoppedIn_24 (n : Nat) (k24v : VS → Nat → Nat → Int32 → Rs Int32) (V : VS) (a0v : Nat) (u2v : Nat) (y3 : Int32) : Rs Int32 := (if (vI V a0v 2) ≤ y3 then rt 0 V else (vR V a0v 1).bind (fun a1v => (if gvp_in y3 (vN V a1v) = true then (vR V a1v ((y3 : Int32).toNatClampNeg)).bind (fun a2v => (if (vI V a2v 12) = 0 then k24v V a0v u2v (y3 + 1) else (if (vI V a2v 6) ≤ 0 then k24v V a0v u2v (y3 + 1) else bd (ev_X2_canStrike n V a0v a2v u2v) (fun r4 V3 => (if r4 = 0 then k24v V3 a0v u2v (y3 + 1) else sq (wI V3 a2v 12 0) (fun V5 => (vR V5 a0v 11).bind (fun a6v => bd (ev_X1_note n V5 a6v 7 y3 (vI V5 u2v 0)) (fun _ V7 => bd (ev_X2_strike n V7 a0v a2v u2v) (fun r9 V8 => (if r9 ≤ 0 then k24v V8 a0v u2v (y3 + 1) else rt 1 V8)) th) th)))) th))) else none)))
set_option maxHeartbeats 4000000 in
set_option maxRecDepth 100000 in
theorem sX2_isStoppedIn_24 (n : Nat) {S0 : MS} {Q : Int32 → MS → Prop} {QX : String → MS → Prop} {k24 : MS → Nat → Nat → Int32 → Prop} {k24v : VS → Nat → Nat → Int32 → Rs Int32} (hk24 : ∀ (S : MS) (V : VS) (p0 p0v : Nat) (p1 p1v : Nat) (p2 : Int32), SM S V → Ex S0 S → Ad S p0 p0v → Ad S p1 p1v → gd (k24v V p0v p1v p2) (SQ Q S0) (SX QX S0) → k24 S p0 p1 p2) {S : MS} {V : VS} {a0 a0v : Nat} {u2 u2v : Nat} {y3 : Int32} (hS : SM S V) (hx : Ex S0 S) (h_a0 : Ad S a0 a0v) (h_u2 : Ad S u2 u2v) (hQ : gd (eX2_isStoppedIn_24 n k24v V a0v u2v y3) (SQ Q S0) (SX QX S0)) : wX2_isStoppedIn_24 Q QX k24 S a0 u2 y3 := by
  unfold wX2_isStoppedIn_24
  unfold eX2_isStoppedIn_24 at hQ
  refine st_if (show ((mI S a0 2) ≤ y3) = ((vI V a0v 2) ≤ y3) from by simp only [SM_I hS h_a0]) hQ (fun hQ => ?_) (fun hQ => ?_)
  · exact gd_rt hQ _ hS hx
  · refine st_rd hS h_a0 rfl hQ (fun a1 a1v h_a1 hQ => ?_)
    refine st_gd (fun h => by simp only [SM_N hS h_a1]; exact gvp_in_of h) hQ (fun hQ => ?_)
    refine st_rd hS h_a1 rfl hQ (fun a2 a2v h_a2 hQ => ?_)
    refine st_if (show ((mI S a2 12) = 0) = ((vI V a2v 12) = 0) from by simp only [SM_I hS h_a2]) hQ (fun hQ => ?_) (fun hQ => ?_)
    · exact hk24 _ _ _ _ _ _ _ hS hx h_a0 h_u2 hQ
    · refine st_if (show ((mI S a2 6) ≤ 0) = ((vI V a2v 6) ≤ 0) from by simp only [SM_I hS h_a2]) hQ (fun hQ => ?_) (fun hQ => ?_)
      · exact hk24 _ _ _ _ _ _ _ hS hx h_a0 h_u2 hQ
      · refine sim_X2_canStrike n hS h_a0 h_a2 h_u2 ?_
        refine gd_mono (gd_bd hQ) (fun r4 V3 hQ S3 hS3 xS => ?_) (fun E V9 hQ S9 hS9 xS9 => gd_th hQ S9 hS9 (Ex_tr hx xS9))
        have hx3 : Ex S0 S3 := Ex_tr hx xS
        have h3_a0 := xS _ _ h_a0
        have h3_u2 := xS _ _ h_u2
        have h3_a2 := xS _ _ h_a2
        refine st_if rfl hQ (fun hQ => ?_) (fun hQ => ?_)
        · exact hk24 _ _ _ _ _ _ _ hS3 hx3 h3_a0 h3_u2 hQ
        · intro S5 eS
          obtain ⟨V5, hS5, xS, hQ⟩ := st_sI hS3 h3_a2 eS rfl rfl hQ
          have hx5 : Ex S0 S5 := Ex_tr hx3 xS
          have h5_a0 := xS _ _ h3_a0
          have h5_u2 := xS _ _ h3_u2
          have h5_a2 := xS _ _ h3_a2
          refine st_rd hS5 h5_a0 rfl hQ (fun a6 a6v h5_a6 hQ => ?_)
          refine sim_X1_note n hS5 h5_a6 rfl rfl (show ((mI S5 u2 0)) = ((vI V5 u2v 0)) from by simp only [SM_I hS5 h5_u2]) ?_
          refine gd_mono (gd_bd hQ) (fun _ V7 hQ S7 hS7 xS => ?_) (fun E V9 hQ S9 hS9 xS9 => gd_th hQ S9 hS9 (Ex_tr hx5 xS9))
          have hx7 : Ex S0 S7 := Ex_tr hx5 xS
          have h7_a0 := xS _ _ h5_a0
          have h7_u2 := xS _ _ h5_u2
          have h7_a2 := xS _ _ h5_a2
          refine sim_X2_strike n hS7 h7_a0 h7_a2 h7_u2 ?_
          refine gd_mono (gd_bd hQ) (fun r9 V8 hQ S8 hS8 xS => ?_) (fun E V9 hQ S9 hS9 xS9 => gd_th hQ S9 hS9 (Ex_tr hx7 xS9))
          have hx8 : Ex S0 S8 := Ex_tr hx7 xS
          have h8_a0 := xS _ _ h7_a0
          have h8_u2 := xS _ _ h7_u2
          refine st_if rfl hQ (fun hQ => ?_) (fun hQ => ?_)
          · exact hk24 _ _ _ _ _ _ _ hS8 hx8 h8_a0 h8_u2 hQ
          · exact gd_rt hQ _ hS8 hx8
def elX2_isStoppedIn_24 (n : Nat) : Nat → VS → Nat → Nat → Int32 → Rs Int32
  | 0 => fun _ _ _ _ => none
  | m + 1 => fun V a0v u2v y3 => eX2_isStoppedIn_24 n (elX2_isStoppedIn_24 n m) V a0v u2v y3
theorem selX2_isStoppedIn_24 (n : Nat) {S0 : MS} {Q : Int32 → MS → Prop} {QX : String → MS → Prop} : ∀ (m : Nat), ∀ (S : MS) (V : VS) (p0 p0v : Nat) (p1 p1v : Nat) (p2 : Int32), SM S V → Ex S0 S → Ad S p0 p0v → Ad S p1 p1v → gd (elX2_isStoppedIn_24 n m V p0v p1v p2) (SQ Q S0) (SX QX S0) → lX2_isStoppedIn_24 Q QX m S p0 p1 p2 := by
  intro m
  induction m with
  | zero => intro S V p0 p0v p1 p1v p2 hS hx q0 q1 hQ; exact (gd_none hQ).elim
  | succ m ih => intro S V p0 p0v p1 p1v p2 hS hx q0 q1 hQ; exact sX2_isStoppedIn_24 n ih hS hx q0 q1 hQ
def eX2_isStoppedIn_0 (n : Nat) (V : VS) (a0v : Nat) (x1 : Int32) (b2v : Nat) : Rs Int32 := sq (wI V b2v 4 x1) (fun V1 => (vR V1 a0v 0).bind (fun a2v => bd (ev_X3_ground n V1 a2v x1) (fun r4 V3 => (if r4 = 4 then sq (wI V3 b2v 10 2) (fun V5 => elX2_isStoppedIn_24 n n V5 a0v b2v 0) else elX2_isStoppedIn_24 n n V3 a0v b2v 0)) th))
set_option maxHeartbeats 4000000 in
set_option maxRecDepth 100000 in
theorem sX2_isStoppedIn_0 (n : Nat) {S0 : MS} {Q : Int32 → MS → Prop} {QX : String → MS → Prop} {S : MS} {V : VS} {a0 a0v : Nat} {x1 : Int32} {b2 b2v : Nat} (hS : SM S V) (hx : Ex S0 S) (h_a0 : Ad S a0 a0v) (h_b2 : Ad S b2 b2v) (hQ : gd (eX2_isStoppedIn_0 n V a0v x1 b2v) (SQ Q S0) (SX QX S0)) : wX2_isStoppedIn_0 Q QX S a0 x1 b2 := by
  unfold wX2_isStoppedIn_0
  unfold eX2_isStoppedIn_0 at hQ
  intro S1 eS
  obtain ⟨V1, hS1, xS, hQ⟩ := st_sI hS h_b2 eS rfl rfl hQ
  have hx1 : Ex S0 S1 := Ex_tr hx xS
  have h1_a0 := xS _ _ h_a0
  have h1_b2 := xS _ _ h_b2
  refine st_rd hS1 h1_a0 rfl hQ (fun a2 a2v h1_a2 hQ => ?_)
  refine sim_X3_ground n hS1 h1_a2 rfl ?_
  refine gd_mono (gd_bd hQ) (fun r4 V3 hQ S3 hS3 xS => ?_) (fun E V9 hQ S9 hS9 xS9 => gd_th hQ S9 hS9 (Ex_tr hx1 xS9))
  have hx3 : Ex S0 S3 := Ex_tr hx1 xS
  have h3_a0 := xS _ _ h1_a0
  have h3_b2 := xS _ _ h1_b2
  refine st_ifn rfl hQ (fun hQ => ?_) (fun hQ => ?_)
  · refine ⟨n, ?_⟩
    exact selX2_isStoppedIn_24 n n _ _ _ _ _ _ _ hS3 hx3 h3_a0 h3_b2 hQ
  · intro S5 eS
    obtain ⟨V5, hS5, xS, hQ⟩ := st_sI hS3 h3_b2 eS rfl rfl hQ
    have hx5 : Ex S0 S5 := Ex_tr hx3 xS
    have h5_a0 := xS _ _ h3_a0
    have h5_b2 := xS _ _ h3_b2
    refine ⟨n, ?_⟩
    exact selX2_isStoppedIn_24 n n _ _ _ _ _ _ _ hS5 hx5 h5_a0 h5_b2 hQ
def ev_X2_isStoppedIn (n : Nat) (V : VS) (a0v : Nat) (x1 : Int32) (b2v : Nat) : Rs Int32 := eX2_isStoppedIn_0 n V a0v x1 b2v
theorem sim_X2_isStoppedIn (n : Nat) {Q : Int32 → MS → Prop} {QX : String → MS → Prop} {S : MS} {V : VS} {a0 a0v : Nat} {x1 x1z : Int32} {b2 b2v : Nat} (hS : SM S V) (h_a0 : Ad S a0 a0v) (e_x1 : x1 = x1z) (h_b2 : Ad S b2 b2v) (hQ : gd (ev_X2_isStoppedIn n V a0v x1z b2v) (SQ Q S) (SX QX S)) : wp_X2_isStoppedIn Q QX S a0 x1 b2 := by
  subst e_x1
  exact sX2_isStoppedIn_0 n hS Ex_rf h_a0 h_b2 hQ
def eX2_walk_82 (n : Nat) (k33v : VS → Nat → Int32 → Nat → Nat → Int32 → Int32 → Rs Int32) (V : VS) (a0v : Nat) (y1 : Int32) (u2v : Nat) (u3v : Nat) (y5 : Int32) : Rs Int32 := k33v V a0v y1 u2v u3v 1 (y5 + 1)
set_option maxHeartbeats 4000000 in
set_option maxRecDepth 100000 in
theorem sX2_walk_82 (n : Nat) {S0 : MS} {Q : Int32 → MS → Prop} {QX : String → MS → Prop} {k33 : MS → Nat → Int32 → Nat → Nat → Int32 → Int32 → Prop} {k33v : VS → Nat → Int32 → Nat → Nat → Int32 → Int32 → Rs Int32} (hk33 : ∀ (S : MS) (V : VS) (p0 p0v : Nat) (p1 : Int32) (p2 p2v : Nat) (p3 p3v : Nat) (p4 : Int32) (p5 : Int32), SM S V → Ex S0 S → Ad S p0 p0v → Ad S p2 p2v → Ad S p3 p3v → gd (k33v V p0v p1 p2v p3v p4 p5) (SQ Q S0) (SX QX S0) → k33 S p0 p1 p2 p3 p4 p5) {S : MS} {V : VS} {a0 a0v : Nat} {y1 : Int32} {u2 u2v : Nat} {u3 u3v : Nat} {y5 : Int32} (hS : SM S V) (hx : Ex S0 S) (h_a0 : Ad S a0 a0v) (h_u2 : Ad S u2 u2v) (h_u3 : Ad S u3 u3v) (hQ : gd (eX2_walk_82 n k33v V a0v y1 u2v u3v y5) (SQ Q S0) (SX QX S0)) : wX2_walk_82 Q QX k33 S a0 y1 u2 u3 y5 := by
  unfold wX2_walk_82
  unfold eX2_walk_82 at hQ
  exact hk33 _ _ _ _ _ _ _ _ _ _ _ hS hx h_a0 h_u2 h_u3 hQ
def eX2_walk_95 (n : Nat) (V : VS) (a0v : Nat) (u3v : Nat) : Rs Int32 := (vR V a0v 11).bind (fun a1v => bd (ev_X1_note n V a1v 1 (vI V u3v 0) (vI V u3v 4)) (fun _ V2 => bd (ev_X2_settle n V2 a0v u3v) (fun _ V3 => rt (vI V3 u3v 4) V3) th) th)
set_option maxHeartbeats 4000000 in
set_option maxRecDepth 100000 in
theorem sX2_walk_95 (n : Nat) {S0 : MS} {Q : Int32 → MS → Prop} {QX : String → MS → Prop} {S : MS} {V : VS} {a0 a0v : Nat} {u3 u3v : Nat} (hS : SM S V) (hx : Ex S0 S) (h_a0 : Ad S a0 a0v) (h_u3 : Ad S u3 u3v) (hQ : gd (eX2_walk_95 n V a0v u3v) (SQ Q S0) (SX QX S0)) : wX2_walk_95 Q QX S a0 u3 := by
  unfold wX2_walk_95
  unfold eX2_walk_95 at hQ
  refine st_rd hS h_a0 rfl hQ (fun a1 a1v h_a1 hQ => ?_)
  refine sim_X1_note n hS h_a1 rfl (show ((mI S u3 0)) = ((vI V u3v 0)) from by simp only [SM_I hS h_u3]) (show ((mI S u3 4)) = ((vI V u3v 4)) from by simp only [SM_I hS h_u3]) ?_
  refine gd_mono (gd_bd hQ) (fun _ V2 hQ S2 hS2 xS => ?_) (fun E V9 hQ S9 hS9 xS9 => gd_th hQ S9 hS9 (Ex_tr hx xS9))
  have hx2 : Ex S0 S2 := Ex_tr hx xS
  have h2_a0 := xS _ _ h_a0
  have h2_u3 := xS _ _ h_u3
  refine sim_X2_settle n hS2 h2_a0 h2_u3 ?_
  refine gd_mono (gd_bd hQ) (fun _ V3 hQ S3 hS3 xS => ?_) (fun E V9 hQ S9 hS9 xS9 => gd_th hQ S9 hS9 (Ex_tr hx2 xS9))
  have hx3 : Ex S0 S3 := Ex_tr hx2 xS
  have h3_u3 := xS _ _ h2_u3
  simp only [SM_I hS3 h3_u3]
  exact gd_rt hQ _ hS3 hx3
def eX2_walk_33 (n : Nat) (k33v : VS → Nat → Int32 → Nat → Nat → Int32 → Int32 → Rs Int32) (V : VS) (a0v : Nat) (y1 : Int32) (u2v : Nat) (u3v : Nat) (y4 : Int32) (y5 : Int32) : Rs Int32 := (if 64 ≤ y5 then eX2_walk_95 n V a0v u3v else (if y4 = 0 then (if (vI V u3v 4) = y1 then eX2_walk_95 n V a0v u3v else (vR V a0v 0).bind (fun a1v => bd (ev_X5_next n V u2v a1v (vI V u3v 4)) (fun r3 V2 => (if r3 < 0 then eX2_walk_82 n k33v V2 a0v y1 u2v u3v y5 else bd (ev_X2_isStoppedIn n V2 a0v r3 u3v) (fun r5 V4 => (if r5 = 0 then k33v V4 a0v y1 u2v u3v 0 (y5 + 1) else eX2_walk_82 n k33v V4 a0v y1 u2v u3v y5)) th)) th)) else eX2_walk_95 n V a0v u3v))
set_option maxHeartbeats 4000000 in
set_option maxRecDepth 100000 in
theorem sX2_walk_33 (n : Nat) {S0 : MS} {Q : Int32 → MS → Prop} {QX : String → MS → Prop} {k33 : MS → Nat → Int32 → Nat → Nat → Int32 → Int32 → Prop} {k33v : VS → Nat → Int32 → Nat → Nat → Int32 → Int32 → Rs Int32} (hk33 : ∀ (S : MS) (V : VS) (p0 p0v : Nat) (p1 : Int32) (p2 p2v : Nat) (p3 p3v : Nat) (p4 : Int32) (p5 : Int32), SM S V → Ex S0 S → Ad S p0 p0v → Ad S p2 p2v → Ad S p3 p3v → gd (k33v V p0v p1 p2v p3v p4 p5) (SQ Q S0) (SX QX S0) → k33 S p0 p1 p2 p3 p4 p5) {S : MS} {V : VS} {a0 a0v : Nat} {y1 : Int32} {u2 u2v : Nat} {u3 u3v : Nat} {y4 : Int32} {y5 : Int32} (hS : SM S V) (hx : Ex S0 S) (h_a0 : Ad S a0 a0v) (h_u2 : Ad S u2 u2v) (h_u3 : Ad S u3 u3v) (hQ : gd (eX2_walk_33 n k33v V a0v y1 u2v u3v y4 y5) (SQ Q S0) (SX QX S0)) : wX2_walk_33 Q QX k33 S a0 y1 u2 u3 y4 y5 := by
  unfold wX2_walk_33
  unfold eX2_walk_33 at hQ
  refine st_if rfl hQ (fun hQ => ?_) (fun hQ => ?_)
  · exact sX2_walk_95 n hS hx h_a0 h_u3 hQ
  · refine st_ifn rfl hQ (fun hQ => ?_) (fun hQ => ?_)
    · exact sX2_walk_95 n hS hx h_a0 h_u3 hQ
    · refine st_if (show ((mI S u3 4) = y1) = ((vI V u3v 4) = y1) from by simp only [SM_I hS h_u3]) hQ (fun hQ => ?_) (fun hQ => ?_)
      · exact sX2_walk_95 n hS hx h_a0 h_u3 hQ
      · refine st_rd hS h_a0 rfl hQ (fun a1 a1v h_a1 hQ => ?_)
        refine sim_X5_next n hS h_u2 h_a1 (show ((mI S u3 4)) = ((vI V u3v 4)) from by simp only [SM_I hS h_u3]) ?_
        refine gd_mono (gd_bd hQ) (fun r3 V2 hQ S2 hS2 xS => ?_) (fun E V9 hQ S9 hS9 xS9 => gd_th hQ S9 hS9 (Ex_tr hx xS9))
        have hx2 : Ex S0 S2 := Ex_tr hx xS
        have h2_a0 := xS _ _ h_a0
        have h2_u2 := xS _ _ h_u2
        have h2_u3 := xS _ _ h_u3
        refine st_if rfl hQ (fun hQ => ?_) (fun hQ => ?_)
        · exact sX2_walk_82 n hk33 hS2 hx2 h2_a0 h2_u2 h2_u3 hQ
        · refine sim_X2_isStoppedIn n hS2 h2_a0 rfl h2_u3 ?_
          refine gd_mono (gd_bd hQ) (fun r5 V4 hQ S4 hS4 xS => ?_) (fun E V9 hQ S9 hS9 xS9 => gd_th hQ S9 hS9 (Ex_tr hx2 xS9))
          have hx4 : Ex S0 S4 := Ex_tr hx2 xS
          have h4_a0 := xS _ _ h2_a0
          have h4_u2 := xS _ _ h2_u2
          have h4_u3 := xS _ _ h2_u3
          refine st_if rfl hQ (fun hQ => ?_) (fun hQ => ?_)
          · exact hk33 _ _ _ _ _ _ _ _ _ _ _ hS4 hx4 h4_a0 h4_u2 h4_u3 hQ
          · exact sX2_walk_82 n hk33 hS4 hx4 h4_a0 h4_u2 h4_u3 hQ
def elX2_walk_33 (n : Nat) : Nat → VS → Nat → Int32 → Nat → Nat → Int32 → Int32 → Rs Int32
  | 0 => fun _ _ _ _ _ _ _ => none
  | m + 1 => fun V a0v y1 u2v u3v y4 y5 => eX2_walk_33 n (elX2_walk_33 n m) V a0v y1 u2v u3v y4 y5
theorem selX2_walk_33 (n : Nat) {S0 : MS} {Q : Int32 → MS → Prop} {QX : String → MS → Prop} : ∀ (m : Nat), ∀ (S : MS) (V : VS) (p0 p0v : Nat) (p1 : Int32) (p2 p2v : Nat) (p3 p3v : Nat) (p4 : Int32) (p5 : Int32), SM S V → Ex S0 S → Ad S p0 p0v → Ad S p2 p2v → Ad S p3 p3v → gd (elX2_walk_33 n m V p0v p1 p2v p3v p4 p5) (SQ Q S0) (SX QX S0) → lX2_walk_33 Q QX m S p0 p1 p2 p3 p4 p5 := by
  intro m
  induction m with
  | zero => intro S V p0 p0v p1 p2 p2v p3 p3v p4 p5 hS hx q0 q2 q3 hQ; exact (gd_none hQ).elim
  | succ m ih => intro S V p0 p0v p1 p2 p2v p3 p3v p4 p5 hS hx q0 q2 q3 hQ; exact sX2_walk_33 n ih hS hx q0 q2 q3 hQ
def eX2_walk_0 (n : Nat) (V : VS) (a0v : Nat) (x1 : Int32) (b2v : Nat) : Rs Int32 := bd (ev_X2_onTurn n V a0v) (fun r2v V1 => om r2v (rt (-1) V1) (fun a3v => sq (wI V1 a0v 7 ((vI V1 a0v 7) - 1)) (fun V4 => bd (ev_X5_measure n V4 b2v a0v x1) (fun _ V5 => elX2_walk_33 n n V5 a0v x1 b2v a3v 0 0) th))) th
set_option maxHeartbeats 4000000 in
set_option maxRecDepth 100000 in
theorem sX2_walk_0 (n : Nat) {S0 : MS} {Q : Int32 → MS → Prop} {QX : String → MS → Prop} {S : MS} {V : VS} {a0 a0v : Nat} {x1 : Int32} {b2 b2v : Nat} (hS : SM S V) (hx : Ex S0 S) (h_a0 : Ad S a0 a0v) (h_b2 : Ad S b2 b2v) (hQ : gd (eX2_walk_0 n V a0v x1 b2v) (SQ Q S0) (SX QX S0)) : wX2_walk_0 Q QX S a0 x1 b2 := by
  unfold wX2_walk_0
  unfold eX2_walk_0 at hQ
  refine sim_X2_onTurn n hS h_a0 ?_
  refine gd_mono (gd_bd hQ) (fun r2v V1 hQ S1 r2 hS1 xS o1_r2 => ?_) (fun E V9 hQ S9 hS9 xS9 => gd_th hQ S9 hS9 (Ex_tr hx xS9))
  have hx1 : Ex S0 S1 := Ex_tr hx xS
  have h1_a0 := xS _ _ h_a0
  have h1_b2 := xS _ _ h_b2
  refine st_om o1_r2 hQ (fun hQ => ?_) (fun a3 a3v h1_a3 hQ => ?_)
  · exact gd_rt hQ _ hS1 hx1
  · intro S4 eS
    obtain ⟨V4, hS4, xS, hQ⟩ := st_sI hS1 h1_a0 eS rfl (show (((mI S1 a0 7) - 1)) = (((vI V1 a0v 7) - 1)) from by simp only [SM_I hS1 h1_a0]) hQ
    have hx4 : Ex S0 S4 := Ex_tr hx1 xS
    have h4_a0 := xS _ _ h1_a0
    have h4_b2 := xS _ _ h1_b2
    have h4_a3 := xS _ _ h1_a3
    refine sim_X5_measure n hS4 h4_b2 h4_a0 rfl ?_
    refine gd_mono (gd_bd hQ) (fun _ V5 hQ S5 hS5 xS => ?_) (fun E V9 hQ S9 hS9 xS9 => gd_th hQ S9 hS9 (Ex_tr hx4 xS9))
    have hx5 : Ex S0 S5 := Ex_tr hx4 xS
    have h5_a0 := xS _ _ h4_a0
    have h5_b2 := xS _ _ h4_b2
    have h5_a3 := xS _ _ h4_a3
    refine ⟨n, ?_⟩
    exact selX2_walk_33 n n _ _ _ _ _ _ _ _ _ _ _ hS5 hx5 h5_a0 h5_b2 h5_a3 hQ
def ev_X2_walk (n : Nat) (V : VS) (a0v : Nat) (x1 : Int32) (b2v : Nat) : Rs Int32 := eX2_walk_0 n V a0v x1 b2v
theorem sim_X2_walk (n : Nat) {Q : Int32 → MS → Prop} {QX : String → MS → Prop} {S : MS} {V : VS} {a0 a0v : Nat} {x1 x1z : Int32} {b2 b2v : Nat} (hS : SM S V) (h_a0 : Ad S a0 a0v) (e_x1 : x1 = x1z) (h_b2 : Ad S b2 b2v) (hQ : gd (ev_X2_walk n V a0v x1z b2v) (SQ Q S) (SX QX S)) : wp_X2_walk Q QX S a0 x1 b2 := by
  subst e_x1
  exact sX2_walk_0 n hS Ex_rf h_a0 h_b2 hQ
def eX2_carryOut_0 (n : Nat) (V : VS) (a0v : Nat) (x1 : Int32) (x2 : Int32) (b3v : Nat) : Rs Int32 := (if (x1 : Int32).toInt < 0 ∨ 5 < (x1 : Int32).toInt then bd (ev_X2_finishTurn n V a0v) (fun r2 V1 => rt r2 V1) th else (if (x1 : Int32).toInt = 0 then bd (ev_X2_walk n V a0v x2 b3v) (fun r4 V3 => rt r4 V3) th else (if (x1 : Int32).toInt = 1 then bd (ev_X2_shoot n V a0v x2) (fun r6 V5 => rt r6 V5) th else (if (x1 : Int32).toInt = 2 then bd (ev_X2_hurl n V a0v x2) (fun r8 V7 => rt r8 V7) th else (if (x1 : Int32).toInt = 3 then bd (ev_X2_startGuarding n V a0v) (fun r10 V9 => rt r10 V9) th else (if (x1 : Int32).toInt = 4 then bd (ev_X2_startWatching n V a0v) (fun r12 V11 => rt r12 V11) th else (if (x1 : Int32).toInt = 5 then bd (ev_X2_refill n V a0v) (fun r14 V13 => rt r14 V13) th else none)))))))
set_option maxHeartbeats 4000000 in
set_option maxRecDepth 100000 in
theorem sX2_carryOut_0 (n : Nat) {S0 : MS} {Q : Int32 → MS → Prop} {QX : String → MS → Prop} {S : MS} {V : VS} {a0 a0v : Nat} {x1 : Int32} {x2 : Int32} {b3 b3v : Nat} (hS : SM S V) (hx : Ex S0 S) (h_a0 : Ad S a0 a0v) (h_b3 : Ad S b3 b3v) (hQ : gd (eX2_carryOut_0 n V a0v x1 x2 b3v) (SQ Q S0) (SX QX S0)) : wX2_carryOut_0 Q QX S a0 x1 x2 b3 := by
  unfold wX2_carryOut_0
  unfold eX2_carryOut_0 at hQ
  refine ⟨fun hc => ?_, fun hc => ?_, fun hc => ?_, fun hc => ?_, fun hc => ?_, fun hc => ?_, fun hc => ?_⟩
  · have hQ := gd_yes hQ hc
    refine sim_X2_finishTurn n hS h_a0 ?_
    refine gd_mono (gd_bd hQ) (fun r2 V1 hQ S1 hS1 xS => ?_) (fun E V9 hQ S9 hS9 xS9 => gd_th hQ S9 hS9 (Ex_tr hx xS9))
    have hx1 : Ex S0 S1 := Ex_tr hx xS
    exact gd_rt hQ _ hS1 hx1
  · have hQ := gd_no hQ (by omega)
    have hQ := gd_yes hQ hc
    refine sim_X2_walk n hS h_a0 rfl h_b3 ?_
    refine gd_mono (gd_bd hQ) (fun r4 V3 hQ S3 hS3 xS => ?_) (fun E V9 hQ S9 hS9 xS9 => gd_th hQ S9 hS9 (Ex_tr hx xS9))
    have hx3 : Ex S0 S3 := Ex_tr hx xS
    exact gd_rt hQ _ hS3 hx3
  · have hQ := gd_no hQ (by omega)
    have hQ := gd_no hQ (by omega)
    have hQ := gd_yes hQ hc
    refine sim_X2_shoot n hS h_a0 rfl ?_
    refine gd_mono (gd_bd hQ) (fun r6 V5 hQ S5 hS5 xS => ?_) (fun E V9 hQ S9 hS9 xS9 => gd_th hQ S9 hS9 (Ex_tr hx xS9))
    have hx5 : Ex S0 S5 := Ex_tr hx xS
    exact gd_rt hQ _ hS5 hx5
  · have hQ := gd_no hQ (by omega)
    have hQ := gd_no hQ (by omega)
    have hQ := gd_no hQ (by omega)
    have hQ := gd_yes hQ hc
    refine sim_X2_hurl n hS h_a0 rfl ?_
    refine gd_mono (gd_bd hQ) (fun r8 V7 hQ S7 hS7 xS => ?_) (fun E V9 hQ S9 hS9 xS9 => gd_th hQ S9 hS9 (Ex_tr hx xS9))
    have hx7 : Ex S0 S7 := Ex_tr hx xS
    exact gd_rt hQ _ hS7 hx7
  · have hQ := gd_no hQ (by omega)
    have hQ := gd_no hQ (by omega)
    have hQ := gd_no hQ (by omega)
    have hQ := gd_no hQ (by omega)
    have hQ := gd_yes hQ hc
    refine sim_X2_startGuarding n hS h_a0 ?_
    refine gd_mono (gd_bd hQ) (fun r10 V9 hQ S9 hS9 xS => ?_) (fun E V9 hQ S9 hS9 xS9 => gd_th hQ S9 hS9 (Ex_tr hx xS9))
    have hx9 : Ex S0 S9 := Ex_tr hx xS
    exact gd_rt hQ _ hS9 hx9
  · have hQ := gd_no hQ (by omega)
    have hQ := gd_no hQ (by omega)
    have hQ := gd_no hQ (by omega)
    have hQ := gd_no hQ (by omega)
    have hQ := gd_no hQ (by omega)
    have hQ := gd_yes hQ hc
    refine sim_X2_startWatching n hS h_a0 ?_
    refine gd_mono (gd_bd hQ) (fun r12 V11 hQ S11 hS11 xS => ?_) (fun E V9 hQ S9 hS9 xS9 => gd_th hQ S9 hS9 (Ex_tr hx xS9))
    have hx11 : Ex S0 S11 := Ex_tr hx xS
    exact gd_rt hQ _ hS11 hx11
  · have hQ := gd_no hQ (by omega)
    have hQ := gd_no hQ (by omega)
    have hQ := gd_no hQ (by omega)
    have hQ := gd_no hQ (by omega)
    have hQ := gd_no hQ (by omega)
    have hQ := gd_no hQ (by omega)
    have hQ := gd_yes hQ hc
    refine sim_X2_refill n hS h_a0 ?_
    refine gd_mono (gd_bd hQ) (fun r14 V13 hQ S13 hS13 xS => ?_) (fun E V9 hQ S9 hS9 xS9 => gd_th hQ S9 hS9 (Ex_tr hx xS9))
    have hx13 : Ex S0 S13 := Ex_tr hx xS
    exact gd_rt hQ _ hS13 hx13
def ev_X2_carryOut (n : Nat) (V : VS) (a0v : Nat) (x1 : Int32) (x2 : Int32) (b3v : Nat) : Rs Int32 := eX2_carryOut_0 n V a0v x1 x2 b3v
theorem sim_X2_carryOut (n : Nat) {Q : Int32 → MS → Prop} {QX : String → MS → Prop} {S : MS} {V : VS} {a0 a0v : Nat} {x1 x1z : Int32} {x2 x2z : Int32} {b3 b3v : Nat} (hS : SM S V) (h_a0 : Ad S a0 a0v) (e_x1 : x1 = x1z) (e_x2 : x2 = x2z) (h_b3 : Ad S b3 b3v) (hQ : gd (ev_X2_carryOut n V a0v x1z x2z b3v) (SQ Q S) (SX QX S)) : wp_X2_carryOut Q QX S a0 x1 x2 b3 := by
  subst e_x1 e_x2
  exact sX2_carryOut_0 n hS Ex_rf h_a0 h_b3 hQ
