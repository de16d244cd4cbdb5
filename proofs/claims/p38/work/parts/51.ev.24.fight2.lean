def eX2_insertByRoll_52 (n : Nat) (V : VS) (a0v : Nat) (u1v : Nat) (y2 : Int32) : Rs Unit := (vR V a0v 3).bind (fun a1v => (if gvp_in y2 (vN V a1v) = true then sq (wI V a1v ((y2 : Int32).toNatClampNeg) (vI V u1v 0)) (fun V2 => sq (wI V2 a0v 4 ((vI V2 a0v 4) + 1)) (fun V3 => rt () V3)) else none))
set_option maxHeartbeats 4000000 in
set_option maxRecDepth 100000 in
theorem sX2_insertByRoll_52 (n : Nat) {S0 : MS} {Q : MS → Prop} {QX : String → MS → Prop} {S : MS} {V : VS} {a0 a0v : Nat} {u1 u1v : Nat} {y2 : Int32} (hS : SM S V) (hx : Ex S0 S) (h_a0 : Ad S a0 a0v) (h_u1 : Ad S u1 u1v) (hQ : gd (eX2_insertByRoll_52 n V a0v u1v y2) (SU Q S0) (SX QX S0)) : wX2_insertByRoll_52 Q QX S a0 u1 y2 := by
  unfold wX2_insertByRoll_52
  unfold eX2_insertByRoll_52 at hQ
  refine st_rd hS h_a0 rfl hQ (fun a1 a1v h_a1 hQ => ?_)
  refine st_gd (fun h => by simp only [SM_N hS h_a1]; exact gvp_in_of h) hQ (fun hQ => ?_)
  intro S2 eS
  obtain ⟨V2, hS2, xS, hQ⟩ := st_sI hS h_a1 eS rfl (show ((mI S u1 0)) = ((vI V u1v 0)) from by simp only [SM_I hS h_u1]) hQ
  have hx2 : Ex S0 S2 := Ex_tr hx xS
  have h2_a0 := xS _ _ h_a0
  intro S3 eS
  obtain ⟨V3, hS3, xS, hQ⟩ := st_sI hS2 h2_a0 eS rfl (show (((mI S2 a0 4) + 1)) = (((vI V2 a0v 4) + 1)) from by simp only [SM_I hS2 h2_a0]) hQ
  have hx3 : Ex S0 S3 := Ex_tr hx2 xS
  exact gd_rt hQ _ hS3 hx3
def eX2_insertByRoll_5 (n : Nat) (k5v : VS → Nat → Nat → Int32 → Rs Unit) (V : VS) (a0v : Nat) (u1v : Nat) (y2 : Int32) : Rs Unit := (if y2 ≤ 0 then eX2_insertByRoll_52 n V a0v u1v y2 else (vR V a0v 1).bind (fun a1v => (vR V a0v 3).bind (fun a2v => (if gvp_in (y2 - 1) (vN V a2v) = true then (if gvp_in (vI V a2v ((y2 - 1) : Int32).toNatClampNeg) (vN V a1v) = true then (vR V a1v (((vI V a2v ((y2 - 1) : Int32).toNatClampNeg) : Int32).toNatClampNeg)).bind (fun a3v => (if (vI V u1v 8) ≤ (vI V a3v 8) then eX2_insertByRoll_52 n V a0v u1v y2 else (vR V a0v 3).bind (fun a4v => (vR V a0v 3).bind (fun a5v => (if gvp_in (y2 - 1) (vN V a5v) = true then (if gvp_in y2 (vN V a4v) = true then sq (wI V a4v ((y2 : Int32).toNatClampNeg) (vI V a5v ((y2 - 1) : Int32).toNatClampNeg)) (fun V6 => k5v V6 a0v u1v (y2 + (-1))) else none) else none))))) else none) else none))))
set_option maxHeartbeats 4000000 in
set_option maxRecDepth 100000 in
theorem sX2_insertByRoll_5 (n : Nat) {S0 : MS} {Q : MS → Prop} {QX : String → MS → Prop} {k5 : MS → Nat → Nat → Int32 → Prop} {k5v : VS → Nat → Nat → Int32 → Rs Unit} (hk5 : ∀ (S : MS) (V : VS) (p0 p0v : Nat) (p1 p1v : Nat) (p2 : Int32), SM S V → Ex S0 S → Ad S p0 p0v → Ad S p1 p1v → gd (k5v V p0v p1v p2) (SU Q S0) (SX QX S0) → k5 S p0 p1 p2) {S : MS} {V : VS} {a0 a0v : Nat} {u1 u1v : Nat} {y2 : Int32} (hS : SM S V) (hx : Ex S0 S) (h_a0 : Ad S a0 a0v) (h_u1 : Ad S u1 u1v) (hQ : gd (eX2_insertByRoll_5 n k5v V a0v u1v y2) (SU Q S0) (SX QX S0)) : wX2_insertByRoll_5 Q QX k5 S a0 u1 y2 := by
  unfold wX2_insertByRoll_5
  unfold eX2_insertByRoll_5 at hQ
  refine st_if rfl hQ (fun hQ => ?_) (fun hQ => ?_)
  · exact sX2_insertByRoll_52 n hS hx h_a0 h_u1 hQ
  · refine st_rd hS h_a0 rfl hQ (fun a1 a1v h_a1 hQ => ?_)
    refine st_rd hS h_a0 rfl hQ (fun a2 a2v h_a2 hQ => ?_)
    refine st_gd (fun h => by simp only [SM_N hS h_a2]; exact gvp_in_of h) hQ (fun hQ => ?_)
    refine st_gd (fun h => by simp only [SM_I hS h_a2, SM_N hS h_a1]; exact gvp_in_of h) hQ (fun hQ => ?_)
    refine st_rd hS h_a1 (show (((mI S a2 ((y2 - 1) : Int32).toNatClampNeg) : Int32).toNatClampNeg) = (((vI V a2v ((y2 - 1) : Int32).toNatClampNeg) : Int32).toNatClampNeg) from by simp only [SM_I hS h_a2]) hQ (fun a3 a3v h_a3 hQ => ?_)
    refine st_if (show ((mI S u1 8) ≤ (mI S a3 8)) = ((vI V u1v 8) ≤ (vI V a3v 8)) from by simp only [SM_I hS h_u1, SM_I hS h_a3]) hQ (fun hQ => ?_) (fun hQ => ?_)
    · exact sX2_insertByRoll_52 n hS hx h_a0 h_u1 hQ
    · refine st_rd hS h_a0 rfl hQ (fun a4 a4v h_a4 hQ => ?_)
      refine st_rd hS h_a0 rfl hQ (fun a5 a5v h_a5 hQ => ?_)
      refine st_gd (fun h => by simp only [SM_N hS h_a5]; exact gvp_in_of h) hQ (fun hQ => ?_)
      refine st_gd (fun h => by simp only [SM_N hS h_a4]; exact gvp_in_of h) hQ (fun hQ => ?_)
      intro S6 eS
      obtain ⟨V6, hS6, xS, hQ⟩ := st_sI hS h_a4 eS rfl (show ((mI S a5 ((y2 - 1) : Int32).toNatClampNeg)) = ((vI V a5v ((y2 - 1) : Int32).toNatClampNeg)) from by simp only [SM_I hS h_a5]) hQ
      have hx6 : Ex S0 S6 := Ex_tr hx xS
      have h6_a0 := xS _ _ h_a0
      have h6_u1 := xS _ _ h_u1
      exact hk5 _ _ _ _ _ _ _ hS6 hx6 h6_a0 h6_u1 hQ
def elX2_insertByRoll_5 (n : Nat) : Nat → VS → Nat → Nat → Int32 → Rs Unit
  | 0 => fun _ _ _ _ => none
  | m + 1 => fun V a0v u1v y2 => eX2_insertByRoll_5 n (elX2_insertByRoll_5 n m) V a0v u1v y2
theorem selX2_insertByRoll_5 (n : Nat) {S0 : MS} {Q : MS → Prop} {QX : String → MS → Prop} : ∀ (m : Nat), ∀ (S : MS) (V : VS) (p0 p0v : Nat) (p1 p1v : Nat) (p2 : Int32), SM S V → Ex S0 S → Ad S p0 p0v → Ad S p1 p1v → gd (elX2_insertByRoll_5 n m V p0v p1v p2) (SU Q S0) (SX QX S0) → lX2_insertByRoll_5 Q QX m S p0 p1 p2 := by
  intro m
  induction m with
  | zero => intro S V p0 p0v p1 p1v p2 hS hx q0 q1 hQ; exact (gd_none hQ).elim
  | succ m ih => intro S V p0 p0v p1 p1v p2 hS hx q0 q1 hQ; exact sX2_insertByRoll_5 n ih hS hx q0 q1 hQ
def eX2_insertByRoll_0 (n : Nat) (V : VS) (a0v : Nat) (b1v : Nat) : Rs Unit := elX2_insertByRoll_5 n n V a0v b1v (vI V a0v 4)
set_option maxHeartbeats 4000000 in
set_option maxRecDepth 100000 in
theorem sX2_insertByRoll_0 (n : Nat) {S0 : MS} {Q : MS → Prop} {QX : String → MS → Prop} {S : MS} {V : VS} {a0 a0v : Nat} {b1 b1v : Nat} (hS : SM S V) (hx : Ex S0 S) (h_a0 : Ad S a0 a0v) (h_b1 : Ad S b1 b1v) (hQ : gd (eX2_insertByRoll_0 n V a0v b1v) (SU Q S0) (SX QX S0)) : wX2_insertByRoll_0 Q QX S a0 b1 := by
  unfold wX2_insertByRoll_0
  unfold eX2_insertByRoll_0 at hQ
  refine ⟨n, ?_⟩
  simp only [SM_I hS h_a0]
  exact selX2_insertByRoll_5 n n _ _ _ _ _ _ _ hS hx h_a0 h_b1 hQ
def ev_X2_insertByRoll (n : Nat) (V : VS) (a0v : Nat) (b1v : Nat) : Rs Unit := eX2_insertByRoll_0 n V a0v b1v
theorem sim_X2_insertByRoll (n : Nat) {Q : MS → Prop} {QX : String → MS → Prop} {S : MS} {V : VS} {a0 a0v : Nat} {b1 b1v : Nat} (hS : SM S V) (h_a0 : Ad S a0 a0v) (h_b1 : Ad S b1 b1v) (hQ : gd (ev_X2_insertByRoll n V a0v b1v) (SU Q S) (SX QX S)) : wp_X2_insertByRoll Q QX S a0 b1 := by
  exact sX2_insertByRoll_0 n hS Ex_rf h_a0 h_b1 hQ
def eX2_beginRound_36 (n : Nat) (k36v : VS → Nat → Int32 → Rs Unit) (V : VS) (a0v : Nat) (y1 : Int32) : Rs Unit := (if (vI V a0v 2) ≤ y1 then rt () V else (vR V a0v 1).bind (fun a1v => (if gvp_in y1 (vN V a1v) = true then (vR V a1v ((y1 : Int32).toNatClampNeg)).bind (fun a2v => sq (wI V a2v 8 0) (fun V3 => bd (ev_X7_lives n V3 a2v) (fun r5 V4 => (if r5 = 0 then k36v V4 a0v (y1 + 1) else bd (ev_X2_rollDie n V4 a0v 6) (fun r7 V6 => (if gvp_in (vI V6 a2v 2) 4 = true then sq (wI V6 a2v 8 (r7 + (tbI 5 (vI V6 a2v 2)))) (fun V9 => bd (ev_X2_insertByRoll n V9 a0v a2v) (fun _ V10 => k36v V10 a0v (y1 + 1)) th) else none)) th)) th)) else none)))
set_option maxHeartbeats 4000000 in
set_option maxRecDepth 100000 in
theorem sX2_beginRound_36 (n : Nat) {S0 : MS} {Q : MS → Prop} {QX : String → MS → Prop} {k36 : MS → Nat → Int32 → Prop} {k36v : VS → Nat → Int32 → Rs Unit} (hk36 : ∀ (S : MS) (V : VS) (p0 p0v : Nat) (p1 : Int32), SM S V → Ex S0 S → Ad S p0 p0v → gd (k36v V p0v p1) (SU Q S0) (SX QX S0) → k36 S p0 p1) {S : MS} {V : VS} {a0 a0v : Nat} {y1 : Int32} (hS : SM S V) (hx : Ex S0 S) (h_a0 : Ad S a0 a0v) (hQ : gd (eX2_beginRound_36 n k36v V a0v y1) (SU Q S0) (SX QX S0)) : wX2_beginRound_36 Q QX k36 S a0 y1 := by
  unfold wX2_beginRound_36
  unfold eX2_beginRound_36 at hQ
  refine st_if (show ((mI S a0 2) ≤ y1) = ((vI V a0v 2) ≤ y1) from by simp only [SM_I hS h_a0]) hQ (fun hQ => ?_) (fun hQ => ?_)
  · exact gd_rt hQ _ hS hx
  · refine st_rd hS h_a0 rfl hQ (fun a1 a1v h_a1 hQ => ?_)
    refine st_gd (fun h => by simp only [SM_N hS h_a1]; exact gvp_in_of h) hQ (fun hQ => ?_)
    refine st_rd hS h_a1 rfl hQ (fun a2 a2v h_a2 hQ => ?_)
    intro S3 eS
    obtain ⟨V3, hS3, xS, hQ⟩ := st_sI hS h_a2 eS rfl rfl hQ
    have hx3 : Ex S0 S3 := Ex_tr hx xS
    have h3_a0 := xS _ _ h_a0
    have h3_a2 := xS _ _ h_a2
    refine sim_X7_lives n hS3 h3_a2 ?_
    refine gd_mono (gd_bd hQ) (fun r5 V4 hQ S4 hS4 xS => ?_) (fun E V9 hQ S9 hS9 xS9 => gd_th hQ S9 hS9 (Ex_tr hx3 xS9))
    have hx4 : Ex S0 S4 := Ex_tr hx3 xS
    have h4_a0 := xS _ _ h3_a0
    have h4_a2 := xS _ _ h3_a2
    refine st_if rfl hQ (fun hQ => ?_) (fun hQ => ?_)
    · exact hk36 _ _ _ _ _ hS4 hx4 h4_a0 hQ
    · refine sim_X2_rollDie n hS4 h4_a0 rfl ?_
      refine gd_mono (gd_bd hQ) (fun r7 V6 hQ S6 hS6 xS => ?_) (fun E V9 hQ S9 hS9 xS9 => gd_th hQ S9 hS9 (Ex_tr hx4 xS9))
      have hx6 : Ex S0 S6 := Ex_tr hx4 xS
      have h6_a0 := xS _ _ h4_a0
      have h6_a2 := xS _ _ h4_a2
      refine st_gd (fun h => by simp only [SM_I hS6 h6_a2]; exact gvp_in_of h) hQ (fun hQ => ?_)
      intro S9 eS
      obtain ⟨V9, hS9, xS, hQ⟩ := st_sI hS6 h6_a2 eS rfl (show ((r7 + (tbI 5 (mI S6 a2 2)))) = ((r7 + (tbI 5 (vI V6 a2v 2)))) from by simp only [SM_I hS6 h6_a2]) hQ
      have hx9 : Ex S0 S9 := Ex_tr hx6 xS
      have h9_a0 := xS _ _ h6_a0
      have h9_a2 := xS _ _ h6_a2
      refine sim_X2_insertByRoll n hS9 h9_a0 h9_a2 ?_
      refine gd_mono (gd_bd hQ) (fun _ V10 hQ S10 hS10 xS => ?_) (fun E V9 hQ S9 hS9 xS9 => gd_th hQ S9 hS9 (Ex_tr hx9 xS9))
      have hx10 : Ex S0 S10 := Ex_tr hx9 xS
      have h10_a0 := xS _ _ h9_a0
      exact hk36 _ _ _ _ _ hS10 hx10 h10_a0 hQ
def elX2_beginRound_36 (n : Nat) : Nat → VS → Nat → Int32 → Rs Unit
  | 0 => fun _ _ _ => none
  | m + 1 => fun V a0v y1 => eX2_beginRound_36 n (elX2_beginRound_36 n m) V a0v y1
theorem selX2_beginRound_36 (n : Nat) {S0 : MS} {Q : MS → Prop} {QX : String → MS → Prop} : ∀ (m : Nat), ∀ (S : MS) (V : VS) (p0 p0v : Nat) (p1 : Int32), SM S V → Ex S0 S → Ad S p0 p0v → gd (elX2_beginRound_36 n m V p0v p1) (SU Q S0) (SX QX S0) → lX2_beginRound_36 Q QX m S p0 p1 := by
  intro m
  induction m with
  | zero => intro S V p0 p0v p1 hS hx q0 hQ; exact (gd_none hQ).elim
  | succ m ih => intro S V p0 p0v p1 hS hx q0 hQ; exact sX2_beginRound_36 n ih hS hx q0 hQ
def eX2_beginRound_0 (n : Nat) (V : VS) (a0v : Nat) : Rs Unit := sq (wI V a0v 8 ((vI V a0v 8) + 1)) (fun V1 => (vR V1 a0v 11).bind (fun a2v => bd (ev_X1_note n V1 a2v 9 (-1) (vI V1 a0v 8)) (fun _ V3 => sq (wI V3 a0v 4 0) (fun V4 => sq (wI V4 a0v 5 (-1)) (fun V5 => elX2_beginRound_36 n n V5 a0v 0))) th))
set_option maxHeartbeats 4000000 in
set_option maxRecDepth 100000 in
theorem sX2_beginRound_0 (n : Nat) {S0 : MS} {Q : MS → Prop} {QX : String → MS → Prop} {S : MS} {V : VS} {a0 a0v : Nat} (hS : SM S V) (hx : Ex S0 S) (h_a0 : Ad S a0 a0v) (hQ : gd (eX2_beginRound_0 n V a0v) (SU Q S0) (SX QX S0)) : wX2_beginRound_0 Q QX S a0 := by
  unfold wX2_beginRound_0
  unfold eX2_beginRound_0 at hQ
  intro S1 eS
  obtain ⟨V1, hS1, xS, hQ⟩ := st_sI hS h_a0 eS rfl (show (((mI S a0 8) + 1)) = (((vI V a0v 8) + 1)) from by simp only [SM_I hS h_a0]) hQ
  have hx1 : Ex S0 S1 := Ex_tr hx xS
  have h1_a0 := xS _ _ h_a0
  refine st_rd hS1 h1_a0 rfl hQ (fun a2 a2v h1_a2 hQ => ?_)
  refine sim_X1_note n hS1 h1_a2 rfl rfl (show ((mI S1 a0 8)) = ((vI V1 a0v 8)) from by simp only [SM_I hS1 h1_a0]) ?_
  refine gd_mono (gd_bd hQ) (fun _ V3 hQ S3 hS3 xS => ?_) (fun E V9 hQ S9 hS9 xS9 => gd_th hQ S9 hS9 (Ex_tr hx1 xS9))
  have hx3 : Ex S0 S3 := Ex_tr hx1 xS
  have h3_a0 := xS _ _ h1_a0
  intro S4 eS
  obtain ⟨V4, hS4, xS, hQ⟩ := st_sI hS3 h3_a0 eS rfl rfl hQ
  have hx4 : Ex S0 S4 := Ex_tr hx3 xS
  have h4_a0 := xS _ _ h3_a0
  intro S5 eS
  obtain ⟨V5, hS5, xS, hQ⟩ := st_sI hS4 h4_a0 eS rfl rfl hQ
  have hx5 : Ex S0 S5 := Ex_tr hx4 xS
  have h5_a0 := xS _ _ h4_a0
  refine ⟨n, ?_⟩
  exact selX2_beginRound_36 n n _ _ _ _ _ hS5 hx5 h5_a0 hQ
def ev_X2_beginRound (n : Nat) (V : VS) (a0v : Nat) : Rs Unit := eX2_beginRound_0 n V a0v
theorem sim_X2_beginRound (n : Nat) {Q : MS → Prop} {QX : String → MS → Prop} {S : MS} {V : VS} {a0 a0v : Nat} (hS : SM S V) (h_a0 : Ad S a0 a0v) (hQ : gd (ev_X2_beginRound n V a0v) (SU Q S) (SX QX S)) : wp_X2_beginRound Q QX S a0 := by
  exact sX2_beginRound_0 n hS Ex_rf h_a0 hQ
def eX2_beginTurn_43 (n : Nat) (V : VS) (a0v : Nat) (u1v : Nat) : Rs Unit := bd (ev_X7_lives n V u1v) (fun r2 V1 => (if r2 = 0 then (vR V1 a0v 11).bind (fun a3v => bd (ev_X1_note n V1 a3v 4 (vI V1 u1v 0) 0) (fun _ V4 => rt () V4) th) else sq (wI V1 a0v 6 (vI V1 u1v 0)) (fun V5 => (if (vI V5 u1v 9) ≤ 0 then sq (wI V5 a0v 7 2) (fun V6 => rt () V6) else sq (wI V5 a0v 7 0) (fun V7 => rt () V7))))) th
set_option maxHeartbeats 4000000 in
set_option maxRecDepth 100000 in
theorem sX2_beginTurn_43 (n : Nat) {S0 : MS} {Q : MS → Prop} {QX : String → MS → Prop} {S : MS} {V : VS} {a0 a0v : Nat} {u1 u1v : Nat} (hS : SM S V) (hx : Ex S0 S) (h_a0 : Ad S a0 a0v) (h_u1 : Ad S u1 u1v) (hQ : gd (eX2_beginTurn_43 n V a0v u1v) (SU Q S0) (SX QX S0)) : wX2_beginTurn_43 Q QX S a0 u1 := by
  unfold wX2_beginTurn_43
  unfold eX2_beginTurn_43 at hQ
  refine sim_X7_lives n hS h_u1 ?_
  refine gd_mono (gd_bd hQ) (fun r2 V1 hQ S1 hS1 xS => ?_) (fun E V9 hQ S9 hS9 xS9 => gd_th hQ S9 hS9 (Ex_tr hx xS9))
  have hx1 : Ex S0 S1 := Ex_tr hx xS
  have h1_a0 := xS _ _ h_a0
  have h1_u1 := xS _ _ h_u1
  refine st_if rfl hQ (fun hQ => ?_) (fun hQ => ?_)
  · refine st_rd hS1 h1_a0 rfl hQ (fun a3 a3v h1_a3 hQ => ?_)
    refine sim_X1_note n hS1 h1_a3 rfl (show ((mI S1 u1 0)) = ((vI V1 u1v 0)) from by simp only [SM_I hS1 h1_u1]) rfl ?_
    refine gd_mono (gd_bd hQ) (fun _ V4 hQ S4 hS4 xS => ?_) (fun E V9 hQ S9 hS9 xS9 => gd_th hQ S9 hS9 (Ex_tr hx1 xS9))
    have hx4 : Ex S0 S4 := Ex_tr hx1 xS
    exact gd_rt hQ _ hS4 hx4
  · intro S5 eS
    obtain ⟨V5, hS5, xS, hQ⟩ := st_sI hS1 h1_a0 eS rfl (show ((mI S1 u1 0)) = ((vI V1 u1v 0)) from by simp only [SM_I hS1 h1_u1]) hQ
    have hx5 : Ex S0 S5 := Ex_tr hx1 xS
    have h5_a0 := xS _ _ h1_a0
    have h5_u1 := xS _ _ h1_u1
    refine st_if (show ((mI S5 u1 9) ≤ 0) = ((vI V5 u1v 9) ≤ 0) from by simp only [SM_I hS5 h5_u1]) hQ (fun hQ => ?_) (fun hQ => ?_)
    · intro S6 eS
      obtain ⟨V6, hS6, xS, hQ⟩ := st_sI hS5 h5_a0 eS rfl rfl hQ
      have hx6 : Ex S0 S6 := Ex_tr hx5 xS
      exact gd_rt hQ _ hS6 hx6
    · intro S7 eS
      obtain ⟨V7, hS7, xS, hQ⟩ := st_sI hS5 h5_a0 eS rfl rfl hQ
      have hx7 : Ex S0 S7 := Ex_tr hx5 xS
      exact gd_rt hQ _ hS7 hx7
def eX2_beginTurn_0 (n : Nat) (V : VS) (a0v : Nat) (b1v : Nat) : Rs Unit := bd (ev_X7_lives n V b1v) (fun r2 V1 => (if r2 = 0 then rt () V1 else sq (wI V1 b1v 11 0) (fun V3 => sq (wI V3 b1v 12 0) (fun V4 => (if (vI V4 b1v 10) ≤ 0 then eX2_beginTurn_43 n V4 a0v b1v else bd (ev_X7_lose n V4 b1v 2) (fun _ V5 => (vR V5 a0v 11).bind (fun a6v => bd (ev_X1_note n V5 a6v 5 (vI V5 b1v 0) 2) (fun _ V7 => eX2_beginTurn_43 n V7 a0v b1v) th)) th))))) th
set_option maxHeartbeats 4000000 in
set_option maxRecDepth 100000 in
theorem sX2_beginTurn_0 (n : Nat) {S0 : MS} {Q : MS → Prop} {QX : String → MS → Prop} {S : MS} {V : VS} {a0 a0v : Nat} {b1 b1v : Nat} (hS : SM S V) (hx : Ex S0 S) (h_a0 : Ad S a0 a0v) (h_b1 : Ad S b1 b1v) (hQ : gd (eX2_beginTurn_0 n V a0v b1v) (SU Q S0) (SX QX S0)) : wX2_beginTurn_0 Q QX S a0 b1 := by
  unfold wX2_beginTurn_0
  unfold eX2_beginTurn_0 at hQ
  refine sim_X7_lives n hS h_b1 ?_
  refine gd_mono (gd_bd hQ) (fun r2 V1 hQ S1 hS1 xS => ?_) (fun E V9 hQ S9 hS9 xS9 => gd_th hQ S9 hS9 (Ex_tr hx xS9))
  have hx1 : Ex S0 S1 := Ex_tr hx xS
  have h1_a0 := xS _ _ h_a0
  have h1_b1 := xS _ _ h_b1
  refine st_ifn rfl hQ (fun hQ => ?_) (fun hQ => ?_)
  · intro S3 eS
    obtain ⟨V3, hS3, xS, hQ⟩ := st_sI hS1 h1_b1 eS rfl rfl hQ
    have hx3 : Ex S0 S3 := Ex_tr hx1 xS
    have h3_a0 := xS _ _ h1_a0
    have h3_b1 := xS _ _ h1_b1
    intro S4 eS
    obtain ⟨V4, hS4, xS, hQ⟩ := st_sI hS3 h3_b1 eS rfl rfl hQ
    have hx4 : Ex S0 S4 := Ex_tr hx3 xS
    have h4_a0 := xS _ _ h3_a0
    have h4_b1 := xS _ _ h3_b1
    refine st_if (show ((mI S4 b1 10) ≤ 0) = ((vI V4 b1v 10) ≤ 0) from by simp only [SM_I hS4 h4_b1]) hQ (fun hQ => ?_) (fun hQ => ?_)
    · exact sX2_beginTurn_43 n hS4 hx4 h4_a0 h4_b1 hQ
    · refine sim_X7_lose n hS4 h4_b1 rfl ?_
      refine gd_mono (gd_bd hQ) (fun _ V5 hQ S5 hS5 xS => ?_) (fun E V9 hQ S9 hS9 xS9 => gd_th hQ S9 hS9 (Ex_tr hx4 xS9))
      have hx5 : Ex S0 S5 := Ex_tr hx4 xS
      have h5_a0 := xS _ _ h4_a0
      have h5_b1 := xS _ _ h4_b1
      refine st_rd hS5 h5_a0 rfl hQ (fun a6 a6v h5_a6 hQ => ?_)
      refine sim_X1_note n hS5 h5_a6 rfl (show ((mI S5 b1 0)) = ((vI V5 b1v 0)) from by simp only [SM_I hS5 h5_b1]) rfl ?_
      refine gd_mono (gd_bd hQ) (fun _ V7 hQ S7 hS7 xS => ?_) (fun E V9 hQ S9 hS9 xS9 => gd_th hQ S9 hS9 (Ex_tr hx5 xS9))
      have hx7 : Ex S0 S7 := Ex_tr hx5 xS
      have h7_a0 := xS _ _ h5_a0
      have h7_b1 := xS _ _ h5_b1
      exact sX2_beginTurn_43 n hS7 hx7 h7_a0 h7_b1 hQ
  · exact gd_rt hQ _ hS1 hx1
def ev_X2_beginTurn (n : Nat) (V : VS) (a0v : Nat) (b1v : Nat) : Rs Unit := eX2_beginTurn_0 n V a0v b1v
theorem sim_X2_beginTurn (n : Nat) {Q : MS → Prop} {QX : String → MS → Prop} {S : MS} {V : VS} {a0 a0v : Nat} {b1 b1v : Nat} (hS : SM S V) (h_a0 : Ad S a0 a0v) (h_b1 : Ad S b1 b1v) (hQ : gd (ev_X2_beginTurn n V a0v b1v) (SU Q S) (SX QX S)) : wp_X2_beginTurn Q QX S a0 b1 := by
  exact sX2_beginTurn_0 n hS Ex_rf h_a0 h_b1 hQ
def eX2_passTurn_49 (n : Nat) (k12v : VS → Nat → Int32 → Rs Unit) (V : VS) (a0v : Nat) (y1 : Int32) : Rs Unit := sq (wI V a0v 5 ((vI V a0v 5) + 1)) (fun V1 => (vR V1 a0v 1).bind (fun a2v => (vR V1 a0v 3).bind (fun a3v => (if gvp_in (vI V1 a0v 5) (vN V1 a3v) = true then (if gvp_in (vI V1 a3v ((vI V1 a0v 5) : Int32).toNatClampNeg) (vN V1 a2v) = true then (vR V1 a2v (((vI V1 a3v ((vI V1 a0v 5) : Int32).toNatClampNeg) : Int32).toNatClampNeg)).bind (fun a4v => bd (ev_X2_beginTurn n V1 a0v a4v) (fun _ V5 => k12v V5 a0v (y1 + 1)) th) else none) else none))))
set_option maxHeartbeats 4000000 in
set_option maxRecDepth 100000 in
theorem sX2_passTurn_49 (n : Nat) {S0 : MS} {Q : MS → Prop} {QX : String → MS → Prop} {k12 : MS → Nat → Int32 → Prop} {k12v : VS → Nat → Int32 → Rs Unit} (hk12 : ∀ (S : MS) (V : VS) (p0 p0v : Nat) (p1 : Int32), SM S V → Ex S0 S → Ad S p0 p0v → gd (k12v V p0v p1) (SU Q S0) (SX QX S0) → k12 S p0 p1) {S : MS} {V : VS} {a0 a0v : Nat} {y1 : Int32} (hS : SM S V) (hx : Ex S0 S) (h_a0 : Ad S a0 a0v) (hQ : gd (eX2_passTurn_49 n k12v V a0v y1) (SU Q S0) (SX QX S0)) : wX2_passTurn_49 Q QX k12 S a0 y1 := by
  unfold wX2_passTurn_49
  unfold eX2_passTurn_49 at hQ
  intro S1 eS
  obtain ⟨V1, hS1, xS, hQ⟩ := st_sI hS h_a0 eS rfl (show (((mI S a0 5) + 1)) = (((vI V a0v 5) + 1)) from by simp only [SM_I hS h_a0]) hQ
  have hx1 : Ex S0 S1 := Ex_tr hx xS
  have h1_a0 := xS _ _ h_a0
  refine st_rd hS1 h1_a0 rfl hQ (fun a2 a2v h1_a2 hQ => ?_)
  refine st_rd hS1 h1_a0 rfl hQ (fun a3 a3v h1_a3 hQ => ?_)
  refine st_gd (fun h => by simp only [SM_I hS1 h1_a0, SM_N hS1 h1_a3]; exact gvp_in_of h) hQ (fun hQ => ?_)
  refine st_gd (fun h => by simp only [SM_I hS1 h1_a3, SM_I hS1 h1_a0, SM_N hS1 h1_a2]; exact gvp_in_of h) hQ (fun hQ => ?_)
  refine st_rd hS1 h1_a2 (show (((mI S1 a3 ((mI S1 a0 5) : Int32).toNatClampNeg) : Int32).toNatClampNeg) = (((vI V1 a3v ((vI V1 a0v 5) : Int32).toNatClampNeg) : Int32).toNatClampNeg) from by simp only [SM_I hS1 h1_a3, SM_I hS1 h1_a0]) hQ (fun a4 a4v h1_a4 hQ => ?_)
  refine sim_X2_beginTurn n hS1 h1_a0 h1_a4 ?_
  refine gd_mono (gd_bd hQ) (fun _ V5 hQ S5 hS5 xS => ?_) (fun E V9 hQ S9 hS9 xS9 => gd_th hQ S9 hS9 (Ex_tr hx1 xS9))
  have hx5 : Ex S0 S5 := Ex_tr hx1 xS
  have h5_a0 := xS _ _ h1_a0
  exact hk12 _ _ _ _ _ hS5 hx5 h5_a0 hQ
def eX2_passTurn_12 (n : Nat) (k12v : VS → Nat → Int32 → Rs Unit) (V : VS) (a0v : Nat) (y1 : Int32) : Rs Unit := (if 16 ≤ y1 then rt () V else (if 0 ≤ (vI V a0v 6) then rt () V else bd (ev_X2_goesOn n V a0v) (fun r2 V1 => (if r2 = 0 then rt () V1 else (if ((vI V1 a0v 5) + 1) < (vI V1 a0v 4) then eX2_passTurn_49 n k12v V1 a0v y1 else bd (ev_X2_beginRound n V1 a0v) (fun _ V3 => eX2_passTurn_49 n k12v V3 a0v y1) th))) th))
set_option maxHeartbeats 4000000 in
set_option maxRecDepth 100000 in
theorem sX2_passTurn_12 (n : Nat) {S0 : MS} {Q : MS → Prop} {QX : String → MS → Prop} {k12 : MS → Nat → Int32 → Prop} {k12v : VS → Nat → Int32 → Rs Unit} (hk12 : ∀ (S : MS) (V : VS) (p0 p0v : Nat) (p1 : Int32), SM S V → Ex S0 S → Ad S p0 p0v → gd (k12v V p0v p1) (SU Q S0) (SX QX S0) → k12 S p0 p1) {S : MS} {V : VS} {a0 a0v : Nat} {y1 : Int32} (hS : SM S V) (hx : Ex S0 S) (h_a0 : Ad S a0 a0v) (hQ : gd (eX2_passTurn_12 n k12v V a0v y1) (SU Q S0) (SX QX S0)) : wX2_passTurn_12 Q QX k12 S a0 y1 := by
  unfold wX2_passTurn_12
  unfold eX2_passTurn_12 at hQ
  refine st_if rfl hQ (fun hQ => ?_) (fun hQ => ?_)
  · exact gd_rt hQ _ hS hx
  · refine st_if (show (0 ≤ (mI S a0 6)) = (0 ≤ (vI V a0v 6)) from by simp only [SM_I hS h_a0]) hQ (fun hQ => ?_) (fun hQ => ?_)
    · exact gd_rt hQ _ hS hx
    · refine sim_X2_goesOn n hS h_a0 ?_
      refine gd_mono (gd_bd hQ) (fun r2 V1 hQ S1 hS1 xS => ?_) (fun E V9 hQ S9 hS9 xS9 => gd_th hQ S9 hS9 (Ex_tr hx xS9))
      have hx1 : Ex S0 S1 := Ex_tr hx xS
      have h1_a0 := xS _ _ h_a0
      refine st_if rfl hQ (fun hQ => ?_) (fun hQ => ?_)
      · exact gd_rt hQ _ hS1 hx1
      · refine st_if (show (((mI S1 a0 5) + 1) < (mI S1 a0 4)) = (((vI V1 a0v 5) + 1) < (vI V1 a0v 4)) from by simp only [SM_I hS1 h1_a0]) hQ (fun hQ => ?_) (fun hQ => ?_)
        · exact sX2_passTurn_49 n hk12 hS1 hx1 h1_a0 hQ
        · refine sim_X2_beginRound n hS1 h1_a0 ?_
          refine gd_mono (gd_bd hQ) (fun _ V3 hQ S3 hS3 xS => ?_) (fun E V9 hQ S9 hS9 xS9 => gd_th hQ S9 hS9 (Ex_tr hx1 xS9))
          have hx3 : Ex S0 S3 := Ex_tr hx1 xS
          have h3_a0 := xS _ _ h1_a0
          exact sX2_passTurn_49 n hk12 hS3 hx3 h3_a0 hQ
def elX2_passTurn_12 (n : Nat) : Nat → VS → Nat → Int32 → Rs Unit
  | 0 => fun _ _ _ => none
  | m + 1 => fun V a0v y1 => eX2_passTurn_12 n (elX2_passTurn_12 n m) V a0v y1
theorem selX2_passTurn_12 (n : Nat) {S0 : MS} {Q : MS → Prop} {QX : String → MS → Prop} : ∀ (m : Nat), ∀ (S : MS) (V : VS) (p0 p0v : Nat) (p1 : Int32), SM S V → Ex S0 S → Ad S p0 p0v → gd (elX2_passTurn_12 n m V p0v p1) (SU Q S0) (SX QX S0) → lX2_passTurn_12 Q QX m S p0 p1 := by
  intro m
  induction m with
  | zero => intro S V p0 p0v p1 hS hx q0 hQ; exact (gd_none hQ).elim
  | succ m ih => intro S V p0 p0v p1 hS hx q0 hQ; exact sX2_passTurn_12 n ih hS hx q0 hQ
def eX2_passTurn_0 (n : Nat) (V : VS) (a0v : Nat) : Rs Unit := sq (wI V a0v 6 (-1)) (fun V1 => sq (wI V1 a0v 7 0) (fun V2 => elX2_passTurn_12 n n V2 a0v 0))
set_option maxHeartbeats 4000000 in
set_option maxRecDepth 100000 in
theorem sX2_passTurn_0 (n : Nat) {S0 : MS} {Q : MS → Prop} {QX : String → MS → Prop} {S : MS} {V : VS} {a0 a0v : Nat} (hS : SM S V) (hx : Ex S0 S) (h_a0 : Ad S a0 a0v) (hQ : gd (eX2_passTurn_0 n V a0v) (SU Q S0) (SX QX S0)) : wX2_passTurn_0 Q QX S a0 := by
  unfold wX2_passTurn_0
  unfold eX2_passTurn_0 at hQ
  intro S1 eS
  obtain ⟨V1, hS1, xS, hQ⟩ := st_sI hS h_a0 eS rfl rfl hQ
  have hx1 : Ex S0 S1 := Ex_tr hx xS
  have h1_a0 := xS _ _ h_a0
  intro S2 eS
  obtain ⟨V2, hS2, xS, hQ⟩ := st_sI hS1 h1_a0 eS rfl rfl hQ
  have hx2 : Ex S0 S2 := Ex_tr hx1 xS
  have h2_a0 := xS _ _ h1_a0
  refine ⟨n, ?_⟩
  exact selX2_passTurn_12 n n _ _ _ _ _ hS2 hx2 h2_a0 hQ
def ev_X2_passTurn (n : Nat) (V : VS) (a0v : Nat) : Rs Unit := eX2_passTurn_0 n V a0v
theorem sim_X2_passTurn (n : Nat) {Q : MS → Prop} {QX : String → MS → Prop} {S : MS} {V : VS} {a0 a0v : Nat} (hS : SM S V) (h_a0 : Ad S a0 a0v) (hQ : gd (ev_X2_passTurn n V a0v) (SU Q S) (SX QX S)) : wp_X2_passTurn Q QX S a0 := by
  exact sX2_passTurn_0 n hS Ex_rf h_a0 hQ
def eX2_startRounds_0 (n : Nat) (V : VS) (a0v : Nat) : Rs Unit := bd (ev_X2_beginRound n V a0v) (fun _ V1 => bd (ev_X2_passTurn n V1 a0v) (fun _ V2 => rt () V2) th) th
set_option maxHeartbeats 4000000 in
set_option maxRecDepth 100000 in
theorem sX2_startRounds_0 (n : Nat) {S0 : MS} {Q : MS → Prop} {QX : String → MS → Prop} {S : MS} {V : VS} {a0 a0v : Nat} (hS : SM S V) (hx : Ex S0 S) (h_a0 : Ad S a0 a0v) (hQ : gd (eX2_startRounds_0 n V a0v) (SU Q S0) (SX QX S0)) : wX2_startRounds_0 Q QX S a0 := by
  unfold wX2_startRounds_0
  unfold eX2_startRounds_0 at hQ
  refine sim_X2_beginRound n hS h_a0 ?_
  refine gd_mono (gd_bd hQ) (fun _ V1 hQ S1 hS1 xS => ?_) (fun E V9 hQ S9 hS9 xS9 => gd_th hQ S9 hS9 (Ex_tr hx xS9))
  have hx1 : Ex S0 S1 := Ex_tr hx xS
  have h1_a0 := xS _ _ h_a0
  refine sim_X2_passTurn n hS1 h1_a0 ?_
  refine gd_mono (gd_bd hQ) (fun _ V2 hQ S2 hS2 xS => ?_) (fun E V9 hQ S9 hS9 xS9 => gd_th hQ S9 hS9 (Ex_tr hx1 xS9))
  have hx2 : Ex S0 S2 := Ex_tr hx1 xS
  exact gd_rt hQ _ hS2 hx2
def ev_X2_startRounds (n : Nat) (V : VS) (a0v : Nat) : Rs Unit := eX2_startRounds_0 n V a0v
theorem sim_X2_startRounds (n : Nat) {Q : MS → Prop} {QX : String → MS → Prop} {S : MS} {V : VS} {a0 a0v : Nat} (hS : SM S V) (h_a0 : Ad S a0 a0v) (hQ : gd (ev_X2_startRounds n V a0v) (SU Q S) (SX QX S)) : wp_X2_startRounds Q QX S a0 := by
  exact sX2_startRounds_0 n hS Ex_rf h_a0 hQ
def eX2_settle_0 (n : Nat) (V : VS) (a0v : Nat) (b1v : Nat) : Rs Unit := bd (ev_X2_goesOn n V a0v) (fun r2 V1 => (if r2 = 0 then sq (wI V1 a0v 6 (-1)) (fun V6 => sq (wI V6 a0v 7 0) (fun V7 => rt () V7)) else bd (ev_X7_lives n V1 b1v) (fun r4 V3 => (if r4 = 0 then bd (ev_X2_passTurn n V3 a0v) (fun _ V5 => rt () V5) th else rt () V3)) th)) th
set_option maxHeartbeats 4000000 in
set_option maxRecDepth 100000 in
theorem sX2_settle_0 (n : Nat) {S0 : MS} {Q : MS → Prop} {QX : String → MS → Prop} {S : MS} {V : VS} {a0 a0v : Nat} {b1 b1v : Nat} (hS : SM S V) (hx : Ex S0 S) (h_a0 : Ad S a0 a0v) (h_b1 : Ad S b1 b1v) (hQ : gd (eX2_settle_0 n V a0v b1v) (SU Q S0) (SX QX S0)) : wX2_settle_0 Q QX S a0 b1 := by
  unfold wX2_settle_0
  unfold eX2_settle_0 at hQ
  refine sim_X2_goesOn n hS h_a0 ?_
  refine gd_mono (gd_bd hQ) (fun r2 V1 hQ S1 hS1 xS => ?_) (fun E V9 hQ S9 hS9 xS9 => gd_th hQ S9 hS9 (Ex_tr hx xS9))
  have hx1 : Ex S0 S1 := Ex_tr hx xS
  have h1_a0 := xS _ _ h_a0
  have h1_b1 := xS _ _ h_b1
  refine st_ifn rfl hQ (fun hQ => ?_) (fun hQ => ?_)
  · refine sim_X7_lives n hS1 h1_b1 ?_
    refine gd_mono (gd_bd hQ) (fun r4 V3 hQ S3 hS3 xS => ?_) (fun E V9 hQ S9 hS9 xS9 => gd_th hQ S9 hS9 (Ex_tr hx1 xS9))
    have hx3 : Ex S0 S3 := Ex_tr hx1 xS
    have h3_a0 := xS _ _ h1_a0
    refine st_ifn rfl hQ (fun hQ => ?_) (fun hQ => ?_)
    · exact gd_rt hQ _ hS3 hx3
    · refine sim_X2_passTurn n hS3 h3_a0 ?_
      refine gd_mono (gd_bd hQ) (fun _ V5 hQ S5 hS5 xS => ?_) (fun E V9 hQ S9 hS9 xS9 => gd_th hQ S9 hS9 (Ex_tr hx3 xS9))
      have hx5 : Ex S0 S5 := Ex_tr hx3 xS
      exact gd_rt hQ _ hS5 hx5
  · intro S6 eS
    obtain ⟨V6, hS6, xS, hQ⟩ := st_sI hS1 h1_a0 eS rfl rfl hQ
    have hx6 : Ex S0 S6 := Ex_tr hx1 xS
    have h6_a0 := xS _ _ h1_a0
    intro S7 eS
    obtain ⟨V7, hS7, xS, hQ⟩ := st_sI hS6 h6_a0 eS rfl rfl hQ
    have hx7 : Ex S0 S7 := Ex_tr hx6 xS
    exact gd_rt hQ _ hS7 hx7
def ev_X2_settle (n : Nat) (V : VS) (a0v : Nat) (b1v : Nat) : Rs Unit := eX2_settle_0 n V a0v b1v
theorem sim_X2_settle (n : Nat) {Q : MS → Prop} {QX : String → MS → Prop} {S : MS} {V : VS} {a0 a0v : Nat} {b1 b1v : Nat} (hS : SM S V) (h_a0 : Ad S a0 a0v) (h_b1 : Ad S b1 b1v) (hQ : gd (ev_X2_settle n V a0v b1v) (SU Q S) (SX QX S)) : wp_X2_settle Q QX S a0 b1 := by
  exact sX2_settle_0 n hS Ex_rf h_a0 h_b1 hQ
def eX2_canStrike_0 (n : Nat) (V : VS) (a0v : Nat) (b1v : Nat) (b2v : Nat) : Rs Int32 := bd (ev_X7_lives n V b1v) (fun r2 V1 => (if r2 = 0 then rt 0 V1 else bd (ev_X7_lives n V1 b2v) (fun r4 V3 => (if r4 = 0 then rt 0 V3 else (if (vI V3 b1v 1) = (vI V3 b2v 1) then rt 0 V3 else (vR V3 a0v 0).bind (fun a5v => bd (ev_X3_distance n V3 a5v (vI V3 b1v 4) (vI V3 b2v 4)) (fun r7 V6 => (if gvp_in (vI V6 b1v 2) 4 = true then (if (tbI 3 (vI V6 b1v 2)) < r7 then rt 0 V6 else (vR V6 a0v 0).bind (fun a9v => bd (ev_X3_isClear n V6 a9v (vI V6 b1v 4) (vI V6 b2v 4)) (fun r11 V10 => (if r11 = 0 then rt 0 V10 else rt 1 V10)) th)) else none)) th)))) th)) th
set_option maxHeartbeats 4000000 in
set_option maxRecDepth 100000 in
theorem sX2_canStrike_0 (n : Nat) {S0 : MS} {Q : Int32 → MS → Prop} {QX : String → MS → Prop} {S : MS} {V : VS} {a0 a0v : Nat} {b1 b1v : Nat} {b2 b2v : Nat} (hS : SM S V) (hx : Ex S0 S) (h_a0 : Ad S a0 a0v) (h_b1 : Ad S b1 b1v) (h_b2 : Ad S b2 b2v) (hQ : gd (eX2_canStrike_0 n V a0v b1v b2v) (SQ Q S0) (SX QX S0)) : wX2_canStrike_0 Q QX S a0 b1 b2 := by
  unfold wX2_canStrike_0
  unfold eX2_canStrike_0 at hQ
  refine sim_X7_lives n hS h_b1 ?_
  refine gd_mono (gd_bd hQ) (fun r2 V1 hQ S1 hS1 xS => ?_) (fun E V9 hQ S9 hS9 xS9 => gd_th hQ S9 hS9 (Ex_tr hx xS9))
  have hx1 : Ex S0 S1 := Ex_tr hx xS
  have h1_a0 := xS _ _ h_a0
  have h1_b1 := xS _ _ h_b1
  have h1_b2 := xS _ _ h_b2
  refine st_if rfl hQ (fun hQ => ?_) (fun hQ => ?_)
  · exact gd_rt hQ _ hS1 hx1
  · refine sim_X7_lives n hS1 h1_b2 ?_
    refine gd_mono (gd_bd hQ) (fun r4 V3 hQ S3 hS3 xS => ?_) (fun E V9 hQ S9 hS9 xS9 => gd_th hQ S9 hS9 (Ex_tr hx1 xS9))
    have hx3 : Ex S0 S3 := Ex_tr hx1 xS
    have h3_a0 := xS _ _ h1_a0
    have h3_b1 := xS _ _ h1_b1
    have h3_b2 := xS _ _ h1_b2
    refine st_if rfl hQ (fun hQ => ?_) (fun hQ => ?_)
    · exact gd_rt hQ _ hS3 hx3
    · refine st_if (show ((mI S3 b1 1) = (mI S3 b2 1)) = ((vI V3 b1v 1) = (vI V3 b2v 1)) from by simp only [SM_I hS3 h3_b1, SM_I hS3 h3_b2]) hQ (fun hQ => ?_) (fun hQ => ?_)
      · exact gd_rt hQ _ hS3 hx3
      · refine st_rd hS3 h3_a0 rfl hQ (fun a5 a5v h3_a5 hQ => ?_)
        refine sim_X3_distance n hS3 h3_a5 (show ((mI S3 b1 4)) = ((vI V3 b1v 4)) from by simp only [SM_I hS3 h3_b1]) (show ((mI S3 b2 4)) = ((vI V3 b2v 4)) from by simp only [SM_I hS3 h3_b2]) ?_
        refine gd_mono (gd_bd hQ) (fun r7 V6 hQ S6 hS6 xS => ?_) (fun E V9 hQ S9 hS9 xS9 => gd_th hQ S9 hS9 (Ex_tr hx3 xS9))
        have hx6 : Ex S0 S6 := Ex_tr hx3 xS
        have h6_a0 := xS _ _ h3_a0
        have h6_b1 := xS _ _ h3_b1
        have h6_b2 := xS _ _ h3_b2
        refine st_gd (fun h => by simp only [SM_I hS6 h6_b1]; exact gvp_in_of h) hQ (fun hQ => ?_)
        refine st_if (show ((tbI 3 (mI S6 b1 2)) < r7) = ((tbI 3 (vI V6 b1v 2)) < r7) from by simp only [SM_I hS6 h6_b1]) hQ (fun hQ => ?_) (fun hQ => ?_)
        · exact gd_rt hQ _ hS6 hx6
        · refine st_rd hS6 h6_a0 rfl hQ (fun a9 a9v h6_a9 hQ => ?_)
          refine sim_X3_isClear n hS6 h6_a9 (show ((mI S6 b1 4)) = ((vI V6 b1v 4)) from by simp only [SM_I hS6 h6_b1]) (show ((mI S6 b2 4)) = ((vI V6 b2v 4)) from by simp only [SM_I hS6 h6_b2]) ?_
          refine gd_mono (gd_bd hQ) (fun r11 V10 hQ S10 hS10 xS => ?_) (fun E V9 hQ S9 hS9 xS9 => gd_th hQ S9 hS9 (Ex_tr hx6 xS9))
          have hx10 : Ex S0 S10 := Ex_tr hx6 xS
          refine st_if rfl hQ (fun hQ => ?_) (fun hQ => ?_)
          · exact gd_rt hQ _ hS10 hx10
          · exact gd_rt hQ _ hS10 hx10
def ev_X2_canStrike (n : Nat) (V : VS) (a0v : Nat) (b1v : Nat) (b2v : Nat) : Rs Int32 := eX2_canStrike_0 n V a0v b1v b2v
theorem sim_X2_canStrike (n : Nat) {Q : Int32 → MS → Prop} {QX : String → MS → Prop} {S : MS} {V : VS} {a0 a0v : Nat} {b1 b1v : Nat} {b2 b2v : Nat} (hS : SM S V) (h_a0 : Ad S a0 a0v) (h_b1 : Ad S b1 b1v) (h_b2 : Ad S b2 b2v) (hQ : gd (ev_X2_canStrike n V a0v b1v b2v) (SQ Q S) (SX QX S)) : wp_X2_canStrike Q QX S a0 b1 b2 := by
  exact sX2_canStrike_0 n hS Ex_rf h_a0 h_b1 h_b2 hQ
def eX2_neededResult_48 (n : Nat) (V : VS) (u1v : Nat) (z0 : Int32) (z1 : Int32) : Rs Int32 := (if gvp_in (vI V u1v 2) 4 = true then rt ((z1 + z0) - (tbI 2 (vI V u1v 2))) V else none)
set_option maxHeartbeats 4000000 in
set_option maxRecDepth 100000 in
theorem sX2_neededResult_48 (n : Nat) {S0 : MS} {Q : Int32 → MS → Prop} {QX : String → MS → Prop} {S : MS} {V : VS} {u1 u1v : Nat} {z0 : Int32} {z1 : Int32} (hS : SM S V) (hx : Ex S0 S) (h_u1 : Ad S u1 u1v) (hQ : gd (eX2_neededResult_48 n V u1v z0 z1) (SQ Q S0) (SX QX S0)) : wX2_neededResult_48 Q QX S u1 z0 z1 := by
  unfold wX2_neededResult_48
  unfold eX2_neededResult_48 at hQ
  refine st_gd (fun h => by simp only [SM_I hS h_u1]; exact gvp_in_of h) hQ (fun hQ => ?_)
  simp only [SM_I hS h_u1]
  exact gd_rt hQ _ hS hx
def eX2_neededResult_0 (n : Nat) (V : VS) (a0v : Nat) (b1v : Nat) (b2v : Nat) : Rs Int32 := (vR V a0v 0).bind (fun a1v => bd (ev_X3_distance n V a1v (vI V b1v 4) (vI V b2v 4)) (fun r3 V2 => (vR V2 a0v 0).bind (fun a4v => bd (ev_X3_coverOf n V2 a4v (vI V2 b2v 4) (vI V2 b1v 4)) (fun r6 V5 => (if (vI V5 b2v 11) = 0 then eX2_neededResult_48 n V5 b1v 0 ((8 + r3) + (3 * r6)) else eX2_neededResult_48 n V5 b1v 2 ((8 + r3) + (3 * r6)))) th)) th)
set_option maxHeartbeats 4000000 in
set_option maxRecDepth 100000 in
theorem sX2_neededResult_0 (n : Nat) {S0 : MS} {Q : Int32 → MS → Prop} {QX : String → MS → Prop} {S : MS} {V : VS} {a0 a0v : Nat} {b1 b1v : Nat} {b2 b2v : Nat} (hS : SM S V) (hx : Ex S0 S) (h_a0 : Ad S a0 a0v) (h_b1 : Ad S b1 b1v) (h_b2 : Ad S b2 b2v) (hQ : gd (eX2_neededResult_0 n V a0v b1v b2v) (SQ Q S0) (SX QX S0)) : wX2_neededResult_0 Q QX S a0 b1 b2 := by
  unfold wX2_neededResult_0
  unfold eX2_neededResult_0 at hQ
  refine st_rd hS h_a0 rfl hQ (fun a1 a1v h_a1 hQ => ?_)
  refine sim_X3_distance n hS h_a1 (show ((mI S b1 4)) = ((vI V b1v 4)) from by simp only [SM_I hS h_b1]) (show ((mI S b2 4)) = ((vI V b2v 4)) from by simp only [SM_I hS h_b2]) ?_
  refine gd_mono (gd_bd hQ) (fun r3 V2 hQ S2 hS2 xS => ?_) (fun E V9 hQ S9 hS9 xS9 => gd_th hQ S9 hS9 (Ex_tr hx xS9))
  have hx2 : Ex S0 S2 := Ex_tr hx xS
  have h2_a0 := xS _ _ h_a0
  have h2_b1 := xS _ _ h_b1
  have h2_b2 := xS _ _ h_b2
  refine st_rd hS2 h2_a0 rfl hQ (fun a4 a4v h2_a4 hQ => ?_)
  refine sim_X3_coverOf n hS2 h2_a4 (show ((mI S2 b2 4)) = ((vI V2 b2v 4)) from by simp only [SM_I hS2 h2_b2]) (show ((mI S2 b1 4)) = ((vI V2 b1v 4)) from by simp only [SM_I hS2 h2_b1]) ?_
  refine gd_mono (gd_bd hQ) (fun r6 V5 hQ S5 hS5 xS => ?_) (fun E V9 hQ S9 hS9 xS9 => gd_th hQ S9 hS9 (Ex_tr hx2 xS9))
  have hx5 : Ex S0 S5 := Ex_tr hx2 xS
  have h5_b1 := xS _ _ h2_b1
  have h5_b2 := xS _ _ h2_b2
  refine st_if (show ((mI S5 b2 11) = 0) = ((vI V5 b2v 11) = 0) from by simp only [SM_I hS5 h5_b2]) hQ (fun hQ => ?_) (fun hQ => ?_)
  · exact sX2_neededResult_48 n hS5 hx5 h5_b1 hQ
  · exact sX2_neededResult_48 n hS5 hx5 h5_b1 hQ
def ev_X2_neededResult (n : Nat) (V : VS) (a0v : Nat) (b1v : Nat) (b2v : Nat) : Rs Int32 := eX2_neededResult_0 n V a0v b1v b2v
theorem sim_X2_neededResult (n : Nat) {Q : Int32 → MS → Prop} {QX : String → MS → Prop} {S : MS} {V : VS} {a0 a0v : Nat} {b1 b1v : Nat} {b2 b2v : Nat} (hS : SM S V) (h_a0 : Ad S a0 a0v) (h_b1 : Ad S b1 b1v) (h_b2 : Ad S b2 b2v) (hQ : gd (ev_X2_neededResult n V a0v b1v b2v) (SQ Q S) (SX QX S)) : wp_X2_neededResult Q QX S a0 b1 b2 := by
  exact sX2_neededResult_0 n hS Ex_rf h_a0 h_b1 h_b2 hQ
def eX2_isHit_0 (n : Nat) (V : VS) (x1 : Int32) (x2 : Int32) : Rs Int32 := (if x1 = 20 then rt 1 V else (if x1 ≤ 1 then rt 0 V else (if x1 < x2 then rt 0 V else rt 1 V)))
set_option maxHeartbeats 4000000 in
set_option maxRecDepth 100000 in
theorem sX2_isHit_0 (n : Nat) {S0 : MS} {Q : Int32 → MS → Prop} {QX : String → MS → Prop} {S : MS} {V : VS} {x1 : Int32} {x2 : Int32} (hS : SM S V) (hx : Ex S0 S) (hQ : gd (eX2_isHit_0 n V x1 x2) (SQ Q S0) (SX QX S0)) : wX2_isHit_0 Q QX S x1 x2 := by
  unfold wX2_isHit_0
  unfold eX2_isHit_0 at hQ
  refine st_if rfl hQ (fun hQ => ?_) (fun hQ => ?_)
  · exact gd_rt hQ _ hS hx
  · refine st_if rfl hQ (fun hQ => ?_) (fun hQ => ?_)
    · exact gd_rt hQ _ hS hx
    · refine st_if rfl hQ (fun hQ => ?_) (fun hQ => ?_)
      · exact gd_rt hQ _ hS hx
      · exact gd_rt hQ _ hS hx
def ev_X2_isHit (n : Nat) (V : VS) (x1 : Int32) (x2 : Int32) : Rs Int32 := eX2_isHit_0 n V x1 x2
theorem sim_X2_isHit (n : Nat) {Q : Int32 → MS → Prop} {QX : String → MS → Prop} {S : MS} {V : VS} {x1 x1z : Int32} {x2 x2z : Int32} (hS : SM S V) (e_x1 : x1 = x1z) (e_x2 : x2 = x2z) (hQ : gd (ev_X2_isHit n V x1z x2z) (SQ Q S) (SX QX S)) : wp_X2_isHit Q QX S x1 x2 := by
  subst e_x1 e_x2
  exact sX2_isHit_0 n hS Ex_rf hQ
def eX2_damageOf_0 (n : Nat) (V : VS) (b1v : Nat) (b2v : Nat) (x3 : Int32) (x4 : Int32) : Rs Int32 := (if gvp_in (vI V b1v 2) 4 = true then (if gvp_in (vI V b2v 2) 4 = true then (if x3 = 20 then rt (2 * (if 1 < ((x4 + (tbI 6 (vI V b1v 2))) - (tbI 1 (vI V b2v 2))) then ((x4 + (tbI 6 (vI V b1v 2))) - (tbI 1 (vI V b2v 2))) else 1)) V else rt (if 1 < ((x4 + (tbI 6 (vI V b1v 2))) - (tbI 1 (vI V b2v 2))) then ((x4 + (tbI 6 (vI V b1v 2))) - (tbI 1 (vI V b2v 2))) else 1) V) else none) else none)
set_option maxHeartbeats 4000000 in
set_option maxRecDepth 100000 in
theorem sX2_damageOf_0 (n : Nat) {S0 : MS} {Q : Int32 → MS → Prop} {QX : String → MS → Prop} {S : MS} {V : VS} {b1 b1v : Nat} {b2 b2v : Nat} {x3 : Int32} {x4 : Int32} (hS : SM S V) (hx : Ex S0 S) (h_b1 : Ad S b1 b1v) (h_b2 : Ad S b2 b2v) (hQ : gd (eX2_damageOf_0 n V b1v b2v x3 x4) (SQ Q S0) (SX QX S0)) : wX2_damageOf_0 Q QX S b1 b2 x3 x4 := by
  unfold wX2_damageOf_0
  unfold eX2_damageOf_0 at hQ
  refine st_gd (fun h => by simp only [SM_I hS h_b1]; exact gvp_in_of h) hQ (fun hQ => ?_)
  refine st_gd (fun h => by simp only [SM_I hS h_b2]; exact gvp_in_of h) hQ (fun hQ => ?_)
  refine st_ifn rfl hQ (fun hQ => ?_) (fun hQ => ?_)
  · simp only [SM_I hS h_b1, SM_I hS h_b2]
    exact gd_rt hQ _ hS hx
  · simp only [SM_I hS h_b1, SM_I hS h_b2]
    exact gd_rt hQ _ hS hx
def ev_X2_damageOf (n : Nat) (V : VS) (b1v : Nat) (b2v : Nat) (x3 : Int32) (x4 : Int32) : Rs Int32 := eX2_damageOf_0 n V b1v b2v x3 x4
theorem sim_X2_damageOf (n : Nat) {Q : Int32 → MS → Prop} {QX : String → MS → Prop} {S : MS} {V : VS} {b1 b1v : Nat} {b2 b2v : Nat} {x3 x3z : Int32} {x4 x4z : Int32} (hS : SM S V) (h_b1 : Ad S b1 b1v) (h_b2 : Ad S b2 b2v) (e_x3 : x3 = x3z) (e_x4 : x4 = x4z) (hQ : gd (ev_X2_damageOf n V b1v b2v x3z x4z) (SQ Q S) (SX QX S)) : wp_X2_damageOf Q QX S b1 b2 x3 x4 := by
  subst e_x3 e_x4
  exact sX2_damageOf_0 n hS Ex_rf h_b1 h_b2 hQ
def eX2_countHits_13 (n : Nat) (k13v : VS → Int32 → Int32 → Int32 → Rs Int32) (V : VS) (y3 : Int32) (y4 : Int32) (y5 : Int32) : Rs Int32 := (if 20 < y5 then rt y4 V else bd (ev_X2_isHit n V y5 y3) (fun r2 V1 => (if r2 = 0 then k13v V1 y3 y4 (y5 + 1) else k13v V1 y3 (y4 + 1) (y5 + 1))) th)
set_option maxHeartbeats 4000000 in
set_option maxRecDepth 100000 in
theorem sX2_countHits_13 (n : Nat) {S0 : MS} {Q : Int32 → MS → Prop} {QX : String → MS → Prop} {k13 : MS → Int32 → Int32 → Int32 → Prop} {k13v : VS → Int32 → Int32 → Int32 → Rs Int32} (hk13 : ∀ (S : MS) (V : VS) (p0 : Int32) (p1 : Int32) (p2 : Int32), SM S V → Ex S0 S → gd (k13v V p0 p1 p2) (SQ Q S0) (SX QX S0) → k13 S p0 p1 p2) {S : MS} {V : VS} {y3 : Int32} {y4 : Int32} {y5 : Int32} (hS : SM S V) (hx : Ex S0 S) (hQ : gd (eX2_countHits_13 n k13v V y3 y4 y5) (SQ Q S0) (SX QX S0)) : wX2_countHits_13 Q QX k13 S y3 y4 y5 := by
  unfold wX2_countHits_13
  unfold eX2_countHits_13 at hQ
  refine st_if rfl hQ (fun hQ => ?_) (fun hQ => ?_)
  · exact gd_rt hQ _ hS hx
  · refine sim_X2_isHit n hS rfl rfl ?_
    refine gd_mono (gd_bd hQ) (fun r2 V1 hQ S1 hS1 xS => ?_) (fun E V9 hQ S9 hS9 xS9 => gd_th hQ S9 hS9 (Ex_tr hx xS9))
    have hx1 : Ex S0 S1 := Ex_tr hx xS
    refine st_if rfl hQ (fun hQ => ?_) (fun hQ => ?_)
    · exact hk13 _ _ _ _ _ hS1 hx1 hQ
    · exact hk13 _ _ _ _ _ hS1 hx1 hQ
def elX2_countHits_13 (n : Nat) : Nat → VS → Int32 → Int32 → Int32 → Rs Int32
  | 0 => fun _ _ _ _ => none
  | m + 1 => fun V y3 y4 y5 => eX2_countHits_13 n (elX2_countHits_13 n m) V y3 y4 y5
theorem selX2_countHits_13 (n : Nat) {S0 : MS} {Q : Int32 → MS → Prop} {QX : String → MS → Prop} : ∀ (m : Nat), ∀ (S : MS) (V : VS) (p0 : Int32) (p1 : Int32) (p2 : Int32), SM S V → Ex S0 S → gd (elX2_countHits_13 n m V p0 p1 p2) (SQ Q S0) (SX QX S0) → lX2_countHits_13 Q QX m S p0 p1 p2 := by
  intro m
  induction m with
  | zero => intro S V p0 p1 p2 hS hx hQ; exact (gd_none hQ).elim
  | succ m ih => intro S V p0 p1 p2 hS hx hQ; exact sX2_countHits_13 n ih hS hx hQ
def eX2_countHits_0 (n : Nat) (V : VS) (a0v : Nat) (b1v : Nat) (b2v : Nat) : Rs Int32 := bd (ev_X2_neededResult n V a0v b1v b2v) (fun r2 V1 => elX2_countHits_13 n n V1 r2 0 1) th
set_option maxHeartbeats 4000000 in
set_option maxRecDepth 100000 in
theorem sX2_countHits_0 (n : Nat) {S0 : MS} {Q : Int32 → MS → Prop} {QX : String → MS → Prop} {S : MS} {V : VS} {a0 a0v : Nat} {b1 b1v : Nat} {b2 b2v : Nat} (hS : SM S V) (hx : Ex S0 S) (h_a0 : Ad S a0 a0v) (h_b1 : Ad S b1 b1v) (h_b2 : Ad S b2 b2v) (hQ : gd (eX2_countHits_0 n V a0v b1v b2v) (SQ Q S0) (SX QX S0)) : wX2_countHits_0 Q QX S a0 b1 b2 := by
  unfold wX2_countHits_0
  unfold eX2_countHits_0 at hQ
  refine sim_X2_neededResult n hS h_a0 h_b1 h_b2 ?_
  refine gd_mono (gd_bd hQ) (fun r2 V1 hQ S1 hS1 xS => ?_) (fun E V9 hQ S9 hS9 xS9 => gd_th hQ S9 hS9 (Ex_tr hx xS9))
  have hx1 : Ex S0 S1 := Ex_tr hx xS
  refine ⟨n, ?_⟩
  exact selX2_countHits_13 n n _ _ _ _ _ hS1 hx1 hQ
def ev_X2_countHits (n : Nat) (V : VS) (a0v : Nat) (b1v : Nat) (b2v : Nat) : Rs Int32 := eX2_countHits_0 n V a0v b1v b2v
theorem sim_X2_countHits (n : Nat) {Q : Int32 → MS → Prop} {QX : String → MS → Prop} {S : MS} {V : VS} {a0 a0v : Nat} {b1 b1v : Nat} {b2 b2v : Nat} (hS : SM S V) (h_a0 : Ad S a0 a0v) (h_b1 : Ad S b1 b1v) (h_b2 : Ad S b2 b2v) (hQ : gd (ev_X2_countHits n V a0v b1v b2v) (SQ Q S) (SX QX S)) : wp_X2_countHits Q QX S a0 b1 b2 := by
  exact sX2_countHits_0 n hS Ex_rf h_a0 h_b1 h_b2 hQ
def eX2_sumDamages_23 (n : Nat) (k13v : VS → Nat → Nat → Int32 → Int32 → Int32 → Rs Int32) (k23v : VS → Nat → Nat → Int32 → Int32 → Int32 → Int32 → Rs Int32) (V : VS) (u1v : Nat) (u2v : Nat) (y3 : Int32) (y4 : Int32) (y5 : Int32) (y6 : Int32) : Rs Int32 := (if 4 < y6 then k13v V u1v u2v y3 y4 (y5 + 1) else bd (ev_X2_isHit n V y5 y3) (fun r2 V1 => (if r2 = 0 then k23v V1 u1v u2v y3 y4 y5 (y6 + 1) else bd (ev_X2_damageOf n V1 u1v u2v y5 y6) (fun r4 V3 => k23v V3 u1v u2v y3 (y4 + r4) y5 (y6 + 1)) th)) th)
set_option maxHeartbeats 4000000 in
set_option maxRecDepth 100000 in
theorem sX2_sumDamages_23 (n : Nat) {S0 : MS} {Q : Int32 → MS → Prop} {QX : String → MS → Prop} {k13 : MS → Nat → Nat → Int32 → Int32 → Int32 → Prop} {k13v : VS → Nat → Nat → Int32 → Int32 → Int32 → Rs Int32} {k23 : MS → Nat → Nat → Int32 → Int32 → Int32 → Int32 → Prop} {k23v : VS → Nat → Nat → Int32 → Int32 → Int32 → Int32 → Rs Int32} (hk13 : ∀ (S : MS) (V : VS) (p0 p0v : Nat) (p1 p1v : Nat) (p2 : Int32) (p3 : Int32) (p4 : Int32), SM S V → Ex S0 S → Ad S p0 p0v → Ad S p1 p1v → gd (k13v V p0v p1v p2 p3 p4) (SQ Q S0) (SX QX S0) → k13 S p0 p1 p2 p3 p4) (hk23 : ∀ (S : MS) (V : VS) (p0 p0v : Nat) (p1 p1v : Nat) (p2 : Int32) (p3 : Int32) (p4 : Int32) (p5 : Int32), SM S V → Ex S0 S → Ad S p0 p0v → Ad S p1 p1v → gd (k23v V p0v p1v p2 p3 p4 p5) (SQ Q S0) (SX QX S0) → k23 S p0 p1 p2 p3 p4 p5) {S : MS} {V : VS} {u1 u1v : Nat} {u2 u2v : Nat} {y3 : Int32} {y4 : Int32} {y5 : Int32} {y6 : Int32} (hS : SM S V) (hx : Ex S0 S) (h_u1 : Ad S u1 u1v) (h_u2 : Ad S u2 u2v) (hQ : gd (eX2_sumDamages_23 n k13v k23v V u1v u2v y3 y4 y5 y6) (SQ Q S0) (SX QX S0)) : wX2_sumDamages_23 Q QX k13 k23 S u1 u2 y3 y4 y5 y6 := by
  unfold wX2_sumDamages_23
  unfold eX2_sumDamages_23 at hQ
  refine st_if rfl hQ (fun hQ => ?_) (fun hQ => ?_)
  · exact hk13 _ _ _ _ _ _ _ _ _ hS hx h_u1 h_u2 hQ
  · refine sim_X2_isHit n hS rfl rfl ?_
    refine gd_mono (gd_bd hQ) (fun r2 V1 hQ S1 hS1 xS => ?_) (fun E V9 hQ S9 hS9 xS9 => gd_th hQ S9 hS9 (Ex_tr hx xS9))
    have hx1 : Ex S0 S1 := Ex_tr hx xS
    have h1_u1 := xS _ _ h_u1
    have h1_u2 := xS _ _ h_u2
    refine st_if rfl hQ (fun hQ => ?_) (fun hQ => ?_)
    · exact hk23 _ _ _ _ _ _ _ _ _ _ hS1 hx1 h1_u1 h1_u2 hQ
    · refine sim_X2_damageOf n hS1 h1_u1 h1_u2 rfl rfl ?_
      refine gd_mono (gd_bd hQ) (fun r4 V3 hQ S3 hS3 xS => ?_) (fun E V9 hQ S9 hS9 xS9 => gd_th hQ S9 hS9 (Ex_tr hx1 xS9))
      have hx3 : Ex S0 S3 := Ex_tr hx1 xS
      have h3_u1 := xS _ _ h1_u1
      have h3_u2 := xS _ _ h1_u2
      exact hk23 _ _ _ _ _ _ _ _ _ _ hS3 hx3 h3_u1 h3_u2 hQ
def elX2_sumDamages_23 (n : Nat) (k13v : VS → Nat → Nat → Int32 → Int32 → Int32 → Rs Int32) : Nat → VS → Nat → Nat → Int32 → Int32 → Int32 → Int32 → Rs Int32
  | 0 => fun _ _ _ _ _ _ _ => none
  | m + 1 => fun V u1v u2v y3 y4 y5 y6 => eX2_sumDamages_23 n k13v (elX2_sumDamages_23 n k13v m) V u1v u2v y3 y4 y5 y6
theorem selX2_sumDamages_23 (n : Nat) {S0 : MS} {Q : Int32 → MS → Prop} {QX : String → MS → Prop} {k13 : MS → Nat → Nat → Int32 → Int32 → Int32 → Prop} {k13v : VS → Nat → Nat → Int32 → Int32 → Int32 → Rs Int32} (hk13 : ∀ (S : MS) (V : VS) (p0 p0v : Nat) (p1 p1v : Nat) (p2 : Int32) (p3 : Int32) (p4 : Int32), SM S V → Ex S0 S → Ad S p0 p0v → Ad S p1 p1v → gd (k13v V p0v p1v p2 p3 p4) (SQ Q S0) (SX QX S0) → k13 S p0 p1 p2 p3 p4) : ∀ (m : Nat), ∀ (S : MS) (V : VS) (p0 p0v : Nat) (p1 p1v : Nat) (p2 : Int32) (p3 : Int32) (p4 : Int32) (p5 : Int32), SM S V → Ex S0 S → Ad S p0 p0v → Ad S p1 p1v → gd (elX2_sumDamages_23 n k13v m V p0v p1v p2 p3 p4 p5) (SQ Q S0) (SX QX S0) → lX2_sumDamages_23 Q QX k13 m S p0 p1 p2 p3 p4 p5 := by
  intro m
  induction m with
  | zero => intro S V p0 p0v p1 p1v p2 p3 p4 p5 hS hx q0 q1 hQ; exact (gd_none hQ).elim
  | succ m ih => intro S V p0 p0v p1 p1v p2 p3 p4 p5 hS hx q0 q1 hQ; exact sX2_sumDamages_23 n hk13 ih hS hx q0 q1 hQ
def eX2_sumDamages_13 (n : Nat) (k13v : VS → Nat → Nat → Int32 → Int32 → Int32 → Rs Int32) (V : VS) (u1v : Nat) (u2v : Nat) (y3 : Int32) (y4 : Int32) (y5 : Int32) : Rs Int32 := (if 20 < y5 then rt y4 V else elX2_sumDamages_23 n k13v n V u1v u2v y3 y4 y5 1)
set_option maxHeartbeats 4000000 in
set_option maxRecDepth 100000 in
theorem sX2_sumDamages_13 (n : Nat) {S0 : MS} {Q : Int32 → MS → Prop} {QX : String → MS → Prop} {k13 : MS → Nat → Nat → Int32 → Int32 → Int32 → Prop} {k13v : VS → Nat → Nat → Int32 → Int32 → Int32 → Rs Int32} (hk13 : ∀ (S : MS) (V : VS) (p0 p0v : Nat) (p1 p1v : Nat) (p2 : Int32) (p3 : Int32) (p4 : Int32), SM S V → Ex S0 S → Ad S p0 p0v → Ad S p1 p1v → gd (k13v V p0v p1v p2 p3 p4) (SQ Q S0) (SX QX S0) → k13 S p0 p1 p2 p3 p4) {S : MS} {V : VS} {u1 u1v : Nat} {u2 u2v : Nat} {y3 : Int32} {y4 : Int32} {y5 : Int32} (hS : SM S V) (hx : Ex S0 S) (h_u1 : Ad S u1 u1v) (h_u2 : Ad S u2 u2v) (hQ : gd (eX2_sumDamages_13 n k13v V u1v u2v y3 y4 y5) (SQ Q S0) (SX QX S0)) : wX2_sumDamages_13 Q QX k13 S u1 u2 y3 y4 y5 := by
  unfold wX2_sumDamages_13
  unfold eX2_sumDamages_13 at hQ
  refine st_if rfl hQ (fun hQ => ?_) (fun hQ => ?_)
  · exact gd_rt hQ _ hS hx
  · refine ⟨n, ?_⟩
    exact selX2_sumDamages_23 n hk13 n _ _ _ _ _ _ _ _ _ _ hS hx h_u1 h_u2 hQ
def elX2_sumDamages_13 (n : Nat) : Nat → VS → Nat → Nat → Int32 → Int32 → Int32 → Rs Int32
  | 0 => fun _ _ _ _ _ _ => none
  | m + 1 => fun V u1v u2v y3 y4 y5 => eX2_sumDamages_13 n (elX2_sumDamages_13 n m) V u1v u2v y3 y4 y5
theorem selX2_sumDamages_13 (n : Nat) {S0 : MS} {Q : Int32 → MS → Prop} {QX : String → MS → Prop} : ∀ (m : Nat), ∀ (S : MS) (V : VS) (p0 p0v : Nat) (p1 p1v : Nat) (p2 : Int32) (p3 : Int32) (p4 : Int32), SM S V → Ex S0 S → Ad S p0 p0v → Ad S p1 p1v → gd (elX2_sumDamages_13 n m V p0v p1v p2 p3 p4) (SQ Q S0) (SX QX S0) → lX2_sumDamages_13 Q QX m S p0 p1 p2 p3 p4 := by
  intro m
  induction m with
  | zero => intro S V p0 p0v p1 p1v p2 p3 p4 hS hx q0 q1 hQ; exact (gd_none hQ).elim
  | succ m ih => intro S V p0 p0v p1 p1v p2 p3 p4 hS hx q0 q1 hQ; exact sX2_sumDamages_13 n ih hS hx q0 q1 hQ
def eX2_sumDamages_0 (n : Nat) (V : VS) (a0v : Nat) (b1v : Nat) (b2v : Nat) : Rs Int32 := bd (ev_X2_neededResult n V a0v b1v b2v) (fun r2 V1 => elX2_sumDamages_13 n n V1 b1v b2v r2 0 1) th
set_option maxHeartbeats 4000000 in
set_option maxRecDepth 100000 in
theorem sX2_sumDamages_0 (n : Nat) {S0 : MS} {Q : Int32 → MS → Prop} {QX : String → MS → Prop} {S : MS} {V : VS} {a0 a0v : Nat} {b1 b1v : Nat} {b2 b2v : Nat} (hS : SM S V) (hx : Ex S0 S) (h_a0 : Ad S a0 a0v) (h_b1 : Ad S b1 b1v) (h_b2 : Ad S b2 b2v) (hQ : gd (eX2_sumDamages_0 n V a0v b1v b2v) (SQ Q S0) (SX QX S0)) : wX2_sumDamages_0 Q QX S a0 b1 b2 := by
  unfold wX2_sumDamages_0
  unfold eX2_sumDamages_0 at hQ
  refine sim_X2_neededResult n hS h_a0 h_b1 h_b2 ?_
  refine gd_mono (gd_bd hQ) (fun r2 V1 hQ S1 hS1 xS => ?_) (fun E V9 hQ S9 hS9 xS9 => gd_th hQ S9 hS9 (Ex_tr hx xS9))
  have hx1 : Ex S0 S1 := Ex_tr hx xS
  have h1_b1 := xS _ _ h_b1
  have h1_b2 := xS _ _ h_b2
  refine ⟨n, ?_⟩
  exact selX2_sumDamages_13 n n _ _ _ _ _ _ _ _ _ hS1 hx1 h1_b1 h1_b2 hQ
def ev_X2_sumDamages (n : Nat) (V : VS) (a0v : Nat) (b1v : Nat) (b2v : Nat) : Rs Int32 := eX2_sumDamages_0 n V a0v b1v b2v
theorem sim_X2_sumDamages (n : Nat) {Q : Int32 → MS → Prop} {QX : String → MS → Prop} {S : MS} {V : VS} {a0 a0v : Nat} {b1 b1v : Nat} {b2 b2v : Nat} (hS : SM S V) (h_a0 : Ad S a0 a0v) (h_b1 : Ad S b1 b1v) (h_b2 : Ad S b2 b2v) (hQ : gd (ev_X2_sumDamages n V a0v b1v b2v) (SQ Q S) (SX QX S)) : wp_X2_sumDamages Q QX S a0 b1 b2 := by
  exact sX2_sumDamages_0 n hS Ex_rf h_a0 h_b1 h_b2 hQ
def eX2_chooseTarget_73 (n : Nat) (k10v : VS → Nat → Nat → Int32 → Int32 → Int32 → Int32 → Rs Int32) (V : VS) (a0v : Nat) (u1v : Nat) (y5 : Int32) (u6v : Nat) (y7 : Int32) : Rs Int32 := k10v V a0v u1v y5 y7 (vI V u6v 5) (y5 + 1)
set_option maxHeartbeats 4000000 in
set_option maxRecDepth 100000 in
theorem sX2_chooseTarget_73 (n : Nat) {S0 : MS} {Q : Int32 → MS → Prop} {QX : String → MS → Prop} {k10 : MS → Nat → Nat → Int32 → Int32 → Int32 → Int32 → Prop} {k10v : VS → Nat → Nat → Int32 → Int32 → Int32 → Int32 → Rs Int32} (hk10 : ∀ (S : MS) (V : VS) (p0 p0v : Nat) (p1 p1v : Nat) (p2 : Int32) (p3 : Int32) (p4 : Int32) (p5 : Int32), SM S V → Ex S0 S → Ad S p0 p0v → Ad S p1 p1v → gd (k10v V p0v p1v p2 p3 p4 p5) (SQ Q S0) (SX QX S0) → k10 S p0 p1 p2 p3 p4 p5) {S : MS} {V : VS} {a0 a0v : Nat} {u1 u1v : Nat} {y5 : Int32} {u6 u6v : Nat} {y7 : Int32} (hS : SM S V) (hx : Ex S0 S) (h_a0 : Ad S a0 a0v) (h_u1 : Ad S u1 u1v) (h_u6 : Ad S u6 u6v) (hQ : gd (eX2_chooseTarget_73 n k10v V a0v u1v y5 u6v y7) (SQ Q S0) (SX QX S0)) : wX2_chooseTarget_73 Q QX k10 S a0 u1 y5 u6 y7 := by
  unfold wX2_chooseTarget_73
  unfold eX2_chooseTarget_73 at hQ
  simp only [SM_I hS h_u6]
  exact hk10 _ _ _ _ _ _ _ _ _ _ hS hx h_a0 h_u1 hQ
def eX2_chooseTarget_10 (n : Nat) (k10v : VS → Nat → Nat → Int32 → Int32 → Int32 → Int32 → Rs Int32) (V : VS) (a0v : Nat) (u1v : Nat) (y2 : Int32) (y3 : Int32) (y4 : Int32) (y5 : Int32) : Rs Int32 := (if (vI V a0v 2) ≤ y5 then rt y2 V else (vR V a0v 1).bind (fun a1v => (if gvp_in y5 (vN V a1v) = true then (vR V a1v ((y5 : Int32).toNatClampNeg)).bind (fun a2v => bd (ev_X2_canStrike n V a0v u1v a2v) (fun r4 V3 => (if r4 = 0 then k10v V3 a0v u1v y2 y3 y4 (y5 + 1) else bd (ev_X2_sumDamages n V3 a0v u1v a2v) (fun r6 V5 => (if y2 < 0 then eX2_chooseTarget_73 n k10v V5 a0v u1v y5 a2v r6 else (if y3 < r6 then eX2_chooseTarget_73 n k10v V5 a0v u1v y5 a2v r6 else (if r6 = y3 then (if y4 ≤ (vI V5 a2v 5) then k10v V5 a0v u1v y2 y3 y4 (y5 + 1) else eX2_chooseTarget_73 n k10v V5 a0v u1v y5 a2v r6) else k10v V5 a0v u1v y2 y3 y4 (y5 + 1))))) th)) th) else none)))
set_option maxHeartbeats 4000000 in
set_option maxRecDepth 100000 in
theorem sX2_chooseTarget_10 (n : Nat) {S0 : MS} {Q : Int32 → MS → Prop} {QX : String → MS → Prop} {k10 : MS → Nat → Nat → Int32 → Int32 → Int32 → Int32 → Prop} {k10v : VS → Nat → Nat → Int32 → Int32 → Int32 → Int32 → Rs Int32} (hk10 : ∀ (S : MS) (V : VS) (p0 p0v : Nat) (p1 p1v : Nat) (p2 : Int32) (p3 : Int32) (p4 : Int32) (p5 : Int32), SM S V → Ex S0 S → Ad S p0 p0v → Ad S p1 p1v → gd (k10v V p0v p1v p2 p3 p4 p5) (SQ Q S0) (SX QX S0) → k10 S p0 p1 p2 p3 p4 p5) {S : MS} {V : VS} {a0 a0v : Nat} {u1 u1v : Nat} {y2 : Int32} {y3 : Int32} {y4 : Int32} {y5 : Int32} (hS : SM S V) (hx : Ex S0 S) (h_a0 : Ad S a0 a0v) (h_u1 : Ad S u1 u1v) (hQ : gd (eX2_chooseTarget_10 n k10v V a0v u1v y2 y3 y4 y5) (SQ Q S0) (SX QX S0)) : wX2_chooseTarget_10 Q QX k10 S a0 u1 y2 y3 y4 y5 := by
  unfold wX2_chooseTarget_10
  unfold eX2_chooseTarget_10 at hQ
  refine st_if (show ((mI S a0 2) ≤ y5) = ((vI V a0v 2) ≤ y5) from by simp only [SM_I hS h_a0]) hQ (fun hQ => ?_) (fun hQ => ?_)
  · exact gd_rt hQ _ hS hx
  · refine st_rd hS h_a0 rfl hQ (fun a1 a1v h_a1 hQ => ?_)
    refine st_gd (fun h => by simp only [SM_N hS h_a1]; exact gvp_in_of h) hQ (fun hQ => ?_)
    refine st_rd hS h_a1 rfl hQ (fun a2 a2v h_a2 hQ => ?_)
    refine sim_X2_canStrike n hS h_a0 h_u1 h_a2 ?_
    refine gd_mono (gd_bd hQ) (fun r4 V3 hQ S3 hS3 xS => ?_) (fun E V9 hQ S9 hS9 xS9 => gd_th hQ S9 hS9 (Ex_tr hx xS9))
    have hx3 : Ex S0 S3 := Ex_tr hx xS
    have h3_a0 := xS _ _ h_a0
    have h3_u1 := xS _ _ h_u1
    have h3_a2 := xS _ _ h_a2
    refine st_if rfl hQ (fun hQ => ?_) (fun hQ => ?_)
    · exact hk10 _ _ _ _ _ _ _ _ _ _ hS3 hx3 h3_a0 h3_u1 hQ
    · refine sim_X2_sumDamages n hS3 h3_a0 h3_u1 h3_a2 ?_
      refine gd_mono (gd_bd hQ) (fun r6 V5 hQ S5 hS5 xS => ?_) (fun E V9 hQ S9 hS9 xS9 => gd_th hQ S9 hS9 (Ex_tr hx3 xS9))
      have hx5 : Ex S0 S5 := Ex_tr hx3 xS
      have h5_a0 := xS _ _ h3_a0
      have h5_u1 := xS _ _ h3_u1
      have h5_a2 := xS _ _ h3_a2
      refine st_if rfl hQ (fun hQ => ?_) (fun hQ => ?_)
      · exact sX2_chooseTarget_73 n hk10 hS5 hx5 h5_a0 h5_u1 h5_a2 hQ
      · refine st_if rfl hQ (fun hQ => ?_) (fun hQ => ?_)
        · exact sX2_chooseTarget_73 n hk10 hS5 hx5 h5_a0 h5_u1 h5_a2 hQ
        · refine st_ifn rfl hQ (fun hQ => ?_) (fun hQ => ?_)
          · exact hk10 _ _ _ _ _ _ _ _ _ _ hS5 hx5 h5_a0 h5_u1 hQ
          · refine st_if (show (y4 ≤ (mI S5 a2 5)) = (y4 ≤ (vI V5 a2v 5)) from by simp only [SM_I hS5 h5_a2]) hQ (fun hQ => ?_) (fun hQ => ?_)
            · exact hk10 _ _ _ _ _ _ _ _ _ _ hS5 hx5 h5_a0 h5_u1 hQ
            · exact sX2_chooseTarget_73 n hk10 hS5 hx5 h5_a0 h5_u1 h5_a2 hQ
def elX2_chooseTarget_10 (n : Nat) : Nat → VS → Nat → Nat → Int32 → Int32 → Int32 → Int32 → Rs Int32
  | 0 => fun _ _ _ _ _ _ _ => none
  | m + 1 => fun V a0v u1v y2 y3 y4 y5 => eX2_chooseTarget_10 n (elX2_chooseTarget_10 n m) V a0v u1v y2 y3 y4 y5
theorem selX2_chooseTarget_10 (n : Nat) {S0 : MS} {Q : Int32 → MS → Prop} {QX : String → MS → Prop} : ∀ (m : Nat), ∀ (S : MS) (V : VS) (p0 p0v : Nat) (p1 p1v : Nat) (p2 : Int32) (p3 : Int32) (p4 : Int32) (p5 : Int32), SM S V → Ex S0 S → Ad S p0 p0v → Ad S p1 p1v → gd (elX2_chooseTarget_10 n m V p0v p1v p2 p3 p4 p5) (SQ Q S0) (SX QX S0) → lX2_chooseTarget_10 Q QX m S p0 p1 p2 p3 p4 p5 := by
  intro m
  induction m with
  | zero => intro S V p0 p0v p1 p1v p2 p3 p4 p5 hS hx q0 q1 hQ; exact (gd_none hQ).elim
  | succ m ih => intro S V p0 p0v p1 p1v p2 p3 p4 p5 hS hx q0 q1 hQ; exact sX2_chooseTarget_10 n ih hS hx q0 q1 hQ
def eX2_chooseTarget_0 (n : Nat) (V : VS) (a0v : Nat) (b1v : Nat) : Rs Int32 := elX2_chooseTarget_10 n n V a0v b1v (-1) 0 0 0
set_option maxHeartbeats 4000000 in
set_option maxRecDepth 100000 in
theorem sX2_chooseTarget_0 (n : Nat) {S0 : MS} {Q : Int32 → MS → Prop} {QX : String → MS → Prop} {S : MS} {V : VS} {a0 a0v : Nat} {b1 b1v : Nat} (hS : SM S V) (hx : Ex S0 S) (h_a0 : Ad S a0 a0v) (h_b1 : Ad S b1 b1v) (hQ : gd (eX2_chooseTarget_0 n V a0v b1v) (SQ Q S0) (SX QX S0)) : wX2_chooseTarget_0 Q QX S a0 b1 := by
  unfold wX2_chooseTarget_0
  unfold eX2_chooseTarget_0 at hQ
  refine ⟨n, ?_⟩
  exact selX2_chooseTarget_10 n n _ _ _ _ _ _ _ _ _ _ hS hx h_a0 h_b1 hQ
def ev_X2_chooseTarget (n : Nat) (V : VS) (a0v : Nat) (b1v : Nat) : Rs Int32 := eX2_chooseTarget_0 n V a0v b1v
theorem sim_X2_chooseTarget (n : Nat) {Q : Int32 → MS → Prop} {QX : String → MS → Prop} {S : MS} {V : VS} {a0 a0v : Nat} {b1 b1v : Nat} (hS : SM S V) (h_a0 : Ad S a0 a0v) (h_b1 : Ad S b1 b1v) (hQ : gd (ev_X2_chooseTarget n V a0v b1v) (SQ Q S) (SX QX S)) : wp_X2_chooseTarget Q QX S a0 b1 := by
  exact sX2_chooseTarget_0 n hS Ex_rf h_a0 h_b1 hQ
def eX2_strike_0 (n : Nat) (V : VS) (a0v : Nat) (b1v : Nat) (b2v : Nat) : Rs Int32 := sq (wI V b1v 6 ((vI V b1v 6) - 1)) (fun V1 => bd (ev_X2_rollDie n V1 a0v 20) (fun r3 V2 => bd (ev_X2_neededResult n V2 a0v b1v b2v) (fun r5 V4 => bd (ev_X2_isHit n V4 r3 r5) (fun r7 V6 => (if r7 = 0 then (vR V6 a0v 11).bind (fun a19v => bd (ev_X1_note n V6 a19v 3 (vI V6 b1v 0) (vI V6 b2v 0)) (fun _ V20 => rt 0 V20) th) else bd (ev_X2_rollDie n V6 a0v 4) (fun r9 V8 => bd (ev_X2_damageOf n V8 b1v b2v r3 r9) (fun r11 V10 => bd (ev_X7_lose n V10 b2v r11) (fun _ V12 => (vR V12 a0v 11).bind (fun a13v => bd (ev_X1_note n V12 a13v 2 (vI V12 b1v 0) r11) (fun _ V14 => bd (ev_X7_lives n V14 b2v) (fun r16 V15 => (if r16 = 0 then (vR V15 a0v 11).bind (fun a17v => bd (ev_X1_note n V15 a17v 4 (vI V15 b2v 0) 0) (fun _ V18 => rt r11 V18) th) else rt r11 V15)) th) th)) th) th) th)) th) th) th)
set_option maxHeartbeats 4000000 in
set_option maxRecDepth 100000 in
theorem sX2_strike_0 (n : Nat) {S0 : MS} {Q : Int32 → MS → Prop} {QX : String → MS → Prop} {S : MS} {V : VS} {a0 a0v : Nat} {b1 b1v : Nat} {b2 b2v : Nat} (hS : SM S V) (hx : Ex S0 S) (h_a0 : Ad S a0 a0v) (h_b1 : Ad S b1 b1v) (h_b2 : Ad S b2 b2v) (hQ : gd (eX2_strike_0 n V a0v b1v b2v) (SQ Q S0) (SX QX S0)) : wX2_strike_0 Q QX S a0 b1 b2 := by
  unfold wX2_strike_0
  unfold eX2_strike_0 at hQ
  intro S1 eS
  obtain ⟨V1, hS1, xS, hQ⟩ := st_sI hS h_b1 eS rfl (show (((mI S b1 6) - 1)) = (((vI V b1v 6) - 1)) from by simp only [SM_I hS h_b1]) hQ
  have hx1 : Ex S0 S1 := Ex_tr hx xS
  have h1_a0 := xS _ _ h_a0
  have h1_b1 := xS _ _ h_b1
  have h1_b2 := xS _ _ h_b2
  refine sim_X2_rollDie n hS1 h1_a0 rfl ?_
  refine gd_mono (gd_bd hQ) (fun r3 V2 hQ S2 hS2 xS => ?_) (fun E V9 hQ S9 hS9 xS9 => gd_th hQ S9 hS9 (Ex_tr hx1 xS9))
  have hx2 : Ex S0 S2 := Ex_tr hx1 xS
  have h2_a0 := xS _ _ h1_a0
  have h2_b1 := xS _ _ h1_b1
  have h2_b2 := xS _ _ h1_b2
  refine sim_X2_neededResult n hS2 h2_a0 h2_b1 h2_b2 ?_
  refine gd_mono (gd_bd hQ) (fun r5 V4 hQ S4 hS4 xS => ?_) (fun E V9 hQ S9 hS9 xS9 => gd_th hQ S9 hS9 (Ex_tr hx2 xS9))
  have hx4 : Ex S0 S4 := Ex_tr hx2 xS
  have h4_a0 := xS _ _ h2_a0
  have h4_b1 := xS _ _ h2_b1
  have h4_b2 := xS _ _ h2_b2
  refine sim_X2_isHit n hS4 rfl rfl ?_
  refine gd_mono (gd_bd hQ) (fun r7 V6 hQ S6 hS6 xS => ?_) (fun E V9 hQ S9 hS9 xS9 => gd_th hQ S9 hS9 (Ex_tr hx4 xS9))
  have hx6 : Ex S0 S6 := Ex_tr hx4 xS
  have h6_a0 := xS _ _ h4_a0
  have h6_b1 := xS _ _ h4_b1
  have h6_b2 := xS _ _ h4_b2
  refine st_ifn rfl hQ (fun hQ => ?_) (fun hQ => ?_)
  · refine sim_X2_rollDie n hS6 h6_a0 rfl ?_
    refine gd_mono (gd_bd hQ) (fun r9 V8 hQ S8 hS8 xS => ?_) (fun E V9 hQ S9 hS9 xS9 => gd_th hQ S9 hS9 (Ex_tr hx6 xS9))
    have hx8 : Ex S0 S8 := Ex_tr hx6 xS
    have h8_a0 := xS _ _ h6_a0
    have h8_b1 := xS _ _ h6_b1
    have h8_b2 := xS _ _ h6_b2
    refine sim_X2_damageOf n hS8 h8_b1 h8_b2 rfl rfl ?_
    refine gd_mono (gd_bd hQ) (fun r11 V10 hQ S10 hS10 xS => ?_) (fun E V9 hQ S9 hS9 xS9 => gd_th hQ S9 hS9 (Ex_tr hx8 xS9))
    have hx10 : Ex S0 S10 := Ex_tr hx8 xS
    have h10_a0 := xS _ _ h8_a0
    have h10_b1 := xS _ _ h8_b1
    have h10_b2 := xS _ _ h8_b2
    refine sim_X7_lose n hS10 h10_b2 rfl ?_
    refine gd_mono (gd_bd hQ) (fun _ V12 hQ S12 hS12 xS => ?_) (fun E V9 hQ S9 hS9 xS9 => gd_th hQ S9 hS9 (Ex_tr hx10 xS9))
    have hx12 : Ex S0 S12 := Ex_tr hx10 xS
    have h12_a0 := xS _ _ h10_a0
    have h12_b1 := xS _ _ h10_b1
    have h12_b2 := xS _ _ h10_b2
    refine st_rd hS12 h12_a0 rfl hQ (fun a13 a13v h12_a13 hQ => ?_)
    refine sim_X1_note n hS12 h12_a13 rfl (show ((mI S12 b1 0)) = ((vI V12 b1v 0)) from by simp only [SM_I hS12 h12_b1]) rfl ?_
    refine gd_mono (gd_bd hQ) (fun _ V14 hQ S14 hS14 xS => ?_) (fun E V9 hQ S9 hS9 xS9 => gd_th hQ S9 hS9 (Ex_tr hx12 xS9))
    have hx14 : Ex S0 S14 := Ex_tr hx12 xS
    have h14_a0 := xS _ _ h12_a0
    have h14_b2 := xS _ _ h12_b2
    refine sim_X7_lives n hS14 h14_b2 ?_
    refine gd_mono (gd_bd hQ) (fun r16 V15 hQ S15 hS15 xS => ?_) (fun E V9 hQ S9 hS9 xS9 => gd_th hQ S9 hS9 (Ex_tr hx14 xS9))
    have hx15 : Ex S0 S15 := Ex_tr hx14 xS
    have h15_a0 := xS _ _ h14_a0
    have h15_b2 := xS _ _ h14_b2
    refine st_ifn rfl hQ (fun hQ => ?_) (fun hQ => ?_)
    · exact gd_rt hQ _ hS15 hx15
    · refine st_rd hS15 h15_a0 rfl hQ (fun a17 a17v h15_a17 hQ => ?_)
      refine sim_X1_note n hS15 h15_a17 rfl (show ((mI S15 b2 0)) = ((vI V15 b2v 0)) from by simp only [SM_I hS15 h15_b2]) rfl ?_
      refine gd_mono (gd_bd hQ) (fun _ V18 hQ S18 hS18 xS => ?_) (fun E V9 hQ S9 hS9 xS9 => gd_th hQ S9 hS9 (Ex_tr hx15 xS9))
      have hx18 : Ex S0 S18 := Ex_tr hx15 xS
      exact gd_rt hQ _ hS18 hx18
  · refine st_rd hS6 h6_a0 rfl hQ (fun a19 a19v h6_a19 hQ => ?_)
    refine sim_X1_note n hS6 h6_a19 rfl (show ((mI S6 b1 0)) = ((vI V6 b1v 0)) from by simp only [SM_I hS6 h6_b1]) (show ((mI S6 b2 0)) = ((vI V6 b2v 0)) from by simp only [SM_I hS6 h6_b2]) ?_
    refine gd_mono (gd_bd hQ) (fun _ V20 hQ S20 hS20 xS => ?_) (fun E V9 hQ S9 hS9 xS9 => gd_th hQ S9 hS9 (Ex_tr hx6 xS9))
    have hx20 : Ex S0 S20 := Ex_tr hx6 xS
    exact gd_rt hQ _ hS20 hx20
def ev_X2_strike (n : Nat) (V : VS) (a0v : Nat) (b1v : Nat) (b2v : Nat) : Rs Int32 := eX2_strike_0 n V a0v b1v b2v
theorem sim_X2_strike (n : Nat) {Q : Int32 → MS → Prop} {QX : String → MS → Prop} {S : MS} {V : VS} {a0 a0v : Nat} {b1 b1v : Nat} {b2 b2v : Nat} (hS : SM S V) (h_a0 : Ad S a0 a0v) (h_b1 : Ad S b1 b1v) (h_b2 : Ad S b2 b2v) (hQ : gd (ev_X2_strike n V a0v b1v b2v) (SQ Q S) (SX QX S)) : wp_X2_strike Q QX S a0 b1 b2 := by
  exact sX2_strike_0 n hS Ex_rf h_a0 h_b1 h_b2 hQ
