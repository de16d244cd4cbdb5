def eX9_hasTurn_54 (n : Nat) (V : VS) (a0v : Nat) (y1 : Int32) : Rs Int32 := bd (ev_X9_lives n V a0v y1) (fun r2 V1 => (if r2 = 0 then rt 0 V1 else (vR V1 a0v 1).bind (fun a3v => (if gvp_in 166 (vN V1 a3v) = true then sq (wI V1 a3v ((166 : Int32).toNatClampNeg) y1) (fun V4 => (vR V4 a0v 1).bind (fun a5v => bd (ev_X9_of n V4 a0v y1 7) (fun r7 V6 => (if r7 ≤ 0 then (if gvp_in 167 (vN V6 a5v) = true then sq (wI V6 a5v ((167 : Int32).toNatClampNeg) 2) (fun V8 => rt 1 V8) else none) else (if gvp_in 167 (vN V6 a5v) = true then sq (wI V6 a5v ((167 : Int32).toNatClampNeg) 0) (fun V9 => rt 1 V9) else none))) th)) else none)))) th
set_option maxHeartbeats 4000000 in
set_option maxRecDepth 100000 in
theorem sX9_hasTurn_54 (n : Nat) {S0 : MS} {Q : Int32 → MS → Prop} {QX : String → MS → Prop} {S : MS} {V : VS} {a0 a0v : Nat} {y1 : Int32} (hS : SM S V) (hx : Ex S0 S) (h_a0 : Ad S a0 a0v) (hQ : gd (eX9_hasTurn_54 n V a0v y1) (SQ Q S0) (SX QX S0)) : wX9_hasTurn_54 Q QX S a0 y1 := by
  unfold wX9_hasTurn_54
  unfold eX9_hasTurn_54 at hQ
  refine sim_X9_lives n hS h_a0 rfl ?_
  refine gd_mono (gd_bd hQ) (fun r2 V1 hQ S1 hS1 xS => ?_) (fun E V9 hQ S9 hS9 xS9 => gd_th hQ S9 hS9 (Ex_tr hx xS9))
  have hx1 : Ex S0 S1 := Ex_tr hx xS
  have h1_a0 := xS _ _ h_a0
  refine st_ifn rfl hQ (fun hQ => ?_) (fun hQ => ?_)
  · refine st_rd hS1 h1_a0 rfl hQ (fun a3 a3v h1_a3 hQ => ?_)
    refine st_gd (fun h => by simp only [SM_N hS1 h1_a3]; exact gvp_in_of h) hQ (fun hQ => ?_)
    intro S4 eS
    obtain ⟨V4, hS4, xS, hQ⟩ := st_sI hS1 h1_a3 eS rfl rfl hQ
    have hx4 : Ex S0 S4 := Ex_tr hx1 xS
    have h4_a0 := xS _ _ h1_a0
    refine st_rd hS4 h4_a0 rfl hQ (fun a5 a5v h4_a5 hQ => ?_)
    refine sim_X9_of n hS4 h4_a0 rfl rfl ?_
    refine gd_mono (gd_bd hQ) (fun r7 V6 hQ S6 hS6 xS => ?_) (fun E V9 hQ S9 hS9 xS9 => gd_th hQ S9 hS9 (Ex_tr hx4 xS9))
    have hx6 : Ex S0 S6 := Ex_tr hx4 xS
    have h6_a5 := xS _ _ h4_a5
    refine st_if rfl hQ (fun hQ => ?_) (fun hQ => ?_)
    · refine st_gd (fun h => by simp only [SM_N hS6 h6_a5]; exact gvp_in_of h) hQ (fun hQ => ?_)
      intro S8 eS
      obtain ⟨V8, hS8, xS, hQ⟩ := st_sI hS6 h6_a5 eS rfl rfl hQ
      have hx8 : Ex S0 S8 := Ex_tr hx6 xS
      exact gd_rt hQ _ hS8 hx8
    · refine st_gd (fun h => by simp only [SM_N hS6 h6_a5]; exact gvp_in_of h) hQ (fun hQ => ?_)
      intro S9 eS
      obtain ⟨V9, hS9, xS, hQ⟩ := st_sI hS6 h6_a5 eS rfl rfl hQ
      have hx9 : Ex S0 S9 := Ex_tr hx6 xS
      exact gd_rt hQ _ hS9 hx9
  · exact gd_rt hQ _ hS1 hx1
def eX9_hasTurn_0 (n : Nat) (V : VS) (a0v : Nat) (x1 : Int32) : Rs Int32 := bd (ev_X9_lives n V a0v x1) (fun r2 V1 => (if r2 = 0 then rt 0 V1 else bd (ev_X9_sets n V1 a0v x1 9 0) (fun _ V3 => bd (ev_X9_sets n V3 a0v x1 10 0) (fun _ V4 => bd (ev_X9_of n V4 a0v x1 8) (fun r6 V5 => (if r6 ≤ 0 then eX9_hasTurn_54 n V5 a0v x1 else bd (ev_X9_loses n V5 a0v x1 2) (fun _ V7 => bd (ev_X9_tells n V7 a0v 5 x1 2) (fun _ V8 => bd (ev_X9_dies n V8 a0v x1) (fun _ V9 => eX9_hasTurn_54 n V9 a0v x1) th) th) th)) th) th) th)) th
set_option maxHeartbeats 4000000 in
set_option maxRecDepth 100000 in
theorem sX9_hasTurn_0 (n : Nat) {S0 : MS} {Q : Int32 → MS → Prop} {QX : String → MS → Prop} {S : MS} {V : VS} {a0 a0v : Nat} {x1 : Int32} (hS : SM S V) (hx : Ex S0 S) (h_a0 : Ad S a0 a0v) (hQ : gd (eX9_hasTurn_0 n V a0v x1) (SQ Q S0) (SX QX S0)) : wX9_hasTurn_0 Q QX S a0 x1 := by
  unfold wX9_hasTurn_0
  unfold eX9_hasTurn_0 at hQ
  refine sim_X9_lives n hS h_a0 rfl ?_
  refine gd_mono (gd_bd hQ) (fun r2 V1 hQ S1 hS1 xS => ?_) (fun E V9 hQ S9 hS9 xS9 => gd_th hQ S9 hS9 (Ex_tr hx xS9))
  have hx1 : Ex S0 S1 := Ex_tr hx xS
  have h1_a0 := xS _ _ h_a0
  refine st_ifn rfl hQ (fun hQ => ?_) (fun hQ => ?_)
  · refine sim_X9_sets n hS1 h1_a0 rfl rfl rfl ?_
    refine gd_mono (gd_bd hQ) (fun _ V3 hQ S3 hS3 xS => ?_) (fun E V9 hQ S9 hS9 xS9 => gd_th hQ S9 hS9 (Ex_tr hx1 xS9))
    have hx3 : Ex S0 S3 := Ex_tr hx1 xS
    have h3_a0 := xS _ _ h1_a0
    refine sim_X9_sets n hS3 h3_a0 rfl rfl rfl ?_
    refine gd_mono (gd_bd hQ) (fun _ V4 hQ S4 hS4 xS => ?_) (fun E V9 hQ S9 hS9 xS9 => gd_th hQ S9 hS9 (Ex_tr hx3 xS9))
    have hx4 : Ex S0 S4 := Ex_tr hx3 xS
    have h4_a0 := xS _ _ h3_a0
    refine sim_X9_of n hS4 h4_a0 rfl rfl ?_
    refine gd_mono (gd_bd hQ) (fun r6 V5 hQ S5 hS5 xS => ?_) (fun E V9 hQ S9 hS9 xS9 => gd_th hQ S9 hS9 (Ex_tr hx4 xS9))
    have hx5 : Ex S0 S5 := Ex_tr hx4 xS
    have h5_a0 := xS _ _ h4_a0
    refine st_if rfl hQ (fun hQ => ?_) (fun hQ => ?_)
    · exact sX9_hasTurn_54 n hS5 hx5 h5_a0 hQ
    · refine sim_X9_loses n hS5 h5_a0 rfl rfl ?_
      refine gd_mono (gd_bd hQ) (fun _ V7 hQ S7 hS7 xS => ?_) (fun E V9 hQ S9 hS9 xS9 => gd_th hQ S9 hS9 (Ex_tr hx5 xS9))
      have hx7 : Ex S0 S7 := Ex_tr hx5 xS
      have h7_a0 := xS _ _ h5_a0
      refine sim_X9_tells n hS7 h7_a0 rfl rfl rfl ?_
      refine gd_mono (gd_bd hQ) (fun _ V8 hQ S8 hS8 xS => ?_) (fun E V9 hQ S9 hS9 xS9 => gd_th hQ S9 hS9 (Ex_tr hx7 xS9))
      have hx8 : Ex S0 S8 := Ex_tr hx7 xS
      have h8_a0 := xS _ _ h7_a0
      refine sim_X9_dies n hS8 h8_a0 rfl ?_
      refine gd_mono (gd_bd hQ) (fun _ V9 hQ S9 hS9 xS => ?_) (fun E V9 hQ S9 hS9 xS9 => gd_th hQ S9 hS9 (Ex_tr hx8 xS9))
      have hx9 : Ex S0 S9 := Ex_tr hx8 xS
      have h9_a0 := xS _ _ h8_a0
      exact sX9_hasTurn_54 n hS9 hx9 h9_a0 hQ
  · exact gd_rt hQ _ hS1 hx1
def ev_X9_hasTurn (n : Nat) (V : VS) (a0v : Nat) (x1 : Int32) : Rs Int32 := eX9_hasTurn_0 n V a0v x1
theorem sim_X9_hasTurn (n : Nat) {Q : Int32 → MS → Prop} {QX : String → MS → Prop} {S : MS} {V : VS} {a0 a0v : Nat} {x1 x1z : Int32} (hS : SM S V) (h_a0 : Ad S a0 a0v) (e_x1 : x1 = x1z) (hQ : gd (ev_X9_hasTurn n V a0v x1z) (SQ Q S) (SX QX S)) : wp_X9_hasTurn Q QX S a0 x1 := by
  subst e_x1
  exact sX9_hasTurn_0 n hS Ex_rf h_a0 hQ
def eX9_goesOn_37 (n : Nat) (k37v : VS → Nat → Int32 → Rs Unit) (V : VS) (a0v : Nat) (y2 : Int32) : Rs Unit := (if y2 = 0 then rt () V else sq (wI V a0v 16 ((vI V a0v 16) + 1)) (fun V1 => (vR V1 a0v 1).bind (fun a2v => (if gvp_in 157 (vN V1 a2v) = true then (if (vI V1 a0v 16) = (vI V1 a2v (157 : Int32).toNatClampNeg) then bd (ev_X9_begins n V1 a0v) (fun _ V8 => k37v V8 a0v y2) th else (vR V1 a0v 1).bind (fun a3v => (if gvp_in (158 + (vI V1 a0v 16)) (vN V1 a3v) = true then bd (ev_X9_hasTurn n V1 a0v (vI V1 a3v ((158 + (vI V1 a0v 16)) : Int32).toNatClampNeg)) (fun r5 V4 => (if r5 = 0 then bd (ev_X9_conditions n V4 a0v) (fun r7 V6 => (if r7 = 1 then k37v V6 a0v 1 else k37v V6 a0v 0)) th else k37v V4 a0v 0)) th else none))) else none))))
set_option maxHeartbeats 4000000 in
set_option maxRecDepth 100000 in
theorem sX9_goesOn_37 (n : Nat) {S0 : MS} {Q : MS → Prop} {QX : String → MS → Prop} {k37 : MS → Nat → Int32 → Prop} {k37v : VS → Nat → Int32 → Rs Unit} (hk37 : ∀ (S : MS) (V : VS) (p0 p0v : Nat) (p1 : Int32), SM S V → Ex S0 S → Ad S p0 p0v → gd (k37v V p0v p1) (SU Q S0) (SX QX S0) → k37 S p0 p1) {S : MS} {V : VS} {a0 a0v : Nat} {y2 : Int32} (hS : SM S V) (hx : Ex S0 S) (h_a0 : Ad S a0 a0v) (hQ : gd (eX9_goesOn_37 n k37v V a0v y2) (SU Q S0) (SX QX S0)) : wX9_goesOn_37 Q QX k37 S a0 y2 := by
  unfold wX9_goesOn_37
  unfold eX9_goesOn_37 at hQ
  refine st_if rfl hQ (fun hQ => ?_) (fun hQ => ?_)
  · exact gd_rt hQ _ hS hx
  · intro S1 eS
    obtain ⟨V1, hS1, xS, hQ⟩ := st_sI hS h_a0 eS rfl (show (((mI S a0 16) + 1)) = (((vI V a0v 16) + 1)) from by simp only [SM_I hS h_a0]) hQ
    have hx1 : Ex S0 S1 := Ex_tr hx xS
    have h1_a0 := xS _ _ h_a0
    refine st_rd hS1 h1_a0 rfl hQ (fun a2 a2v h1_a2 hQ => ?_)
    refine st_gd (fun h => by simp only [SM_N hS1 h1_a2]; exact gvp_in_of h) hQ (fun hQ => ?_)
    refine st_ifn (show ((mI S1 a0 16) = (mI S1 a2 (157 : Int32).toNatClampNeg)) = ((vI V1 a0v 16) = (vI V1 a2v (157 : Int32).toNatClampNeg)) from by simp only [SM_I hS1 h1_a0, SM_I hS1 h1_a2]) hQ (fun hQ => ?_) (fun hQ => ?_)
    · refine st_rd hS1 h1_a0 rfl hQ (fun a3 a3v h1_a3 hQ => ?_)
      refine st_gd (fun h => by simp only [SM_I hS1 h1_a0, SM_N hS1 h1_a3]; exact gvp_in_of h) hQ (fun hQ => ?_)
      refine sim_X9_hasTurn n hS1 h1_a0 (show ((mI S1 a3 ((158 + (mI S1 a0 16)) : Int32).toNatClampNeg)) = ((vI V1 a3v ((158 + (vI V1 a0v 16)) : Int32).toNatClampNeg)) from by simp only [SM_I hS1 h1_a3, SM_I hS1 h1_a0]) ?_
      refine gd_mono (gd_bd hQ) (fun r5 V4 hQ S4 hS4 xS => ?_) (fun E V9 hQ S9 hS9 xS9 => gd_th hQ S9 hS9 (Ex_tr hx1 xS9))
      have hx4 : Ex S0 S4 := Ex_tr hx1 xS
      have h4_a0 := xS _ _ h1_a0
      refine st_ifn rfl hQ (fun hQ => ?_) (fun hQ => ?_)
      · exact hk37 _ _ _ _ _ hS4 hx4 h4_a0 hQ
      · refine sim_X9_conditions n hS4 h4_a0 ?_
        refine gd_mono (gd_bd hQ) (fun r7 V6 hQ S6 hS6 xS => ?_) (fun E V9 hQ S9 hS9 xS9 => gd_th hQ S9 hS9 (Ex_tr hx4 xS9))
        have hx6 : Ex S0 S6 := Ex_tr hx4 xS
        have h6_a0 := xS _ _ h4_a0
        refine st_ifn rfl hQ (fun hQ => ?_) (fun hQ => ?_)
        · exact hk37 _ _ _ _ _ hS6 hx6 h6_a0 hQ
        · exact hk37 _ _ _ _ _ hS6 hx6 h6_a0 hQ
    · refine sim_X9_begins n hS1 h1_a0 ?_
      refine gd_mono (gd_bd hQ) (fun _ V8 hQ S8 hS8 xS => ?_) (fun E V9 hQ S9 hS9 xS9 => gd_th hQ S9 hS9 (Ex_tr hx1 xS9))
      have hx8 : Ex S0 S8 := Ex_tr hx1 xS
      have h8_a0 := xS _ _ h1_a0
      exact hk37 _ _ _ _ _ hS8 hx8 h8_a0 hQ
def elX9_goesOn_37 (n : Nat) : Nat → VS → Nat → Int32 → Rs Unit
  | 0 => fun _ _ _ => none
  | m + 1 => fun V a0v y2 => eX9_goesOn_37 n (elX9_goesOn_37 n m) V a0v y2
theorem selX9_goesOn_37 (n : Nat) {S0 : MS} {Q : MS → Prop} {QX : String → MS → Prop} : ∀ (m : Nat), ∀ (S : MS) (V : VS) (p0 p0v : Nat) (p1 : Int32), SM S V → Ex S0 S → Ad S p0 p0v → gd (elX9_goesOn_37 n m V p0v p1) (SU Q S0) (SX QX S0) → lX9_goesOn_37 Q QX m S p0 p1 := by
  intro m
  induction m with
  | zero => intro S V p0 p0v p1 hS hx q0 hQ; exact (gd_none hQ).elim
  | succ m ih => intro S V p0 p0v p1 hS hx q0 hQ; exact sX9_goesOn_37 n ih hS hx q0 hQ
def eX9_goesOn_27 (n : Nat) (V : VS) (a0v : Nat) (z0 : Int32) : Rs Unit := (vR V a0v 1).bind (fun a1v => (if gvp_in 166 (vN V a1v) = true then sq (wI V a1v ((166 : Int32).toNatClampNeg) (-1)) (fun V2 => elX9_goesOn_37 n n V2 a0v z0) else none))
set_option maxHeartbeats 4000000 in
set_option maxRecDepth 100000 in
theorem sX9_goesOn_27 (n : Nat) {S0 : MS} {Q : MS → Prop} {QX : String → MS → Prop} {S : MS} {V : VS} {a0 a0v : Nat} {z0 : Int32} (hS : SM S V) (hx : Ex S0 S) (h_a0 : Ad S a0 a0v) (hQ : gd (eX9_goesOn_27 n V a0v z0) (SU Q S0) (SX QX S0)) : wX9_goesOn_27 Q QX S a0 z0 := by
  unfold wX9_goesOn_27
  unfold eX9_goesOn_27 at hQ
  refine st_rd hS h_a0 rfl hQ (fun a1 a1v h_a1 hQ => ?_)
  refine st_gd (fun h => by simp only [SM_N hS h_a1]; exact gvp_in_of h) hQ (fun hQ => ?_)
  intro S2 eS
  obtain ⟨V2, hS2, xS, hQ⟩ := st_sI hS h_a1 eS rfl rfl hQ
  have hx2 : Ex S0 S2 := Ex_tr hx xS
  have h2_a0 := xS _ _ h_a0
  refine ⟨n, ?_⟩
  exact selX9_goesOn_37 n n _ _ _ _ _ hS2 hx2 h2_a0 hQ
def eX9_goesOn_0 (n : Nat) (V : VS) (a0v : Nat) (x1 : Int32) : Rs Unit := sq (wI V a0v 16 x1) (fun V1 => (vR V1 a0v 1).bind (fun a2v => (if gvp_in 167 (vN V1 a2v) = true then sq (wI V1 a2v ((167 : Int32).toNatClampNeg) 0) (fun V3 => bd (ev_X9_conditions n V3 a0v) (fun r5 V4 => (if r5 = 1 then eX9_goesOn_27 n V4 a0v 1 else eX9_goesOn_27 n V4 a0v 0)) th) else none)))
set_option maxHeartbeats 4000000 in
set_option maxRecDepth 100000 in
theorem sX9_goesOn_0 (n : Nat) {S0 : MS} {Q : MS → Prop} {QX : String → MS → Prop} {S : MS} {V : VS} {a0 a0v : Nat} {x1 : Int32} (hS : SM S V) (hx : Ex S0 S) (h_a0 : Ad S a0 a0v) (hQ : gd (eX9_goesOn_0 n V a0v x1) (SU Q S0) (SX QX S0)) : wX9_goesOn_0 Q QX S a0 x1 := by
  unfold wX9_goesOn_0
  unfold eX9_goesOn_0 at hQ
  intro S1 eS
  obtain ⟨V1, hS1, xS, hQ⟩ := st_sI hS h_a0 eS rfl rfl hQ
  have hx1 : Ex S0 S1 := Ex_tr hx xS
  have h1_a0 := xS _ _ h_a0
  refine st_rd hS1 h1_a0 rfl hQ (fun a2 a2v h1_a2 hQ => ?_)
  refine st_gd (fun h => by simp only [SM_N hS1 h1_a2]; exact gvp_in_of h) hQ (fun hQ => ?_)
  intro S3 eS
  obtain ⟨V3, hS3, xS, hQ⟩ := st_sI hS1 h1_a2 eS rfl rfl hQ
  have hx3 : Ex S0 S3 := Ex_tr hx1 xS
  have h3_a0 := xS _ _ h1_a0
  refine sim_X9_conditions n hS3 h3_a0 ?_
  refine gd_mono (gd_bd hQ) (fun r5 V4 hQ S4 hS4 xS => ?_) (fun E V9 hQ S9 hS9 xS9 => gd_th hQ S9 hS9 (Ex_tr hx3 xS9))
  have hx4 : Ex S0 S4 := Ex_tr hx3 xS
  have h4_a0 := xS _ _ h3_a0
  refine st_ifn rfl hQ (fun hQ => ?_) (fun hQ => ?_)
  · exact sX9_goesOn_27 n hS4 hx4 h4_a0 hQ
  · exact sX9_goesOn_27 n hS4 hx4 h4_a0 hQ
def ev_X9_goesOn (n : Nat) (V : VS) (a0v : Nat) (x1 : Int32) : Rs Unit := eX9_goesOn_0 n V a0v x1
theorem sim_X9_goesOn (n : Nat) {Q : MS → Prop} {QX : String → MS → Prop} {S : MS} {V : VS} {a0 a0v : Nat} {x1 x1z : Int32} (hS : SM S V) (h_a0 : Ad S a0 a0v) (e_x1 : x1 = x1z) (hQ : gd (ev_X9_goesOn n V a0v x1z) (SU Q S) (SX QX S)) : wp_X9_goesOn Q QX S a0 x1 := by
  subst e_x1
  exact sX9_goesOn_0 n hS Ex_rf h_a0 hQ
def eX9_settles_0 (n : Nat) (V : VS) (a0v : Nat) : Rs Unit := bd (ev_X9_conditions n V a0v) (fun r2 V1 => (if r2 = 1 then (vR V1 a0v 1).bind (fun a3v => (if gvp_in 166 (vN V1 a3v) = true then bd (ev_X9_lives n V1 a0v (vI V1 a3v (166 : Int32).toNatClampNeg)) (fun r5 V4 => (if r5 = 0 then bd (ev_X9_placeOfTurn n V4 a0v) (fun r7 V6 => bd (ev_X9_goesOn n V6 a0v r7) (fun _ V8 => rt () V8) th) th else rt () V4)) th else none)) else (vR V1 a0v 1).bind (fun a9v => (if gvp_in 166 (vN V1 a9v) = true then sq (wI V1 a9v ((166 : Int32).toNatClampNeg) (-1)) (fun V10 => (vR V10 a0v 1).bind (fun a11v => (if gvp_in 167 (vN V10 a11v) = true then sq (wI V10 a11v ((167 : Int32).toNatClampNeg) 0) (fun V12 => rt () V12) else none))) else none)))) th
set_option maxHeartbeats 4000000 in
set_option maxRecDepth 100000 in
theorem sX9_settles_0 (n : Nat) {S0 : MS} {Q : MS → Prop} {QX : String → MS → Prop} {S : MS} {V : VS} {a0 a0v : Nat} (hS : SM S V) (hx : Ex S0 S) (h_a0 : Ad S a0 a0v) (hQ : gd (eX9_settles_0 n V a0v) (SU Q S0) (SX QX S0)) : wX9_settles_0 Q QX S a0 := by
  unfold wX9_settles_0
  unfold eX9_settles_0 at hQ
  refine sim_X9_conditions n hS h_a0 ?_
  refine gd_mono (gd_bd hQ) (fun r2 V1 hQ S1 hS1 xS => ?_) (fun E V9 hQ S9 hS9 xS9 => gd_th hQ S9 hS9 (Ex_tr hx xS9))
  have hx1 : Ex S0 S1 := Ex_tr hx xS
  have h1_a0 := xS _ _ h_a0
  refine st_if rfl hQ (fun hQ => ?_) (fun hQ => ?_)
  · refine st_rd hS1 h1_a0 rfl hQ (fun a3 a3v h1_a3 hQ => ?_)
    refine st_gd (fun h => by simp only [SM_N hS1 h1_a3]; exact gvp_in_of h) hQ (fun hQ => ?_)
    refine sim_X9_lives n hS1 h1_a0 (show ((mI S1 a3 (166 : Int32).toNatClampNeg)) = ((vI V1 a3v (166 : Int32).toNatClampNeg)) from by simp only [SM_I hS1 h1_a3]) ?_
    refine gd_mono (gd_bd hQ) (fun r5 V4 hQ S4 hS4 xS => ?_) (fun E V9 hQ S9 hS9 xS9 => gd_th hQ S9 hS9 (Ex_tr hx1 xS9))
    have hx4 : Ex S0 S4 := Ex_tr hx1 xS
    have h4_a0 := xS _ _ h1_a0
    refine st_ifn rfl hQ (fun hQ => ?_) (fun hQ => ?_)
    · exact gd_rt hQ _ hS4 hx4
    · refine sim_X9_placeOfTurn n hS4 h4_a0 ?_
      refine gd_mono (gd_bd hQ) (fun r7 V6 hQ S6 hS6 xS => ?_) (fun E V9 hQ S9 hS9 xS9 => gd_th hQ S9 hS9 (Ex_tr hx4 xS9))
      have hx6 : Ex S0 S6 := Ex_tr hx4 xS
      have h6_a0 := xS _ _ h4_a0
      refine sim_X9_goesOn n hS6 h6_a0 rfl ?_
      refine gd_mono (gd_bd hQ) (fun _ V8 hQ S8 hS8 xS => ?_) (fun E V9 hQ S9 hS9 xS9 => gd_th hQ S9 hS9 (Ex_tr hx6 xS9))
      have hx8 : Ex S0 S8 := Ex_tr hx6 xS
      exact gd_rt hQ _ hS8 hx8
  · refine st_rd hS1 h1_a0 rfl hQ (fun a9 a9v h1_a9 hQ => ?_)
    refine st_gd (fun h => by simp only [SM_N hS1 h1_a9]; exact gvp_in_of h) hQ (fun hQ => ?_)
    intro S10 eS
    obtain ⟨V10, hS10, xS, hQ⟩ := st_sI hS1 h1_a9 eS rfl rfl hQ
    have hx10 : Ex S0 S10 := Ex_tr hx1 xS
    have h10_a0 := xS _ _ h1_a0
    refine st_rd hS10 h10_a0 rfl hQ (fun a11 a11v h10_a11 hQ => ?_)
    refine st_gd (fun h => by simp only [SM_N hS10 h10_a11]; exact gvp_in_of h) hQ (fun hQ => ?_)
    intro S12 eS
    obtain ⟨V12, hS12, xS, hQ⟩ := st_sI hS10 h10_a11 eS rfl rfl hQ
    have hx12 : Ex S0 S12 := Ex_tr hx10 xS
    exact gd_rt hQ _ hS12 hx12
def ev_X9_settles (n : Nat) (V : VS) (a0v : Nat) : Rs Unit := eX9_settles_0 n V a0v
theorem sim_X9_settles (n : Nat) {Q : MS → Prop} {QX : String → MS → Prop} {S : MS} {V : VS} {a0 a0v : Nat} (hS : SM S V) (h_a0 : Ad S a0 a0v) (hQ : gd (ev_X9_settles n V a0v) (SU Q S) (SX QX S)) : wp_X9_settles Q QX S a0 := by
  exact sX9_settles_0 n hS Ex_rf h_a0 hQ
def eX9_fights_0 (n : Nat) (V : VS) (a0v : Nat) : Rs Unit := bd (ev_X9_begins n V a0v) (fun _ V1 => bd (ev_X9_goesOn n V1 a0v (-1)) (fun _ V2 => rt () V2) th) th
set_option maxHeartbeats 4000000 in
set_option maxRecDepth 100000 in
theorem sX9_fights_0 (n : Nat) {S0 : MS} {Q : MS → Prop} {QX : String → MS → Prop} {S : MS} {V : VS} {a0 a0v : Nat} (hS : SM S V) (hx : Ex S0 S) (h_a0 : Ad S a0 a0v) (hQ : gd (eX9_fights_0 n V a0v) (SU Q S0) (SX QX S0)) : wX9_fights_0 Q QX S a0 := by
  unfold wX9_fights_0
  unfold eX9_fights_0 at hQ
  refine sim_X9_begins n hS h_a0 ?_
  refine gd_mono (gd_bd hQ) (fun _ V1 hQ S1 hS1 xS => ?_) (fun E V9 hQ S9 hS9 xS9 => gd_th hQ S9 hS9 (Ex_tr hx xS9))
  have hx1 : Ex S0 S1 := Ex_tr hx xS
  have h1_a0 := xS _ _ h_a0
  refine sim_X9_goesOn n hS1 h1_a0 rfl ?_
  refine gd_mono (gd_bd hQ) (fun _ V2 hQ S2 hS2 xS => ?_) (fun E V9 hQ S9 hS9 xS9 => gd_th hQ S9 hS9 (Ex_tr hx1 xS9))
  have hx2 : Ex S0 S2 := Ex_tr hx1 xS
  exact gd_rt hQ _ hS2 hx2
def ev_X9_fights (n : Nat) (V : VS) (a0v : Nat) : Rs Unit := eX9_fights_0 n V a0v
theorem sim_X9_fights (n : Nat) {Q : MS → Prop} {QX : String → MS → Prop} {S : MS} {V : VS} {a0 a0v : Nat} (hS : SM S V) (h_a0 : Ad S a0 a0v) (hQ : gd (ev_X9_fights n V a0v) (SU Q S) (SX QX S)) : wp_X9_fights Q QX S a0 := by
  exact sX9_fights_0 n hS Ex_rf h_a0 hQ
def eX9_begin_29 (n : Nat) (V : VS) (a0v : Nat) (z0 : Int32) (w1v : Nat) : Rs Int32 := sq (wI V w1v 0 z0) (fun V1 => (if (vI V1 a0v 0) = 1 then rt 0 V1 else (vR V1 a0v 1).bind (fun a2v => (vR V1 a0v 2).bind (fun a3v => bd (ev_X9_copies n V1 a2v a3v 290) (fun _ V4 => bd (ev_X9_fights n V4 a0v) (fun _ V5 => (vR V5 a0v 1).bind (fun a6v => (if gvp_in 166 (vN V5 a6v) = true then rt (vI V5 a6v (166 : Int32).toNatClampNeg) V5 else none))) th) th))))
set_option maxHeartbeats 4000000 in
set_option maxRecDepth 100000 in
theorem sX9_begin_29 (n : Nat) {S0 : MS} {Q : Int32 → MS → Prop} {QX : String → MS → Prop} {S : MS} {V : VS} {a0 a0v : Nat} {z0 : Int32} {w1 w1v : Nat} (hS : SM S V) (hx : Ex S0 S) (h_a0 : Ad S a0 a0v) (h_w1 : Ad S w1 w1v) (hQ : gd (eX9_begin_29 n V a0v z0 w1v) (SQ Q S0) (SX QX S0)) : wX9_begin_29 Q QX S a0 z0 w1 := by
  unfold wX9_begin_29
  unfold eX9_begin_29 at hQ
  intro S1 eS
  obtain ⟨V1, hS1, xS, hQ⟩ := st_sI hS h_w1 eS rfl rfl hQ
  have hx1 : Ex S0 S1 := Ex_tr hx xS
  have h1_a0 := xS _ _ h_a0
  refine st_ifn (show ((mI S1 a0 0) = 1) = ((vI V1 a0v 0) = 1) from by simp only [SM_I hS1 h1_a0]) hQ (fun hQ => ?_) (fun hQ => ?_)
  · refine st_rd hS1 h1_a0 rfl hQ (fun a2 a2v h1_a2 hQ => ?_)
    refine st_rd hS1 h1_a0 rfl hQ (fun a3 a3v h1_a3 hQ => ?_)
    refine sim_X9_copies n hS1 h1_a2 h1_a3 rfl ?_
    refine gd_mono (gd_bd hQ) (fun _ V4 hQ S4 hS4 xS => ?_) (fun E V9 hQ S9 hS9 xS9 => gd_th hQ S9 hS9 (Ex_tr hx1 xS9))
    have hx4 : Ex S0 S4 := Ex_tr hx1 xS
    have h4_a0 := xS _ _ h1_a0
    refine sim_X9_fights n hS4 h4_a0 ?_
    refine gd_mono (gd_bd hQ) (fun _ V5 hQ S5 hS5 xS => ?_) (fun E V9 hQ S9 hS9 xS9 => gd_th hQ S9 hS9 (Ex_tr hx4 xS9))
    have hx5 : Ex S0 S5 := Ex_tr hx4 xS
    have h5_a0 := xS _ _ h4_a0
    refine st_rd hS5 h5_a0 rfl hQ (fun a6 a6v h5_a6 hQ => ?_)
    refine st_gd (fun h => by simp only [SM_N hS5 h5_a6]; exact gvp_in_of h) hQ (fun hQ => ?_)
    simp only [SM_I hS5 h5_a6]
    exact gd_rt hQ _ hS5 hx5
  · exact gd_rt hQ _ hS1 hx1
def eX9_begin_24 (n : Nat) (V : VS) (a0v : Nat) (w0v : Nat) : Rs Int32 := eX9_begin_29 n V a0v 1 w0v
set_option maxHeartbeats 4000000 in
set_option maxRecDepth 100000 in
theorem sX9_begin_24 (n : Nat) {S0 : MS} {Q : Int32 → MS → Prop} {QX : String → MS → Prop} {S : MS} {V : VS} {a0 a0v : Nat} {w0 w0v : Nat} (hS : SM S V) (hx : Ex S0 S) (h_a0 : Ad S a0 a0v) (h_w0 : Ad S w0 w0v) (hQ : gd (eX9_begin_24 n V a0v w0v) (SQ Q S0) (SX QX S0)) : wX9_begin_24 Q QX S a0 w0 := by
  unfold wX9_begin_24
  unfold eX9_begin_24 at hQ
  exact sX9_begin_29 n hS hx h_a0 h_w0 hQ
def eX9_begin_0 (n : Nat) (V : VS) (a0v : Nat) : Rs Int32 := bd (ev_X9_hasBegun n V a0v) (fun r2 V1 => (if r2 = 0 then bd (ev_X9_living n V1 a0v 0) (fun r4 V3 => (if r4 = 0 then eX9_begin_24 n V3 a0v a0v else bd (ev_X9_living n V3 a0v 1) (fun r6 V5 => (if r6 = 0 then eX9_begin_24 n V5 a0v a0v else eX9_begin_29 n V5 a0v 0 a0v)) th)) th else eX9_begin_24 n V1 a0v a0v)) th
set_option maxHeartbeats 4000000 in
set_option maxRecDepth 100000 in
theorem sX9_begin_0 (n : Nat) {S0 : MS} {Q : Int32 → MS → Prop} {QX : String → MS → Prop} {S : MS} {V : VS} {a0 a0v : Nat} (hS : SM S V) (hx : Ex S0 S) (h_a0 : Ad S a0 a0v) (hQ : gd (eX9_begin_0 n V a0v) (SQ Q S0) (SX QX S0)) : wX9_begin_0 Q QX S a0 := by
  unfold wX9_begin_0
  unfold eX9_begin_0 at hQ
  refine sim_X9_hasBegun n hS h_a0 ?_
  refine gd_mono (gd_bd hQ) (fun r2 V1 hQ S1 hS1 xS => ?_) (fun E V9 hQ S9 hS9 xS9 => gd_th hQ S9 hS9 (Ex_tr hx xS9))
  have hx1 : Ex S0 S1 := Ex_tr hx xS
  have h1_a0 := xS _ _ h_a0
  refine st_ifn rfl hQ (fun hQ => ?_) (fun hQ => ?_)
  · exact sX9_begin_24 n hS1 hx1 h1_a0 h1_a0 hQ
  · refine sim_X9_living n hS1 h1_a0 rfl ?_
    refine gd_mono (gd_bd hQ) (fun r4 V3 hQ S3 hS3 xS => ?_) (fun E V9 hQ S9 hS9 xS9 => gd_th hQ S9 hS9 (Ex_tr hx1 xS9))
    have hx3 : Ex S0 S3 := Ex_tr hx1 xS
    have h3_a0 := xS _ _ h1_a0
    refine st_if rfl hQ (fun hQ => ?_) (fun hQ => ?_)
    · exact sX9_begin_24 n hS3 hx3 h3_a0 h3_a0 hQ
    · refine sim_X9_living n hS3 h3_a0 rfl ?_
      refine gd_mono (gd_bd hQ) (fun r6 V5 hQ S5 hS5 xS => ?_) (fun E V9 hQ S9 hS9 xS9 => gd_th hQ S9 hS9 (Ex_tr hx3 xS9))
      have hx5 : Ex S0 S5 := Ex_tr hx3 xS
      have h5_a0 := xS _ _ h3_a0
      refine st_ifn rfl hQ (fun hQ => ?_) (fun hQ => ?_)
      · exact sX9_begin_29 n hS5 hx5 h5_a0 h5_a0 hQ
      · exact sX9_begin_24 n hS5 hx5 h5_a0 h5_a0 hQ
def ev_X9_begin (n : Nat) (V : VS) (a0v : Nat) : Rs Int32 := eX9_begin_0 n V a0v
theorem sim_X9_begin (n : Nat) {Q : Int32 → MS → Prop} {QX : String → MS → Prop} {S : MS} {V : VS} {a0 a0v : Nat} (hS : SM S V) (h_a0 : Ad S a0 a0v) (hQ : gd (ev_X9_begin n V a0v) (SQ Q S) (SX QX S)) : wp_X9_begin Q QX S a0 := by
  exact sX9_begin_0 n hS Ex_rf h_a0 hQ
def eX9_step_49 (n : Nat) (V : VS) (a0v : Nat) (y3 : Int32) (z0 : Int32) (z1 : Int32) : Rs Int32 := (vR V a0v 1).bind (fun a1v => (if gvp_in 0 (vN V a1v) = true then bd (ev_X9_isIn n V y3 0 ((vI V a1v (0 : Int32).toNatClampNeg) - 1)) (fun r3 V2 => (if r3 = 0 then rt (-1) V2 else (vR V2 a0v 1).bind (fun a4v => (if gvp_in 1 (vN V2 a4v) = true then bd (ev_X9_isIn n V2 (z1 + z0) 0 ((vI V2 a4v (1 : Int32).toNatClampNeg) - 1)) (fun r6 V5 => (if r6 = 0 then rt (-1) V5 else (vR V5 a0v 1).bind (fun a7v => (if gvp_in 1 (vN V5 a7v) = true then rt ((y3 * (vI V5 a7v (1 : Int32).toNatClampNeg)) + (z1 + z0)) V5 else none)))) th else none)))) th else none))
set_option maxHeartbeats 4000000 in
set_option maxRecDepth 100000 in
theorem sX9_step_49 (n : Nat) {S0 : MS} {Q : Int32 → MS → Prop} {QX : String → MS → Prop} {S : MS} {V : VS} {a0 a0v : Nat} {y3 : Int32} {z0 : Int32} {z1 : Int32} (hS : SM S V) (hx : Ex S0 S) (h_a0 : Ad S a0 a0v) (hQ : gd (eX9_step_49 n V a0v y3 z0 z1) (SQ Q S0) (SX QX S0)) : wX9_step_49 Q QX S a0 y3 z0 z1 := by
  unfold wX9_step_49
  unfold eX9_step_49 at hQ
  refine st_rd hS h_a0 rfl hQ (fun a1 a1v h_a1 hQ => ?_)
  refine st_gd (fun h => by simp only [SM_N hS h_a1]; exact gvp_in_of h) hQ (fun hQ => ?_)
  refine sim_X9_isIn n hS rfl rfl (show (((mI S a1 (0 : Int32).toNatClampNeg) - 1)) = (((vI V a1v (0 : Int32).toNatClampNeg) - 1)) from by simp only [SM_I hS h_a1]) ?_
  refine gd_mono (gd_bd hQ) (fun r3 V2 hQ S2 hS2 xS => ?_) (fun E V9 hQ S9 hS9 xS9 => gd_th hQ S9 hS9 (Ex_tr hx xS9))
  have hx2 : Ex S0 S2 := Ex_tr hx xS
  have h2_a0 := xS _ _ h_a0
  refine st_if rfl hQ (fun hQ => ?_) (fun hQ => ?_)
  · exact gd_rt hQ _ hS2 hx2
  · refine st_rd hS2 h2_a0 rfl hQ (fun a4 a4v h2_a4 hQ => ?_)
    refine st_gd (fun h => by simp only [SM_N hS2 h2_a4]; exact gvp_in_of h) hQ (fun hQ => ?_)
    refine sim_X9_isIn n hS2 rfl rfl (show (((mI S2 a4 (1 : Int32).toNatClampNeg) - 1)) = (((vI V2 a4v (1 : Int32).toNatClampNeg) - 1)) from by simp only [SM_I hS2 h2_a4]) ?_
    refine gd_mono (gd_bd hQ) (fun r6 V5 hQ S5 hS5 xS => ?_) (fun E V9 hQ S9 hS9 xS9 => gd_th hQ S9 hS9 (Ex_tr hx2 xS9))
    have hx5 : Ex S0 S5 := Ex_tr hx2 xS
    have h5_a0 := xS _ _ h2_a0
    refine st_if rfl hQ (fun hQ => ?_) (fun hQ => ?_)
    · exact gd_rt hQ _ hS5 hx5
    · refine st_rd hS5 h5_a0 rfl hQ (fun a7 a7v h5_a7 hQ => ?_)
      refine st_gd (fun h => by simp only [SM_N hS5 h5_a7]; exact gvp_in_of h) hQ (fun hQ => ?_)
      simp only [SM_I hS5 h5_a7]
      exact gd_rt hQ _ hS5 hx5
def eX9_step_23 (n : Nat) (V : VS) (a0v : Nat) (y1 : Int32) (y2 : Int32) (z0 : Int32) (z1 : Int32) : Rs Int32 := bd (ev_X9_column n V a0v y1) (fun r2 V1 => (if y2 = 1 then eX9_step_49 n V1 a0v (z1 + z0) 1 r2 else (if y2 = 3 then eX9_step_49 n V1 a0v (z1 + z0) (-1) r2 else eX9_step_49 n V1 a0v (z1 + z0) 0 r2))) th
set_option maxHeartbeats 4000000 in
set_option maxRecDepth 100000 in
theorem sX9_step_23 (n : Nat) {S0 : MS} {Q : Int32 → MS → Prop} {QX : String → MS → Prop} {S : MS} {V : VS} {a0 a0v : Nat} {y1 : Int32} {y2 : Int32} {z0 : Int32} {z1 : Int32} (hS : SM S V) (hx : Ex S0 S) (h_a0 : Ad S a0 a0v) (hQ : gd (eX9_step_23 n V a0v y1 y2 z0 z1) (SQ Q S0) (SX QX S0)) : wX9_step_23 Q QX S a0 y1 y2 z0 z1 := by
  unfold wX9_step_23
  unfold eX9_step_23 at hQ
  refine sim_X9_column n hS h_a0 rfl ?_
  refine gd_mono (gd_bd hQ) (fun r2 V1 hQ S1 hS1 xS => ?_) (fun E V9 hQ S9 hS9 xS9 => gd_th hQ S9 hS9 (Ex_tr hx xS9))
  have hx1 : Ex S0 S1 := Ex_tr hx xS
  have h1_a0 := xS _ _ h_a0
  refine st_ifn rfl hQ (fun hQ => ?_) (fun hQ => ?_)
  · refine st_ifn rfl hQ (fun hQ => ?_) (fun hQ => ?_)
    · exact sX9_step_49 n hS1 hx1 h1_a0 hQ
    · exact sX9_step_49 n hS1 hx1 h1_a0 hQ
  · exact sX9_step_49 n hS1 hx1 h1_a0 hQ
def eX9_step_0 (n : Nat) (V : VS) (a0v : Nat) (x1 : Int32) (x2 : Int32) : Rs Int32 := bd (ev_X9_row n V a0v x1) (fun r2 V1 => (if x2 = 0 then eX9_step_23 n V1 a0v x1 x2 (-1) r2 else (if x2 = 2 then eX9_step_23 n V1 a0v x1 x2 1 r2 else eX9_step_23 n V1 a0v x1 x2 0 r2))) th
set_option maxHeartbeats 4000000 in
set_option maxRecDepth 100000 in
theorem sX9_step_0 (n : Nat) {S0 : MS} {Q : Int32 → MS → Prop} {QX : String → MS → Prop} {S : MS} {V : VS} {a0 a0v : Nat} {x1 : Int32} {x2 : Int32} (hS : SM S V) (hx : Ex S0 S) (h_a0 : Ad S a0 a0v) (hQ : gd (eX9_step_0 n V a0v x1 x2) (SQ Q S0) (SX QX S0)) : wX9_step_0 Q QX S a0 x1 x2 := by
  unfold wX9_step_0
  unfold eX9_step_0 at hQ
  refine sim_X9_row n hS h_a0 rfl ?_
  refine gd_mono (gd_bd hQ) (fun r2 V1 hQ S1 hS1 xS => ?_) (fun E V9 hQ S9 hS9 xS9 => gd_th hQ S9 hS9 (Ex_tr hx xS9))
  have hx1 : Ex S0 S1 := Ex_tr hx xS
  have h1_a0 := xS _ _ h_a0
  refine st_ifn rfl hQ (fun hQ => ?_) (fun hQ => ?_)
  · refine st_ifn rfl hQ (fun hQ => ?_) (fun hQ => ?_)
    · exact sX9_step_23 n hS1 hx1 h1_a0 hQ
    · exact sX9_step_23 n hS1 hx1 h1_a0 hQ
  · exact sX9_step_23 n hS1 hx1 h1_a0 hQ
def ev_X9_step (n : Nat) (V : VS) (a0v : Nat) (x1 : Int32) (x2 : Int32) : Rs Int32 := eX9_step_0 n V a0v x1 x2
theorem sim_X9_step (n : Nat) {Q : Int32 → MS → Prop} {QX : String → MS → Prop} {S : MS} {V : VS} {a0 a0v : Nat} {x1 x1z : Int32} {x2 x2z : Int32} (hS : SM S V) (h_a0 : Ad S a0 a0v) (e_x1 : x1 = x1z) (e_x2 : x2 = x2z) (hQ : gd (ev_X9_step n V a0v x1z x2z) (SQ Q S) (SX QX S)) : wp_X9_step Q QX S a0 x1 x2 := by
  subst e_x1 e_x2
  exact sX9_step_0 n hS Ex_rf h_a0 hQ
def eX9_price_0 (n : Nat) (V : VS) (a0v : Nat) (x1 : Int32) : Rs Int32 := (vR V a0v 1).bind (fun a1v => (if gvp_in (2 + x1) (vN V a1v) = true then (if (vI V a1v ((2 + x1) : Int32).toNatClampNeg) = 3 then rt 2 V else (vR V a0v 1).bind (fun a2v => (if gvp_in (2 + x1) (vN V a2v) = true then (if (vI V a2v ((2 + x1) : Int32).toNatClampNeg) = 2 then rt 2 V else rt 1 V) else none))) else none))
set_option maxHeartbeats 4000000 in
set_option maxRecDepth 100000 in
theorem sX9_price_0 (n : Nat) {S0 : MS} {Q : Int32 → MS → Prop} {QX : String → MS → Prop} {S : MS} {V : VS} {a0 a0v : Nat} {x1 : Int32} (hS : SM S V) (hx : Ex S0 S) (h_a0 : Ad S a0 a0v) (hQ : gd (eX9_price_0 n V a0v x1) (SQ Q S0) (SX QX S0)) : wX9_price_0 Q QX S a0 x1 := by
  unfold wX9_price_0
  unfold eX9_price_0 at hQ
  refine st_rd hS h_a0 rfl hQ (fun a1 a1v h_a1 hQ => ?_)
  refine st_gd (fun h => by simp only [SM_N hS h_a1]; exact gvp_in_of h) hQ (fun hQ => ?_)
  refine st_if (show ((mI S a1 ((2 + x1) : Int32).toNatClampNeg) = 3) = ((vI V a1v ((2 + x1) : Int32).toNatClampNeg) = 3) from by simp only [SM_I hS h_a1]) hQ (fun hQ => ?_) (fun hQ => ?_)
  · exact gd_rt hQ _ hS hx
  · refine st_rd hS h_a0 rfl hQ (fun a2 a2v h_a2 hQ => ?_)
    refine st_gd (fun h => by simp only [SM_N hS h_a2]; exact gvp_in_of h) hQ (fun hQ => ?_)
    refine st_ifn (show ((mI S a2 ((2 + x1) : Int32).toNatClampNeg) = 2) = ((vI V a2v ((2 + x1) : Int32).toNatClampNeg) = 2) from by simp only [SM_I hS h_a2]) hQ (fun hQ => ?_) (fun hQ => ?_)
    · exact gd_rt hQ _ hS hx
    · exact gd_rt hQ _ hS hx
def ev_X9_price (n : Nat) (V : VS) (a0v : Nat) (x1 : Int32) : Rs Int32 := eX9_price_0 n V a0v x1
theorem sim_X9_price (n : Nat) {Q : Int32 → MS → Prop} {QX : String → MS → Prop} {S : MS} {V : VS} {a0 a0v : Nat} {x1 x1z : Int32} (hS : SM S V) (h_a0 : Ad S a0 a0v) (e_x1 : x1 = x1z) (hQ : gd (ev_X9_price n V a0v x1z) (SQ Q S) (SX QX S)) : wp_X9_price Q QX S a0 x1 := by
  subst e_x1
  exact sX9_price_0 n hS Ex_rf h_a0 hQ
def eX9_isFree_0 (n : Nat) (V : VS) (a0v : Nat) (x1 : Int32) : Rs Int32 := (vR V a0v 1).bind (fun a1v => (if gvp_in (2 + x1) (vN V a1v) = true then (if (vI V a1v ((2 + x1) : Int32).toNatClampNeg) = 1 then rt 0 V else bd (ev_X9_unitOn n V a0v x1) (fun r3 V2 => (if 0 ≤ r3 then rt 0 V2 else rt 1 V2)) th) else none))
set_option maxHeartbeats 4000000 in
set_option maxRecDepth 100000 in
theorem sX9_isFree_0 (n : Nat) {S0 : MS} {Q : Int32 → MS → Prop} {QX : String → MS → Prop} {S : MS} {V : VS} {a0 a0v : Nat} {x1 : Int32} (hS : SM S V) (hx : Ex S0 S) (h_a0 : Ad S a0 a0v) (hQ : gd (eX9_isFree_0 n V a0v x1) (SQ Q S0) (SX QX S0)) : wX9_isFree_0 Q QX S a0 x1 := by
  unfold wX9_isFree_0
  unfold eX9_isFree_0 at hQ
  refine st_rd hS h_a0 rfl hQ (fun a1 a1v h_a1 hQ => ?_)
  refine st_gd (fun h => by simp only [SM_N hS h_a1]; exact gvp_in_of h) hQ (fun hQ => ?_)
  refine st_if (show ((mI S a1 ((2 + x1) : Int32).toNatClampNeg) = 1) = ((vI V a1v ((2 + x1) : Int32).toNatClampNeg) = 1) from by simp only [SM_I hS h_a1]) hQ (fun hQ => ?_) (fun hQ => ?_)
  · exact gd_rt hQ _ hS hx
  · refine sim_X9_unitOn n hS h_a0 rfl ?_
    refine gd_mono (gd_bd hQ) (fun r3 V2 hQ S2 hS2 xS => ?_) (fun E V9 hQ S9 hS9 xS9 => gd_th hQ S9 hS9 (Ex_tr hx xS9))
    have hx2 : Ex S0 S2 := Ex_tr hx xS
    refine st_if rfl hQ (fun hQ => ?_) (fun hQ => ?_)
    · exact gd_rt hQ _ hS2 hx2
    · exact gd_rt hQ _ hS2 hx2
def ev_X9_isFree (n : Nat) (V : VS) (a0v : Nat) (x1 : Int32) : Rs Int32 := eX9_isFree_0 n V a0v x1
theorem sim_X9_isFree (n : Nat) {Q : Int32 → MS → Prop} {QX : String → MS → Prop} {S : MS} {V : VS} {a0 a0v : Nat} {x1 x1z : Int32} (hS : SM S V) (h_a0 : Ad S a0 a0v) (e_x1 : x1 = x1z) (hQ : gd (ev_X9_isFree n V a0v x1z) (SQ Q S) (SX QX S)) : wp_X9_isFree Q QX S a0 x1 := by
  subst e_x1
  exact sX9_isFree_0 n hS Ex_rf h_a0 hQ
def eX9_measures_151 (n : Nat) (k43v : VS → Nat → Int32 → Int32 → Int32 → Rs Unit) (k52v : VS → Nat → Int32 → Int32 → Int32 → Int32 → Rs Unit) (k61v : VS → Nat → Int32 → Int32 → Int32 → Int32 → Int32 → Rs Unit) (V : VS) (a0v : Nat) (y1 : Int32) (y2 : Int32) (y4 : Int32) (y5 : Int32) (y7 : Int32) : Rs Unit := (vR V a0v 17).bind (fun a1v => (if gvp_in y4 (vN V a1v) = true then sq (wI V a1v ((y4 : Int32).toNatClampNeg) y7) (fun V2 => k61v V2 a0v y1 y2 1 y4 (y5 + 1)) else none))
set_option maxHeartbeats 4000000 in
set_option maxRecDepth 100000 in
theorem sX9_measures_151 (n : Nat) {S0 : MS} {Q : MS → Prop} {QX : String → MS → Prop} {k43 : MS → Nat → Int32 → Int32 → Int32 → Prop} {k43v : VS → Nat → Int32 → Int32 → Int32 → Rs Unit} {k52 : MS → Nat → Int32 → Int32 → Int32 → Int32 → Prop} {k52v : VS → Nat → Int32 → Int32 → Int32 → Int32 → Rs Unit} {k61 : MS → Nat → Int32 → Int32 → Int32 → Int32 → Int32 → Prop} {k61v : VS → Nat → Int32 → Int32 → Int32 → Int32 → Int32 → Rs Unit} (hk43 : ∀ (S : MS) (V : VS) (p0 p0v : Nat) (p1 : Int32) (p2 : Int32) (p3 : Int32), SM S V → Ex S0 S → Ad S p0 p0v → gd (k43v V p0v p1 p2 p3) (SU Q S0) (SX QX S0) → k43 S p0 p1 p2 p3) (hk52 : ∀ (S : MS) (V : VS) (p0 p0v : Nat) (p1 : Int32) (p2 : Int32) (p3 : Int32) (p4 : Int32), SM S V → Ex S0 S → Ad S p0 p0v → gd (k52v V p0v p1 p2 p3 p4) (SU Q S0) (SX QX S0) → k52 S p0 p1 p2 p3 p4) (hk61 : ∀ (S : MS) (V : VS) (p0 p0v : Nat) (p1 : Int32) (p2 : Int32) (p3 : Int32) (p4 : Int32) (p5 : Int32), SM S V → Ex S0 S → Ad S p0 p0v → gd (k61v V p0v p1 p2 p3 p4 p5) (SU Q S0) (SX QX S0) → k61 S p0 p1 p2 p3 p4 p5) {S : MS} {V : VS} {a0 a0v : Nat} {y1 : Int32} {y2 : Int32} {y4 : Int32} {y5 : Int32} {y7 : Int32} (hS : SM S V) (hx : Ex S0 S) (h_a0 : Ad S a0 a0v) (hQ : gd (eX9_measures_151 n k43v k52v k61v V a0v y1 y2 y4 y5 y7) (SU Q S0) (SX QX S0)) : wX9_measures_151 Q QX k43 k52 k61 S a0 y1 y2 y4 y5 y7 := by
  unfold wX9_measures_151
  unfold eX9_measures_151 at hQ
  refine st_rd hS h_a0 rfl hQ (fun a1 a1v h_a1 hQ => ?_)
  refine st_gd (fun h => by simp only [SM_N hS h_a1]; exact gvp_in_of h) hQ (fun hQ => ?_)
  intro S2 eS
  obtain ⟨V2, hS2, xS, hQ⟩ := st_sI hS h_a1 eS rfl rfl hQ
  have hx2 : Ex S0 S2 := Ex_tr hx xS
  have h2_a0 := xS _ _ h_a0
  exact hk61 _ _ _ _ _ _ _ _ _ hS2 hx2 h2_a0 hQ
def eX9_measures_61 (n : Nat) (k43v : VS → Nat → Int32 → Int32 → Int32 → Rs Unit) (k52v : VS → Nat → Int32 → Int32 → Int32 → Int32 → Rs Unit) (k61v : VS → Nat → Int32 → Int32 → Int32 → Int32 → Int32 → Rs Unit) (V : VS) (a0v : Nat) (y1 : Int32) (y2 : Int32) (y3 : Int32) (y4 : Int32) (y5 : Int32) : Rs Unit := (if 4 ≤ y5 then k52v V a0v y1 y2 y3 (y4 + 1) else bd (ev_X9_step n V a0v y4 y5) (fun r2 V1 => (if r2 < 0 then k61v V1 a0v y1 y2 y3 y4 (y5 + 1) else (vR V1 a0v 17).bind (fun a3v => (if gvp_in r2 (vN V1 a3v) = true then (if (vI V1 a3v (r2 : Int32).toNatClampNeg) = 0 then k61v V1 a0v y1 y2 y3 y4 (y5 + 1) else bd (ev_X9_isFree n V1 a0v r2) (fun r5 V4 => (if r5 = 0 then k61v V4 a0v y1 y2 y3 y4 (y5 + 1) else (vR V4 a0v 17).bind (fun a6v => (if gvp_in r2 (vN V4 a6v) = true then bd (ev_X9_price n V4 a0v r2) (fun r8 V7 => (if y4 = y1 then k61v V7 a0v y1 y2 y3 y4 (y5 + 1) else (vR V7 a0v 17).bind (fun a9v => (if gvp_in y4 (vN V7 a9v) = true then (if (vI V7 a9v (y4 : Int32).toNatClampNeg) ≤ 0 then eX9_measures_151 n k43v k52v k61v V7 a0v y1 y2 y4 y5 ((vI V4 a6v (r2 : Int32).toNatClampNeg) + r8) else (vR V7 a0v 17).bind (fun a10v => (if gvp_in y4 (vN V7 a10v) = true then (if ((vI V4 a6v (r2 : Int32).toNatClampNeg) + r8) < (vI V7 a10v (y4 : Int32).toNatClampNeg) then eX9_measures_151 n k43v k52v k61v V7 a0v y1 y2 y4 y5 ((vI V4 a6v (r2 : Int32).toNatClampNeg) + r8) else k61v V7 a0v y1 y2 y3 y4 (y5 + 1)) else none))) else none)))) th else none)))) th) else none)))) th)
set_option maxHeartbeats 4000000 in
set_option maxRecDepth 100000 in
theorem sX9_measures_61 (n : Nat) {S0 : MS} {Q : MS → Prop} {QX : String → MS → Prop} {k43 : MS → Nat → Int32 → Int32 → Int32 → Prop} {k43v : VS → Nat → Int32 → Int32 → Int32 → Rs Unit} {k52 : MS → Nat → Int32 → Int32 → Int32 → Int32 → Prop} {k52v : VS → Nat → Int32 → Int32 → Int32 → Int32 → Rs Unit} {k61 : MS → Nat → Int32 → Int32 → Int32 → Int32 → Int32 → Prop} {k61v : VS → Nat → Int32 → Int32 → Int32 → Int32 → Int32 → Rs Unit} (hk43 : ∀ (S : MS) (V : VS) (p0 p0v : Nat) (p1 : Int32) (p2 : Int32) (p3 : Int32), SM S V → Ex S0 S → Ad S p0 p0v → gd (k43v V p0v p1 p2 p3) (SU Q S0) (SX QX S0) → k43 S p0 p1 p2 p3) (hk52 : ∀ (S : MS) (V : VS) (p0 p0v : Nat) (p1 : Int32) (p2 : Int32) (p3 : Int32) (p4 : Int32), SM S V → Ex S0 S → Ad S p0 p0v → gd (k52v V p0v p1 p2 p3 p4) (SU Q S0) (SX QX S0) → k52 S p0 p1 p2 p3 p4) (hk61 : ∀ (S : MS) (V : VS) (p0 p0v : Nat) (p1 : Int32) (p2 : Int32) (p3 : Int32) (p4 : Int32) (p5 : Int32), SM S V → Ex S0 S → Ad S p0 p0v → gd (k61v V p0v p1 p2 p3 p4 p5) (SU Q S0) (SX QX S0) → k61 S p0 p1 p2 p3 p4 p5) {S : MS} {V : VS} {a0 a0v : Nat} {y1 : Int32} {y2 : Int32} {y3 : Int32} {y4 : Int32} {y5 : Int32} (hS : SM S V) (hx : Ex S0 S) (h_a0 : Ad S a0 a0v) (hQ : gd (eX9_measures_61 n k43v k52v k61v V a0v y1 y2 y3 y4 y5) (SU Q S0) (SX QX S0)) : wX9_measures_61 Q QX k43 k52 k61 S a0 y1 y2 y3 y4 y5 := by
  unfold wX9_measures_61
  unfold eX9_measures_61 at hQ
  refine st_if rfl hQ (fun hQ => ?_) (fun hQ => ?_)
  · exact hk52 _ _ _ _ _ _ _ _ hS hx h_a0 hQ
  · refine sim_X9_step n hS h_a0 rfl rfl ?_
    refine gd_mono (gd_bd hQ) (fun r2 V1 hQ S1 hS1 xS => ?_) (fun E V9 hQ S9 hS9 xS9 => gd_th hQ S9 hS9 (Ex_tr hx xS9))
    have hx1 : Ex S0 S1 := Ex_tr hx xS
    have h1_a0 := xS _ _ h_a0
    refine st_if rfl hQ (fun hQ => ?_) (fun hQ => ?_)
    · exact hk61 _ _ _ _ _ _ _ _ _ hS1 hx1 h1_a0 hQ
    · refine st_rd hS1 h1_a0 rfl hQ (fun a3 a3v h1_a3 hQ => ?_)
      refine st_gd (fun h => by simp only [SM_N hS1 h1_a3]; exact gvp_in_of h) hQ (fun hQ => ?_)
      refine st_if (show ((mI S1 a3 (r2 : Int32).toNatClampNeg) = 0) = ((vI V1 a3v (r2 : Int32).toNatClampNeg) = 0) from by simp only [SM_I hS1 h1_a3]) hQ (fun hQ => ?_) (fun hQ => ?_)
      · exact hk61 _ _ _ _ _ _ _ _ _ hS1 hx1 h1_a0 hQ
      · refine sim_X9_isFree n hS1 h1_a0 rfl ?_
        refine gd_mono (gd_bd hQ) (fun r5 V4 hQ S4 hS4 xS => ?_) (fun E V9 hQ S9 hS9 xS9 => gd_th hQ S9 hS9 (Ex_tr hx1 xS9))
        have hx4 : Ex S0 S4 := Ex_tr hx1 xS
        have h4_a0 := xS _ _ h1_a0
        refine st_ifn rfl hQ (fun hQ => ?_) (fun hQ => ?_)
        · refine st_rd hS4 h4_a0 rfl hQ (fun a6 a6v h4_a6 hQ => ?_)
          refine st_gd (fun h => by simp only [SM_N hS4 h4_a6]; exact gvp_in_of h) hQ (fun hQ => ?_)
          refine sim_X9_price n hS4 h4_a0 rfl ?_
          refine gd_mono (gd_bd hQ) (fun r8 V7 hQ S7 hS7 xS => ?_) (fun E V9 hQ S9 hS9 xS9 => gd_th hQ S9 hS9 (Ex_tr hx4 xS9))
          have hx7 : Ex S0 S7 := Ex_tr hx4 xS
          have h7_a0 := xS _ _ h4_a0
          have h7_a6 := xS _ _ h4_a6
          refine st_if rfl hQ (fun hQ => ?_) (fun hQ => ?_)
          · exact hk61 _ _ _ _ _ _ _ _ _ hS7 hx7 h7_a0 hQ
          · refine st_rd hS7 h7_a0 rfl hQ (fun a9 a9v h7_a9 hQ => ?_)
            refine st_gd (fun h => by simp only [SM_N hS7 h7_a9]; exact gvp_in_of h) hQ (fun hQ => ?_)
            refine st_if (show ((mI S7 a9 (y4 : Int32).toNatClampNeg) ≤ 0) = ((vI V7 a9v (y4 : Int32).toNatClampNeg) ≤ 0) from by simp only [SM_I hS7 h7_a9]) hQ (fun hQ => ?_) (fun hQ => ?_)
            · simp only [SM_I hS4 h4_a6]
              exact sX9_measures_151 n hk43 hk52 hk61 hS7 hx7 h7_a0 hQ
            · refine st_rd hS7 h7_a0 rfl hQ (fun a10 a10v h7_a10 hQ => ?_)
              refine st_gd (fun h => by simp only [SM_N hS7 h7_a10]; exact gvp_in_of h) hQ (fun hQ => ?_)
              refine st_if (show (((mI S4 a6 (r2 : Int32).toNatClampNeg) + r8) < (mI S7 a10 (y4 : Int32).toNatClampNeg)) = (((vI V4 a6v (r2 : Int32).toNatClampNeg) + r8) < (vI V7 a10v (y4 : Int32).toNatClampNeg)) from by simp only [SM_I hS4 h4_a6, SM_I hS7 h7_a10]) hQ (fun hQ => ?_) (fun hQ => ?_)
              · simp only [SM_I hS4 h4_a6]
                exact sX9_measures_151 n hk43 hk52 hk61 hS7 hx7 h7_a0 hQ
              · exact hk61 _ _ _ _ _ _ _ _ _ hS7 hx7 h7_a0 hQ
        · exact hk61 _ _ _ _ _ _ _ _ _ hS4 hx4 h4_a0 hQ
def elX9_measures_61 (n : Nat) (k43v : VS → Nat → Int32 → Int32 → Int32 → Rs Unit) (k52v : VS → Nat → Int32 → Int32 → Int32 → Int32 → Rs Unit) : Nat → VS → Nat → Int32 → Int32 → Int32 → Int32 → Int32 → Rs Unit
  | 0 => fun _ _ _ _ _ _ _ => none
  | m + 1 => fun V a0v y1 y2 y3 y4 y5 => eX9_measures_61 n k43v k52v (elX9_measures_61 n k43v k52v m) V a0v y1 y2 y3 y4 y5
theorem selX9_measures_61 (n : Nat) {S0 : MS} {Q : MS → Prop} {QX : String → MS → Prop} {k43 : MS → Nat → Int32 → Int32 → Int32 → Prop} {k43v : VS → Nat → Int32 → Int32 → Int32 → Rs Unit} {k52 : MS → Nat → Int32 → Int32 → Int32 → Int32 → Prop} {k52v : VS → Nat → Int32 → Int32 → Int32 → Int32 → Rs Unit} (hk43 : ∀ (S : MS) (V : VS) (p0 p0v : Nat) (p1 : Int32) (p2 : Int32) (p3 : Int32), SM S V → Ex S0 S → Ad S p0 p0v → gd (k43v V p0v p1 p2 p3) (SU Q S0) (SX QX S0) → k43 S p0 p1 p2 p3) (hk52 : ∀ (S : MS) (V : VS) (p0 p0v : Nat) (p1 : Int32) (p2 : Int32) (p3 : Int32) (p4 : Int32), SM S V → Ex S0 S → Ad S p0 p0v → gd (k52v V p0v p1 p2 p3 p4) (SU Q S0) (SX QX S0) → k52 S p0 p1 p2 p3 p4) : ∀ (m : Nat), ∀ (S : MS) (V : VS) (p0 p0v : Nat) (p1 : Int32) (p2 : Int32) (p3 : Int32) (p4 : Int32) (p5 : Int32), SM S V → Ex S0 S → Ad S p0 p0v → gd (elX9_measures_61 n k43v k52v m V p0v p1 p2 p3 p4 p5) (SU Q S0) (SX QX S0) → lX9_measures_61 Q QX k43 k52 m S p0 p1 p2 p3 p4 p5 := by
  intro m
  induction m with
  | zero => intro S V p0 p0v p1 p2 p3 p4 p5 hS hx q0 hQ; exact (gd_none hQ).elim
  | succ m ih => intro S V p0 p0v p1 p2 p3 p4 p5 hS hx q0 hQ; exact sX9_measures_61 n hk43 hk52 ih hS hx q0 hQ
def eX9_measures_52 (n : Nat) (k43v : VS → Nat → Int32 → Int32 → Int32 → Rs Unit) (k52v : VS → Nat → Int32 → Int32 → Int32 → Int32 → Rs Unit) (V : VS) (a0v : Nat) (y1 : Int32) (y2 : Int32) (y3 : Int32) (y4 : Int32) : Rs Unit := (if y2 ≤ y4 then k43v V a0v y1 y2 y3 else elX9_measures_61 n k43v k52v n V a0v y1 y2 y3 y4 0)
set_option maxHeartbeats 4000000 in
set_option maxRecDepth 100000 in
theorem sX9_measures_52 (n : Nat) {S0 : MS} {Q : MS → Prop} {QX : String → MS → Prop} {k43 : MS → Nat → Int32 → Int32 → Int32 → Prop} {k43v : VS → Nat → Int32 → Int32 → Int32 → Rs Unit} {k52 : MS → Nat → Int32 → Int32 → Int32 → Int32 → Prop} {k52v : VS → Nat → Int32 → Int32 → Int32 → Int32 → Rs Unit} (hk43 : ∀ (S : MS) (V : VS) (p0 p0v : Nat) (p1 : Int32) (p2 : Int32) (p3 : Int32), SM S V → Ex S0 S → Ad S p0 p0v → gd (k43v V p0v p1 p2 p3) (SU Q S0) (SX QX S0) → k43 S p0 p1 p2 p3) (hk52 : ∀ (S : MS) (V : VS) (p0 p0v : Nat) (p1 : Int32) (p2 : Int32) (p3 : Int32) (p4 : Int32), SM S V → Ex S0 S → Ad S p0 p0v → gd (k52v V p0v p1 p2 p3 p4) (SU Q S0) (SX QX S0) → k52 S p0 p1 p2 p3 p4) {S : MS} {V : VS} {a0 a0v : Nat} {y1 : Int32} {y2 : Int32} {y3 : Int32} {y4 : Int32} (hS : SM S V) (hx : Ex S0 S) (h_a0 : Ad S a0 a0v) (hQ : gd (eX9_measures_52 n k43v k52v V a0v y1 y2 y3 y4) (SU Q S0) (SX QX S0)) : wX9_measures_52 Q QX k43 k52 S a0 y1 y2 y3 y4 := by
  unfold wX9_measures_52
  unfold eX9_measures_52 at hQ
  refine st_if rfl hQ (fun hQ => ?_) (fun hQ => ?_)
  · exact hk43 _ _ _ _ _ _ _ hS hx h_a0 hQ
  · refine ⟨n, ?_⟩
    exact selX9_measures_61 n hk43 hk52 n _ _ _ _ _ _ _ _ _ hS hx h_a0 hQ
def elX9_measures_52 (n : Nat) (k43v : VS → Nat → Int32 → Int32 → Int32 → Rs Unit) : Nat → VS → Nat → Int32 → Int32 → Int32 → Int32 → Rs Unit
  | 0 => fun _ _ _ _ _ _ => none
  | m + 1 => fun V a0v y1 y2 y3 y4 => eX9_measures_52 n k43v (elX9_measures_52 n k43v m) V a0v y1 y2 y3 y4
theorem selX9_measures_52 (n : Nat) {S0 : MS} {Q : MS → Prop} {QX : String → MS → Prop} {k43 : MS → Nat → Int32 → Int32 → Int32 → Prop} {k43v : VS → Nat → Int32 → Int32 → Int32 → Rs Unit} (hk43 : ∀ (S : MS) (V : VS) (p0 p0v : Nat) (p1 : Int32) (p2 : Int32) (p3 : Int32), SM S V → Ex S0 S → Ad S p0 p0v → gd (k43v V p0v p1 p2 p3) (SU Q S0) (SX QX S0) → k43 S p0 p1 p2 p3) : ∀ (m : Nat), ∀ (S : MS) (V : VS) (p0 p0v : Nat) (p1 : Int32) (p2 : Int32) (p3 : Int32) (p4 : Int32), SM S V → Ex S0 S → Ad S p0 p0v → gd (elX9_measures_52 n k43v m V p0v p1 p2 p3 p4) (SU Q S0) (SX QX S0) → lX9_measures_52 Q QX k43 m S p0 p1 p2 p3 p4 := by
  intro m
  induction m with
  | zero => intro S V p0 p0v p1 p2 p3 p4 hS hx q0 hQ; exact (gd_none hQ).elim
  | succ m ih => intro S V p0 p0v p1 p2 p3 p4 hS hx q0 hQ; exact sX9_measures_52 n hk43 ih hS hx q0 hQ
def eX9_measures_43 (n : Nat) (k43v : VS → Nat → Int32 → Int32 → Int32 → Rs Unit) (V : VS) (a0v : Nat) (y1 : Int32) (y2 : Int32) (y3 : Int32) : Rs Unit := (if y3 = 0 then rt () V else elX9_measures_52 n k43v n V a0v y1 y2 0 0)
set_option maxHeartbeats 4000000 in
set_option maxRecDepth 100000 in
theorem sX9_measures_43 (n : Nat) {S0 : MS} {Q : MS → Prop} {QX : String → MS → Prop} {k43 : MS → Nat → Int32 → Int32 → Int32 → Prop} {k43v : VS → Nat → Int32 → Int32 → Int32 → Rs Unit} (hk43 : ∀ (S : MS) (V : VS) (p0 p0v : Nat) (p1 : Int32) (p2 : Int32) (p3 : Int32), SM S V → Ex S0 S → Ad S p0 p0v → gd (k43v V p0v p1 p2 p3) (SU Q S0) (SX QX S0) → k43 S p0 p1 p2 p3) {S : MS} {V : VS} {a0 a0v : Nat} {y1 : Int32} {y2 : Int32} {y3 : Int32} (hS : SM S V) (hx : Ex S0 S) (h_a0 : Ad S a0 a0v) (hQ : gd (eX9_measures_43 n k43v V a0v y1 y2 y3) (SU Q S0) (SX QX S0)) : wX9_measures_43 Q QX k43 S a0 y1 y2 y3 := by
  unfold wX9_measures_43
  unfold eX9_measures_43 at hQ
  refine st_if rfl hQ (fun hQ => ?_) (fun hQ => ?_)
  · exact gd_rt hQ _ hS hx
  · refine ⟨n, ?_⟩
    exact selX9_measures_52 n hk43 n _ _ _ _ _ _ _ _ hS hx h_a0 hQ
def elX9_measures_43 (n : Nat) : Nat → VS → Nat → Int32 → Int32 → Int32 → Rs Unit
  | 0 => fun _ _ _ _ _ => none
  | m + 1 => fun V a0v y1 y2 y3 => eX9_measures_43 n (elX9_measures_43 n m) V a0v y1 y2 y3
theorem selX9_measures_43 (n : Nat) {S0 : MS} {Q : MS → Prop} {QX : String → MS → Prop} : ∀ (m : Nat), ∀ (S : MS) (V : VS) (p0 p0v : Nat) (p1 : Int32) (p2 : Int32) (p3 : Int32), SM S V → Ex S0 S → Ad S p0 p0v → gd (elX9_measures_43 n m V p0v p1 p2 p3) (SU Q S0) (SX QX S0) → lX9_measures_43 Q QX m S p0 p1 p2 p3 := by
  intro m
  induction m with
  | zero => intro S V p0 p0v p1 p2 p3 hS hx q0 hQ; exact (gd_none hQ).elim
  | succ m ih => intro S V p0 p0v p1 p2 p3 hS hx q0 hQ; exact sX9_measures_43 n ih hS hx q0 hQ
def eX9_measures_16 (n : Nat) (k16v : VS → Nat → Int32 → Int32 → Int32 → Rs Unit) (V : VS) (a0v : Nat) (y1 : Int32) (y2 : Int32) (y3 : Int32) : Rs Unit := (if y2 ≤ y3 then (vR V a0v 17).bind (fun a1v => (if gvp_in y1 (vN V a1v) = true then sq (wI V a1v ((y1 : Int32).toNatClampNeg) 1) (fun V2 => elX9_measures_43 n n V2 a0v y1 y2 1) else none)) else (vR V a0v 17).bind (fun a3v => (if gvp_in y3 (vN V a3v) = true then sq (wI V a3v ((y3 : Int32).toNatClampNeg) 0) (fun V4 => k16v V4 a0v y1 y2 (y3 + 1)) else none)))
set_option maxHeartbeats 4000000 in
set_option maxRecDepth 100000 in
theorem sX9_measures_16 (n : Nat) {S0 : MS} {Q : MS → Prop} {QX : String → MS → Prop} {k16 : MS → Nat → Int32 → Int32 → Int32 → Prop} {k16v : VS → Nat → Int32 → Int32 → Int32 → Rs Unit} (hk16 : ∀ (S : MS) (V : VS) (p0 p0v : Nat) (p1 : Int32) (p2 : Int32) (p3 : Int32), SM S V → Ex S0 S → Ad S p0 p0v → gd (k16v V p0v p1 p2 p3) (SU Q S0) (SX QX S0) → k16 S p0 p1 p2 p3) {S : MS} {V : VS} {a0 a0v : Nat} {y1 : Int32} {y2 : Int32} {y3 : Int32} (hS : SM S V) (hx : Ex S0 S) (h_a0 : Ad S a0 a0v) (hQ : gd (eX9_measures_16 n k16v V a0v y1 y2 y3) (SU Q S0) (SX QX S0)) : wX9_measures_16 Q QX k16 S a0 y1 y2 y3 := by
  unfold wX9_measures_16
  unfold eX9_measures_16 at hQ
  refine st_if rfl hQ (fun hQ => ?_) (fun hQ => ?_)
  · refine st_rd hS h_a0 rfl hQ (fun a1 a1v h_a1 hQ => ?_)
    refine st_gd (fun h => by simp only [SM_N hS h_a1]; exact gvp_in_of h) hQ (fun hQ => ?_)
    intro S2 eS
    obtain ⟨V2, hS2, xS, hQ⟩ := st_sI hS h_a1 eS rfl rfl hQ
    have hx2 : Ex S0 S2 := Ex_tr hx xS
    have h2_a0 := xS _ _ h_a0
    refine ⟨n, ?_⟩
    exact selX9_measures_43 n n _ _ _ _ _ _ _ hS2 hx2 h2_a0 hQ
  · refine st_rd hS h_a0 rfl hQ (fun a3 a3v h_a3 hQ => ?_)
    refine st_gd (fun h => by simp only [SM_N hS h_a3]; exact gvp_in_of h) hQ (fun hQ => ?_)
    intro S4 eS
    obtain ⟨V4, hS4, xS, hQ⟩ := st_sI hS h_a3 eS rfl rfl hQ
    have hx4 : Ex S0 S4 := Ex_tr hx xS
    have h4_a0 := xS _ _ h_a0
    exact hk16 _ _ _ _ _ _ _ hS4 hx4 h4_a0 hQ
def elX9_measures_16 (n : Nat) : Nat → VS → Nat → Int32 → Int32 → Int32 → Rs Unit
  | 0 => fun _ _ _ _ _ => none
  | m + 1 => fun V a0v y1 y2 y3 => eX9_measures_16 n (elX9_measures_16 n m) V a0v y1 y2 y3
theorem selX9_measures_16 (n : Nat) {S0 : MS} {Q : MS → Prop} {QX : String → MS → Prop} : ∀ (m : Nat), ∀ (S : MS) (V : VS) (p0 p0v : Nat) (p1 : Int32) (p2 : Int32) (p3 : Int32), SM S V → Ex S0 S → Ad S p0 p0v → gd (elX9_measures_16 n m V p0v p1 p2 p3) (SU Q S0) (SX QX S0) → lX9_measures_16 Q QX m S p0 p1 p2 p3 := by
  intro m
  induction m with
  | zero => intro S V p0 p0v p1 p2 p3 hS hx q0 hQ; exact (gd_none hQ).elim
  | succ m ih => intro S V p0 p0v p1 p2 p3 hS hx q0 hQ; exact sX9_measures_16 n ih hS hx q0 hQ
def eX9_measures_0 (n : Nat) (V : VS) (a0v : Nat) (x1 : Int32) : Rs Unit := (vR V a0v 1).bind (fun a1v => (if gvp_in 0 (vN V a1v) = true then (vR V a0v 1).bind (fun a2v => (if gvp_in 1 (vN V a2v) = true then elX9_measures_16 n n V a0v x1 ((vI V a1v (0 : Int32).toNatClampNeg) * (vI V a2v (1 : Int32).toNatClampNeg)) 0 else none)) else none))
set_option maxHeartbeats 4000000 in
set_option maxRecDepth 100000 in
theorem sX9_measures_0 (n : Nat) {S0 : MS} {Q : MS → Prop} {QX : String → MS → Prop} {S : MS} {V : VS} {a0 a0v : Nat} {x1 : Int32} (hS : SM S V) (hx : Ex S0 S) (h_a0 : Ad S a0 a0v) (hQ : gd (eX9_measures_0 n V a0v x1) (SU Q S0) (SX QX S0)) : wX9_measures_0 Q QX S a0 x1 := by
  unfold wX9_measures_0
  unfold eX9_measures_0 at hQ
  refine st_rd hS h_a0 rfl hQ (fun a1 a1v h_a1 hQ => ?_)
  refine st_gd (fun h => by simp only [SM_N hS h_a1]; exact gvp_in_of h) hQ (fun hQ => ?_)
  refine st_rd hS h_a0 rfl hQ (fun a2 a2v h_a2 hQ => ?_)
  refine st_gd (fun h => by simp only [SM_N hS h_a2]; exact gvp_in_of h) hQ (fun hQ => ?_)
  refine ⟨n, ?_⟩
  simp only [SM_I hS h_a1, SM_I hS h_a2]
  exact selX9_measures_16 n n _ _ _ _ _ _ _ hS hx h_a0 hQ
def ev_X9_measures (n : Nat) (V : VS) (a0v : Nat) (x1 : Int32) : Rs Unit := eX9_measures_0 n V a0v x1
theorem sim_X9_measures (n : Nat) {Q : MS → Prop} {QX : String → MS → Prop} {S : MS} {V : VS} {a0 a0v : Nat} {x1 x1z : Int32} (hS : SM S V) (h_a0 : Ad S a0 a0v) (e_x1 : x1 = x1z) (hQ : gd (ev_X9_measures n V a0v x1z) (SU Q S) (SX QX S)) : wp_X9_measures Q QX S a0 x1 := by
  subst e_x1
  exact sX9_measures_0 n hS Ex_rf h_a0 hQ
def eX9_costsTo_0 (n : Nat) (V : VS) (a0v : Nat) (x1 : Int32) : Rs Int32 := (vR V a0v 1).bind (fun a1v => (if gvp_in 166 (vN V a1v) = true then bd (ev_X9_of n V a0v (vI V a1v (166 : Int32).toNatClampNeg) 2) (fun r3 V2 => (if x1 = r3 then rt 0 V2 else bd (ev_X9_isFree n V2 a0v x1) (fun r5 V4 => (if r5 = 0 then rt (-1) V4 else bd (ev_X9_measures n V4 a0v x1) (fun _ V6 => (vR V6 a0v 17).bind (fun a7v => (if gvp_in r3 (vN V6 a7v) = true then rt ((vI V6 a7v (r3 : Int32).toNatClampNeg) - 1) V6 else none))) th)) th)) th else none))
set_option maxHeartbeats 4000000 in
set_option maxRecDepth 100000 in
theorem sX9_costsTo_0 (n : Nat) {S0 : MS} {Q : Int32 → MS → Prop} {QX : String → MS → Prop} {S : MS} {V : VS} {a0 a0v : Nat} {x1 : Int32} (hS : SM S V) (hx : Ex S0 S) (h_a0 : Ad S a0 a0v) (hQ : gd (eX9_costsTo_0 n V a0v x1) (SQ Q S0) (SX QX S0)) : wX9_costsTo_0 Q QX S a0 x1 := by
  unfold wX9_costsTo_0
  unfold eX9_costsTo_0 at hQ
  refine st_rd hS h_a0 rfl hQ (fun a1 a1v h_a1 hQ => ?_)
  refine st_gd (fun h => by simp only [SM_N hS h_a1]; exact gvp_in_of h) hQ (fun hQ => ?_)
  refine sim_X9_of n hS h_a0 (show ((mI S a1 (166 : Int32).toNatClampNeg)) = ((vI V a1v (166 : Int32).toNatClampNeg)) from by simp only [SM_I hS h_a1]) rfl ?_
  refine gd_mono (gd_bd hQ) (fun r3 V2 hQ S2 hS2 xS => ?_) (fun E V9 hQ S9 hS9 xS9 => gd_th hQ S9 hS9 (Ex_tr hx xS9))
  have hx2 : Ex S0 S2 := Ex_tr hx xS
  have h2_a0 := xS _ _ h_a0
  refine st_ifn rfl hQ (fun hQ => ?_) (fun hQ => ?_)
  · refine sim_X9_isFree n hS2 h2_a0 rfl ?_
    refine gd_mono (gd_bd hQ) (fun r5 V4 hQ S4 hS4 xS => ?_) (fun E V9 hQ S9 hS9 xS9 => gd_th hQ S9 hS9 (Ex_tr hx2 xS9))
    have hx4 : Ex S0 S4 := Ex_tr hx2 xS
    have h4_a0 := xS _ _ h2_a0
    refine st_ifn rfl hQ (fun hQ => ?_) (fun hQ => ?_)
    · refine sim_X9_measures n hS4 h4_a0 rfl ?_
      refine gd_mono (gd_bd hQ) (fun _ V6 hQ S6 hS6 xS => ?_) (fun E V9 hQ S9 hS9 xS9 => gd_th hQ S9 hS9 (Ex_tr hx4 xS9))
      have hx6 : Ex S0 S6 := Ex_tr hx4 xS
      have h6_a0 := xS _ _ h4_a0
      refine st_rd hS6 h6_a0 rfl hQ (fun a7 a7v h6_a7 hQ => ?_)
      refine st_gd (fun h => by simp only [SM_N hS6 h6_a7]; exact gvp_in_of h) hQ (fun hQ => ?_)
      simp only [SM_I hS6 h6_a7]
      exact gd_rt hQ _ hS6 hx6
    · exact gd_rt hQ _ hS4 hx4
  · exact gd_rt hQ _ hS2 hx2
def ev_X9_costsTo (n : Nat) (V : VS) (a0v : Nat) (x1 : Int32) : Rs Int32 := eX9_costsTo_0 n V a0v x1
theorem sim_X9_costsTo (n : Nat) {Q : Int32 → MS → Prop} {QX : String → MS → Prop} {S : MS} {V : VS} {a0 a0v : Nat} {x1 x1z : Int32} (hS : SM S V) (h_a0 : Ad S a0 a0v) (e_x1 : x1 = x1z) (hQ : gd (ev_X9_costsTo n V a0v x1z) (SQ Q S) (SX QX S)) : wp_X9_costsTo Q QX S a0 x1 := by
  subst e_x1
  exact sX9_costsTo_0 n hS Ex_rf h_a0 hQ
def eX9_next_51 (n : Nat) (k9v : VS → Nat → Int32 → Int32 → Int32 → Rs Int32) (V : VS) (a0v : Nat) (y1 : Int32) (y2 : Int32) : Rs Int32 := bd (ev_X9_step n V a0v y1 (y2 + 1)) (fun r2 V1 => k9v V1 a0v y1 (y2 + 1) r2) th
set_option maxHeartbeats 4000000 in
set_option maxRecDepth 100000 in
theorem sX9_next_51 (n : Nat) {S0 : MS} {Q : Int32 → MS → Prop} {QX : String → MS → Prop} {k9 : MS → Nat → Int32 → Int32 → Int32 → Prop} {k9v : VS → Nat → Int32 → Int32 → Int32 → Rs Int32} (hk9 : ∀ (S : MS) (V : VS) (p0 p0v : Nat) (p1 : Int32) (p2 : Int32) (p3 : Int32), SM S V → Ex S0 S → Ad S p0 p0v → gd (k9v V p0v p1 p2 p3) (SQ Q S0) (SX QX S0) → k9 S p0 p1 p2 p3) {S : MS} {V : VS} {a0 a0v : Nat} {y1 : Int32} {y2 : Int32} (hS : SM S V) (hx : Ex S0 S) (h_a0 : Ad S a0 a0v) (hQ : gd (eX9_next_51 n k9v V a0v y1 y2) (SQ Q S0) (SX QX S0)) : wX9_next_51 Q QX k9 S a0 y1 y2 := by
  unfold wX9_next_51
  unfold eX9_next_51 at hQ
  refine sim_X9_step n hS h_a0 rfl rfl ?_
  refine gd_mono (gd_bd hQ) (fun r2 V1 hQ S1 hS1 xS => ?_) (fun E V9 hQ S9 hS9 xS9 => gd_th hQ S9 hS9 (Ex_tr hx xS9))
  have hx1 : Ex S0 S1 := Ex_tr hx xS
  have h1_a0 := xS _ _ h_a0
  exact hk9 _ _ _ _ _ _ _ hS1 hx1 h1_a0 hQ
def eX9_next_9 (n : Nat) (k9v : VS → Nat → Int32 → Int32 → Int32 → Rs Int32) (V : VS) (a0v : Nat) (y1 : Int32) (y2 : Int32) (y3 : Int32) : Rs Int32 := (if y3 < 0 then eX9_next_51 n k9v V a0v y1 y2 else (vR V a0v 17).bind (fun a1v => (if gvp_in y3 (vN V a1v) = true then (if (vI V a1v (y3 : Int32).toNatClampNeg) = 0 then eX9_next_51 n k9v V a0v y1 y2 else bd (ev_X9_isFree n V a0v y3) (fun r3 V2 => (if r3 = 0 then eX9_next_51 n k9v V2 a0v y1 y2 else (vR V2 a0v 17).bind (fun a4v => (if gvp_in y3 (vN V2 a4v) = true then bd (ev_X9_price n V2 a0v y3) (fun r6 V5 => (vR V5 a0v 17).bind (fun a7v => (if gvp_in y1 (vN V5 a7v) = true then (if ((vI V2 a4v (y3 : Int32).toNatClampNeg) + r6) = (vI V5 a7v (y1 : Int32).toNatClampNeg) then rt y3 V5 else eX9_next_51 n k9v V5 a0v y1 y2) else none))) th else none)))) th) else none)))
set_option maxHeartbeats 4000000 in
set_option maxRecDepth 100000 in
theorem sX9_next_9 (n : Nat) {S0 : MS} {Q : Int32 → MS → Prop} {QX : String → MS → Prop} {k9 : MS → Nat → Int32 → Int32 → Int32 → Prop} {k9v : VS → Nat → Int32 → Int32 → Int32 → Rs Int32} (hk9 : ∀ (S : MS) (V : VS) (p0 p0v : Nat) (p1 : Int32) (p2 : Int32) (p3 : Int32), SM S V → Ex S0 S → Ad S p0 p0v → gd (k9v V p0v p1 p2 p3) (SQ Q S0) (SX QX S0) → k9 S p0 p1 p2 p3) {S : MS} {V : VS} {a0 a0v : Nat} {y1 : Int32} {y2 : Int32} {y3 : Int32} (hS : SM S V) (hx : Ex S0 S) (h_a0 : Ad S a0 a0v) (hQ : gd (eX9_next_9 n k9v V a0v y1 y2 y3) (SQ Q S0) (SX QX S0)) : wX9_next_9 Q QX k9 S a0 y1 y2 y3 := by
  unfold wX9_next_9
  unfold eX9_next_9 at hQ
  refine st_if rfl hQ (fun hQ => ?_) (fun hQ => ?_)
  · exact sX9_next_51 n hk9 hS hx h_a0 hQ
  · refine st_rd hS h_a0 rfl hQ (fun a1 a1v h_a1 hQ => ?_)
    refine st_gd (fun h => by simp only [SM_N hS h_a1]; exact gvp_in_of h) hQ (fun hQ => ?_)
    refine st_if (show ((mI S a1 (y3 : Int32).toNatClampNeg) = 0) = ((vI V a1v (y3 : Int32).toNatClampNeg) = 0) from by simp only [SM_I hS h_a1]) hQ (fun hQ => ?_) (fun hQ => ?_)
    · exact sX9_next_51 n hk9 hS hx h_a0 hQ
    · refine sim_X9_isFree n hS h_a0 rfl ?_
      refine gd_mono (gd_bd hQ) (fun r3 V2 hQ S2 hS2 xS => ?_) (fun E V9 hQ S9 hS9 xS9 => gd_th hQ S9 hS9 (Ex_tr hx xS9))
      have hx2 : Ex S0 S2 := Ex_tr hx xS
      have h2_a0 := xS _ _ h_a0
      refine st_if rfl hQ (fun hQ => ?_) (fun hQ => ?_)
      · exact sX9_next_51 n hk9 hS2 hx2 h2_a0 hQ
      · refine st_rd hS2 h2_a0 rfl hQ (fun a4 a4v h2_a4 hQ => ?_)
        refine st_gd (fun h => by simp only [SM_N hS2 h2_a4]; exact gvp_in_of h) hQ (fun hQ => ?_)
        refine sim_X9_price n hS2 h2_a0 rfl ?_
        refine gd_mono (gd_bd hQ) (fun r6 V5 hQ S5 hS5 xS => ?_) (fun E V9 hQ S9 hS9 xS9 => gd_th hQ S9 hS9 (Ex_tr hx2 xS9))
        have hx5 : Ex S0 S5 := Ex_tr hx2 xS
        have h5_a0 := xS _ _ h2_a0
        have h5_a4 := xS _ _ h2_a4
        refine st_rd hS5 h5_a0 rfl hQ (fun a7 a7v h5_a7 hQ => ?_)
        refine st_gd (fun h => by simp only [SM_N hS5 h5_a7]; exact gvp_in_of h) hQ (fun hQ => ?_)
        refine st_if (show (((mI S2 a4 (y3 : Int32).toNatClampNeg) + r6) = (mI S5 a7 (y1 : Int32).toNatClampNeg)) = (((vI V2 a4v (y3 : Int32).toNatClampNeg) + r6) = (vI V5 a7v (y1 : Int32).toNatClampNeg)) from by simp only [SM_I hS2 h2_a4, SM_I hS5 h5_a7]) hQ (fun hQ => ?_) (fun hQ => ?_)
        · exact gd_rt hQ _ hS5 hx5
        · exact sX9_next_51 n hk9 hS5 hx5 h5_a0 hQ
def elX9_next_9 (n : Nat) : Nat → VS → Nat → Int32 → Int32 → Int32 → Rs Int32
  | 0 => fun _ _ _ _ _ => none
  | m + 1 => fun V a0v y1 y2 y3 => eX9_next_9 n (elX9_next_9 n m) V a0v y1 y2 y3
theorem selX9_next_9 (n : Nat) {S0 : MS} {Q : Int32 → MS → Prop} {QX : String → MS → Prop} : ∀ (m : Nat), ∀ (S : MS) (V : VS) (p0 p0v : Nat) (p1 : Int32) (p2 : Int32) (p3 : Int32), SM S V → Ex S0 S → Ad S p0 p0v → gd (elX9_next_9 n m V p0v p1 p2 p3) (SQ Q S0) (SX QX S0) → lX9_next_9 Q QX m S p0 p1 p2 p3 := by
  intro m
  induction m with
  | zero => intro S V p0 p0v p1 p2 p3 hS hx q0 hQ; exact (gd_none hQ).elim
  | succ m ih => intro S V p0 p0v p1 p2 p3 hS hx q0 hQ; exact sX9_next_9 n ih hS hx q0 hQ
def eX9_next_0 (n : Nat) (V : VS) (a0v : Nat) (x1 : Int32) : Rs Int32 := bd (ev_X9_step n V a0v x1 0) (fun r2 V1 => elX9_next_9 n n V1 a0v x1 0 r2) th
set_option maxHeartbeats 4000000 in
set_option maxRecDepth 100000 in
theorem sX9_next_0 (n : Nat) {S0 : MS} {Q : Int32 → MS → Prop} {QX : String → MS → Prop} {S : MS} {V : VS} {a0 a0v : Nat} {x1 : Int32} (hS : SM S V) (hx : Ex S0 S) (h_a0 : Ad S a0 a0v) (hQ : gd (eX9_next_0 n V a0v x1) (SQ Q S0) (SX QX S0)) : wX9_next_0 Q QX S a0 x1 := by
  unfold wX9_next_0
  unfold eX9_next_0 at hQ
  refine sim_X9_step n hS h_a0 rfl rfl ?_
  refine gd_mono (gd_bd hQ) (fun r2 V1 hQ S1 hS1 xS => ?_) (fun E V9 hQ S9 hS9 xS9 => gd_th hQ S9 hS9 (Ex_tr hx xS9))
  have hx1 : Ex S0 S1 := Ex_tr hx xS
  have h1_a0 := xS _ _ h_a0
  refine ⟨n, ?_⟩
  exact selX9_next_9 n n _ _ _ _ _ _ _ hS1 hx1 h1_a0 hQ
def ev_X9_next (n : Nat) (V : VS) (a0v : Nat) (x1 : Int32) : Rs Int32 := eX9_next_0 n V a0v x1
theorem sim_X9_next (n : Nat) {Q : Int32 → MS → Prop} {QX : String → MS → Prop} {S : MS} {V : VS} {a0 a0v : Nat} {x1 x1z : Int32} (hS : SM S V) (h_a0 : Ad S a0 a0v) (e_x1 : x1 = x1z) (hQ : gd (ev_X9_next n V a0v x1z) (SQ Q S) (SX QX S)) : wp_X9_next Q QX S a0 x1 := by
  subst e_x1
  exact sX9_next_0 n hS Ex_rf h_a0 hQ
def eX9_mayAsk_22 (n : Nat) (V : VS) (a0v : Nat) (z0 : Int32) (w1v : Nat) : Rs Int32 := sq (wI V w1v 0 z0) (fun V1 => (if (vI V1 a0v 0) = 0 then rt 1 V1 else rt 0 V1))
set_option maxHeartbeats 4000000 in
set_option maxRecDepth 100000 in
theorem sX9_mayAsk_22 (n : Nat) {S0 : MS} {Q : Int32 → MS → Prop} {QX : String → MS → Prop} {S : MS} {V : VS} {a0 a0v : Nat} {z0 : Int32} {w1 w1v : Nat} (hS : SM S V) (hx : Ex S0 S) (h_a0 : Ad S a0 a0v) (h_w1 : Ad S w1 w1v) (hQ : gd (eX9_mayAsk_22 n V a0v z0 w1v) (SQ Q S0) (SX QX S0)) : wX9_mayAsk_22 Q QX S a0 z0 w1 := by
  unfold wX9_mayAsk_22
  unfold eX9_mayAsk_22 at hQ
  intro S1 eS
  obtain ⟨V1, hS1, xS, hQ⟩ := st_sI hS h_w1 eS rfl rfl hQ
  have hx1 : Ex S0 S1 := Ex_tr hx xS
  have h1_a0 := xS _ _ h_a0
  refine st_ifn (show ((mI S1 a0 0) = 0) = ((vI V1 a0v 0) = 0) from by simp only [SM_I hS1 h1_a0]) hQ (fun hQ => ?_) (fun hQ => ?_)
  · exact gd_rt hQ _ hS1 hx1
  · exact gd_rt hQ _ hS1 hx1
def eX9_mayAsk_0 (n : Nat) (V : VS) (a0v : Nat) (x1 : Int32) : Rs Int32 := (if x1 = 0 then eX9_mayAsk_22 n V a0v 1 a0v else bd (ev_X9_conditions n V a0v) (fun r2 V1 => (if r2 = 1 then eX9_mayAsk_22 n V1 a0v 0 a0v else eX9_mayAsk_22 n V1 a0v 2 a0v)) th)
set_option maxHeartbeats 4000000 in
set_option maxRecDepth 100000 in
theorem sX9_mayAsk_0 (n : Nat) {S0 : MS} {Q : Int32 → MS → Prop} {QX : String → MS → Prop} {S : MS} {V : VS} {a0 a0v : Nat} {x1 : Int32} (hS : SM S V) (hx : Ex S0 S) (h_a0 : Ad S a0 a0v) (hQ : gd (eX9_mayAsk_0 n V a0v x1) (SQ Q S0) (SX QX S0)) : wX9_mayAsk_0 Q QX S a0 x1 := by
  unfold wX9_mayAsk_0
  unfold eX9_mayAsk_0 at hQ
  refine st_ifn rfl hQ (fun hQ => ?_) (fun hQ => ?_)
  · refine sim_X9_conditions n hS h_a0 ?_
    refine gd_mono (gd_bd hQ) (fun r2 V1 hQ S1 hS1 xS => ?_) (fun E V9 hQ S9 hS9 xS9 => gd_th hQ S9 hS9 (Ex_tr hx xS9))
    have hx1 : Ex S0 S1 := Ex_tr hx xS
    have h1_a0 := xS _ _ h_a0
    refine st_if rfl hQ (fun hQ => ?_) (fun hQ => ?_)
    · exact sX9_mayAsk_22 n hS1 hx1 h1_a0 h1_a0 hQ
    · exact sX9_mayAsk_22 n hS1 hx1 h1_a0 h1_a0 hQ
  · exact sX9_mayAsk_22 n hS hx h_a0 h_a0 hQ
def ev_X9_mayAsk (n : Nat) (V : VS) (a0v : Nat) (x1 : Int32) : Rs Int32 := eX9_mayAsk_0 n V a0v x1
theorem sim_X9_mayAsk (n : Nat) {Q : Int32 → MS → Prop} {QX : String → MS → Prop} {S : MS} {V : VS} {a0 a0v : Nat} {x1 x1z : Int32} (hS : SM S V) (h_a0 : Ad S a0 a0v) (e_x1 : x1 = x1z) (hQ : gd (ev_X9_mayAsk n V a0v x1z) (SQ Q S) (SX QX S)) : wp_X9_mayAsk Q QX S a0 x1 := by
  subst e_x1
  exact sX9_mayAsk_0 n hS Ex_rf h_a0 hQ
def eX9_costs_0 (n : Nat) (V : VS) (a0v : Nat) (x1 : Int32) : Rs Int32 := bd (ev_X9_isCell n V a0v x1) (fun r2 V1 => bd (ev_X9_mayAsk n V1 a0v r2) (fun r4 V3 => (if r4 = 0 then rt 0 V3 else bd (ev_X9_costsTo n V3 a0v x1) (fun r6 V5 => (if 0 ≤ r6 then rt r6 V5 else bd (ev_X9_no n V5 a0v 3) (fun r8 V7 => rt r8 V7) th)) th)) th) th
set_option maxHeartbeats 4000000 in
set_option maxRecDepth 100000 in
theorem sX9_costs_0 (n : Nat) {S0 : MS} {Q : Int32 → MS → Prop} {QX : String → MS → Prop} {S : MS} {V : VS} {a0 a0v : Nat} {x1 : Int32} (hS : SM S V) (hx : Ex S0 S) (h_a0 : Ad S a0 a0v) (hQ : gd (eX9_costs_0 n V a0v x1) (SQ Q S0) (SX QX S0)) : wX9_costs_0 Q QX S a0 x1 := by
  unfold wX9_costs_0
  unfold eX9_costs_0 at hQ
  refine sim_X9_isCell n hS h_a0 rfl ?_
  refine gd_mono (gd_bd hQ) (fun r2 V1 hQ S1 hS1 xS => ?_) (fun E V9 hQ S9 hS9 xS9 => gd_th hQ S9 hS9 (Ex_tr hx xS9))
  have hx1 : Ex S0 S1 := Ex_tr hx xS
  have h1_a0 := xS _ _ h_a0
  refine sim_X9_mayAsk n hS1 h1_a0 rfl ?_
  refine gd_mono (gd_bd hQ) (fun r4 V3 hQ S3 hS3 xS => ?_) (fun E V9 hQ S9 hS9 xS9 => gd_th hQ S9 hS9 (Ex_tr hx1 xS9))
  have hx3 : Ex S0 S3 := Ex_tr hx1 xS
  have h3_a0 := xS _ _ h1_a0
  refine st_ifn rfl hQ (fun hQ => ?_) (fun hQ => ?_)
  · refine sim_X9_costsTo n hS3 h3_a0 rfl ?_
    refine gd_mono (gd_bd hQ) (fun r6 V5 hQ S5 hS5 xS => ?_) (fun E V9 hQ S9 hS9 xS9 => gd_th hQ S9 hS9 (Ex_tr hx3 xS9))
    have hx5 : Ex S0 S5 := Ex_tr hx3 xS
    have h5_a0 := xS _ _ h3_a0
    refine st_if rfl hQ (fun hQ => ?_) (fun hQ => ?_)
    · exact gd_rt hQ _ hS5 hx5
    · refine sim_X9_no n hS5 h5_a0 rfl ?_
      refine gd_mono (gd_bd hQ) (fun r8 V7 hQ S7 hS7 xS => ?_) (fun E V9 hQ S9 hS9 xS9 => gd_th hQ S9 hS9 (Ex_tr hx5 xS9))
      have hx7 : Ex S0 S7 := Ex_tr hx5 xS
      exact gd_rt hQ _ hS7 hx7
  · exact gd_rt hQ _ hS3 hx3
def ev_X9_costs (n : Nat) (V : VS) (a0v : Nat) (x1 : Int32) : Rs Int32 := eX9_costs_0 n V a0v x1
theorem sim_X9_costs (n : Nat) {Q : Int32 → MS → Prop} {QX : String → MS → Prop} {S : MS} {V : VS} {a0 a0v : Nat} {x1 x1z : Int32} (hS : SM S V) (h_a0 : Ad S a0 a0v) (e_x1 : x1 = x1z) (hQ : gd (ev_X9_costs n V a0v x1z) (SQ Q S) (SX QX S)) : wp_X9_costs Q QX S a0 x1 := by
  subst e_x1
  exact sX9_costs_0 n hS Ex_rf h_a0 hQ
def eX9_pathCell_26 (n : Nat) (V : VS) (a0v : Nat) : Rs Int32 := bd (ev_X9_no n V a0v 3) (fun r2 V1 => rt r2 V1) th
set_option maxHeartbeats 4000000 in
set_option maxRecDepth 100000 in
theorem sX9_pathCell_26 (n : Nat) {S0 : MS} {Q : Int32 → MS → Prop} {QX : String → MS → Prop} {S : MS} {V : VS} {a0 a0v : Nat} (hS : SM S V) (hx : Ex S0 S) (h_a0 : Ad S a0 a0v) (hQ : gd (eX9_pathCell_26 n V a0v) (SQ Q S0) (SX QX S0)) : wX9_pathCell_26 Q QX S a0 := by
  unfold wX9_pathCell_26
  unfold eX9_pathCell_26 at hQ
  refine sim_X9_no n hS h_a0 rfl ?_
  refine gd_mono (gd_bd hQ) (fun r2 V1 hQ S1 hS1 xS => ?_) (fun E V9 hQ S9 hS9 xS9 => gd_th hQ S9 hS9 (Ex_tr hx xS9))
  have hx1 : Ex S0 S1 := Ex_tr hx xS
  exact gd_rt hQ _ hS1 hx1
def eX9_pathCell_49 (n : Nat) (k49v : VS → Nat → Int32 → Int32 → Int32 → Int32 → Rs Int32) (V : VS) (a0v : Nat) (y1 : Int32) (y2 : Int32) (y3 : Int32) (y4 : Int32) : Rs Int32 := (if y2 < y4 then rt y3 V else (if y3 = y1 then bd (ev_X9_no n V a0v 3) (fun r4 V3 => rt r4 V3) th else bd (ev_X9_next n V a0v y3) (fun r2 V1 => k49v V1 a0v y1 y2 r2 (y4 + 1)) th))
set_option maxHeartbeats 4000000 in
set_option maxRecDepth 100000 in
theorem sX9_pathCell_49 (n : Nat) {S0 : MS} {Q : Int32 → MS → Prop} {QX : String → MS → Prop} {k49 : MS → Nat → Int32 → Int32 → Int32 → Int32 → Prop} {k49v : VS → Nat → Int32 → Int32 → Int32 → Int32 → Rs Int32} (hk49 : ∀ (S : MS) (V : VS) (p0 p0v : Nat) (p1 : Int32) (p2 : Int32) (p3 : Int32) (p4 : Int32), SM S V → Ex S0 S → Ad S p0 p0v → gd (k49v V p0v p1 p2 p3 p4) (SQ Q S0) (SX QX S0) → k49 S p0 p1 p2 p3 p4) {S : MS} {V : VS} {a0 a0v : Nat} {y1 : Int32} {y2 : Int32} {y3 : Int32} {y4 : Int32} (hS : SM S V) (hx : Ex S0 S) (h_a0 : Ad S a0 a0v) (hQ : gd (eX9_pathCell_49 n k49v V a0v y1 y2 y3 y4) (SQ Q S0) (SX QX S0)) : wX9_pathCell_49 Q QX k49 S a0 y1 y2 y3 y4 := by
  unfold wX9_pathCell_49
  unfold eX9_pathCell_49 at hQ
  refine st_if rfl hQ (fun hQ => ?_) (fun hQ => ?_)
  · exact gd_rt hQ _ hS hx
  · refine st_ifn rfl hQ (fun hQ => ?_) (fun hQ => ?_)
    · refine sim_X9_next n hS h_a0 rfl ?_
      refine gd_mono (gd_bd hQ) (fun r2 V1 hQ S1 hS1 xS => ?_) (fun E V9 hQ S9 hS9 xS9 => gd_th hQ S9 hS9 (Ex_tr hx xS9))
      have hx1 : Ex S0 S1 := Ex_tr hx xS
      have h1_a0 := xS _ _ h_a0
      exact hk49 _ _ _ _ _ _ _ _ hS1 hx1 h1_a0 hQ
    · refine sim_X9_no n hS h_a0 rfl ?_
      refine gd_mono (gd_bd hQ) (fun r4 V3 hQ S3 hS3 xS => ?_) (fun E V9 hQ S9 hS9 xS9 => gd_th hQ S9 hS9 (Ex_tr hx xS9))
      have hx3 : Ex S0 S3 := Ex_tr hx xS
      exact gd_rt hQ _ hS3 hx3
def elX9_pathCell_49 (n : Nat) : Nat → VS → Nat → Int32 → Int32 → Int32 → Int32 → Rs Int32
  | 0 => fun _ _ _ _ _ _ => none
  | m + 1 => fun V a0v y1 y2 y3 y4 => eX9_pathCell_49 n (elX9_pathCell_49 n m) V a0v y1 y2 y3 y4
theorem selX9_pathCell_49 (n : Nat) {S0 : MS} {Q : Int32 → MS → Prop} {QX : String → MS → Prop} : ∀ (m : Nat), ∀ (S : MS) (V : VS) (p0 p0v : Nat) (p1 : Int32) (p2 : Int32) (p3 : Int32) (p4 : Int32), SM S V → Ex S0 S → Ad S p0 p0v → gd (elX9_pathCell_49 n m V p0v p1 p2 p3 p4) (SQ Q S0) (SX QX S0) → lX9_pathCell_49 Q QX m S p0 p1 p2 p3 p4 := by
  intro m
  induction m with
  | zero => intro S V p0 p0v p1 p2 p3 p4 hS hx q0 hQ; exact (gd_none hQ).elim
  | succ m ih => intro S V p0 p0v p1 p2 p3 p4 hS hx q0 hQ; exact sX9_pathCell_49 n ih hS hx q0 hQ
def eX9_pathCell_0 (n : Nat) (V : VS) (a0v : Nat) (x1 : Int32) (x2 : Int32) : Rs Int32 := bd (ev_X9_isCell n V a0v x1) (fun r2 V1 => bd (ev_X9_mayAsk n V1 a0v r2) (fun r4 V3 => (if r4 = 0 then rt 0 V3 else bd (ev_X9_costsTo n V3 a0v x1) (fun r6 V5 => (if r6 ≤ 0 then eX9_pathCell_26 n V5 a0v else (if 0 ≤ x2 then (vR V5 a0v 1).bind (fun a7v => (if gvp_in 166 (vN V5 a7v) = true then bd (ev_X9_of n V5 a0v (vI V5 a7v (166 : Int32).toNatClampNeg) 2) (fun r9 V8 => elX9_pathCell_49 n n V8 a0v x1 x2 r9 0) th else none)) else eX9_pathCell_26 n V5 a0v))) th)) th) th
set_option maxHeartbeats 4000000 in
set_option maxRecDepth 100000 in
theorem sX9_pathCell_0 (n : Nat) {S0 : MS} {Q : Int32 → MS → Prop} {QX : String → MS → Prop} {S : MS} {V : VS} {a0 a0v : Nat} {x1 : Int32} {x2 : Int32} (hS : SM S V) (hx : Ex S0 S) (h_a0 : Ad S a0 a0v) (hQ : gd (eX9_pathCell_0 n V a0v x1 x2) (SQ Q S0) (SX QX S0)) : wX9_pathCell_0 Q QX S a0 x1 x2 := by
  unfold wX9_pathCell_0
  unfold eX9_pathCell_0 at hQ
  refine sim_X9_isCell n hS h_a0 rfl ?_
  refine gd_mono (gd_bd hQ) (fun r2 V1 hQ S1 hS1 xS => ?_) (fun E V9 hQ S9 hS9 xS9 => gd_th hQ S9 hS9 (Ex_tr hx xS9))
  have hx1 : Ex S0 S1 := Ex_tr hx xS
  have h1_a0 := xS _ _ h_a0
  refine sim_X9_mayAsk n hS1 h1_a0 rfl ?_
  refine gd_mono (gd_bd hQ) (fun r4 V3 hQ S3 hS3 xS => ?_) (fun E V9 hQ S9 hS9 xS9 => gd_th hQ S9 hS9 (Ex_tr hx1 xS9))
  have hx3 : Ex S0 S3 := Ex_tr hx1 xS
  have h3_a0 := xS _ _ h1_a0
  refine st_ifn rfl hQ (fun hQ => ?_) (fun hQ => ?_)
  · refine sim_X9_costsTo n hS3 h3_a0 rfl ?_
    refine gd_mono (gd_bd hQ) (fun r6 V5 hQ S5 hS5 xS => ?_) (fun E V9 hQ S9 hS9 xS9 => gd_th hQ S9 hS9 (Ex_tr hx3 xS9))
    have hx5 : Ex S0 S5 := Ex_tr hx3 xS
    have h5_a0 := xS _ _ h3_a0
    refine st_if rfl hQ (fun hQ => ?_) (fun hQ => ?_)
    · exact sX9_pathCell_26 n hS5 hx5 h5_a0 hQ
    · refine st_if rfl hQ (fun hQ => ?_) (fun hQ => ?_)
      · refine st_rd hS5 h5_a0 rfl hQ (fun a7 a7v h5_a7 hQ => ?_)
        refine st_gd (fun h => by simp only [SM_N hS5 h5_a7]; exact gvp_in_of h) hQ (fun hQ => ?_)
        refine sim_X9_of n hS5 h5_a0 (show ((mI S5 a7 (166 : Int32).toNatClampNeg)) = ((vI V5 a7v (166 : Int32).toNatClampNeg)) from by simp only [SM_I hS5 h5_a7]) rfl ?_
        refine gd_mono (gd_bd hQ) (fun r9 V8 hQ S8 hS8 xS => ?_) (fun E V9 hQ S9 hS9 xS9 => gd_th hQ S9 hS9 (Ex_tr hx5 xS9))
        have hx8 : Ex S0 S8 := Ex_tr hx5 xS
        have h8_a0 := xS _ _ h5_a0
        refine ⟨n, ?_⟩
        exact selX9_pathCell_49 n n _ _ _ _ _ _ _ _ hS8 hx8 h8_a0 hQ
      · exact sX9_pathCell_26 n hS5 hx5 h5_a0 hQ
  · exact gd_rt hQ _ hS3 hx3
def ev_X9_pathCell (n : Nat) (V : VS) (a0v : Nat) (x1 : Int32) (x2 : Int32) : Rs Int32 := eX9_pathCell_0 n V a0v x1 x2
theorem sim_X9_pathCell (n : Nat) {Q : Int32 → MS → Prop} {QX : String → MS → Prop} {S : MS} {V : VS} {a0 a0v : Nat} {x1 x1z : Int32} {x2 x2z : Int32} (hS : SM S V) (h_a0 : Ad S a0 a0v) (e_x1 : x1 = x1z) (e_x2 : x2 = x2z) (hQ : gd (ev_X9_pathCell n V a0v x1z x2z) (SQ Q S) (SX QX S)) : wp_X9_pathCell Q QX S a0 x1 x2 := by
  subst e_x1 e_x2
  exact sX9_pathCell_0 n hS Ex_rf h_a0 hQ
def eX9_canAttack_0 (n : Nat) (V : VS) (a0v : Nat) (x1 : Int32) (x2 : Int32) : Rs Int32 := bd (ev_X9_lives n V a0v x1) (fun r2 V1 => (if r2 = 0 then rt 0 V1 else bd (ev_X9_lives n V1 a0v x2) (fun r4 V3 => (if r4 = 0 then rt 0 V3 else bd (ev_X9_of n V3 a0v x1 0) (fun r6 V5 => bd (ev_X9_of n V5 a0v x2 0) (fun r8 V7 => (if r6 = r8 then rt 0 V7 else bd (ev_X9_of n V7 a0v x1 2) (fun r10 V9 => bd (ev_X9_of n V9 a0v x2 2) (fun r12 V11 => bd (ev_X9_apart n V11 a0v r10 r12) (fun r14 V13 => bd (ev_X9_kindly n V13 a0v x1 3) (fun r16 V15 => (if r16 < r14 then rt 0 V15 else bd (ev_X9_of n V15 a0v x1 2) (fun r18 V17 => bd (ev_X9_of n V17 a0v x2 2) (fun r20 V19 => bd (ev_X9_sees n V19 a0v r18 r20) (fun r22 V21 => (if r22 = 0 then rt 0 V21 else rt 1 V21)) th) th) th)) th) th) th) th)) th) th)) th)) th
set_option maxHeartbeats 4000000 in
set_option maxRecDepth 100000 in
theorem sX9_canAttack_0 (n : Nat) {S0 : MS} {Q : Int32 → MS → Prop} {QX : String → MS → Prop} {S : MS} {V : VS} {a0 a0v : Nat} {x1 : Int32} {x2 : Int32} (hS : SM S V) (hx : Ex S0 S) (h_a0 : Ad S a0 a0v) (hQ : gd (eX9_canAttack_0 n V a0v x1 x2) (SQ Q S0) (SX QX S0)) : wX9_canAttack_0 Q QX S a0 x1 x2 := by
  unfold wX9_canAttack_0
  unfold eX9_canAttack_0 at hQ
  refine sim_X9_lives n hS h_a0 rfl ?_
  refine gd_mono (gd_bd hQ) (fun r2 V1 hQ S1 hS1 xS => ?_) (fun E V9 hQ S9 hS9 xS9 => gd_th hQ S9 hS9 (Ex_tr hx xS9))
  have hx1 : Ex S0 S1 := Ex_tr hx xS
  have h1_a0 := xS _ _ h_a0
  refine st_if rfl hQ (fun hQ => ?_) (fun hQ => ?_)
  · exact gd_rt hQ _ hS1 hx1
  · refine sim_X9_lives n hS1 h1_a0 rfl ?_
    refine gd_mono (gd_bd hQ) (fun r4 V3 hQ S3 hS3 xS => ?_) (fun E V9 hQ S9 hS9 xS9 => gd_th hQ S9 hS9 (Ex_tr hx1 xS9))
    have hx3 : Ex S0 S3 := Ex_tr hx1 xS
    have h3_a0 := xS _ _ h1_a0
    refine st_if rfl hQ (fun hQ => ?_) (fun hQ => ?_)
    · exact gd_rt hQ _ hS3 hx3
    · refine sim_X9_of n hS3 h3_a0 rfl rfl ?_
      refine gd_mono (gd_bd hQ) (fun r6 V5 hQ S5 hS5 xS => ?_) (fun E V9 hQ S9 hS9 xS9 => gd_th hQ S9 hS9 (Ex_tr hx3 xS9))
      have hx5 : Ex S0 S5 := Ex_tr hx3 xS
      have h5_a0 := xS _ _ h3_a0
      refine sim_X9_of n hS5 h5_a0 rfl rfl ?_
      refine gd_mono (gd_bd hQ) (fun r8 V7 hQ S7 hS7 xS => ?_) (fun E V9 hQ S9 hS9 xS9 => gd_th hQ S9 hS9 (Ex_tr hx5 xS9))
      have hx7 : Ex S0 S7 := Ex_tr hx5 xS
      have h7_a0 := xS _ _ h5_a0
      refine st_if rfl hQ (fun hQ => ?_) (fun hQ => ?_)
      · exact gd_rt hQ _ hS7 hx7
      · refine sim_X9_of n hS7 h7_a0 rfl rfl ?_
        refine gd_mono (gd_bd hQ) (fun r10 V9 hQ S9 hS9 xS => ?_) (fun E V9 hQ S9 hS9 xS9 => gd_th hQ S9 hS9 (Ex_tr hx7 xS9))
        have hx9 : Ex S0 S9 := Ex_tr hx7 xS
        have h9_a0 := xS _ _ h7_a0
        refine sim_X9_of n hS9 h9_a0 rfl rfl ?_
        refine gd_mono (gd_bd hQ) (fun r12 V11 hQ S11 hS11 xS => ?_) (fun E V9 hQ S9 hS9 xS9 => gd_th hQ S9 hS9 (Ex_tr hx9 xS9))
        have hx11 : Ex S0 S11 := Ex_tr hx9 xS
        have h11_a0 := xS _ _ h9_a0
        refine sim_X9_apart n hS11 h11_a0 rfl rfl ?_
        refine gd_mono (gd_bd hQ) (fun r14 V13 hQ S13 hS13 xS => ?_) (fun E V9 hQ S9 hS9 xS9 => gd_th hQ S9 hS9 (Ex_tr hx11 xS9))
        have hx13 : Ex S0 S13 := Ex_tr hx11 xS
        have h13_a0 := xS _ _ h11_a0
        refine sim_X9_kindly n hS13 h13_a0 rfl rfl ?_
        refine gd_mono (gd_bd hQ) (fun r16 V15 hQ S15 hS15 xS => ?_) (fun E V9 hQ S9 hS9 xS9 => gd_th hQ S9 hS9 (Ex_tr hx13 xS9))
        have hx15 : Ex S0 S15 := Ex_tr hx13 xS
        have h15_a0 := xS _ _ h13_a0
        refine st_if rfl hQ (fun hQ => ?_) (fun hQ => ?_)
        · exact gd_rt hQ _ hS15 hx15
        · refine sim_X9_of n hS15 h15_a0 rfl rfl ?_
          refine gd_mono (gd_bd hQ) (fun r18 V17 hQ S17 hS17 xS => ?_) (fun E V9 hQ S9 hS9 xS9 => gd_th hQ S9 hS9 (Ex_tr hx15 xS9))
          have hx17 : Ex S0 S17 := Ex_tr hx15 xS
          have h17_a0 := xS _ _ h15_a0
          refine sim_X9_of n hS17 h17_a0 rfl rfl ?_
          refine gd_mono (gd_bd hQ) (fun r20 V19 hQ S19 hS19 xS => ?_) (fun E V9 hQ S9 hS9 xS9 => gd_th hQ S9 hS9 (Ex_tr hx17 xS9))
          have hx19 : Ex S0 S19 := Ex_tr hx17 xS
          have h19_a0 := xS _ _ h17_a0
          refine sim_X9_sees n hS19 h19_a0 rfl rfl ?_
          refine gd_mono (gd_bd hQ) (fun r22 V21 hQ S21 hS21 xS => ?_) (fun E V9 hQ S9 hS9 xS9 => gd_th hQ S9 hS9 (Ex_tr hx19 xS9))
          have hx21 : Ex S0 S21 := Ex_tr hx19 xS
          refine st_if rfl hQ (fun hQ => ?_) (fun hQ => ?_)
          · exact gd_rt hQ _ hS21 hx21
          · exact gd_rt hQ _ hS21 hx21
def ev_X9_canAttack (n : Nat) (V : VS) (a0v : Nat) (x1 : Int32) (x2 : Int32) : Rs Int32 := eX9_canAttack_0 n V a0v x1 x2
theorem sim_X9_canAttack (n : Nat) {Q : Int32 → MS → Prop} {QX : String → MS → Prop} {S : MS} {V : VS} {a0 a0v : Nat} {x1 x1z : Int32} {x2 x2z : Int32} (hS : SM S V) (h_a0 : Ad S a0 a0v) (e_x1 : x1 = x1z) (e_x2 : x2 = x2z) (hQ : gd (ev_X9_canAttack n V a0v x1z x2z) (SQ Q S) (SX QX S)) : wp_X9_canAttack Q QX S a0 x1 x2 := by
  subst e_x1 e_x2
  exact sX9_canAttack_0 n hS Ex_rf h_a0 hQ
def eX9_hits_0 (n : Nat) (V : VS) (a0v : Nat) (x1 : Int32) (x2 : Int32) (x3 : Int32) : Rs Int32 := bd (ev_X9_of n V a0v x1 2) (fun r2 V1 => bd (ev_X9_of n V1 a0v x2 2) (fun r4 V3 => bd (ev_X9_apart n V3 a0v r2 r4) (fun r6 V5 => bd (ev_X9_of n V5 a0v x2 2) (fun r8 V7 => bd (ev_X9_of n V7 a0v x1 2) (fun r10 V9 => bd (ev_X9_covers n V9 a0v r8 r10) (fun r12 V11 => bd (ev_X9_of n V11 a0v x2 9) (fun r14 V13 => (if x3 = 20 then rt 1 V13 else (if x3 ≤ 1 then rt 0 V13 else bd (ev_X9_kindly n V13 a0v x1 2) (fun r16 V15 => (if (x3 + r16) < (((8 + r6) + (3 * r12)) + (2 * r14)) then rt 0 V15 else rt 1 V15)) th))) th) th) th) th) th) th) th
set_option maxHeartbeats 4000000 in
set_option maxRecDepth 100000 in
theorem sX9_hits_0 (n : Nat) {S0 : MS} {Q : Int32 → MS → Prop} {QX : String → MS → Prop} {S : MS} {V : VS} {a0 a0v : Nat} {x1 : Int32} {x2 : Int32} {x3 : Int32} (hS : SM S V) (hx : Ex S0 S) (h_a0 : Ad S a0 a0v) (hQ : gd (eX9_hits_0 n V a0v x1 x2 x3) (SQ Q S0) (SX QX S0)) : wX9_hits_0 Q QX S a0 x1 x2 x3 := by
  unfold wX9_hits_0
  unfold eX9_hits_0 at hQ
  refine sim_X9_of n hS h_a0 rfl rfl ?_
  refine gd_mono (gd_bd hQ) (fun r2 V1 hQ S1 hS1 xS => ?_) (fun E V9 hQ S9 hS9 xS9 => gd_th hQ S9 hS9 (Ex_tr hx xS9))
  have hx1 : Ex S0 S1 := Ex_tr hx xS
  have h1_a0 := xS _ _ h_a0
  refine sim_X9_of n hS1 h1_a0 rfl rfl ?_
  refine gd_mono (gd_bd hQ) (fun r4 V3 hQ S3 hS3 xS => ?_) (fun E V9 hQ S9 hS9 xS9 => gd_th hQ S9 hS9 (Ex_tr hx1 xS9))
  have hx3 : Ex S0 S3 := Ex_tr hx1 xS
  have h3_a0 := xS _ _ h1_a0
  refine sim_X9_apart n hS3 h3_a0 rfl rfl ?_
  refine gd_mono (gd_bd hQ) (fun r6 V5 hQ S5 hS5 xS => ?_) (fun E V9 hQ S9 hS9 xS9 => gd_th hQ S9 hS9 (Ex_tr hx3 xS9))
  have hx5 : Ex S0 S5 := Ex_tr hx3 xS
  have h5_a0 := xS _ _ h3_a0
  refine sim_X9_of n hS5 h5_a0 rfl rfl ?_
  refine gd_mono (gd_bd hQ) (fun r8 V7 hQ S7 hS7 xS => ?_) (fun E V9 hQ S9 hS9 xS9 => gd_th hQ S9 hS9 (Ex_tr hx5 xS9))
  have hx7 : Ex S0 S7 := Ex_tr hx5 xS
  have h7_a0 := xS _ _ h5_a0
  refine sim_X9_of n hS7 h7_a0 rfl rfl ?_
  refine gd_mono (gd_bd hQ) (fun r10 V9 hQ S9 hS9 xS => ?_) (fun E V9 hQ S9 hS9 xS9 => gd_th hQ S9 hS9 (Ex_tr hx7 xS9))
  have hx9 : Ex S0 S9 := Ex_tr hx7 xS
  have h9_a0 := xS _ _ h7_a0
  refine sim_X9_covers n hS9 h9_a0 rfl rfl ?_
  refine gd_mono (gd_bd hQ) (fun r12 V11 hQ S11 hS11 xS => ?_) (fun E V9 hQ S9 hS9 xS9 => gd_th hQ S9 hS9 (Ex_tr hx9 xS9))
  have hx11 : Ex S0 S11 := Ex_tr hx9 xS
  have h11_a0 := xS _ _ h9_a0
  refine sim_X9_of n hS11 h11_a0 rfl rfl ?_
  refine gd_mono (gd_bd hQ) (fun r14 V13 hQ S13 hS13 xS => ?_) (fun E V9 hQ S9 hS9 xS9 => gd_th hQ S9 hS9 (Ex_tr hx11 xS9))
  have hx13 : Ex S0 S13 := Ex_tr hx11 xS
  have h13_a0 := xS _ _ h11_a0
  refine st_if rfl hQ (fun hQ => ?_) (fun hQ => ?_)
  · exact gd_rt hQ _ hS13 hx13
  · refine st_if rfl hQ (fun hQ => ?_) (fun hQ => ?_)
    · exact gd_rt hQ _ hS13 hx13
    · refine sim_X9_kindly n hS13 h13_a0 rfl rfl ?_
      refine gd_mono (gd_bd hQ) (fun r16 V15 hQ S15 hS15 xS => ?_) (fun E V9 hQ S9 hS9 xS9 => gd_th hQ S9 hS9 (Ex_tr hx13 xS9))
      have hx15 : Ex S0 S15 := Ex_tr hx13 xS
      refine st_if rfl hQ (fun hQ => ?_) (fun hQ => ?_)
      · exact gd_rt hQ _ hS15 hx15
      · exact gd_rt hQ _ hS15 hx15
def ev_X9_hits (n : Nat) (V : VS) (a0v : Nat) (x1 : Int32) (x2 : Int32) (x3 : Int32) : Rs Int32 := eX9_hits_0 n V a0v x1 x2 x3
theorem sim_X9_hits (n : Nat) {Q : Int32 → MS → Prop} {QX : String → MS → Prop} {S : MS} {V : VS} {a0 a0v : Nat} {x1 x1z : Int32} {x2 x2z : Int32} {x3 x3z : Int32} (hS : SM S V) (h_a0 : Ad S a0 a0v) (e_x1 : x1 = x1z) (e_x2 : x2 = x2z) (e_x3 : x3 = x3z) (hQ : gd (ev_X9_hits n V a0v x1z x2z x3z) (SQ Q S) (SX QX S)) : wp_X9_hits Q QX S a0 x1 x2 x3 := by
  subst e_x1 e_x2 e_x3
  exact sX9_hits_0 n hS Ex_rf h_a0 hQ
def eX9_damage_31 (n : Nat) (V : VS) (y3 : Int32) (z0 : Int32) : Rs Int32 := (if y3 = 20 then rt (2 * z0) V else rt z0 V)
set_option maxHeartbeats 4000000 in
set_option maxRecDepth 100000 in
theorem sX9_damage_31 (n : Nat) {S0 : MS} {Q : Int32 → MS → Prop} {QX : String → MS → Prop} {S : MS} {V : VS} {y3 : Int32} {z0 : Int32} (hS : SM S V) (hx : Ex S0 S) (hQ : gd (eX9_damage_31 n V y3 z0) (SQ Q S0) (SX QX S0)) : wX9_damage_31 Q QX S y3 z0 := by
  unfold wX9_damage_31
  unfold eX9_damage_31 at hQ
  refine st_ifn rfl hQ (fun hQ => ?_) (fun hQ => ?_)
  · exact gd_rt hQ _ hS hx
  · exact gd_rt hQ _ hS hx
def eX9_damage_0 (n : Nat) (V : VS) (a0v : Nat) (x1 : Int32) (x2 : Int32) (x3 : Int32) (x4 : Int32) : Rs Int32 := bd (ev_X9_kindly n V a0v x1 6) (fun r2 V1 => bd (ev_X9_kindly n V1 a0v x2 1) (fun r4 V3 => (if 1 ≤ ((x4 + r2) - r4) then eX9_damage_31 n V3 x3 ((x4 + r2) - r4) else eX9_damage_31 n V3 x3 1)) th) th
set_option maxHeartbeats 4000000 in
set_option maxRecDepth 100000 in
theorem sX9_damage_0 (n : Nat) {S0 : MS} {Q : Int32 → MS → Prop} {QX : String → MS → Prop} {S : MS} {V : VS} {a0 a0v : Nat} {x1 : Int32} {x2 : Int32} {x3 : Int32} {x4 : Int32} (hS : SM S V) (hx : Ex S0 S) (h_a0 : Ad S a0 a0v) (hQ : gd (eX9_damage_0 n V a0v x1 x2 x3 x4) (SQ Q S0) (SX QX S0)) : wX9_damage_0 Q QX S a0 x1 x2 x3 x4 := by
  unfold wX9_damage_0
  unfold eX9_damage_0 at hQ
  refine sim_X9_kindly n hS h_a0 rfl rfl ?_
  refine gd_mono (gd_bd hQ) (fun r2 V1 hQ S1 hS1 xS => ?_) (fun E V9 hQ S9 hS9 xS9 => gd_th hQ S9 hS9 (Ex_tr hx xS9))
  have hx1 : Ex S0 S1 := Ex_tr hx xS
  have h1_a0 := xS _ _ h_a0
  refine sim_X9_kindly n hS1 h1_a0 rfl rfl ?_
  refine gd_mono (gd_bd hQ) (fun r4 V3 hQ S3 hS3 xS => ?_) (fun E V9 hQ S9 hS9 xS9 => gd_th hQ S9 hS9 (Ex_tr hx1 xS9))
  have hx3 : Ex S0 S3 := Ex_tr hx1 xS
  refine st_if rfl hQ (fun hQ => ?_) (fun hQ => ?_)
  · exact sX9_damage_31 n hS3 hx3 hQ
  · exact sX9_damage_31 n hS3 hx3 hQ
def ev_X9_damage (n : Nat) (V : VS) (a0v : Nat) (x1 : Int32) (x2 : Int32) (x3 : Int32) (x4 : Int32) : Rs Int32 := eX9_damage_0 n V a0v x1 x2 x3 x4
theorem sim_X9_damage (n : Nat) {Q : Int32 → MS → Prop} {QX : String → MS → Prop} {S : MS} {V : VS} {a0 a0v : Nat} {x1 x1z : Int32} {x2 x2z : Int32} {x3 x3z : Int32} {x4 x4z : Int32} (hS : SM S V) (h_a0 : Ad S a0 a0v) (e_x1 : x1 = x1z) (e_x2 : x2 = x2z) (e_x3 : x3 = x3z) (e_x4 : x4 = x4z) (hQ : gd (ev_X9_damage n V a0v x1z x2z x3z x4z) (SQ Q S) (SX QX S)) : wp_X9_damage Q QX S a0 x1 x2 x3 x4 := by
  subst e_x1 e_x2 e_x3 e_x4
  exact sX9_damage_0 n hS Ex_rf h_a0 hQ
def eX9_attacks_0 (n : Nat) (V : VS) (a0v : Nat) (x1 : Int32) (x2 : Int32) : Rs Int32 := bd (ev_X9_of n V a0v x1 4) (fun r2 V1 => bd (ev_X9_sets n V1 a0v x1 4 (r2 - 1)) (fun _ V3 => bd (ev_X9_roll n V3 a0v 20) (fun r5 V4 => bd (ev_X9_hits n V4 a0v x1 x2 r5) (fun r7 V6 => (if r7 = 0 then bd (ev_X9_tells n V6 a0v 3 x1 x2) (fun _ V15 => rt 0 V15) th else bd (ev_X9_roll n V6 a0v 4) (fun r9 V8 => bd (ev_X9_damage n V8 a0v x1 x2 r5 r9) (fun r11 V10 => bd (ev_X9_loses n V10 a0v x2 r11) (fun _ V12 => bd (ev_X9_tells n V12 a0v 2 x1 r11) (fun _ V13 => bd (ev_X9_dies n V13 a0v x2) (fun _ V14 => rt r11 V14) th) th) th) th) th)) th) th) th) th
set_option maxHeartbeats 4000000 in
set_option maxRecDepth 100000 in
theorem sX9_attacks_0 (n : Nat) {S0 : MS} {Q : Int32 → MS → Prop} {QX : String → MS → Prop} {S : MS} {V : VS} {a0 a0v : Nat} {x1 : Int32} {x2 : Int32} (hS : SM S V) (hx : Ex S0 S) (h_a0 : Ad S a0 a0v) (hQ : gd (eX9_attacks_0 n V a0v x1 x2) (SQ Q S0) (SX QX S0)) : wX9_attacks_0 Q QX S a0 x1 x2 := by
  unfold wX9_attacks_0
  unfold eX9_attacks_0 at hQ
  refine sim_X9_of n hS h_a0 rfl rfl ?_
  refine gd_mono (gd_bd hQ) (fun r2 V1 hQ S1 hS1 xS => ?_) (fun E V9 hQ S9 hS9 xS9 => gd_th hQ S9 hS9 (Ex_tr hx xS9))
  have hx1 : Ex S0 S1 := Ex_tr hx xS
  have h1_a0 := xS _ _ h_a0
  refine sim_X9_sets n hS1 h1_a0 rfl rfl rfl ?_
  refine gd_mono (gd_bd hQ) (fun _ V3 hQ S3 hS3 xS => ?_) (fun E V9 hQ S9 hS9 xS9 => gd_th hQ S9 hS9 (Ex_tr hx1 xS9))
  have hx3 : Ex S0 S3 := Ex_tr hx1 xS
  have h3_a0 := xS _ _ h1_a0
  refine sim_X9_roll n hS3 h3_a0 rfl ?_
  refine gd_mono (gd_bd hQ) (fun r5 V4 hQ S4 hS4 xS => ?_) (fun E V9 hQ S9 hS9 xS9 => gd_th hQ S9 hS9 (Ex_tr hx3 xS9))
  have hx4 : Ex S0 S4 := Ex_tr hx3 xS
  have h4_a0 := xS _ _ h3_a0
  refine sim_X9_hits n hS4 h4_a0 rfl rfl rfl ?_
  refine gd_mono (gd_bd hQ) (fun r7 V6 hQ S6 hS6 xS => ?_) (fun E V9 hQ S9 hS9 xS9 => gd_th hQ S9 hS9 (Ex_tr hx4 xS9))
  have hx6 : Ex S0 S6 := Ex_tr hx4 xS
  have h6_a0 := xS _ _ h4_a0
  refine st_ifn rfl hQ (fun hQ => ?_) (fun hQ => ?_)
  · refine sim_X9_roll n hS6 h6_a0 rfl ?_
    refine gd_mono (gd_bd hQ) (fun r9 V8 hQ S8 hS8 xS => ?_) (fun E V9 hQ S9 hS9 xS9 => gd_th hQ S9 hS9 (Ex_tr hx6 xS9))
    have hx8 : Ex S0 S8 := Ex_tr hx6 xS
    have h8_a0 := xS _ _ h6_a0
    refine sim_X9_damage n hS8 h8_a0 rfl rfl rfl rfl ?_
    refine gd_mono (gd_bd hQ) (fun r11 V10 hQ S10 hS10 xS => ?_) (fun E V9 hQ S9 hS9 xS9 => gd_th hQ S9 hS9 (Ex_tr hx8 xS9))
    have hx10 : Ex S0 S10 := Ex_tr hx8 xS
    have h10_a0 := xS _ _ h8_a0
    refine sim_X9_loses n hS10 h10_a0 rfl rfl ?_
    refine gd_mono (gd_bd hQ) (fun _ V12 hQ S12 hS12 xS => ?_) (fun E V9 hQ S9 hS9 xS9 => gd_th hQ S9 hS9 (Ex_tr hx10 xS9))
    have hx12 : Ex S0 S12 := Ex_tr hx10 xS
    have h12_a0 := xS _ _ h10_a0
    refine sim_X9_tells n hS12 h12_a0 rfl rfl rfl ?_
    refine gd_mono (gd_bd hQ) (fun _ V13 hQ S13 hS13 xS => ?_) (fun E V9 hQ S9 hS9 xS9 => gd_th hQ S9 hS9 (Ex_tr hx12 xS9))
    have hx13 : Ex S0 S13 := Ex_tr hx12 xS
    have h13_a0 := xS _ _ h12_a0
    refine sim_X9_dies n hS13 h13_a0 rfl ?_
    refine gd_mono (gd_bd hQ) (fun _ V14 hQ S14 hS14 xS => ?_) (fun E V9 hQ S9 hS9 xS9 => gd_th hQ S9 hS9 (Ex_tr hx13 xS9))
    have hx14 : Ex S0 S14 := Ex_tr hx13 xS
    exact gd_rt hQ _ hS14 hx14
  · refine sim_X9_tells n hS6 h6_a0 rfl rfl rfl ?_
    refine gd_mono (gd_bd hQ) (fun _ V15 hQ S15 hS15 xS => ?_) (fun E V9 hQ S9 hS9 xS9 => gd_th hQ S9 hS9 (Ex_tr hx6 xS9))
    have hx15 : Ex S0 S15 := Ex_tr hx6 xS
    exact gd_rt hQ _ hS15 hx15
def ev_X9_attacks (n : Nat) (V : VS) (a0v : Nat) (x1 : Int32) (x2 : Int32) : Rs Int32 := eX9_attacks_0 n V a0v x1 x2
theorem sim_X9_attacks (n : Nat) {Q : Int32 → MS → Prop} {QX : String → MS → Prop} {S : MS} {V : VS} {a0 a0v : Nat} {x1 x1z : Int32} {x2 x2z : Int32} (hS : SM S V) (h_a0 : Ad S a0 a0v) (e_x1 : x1 = x1z) (e_x2 : x2 = x2z) (hQ : gd (ev_X9_attacks n V a0v x1z x2z) (SQ Q S) (SX QX S)) : wp_X9_attacks Q QX S a0 x1 x2 := by
  subst e_x1 e_x2
  exact sX9_attacks_0 n hS Ex_rf h_a0 hQ
def eX9_mayLook_35 (n : Nat) (V : VS) (a0v : Nat) (z0 : Int32) (w1v : Nat) : Rs Int32 := sq (wI V w1v 0 z0) (fun V1 => (if (vI V1 a0v 0) = 0 then rt 1 V1 else rt 0 V1))
set_option maxHeartbeats 4000000 in
set_option maxRecDepth 100000 in
theorem sX9_mayLook_35 (n : Nat) {S0 : MS} {Q : Int32 → MS → Prop} {QX : String → MS → Prop} {S : MS} {V : VS} {a0 a0v : Nat} {z0 : Int32} {w1 w1v : Nat} (hS : SM S V) (hx : Ex S0 S) (h_a0 : Ad S a0 a0v) (h_w1 : Ad S w1 w1v) (hQ : gd (eX9_mayLook_35 n V a0v z0 w1v) (SQ Q S0) (SX QX S0)) : wX9_mayLook_35 Q QX S a0 z0 w1 := by
  unfold wX9_mayLook_35
  unfold eX9_mayLook_35 at hQ
  intro S1 eS
  obtain ⟨V1, hS1, xS, hQ⟩ := st_sI hS h_w1 eS rfl rfl hQ
  have hx1 : Ex S0 S1 := Ex_tr hx xS
  have h1_a0 := xS _ _ h_a0
  refine st_ifn (show ((mI S1 a0 0) = 0) = ((vI V1 a0v 0) = 0) from by simp only [SM_I hS1 h1_a0]) hQ (fun hQ => ?_) (fun hQ => ?_)
  · exact gd_rt hQ _ hS1 hx1
  · exact gd_rt hQ _ hS1 hx1
def eX9_mayLook_17 (n : Nat) (V : VS) (a0v : Nat) (w0v : Nat) : Rs Int32 := eX9_mayLook_35 n V a0v 1 w0v
set_option maxHeartbeats 4000000 in
set_option maxRecDepth 100000 in
theorem sX9_mayLook_17 (n : Nat) {S0 : MS} {Q : Int32 → MS → Prop} {QX : String → MS → Prop} {S : MS} {V : VS} {a0 a0v : Nat} {w0 w0v : Nat} (hS : SM S V) (hx : Ex S0 S) (h_a0 : Ad S a0 a0v) (h_w0 : Ad S w0 w0v) (hQ : gd (eX9_mayLook_17 n V a0v w0v) (SQ Q S0) (SX QX S0)) : wX9_mayLook_17 Q QX S a0 w0 := by
  unfold wX9_mayLook_17
  unfold eX9_mayLook_17 at hQ
  exact sX9_mayLook_35 n hS hx h_a0 h_w0 hQ
def eX9_mayLook_0 (n : Nat) (V : VS) (a0v : Nat) (x1 : Int32) (x2 : Int32) : Rs Int32 := bd (ev_X9_isUnit n V a0v x1) (fun r2 V1 => (if r2 = 0 then eX9_mayLook_17 n V1 a0v a0v else bd (ev_X9_isUnit n V1 a0v x2) (fun r4 V3 => (if r4 = 0 then eX9_mayLook_17 n V3 a0v a0v else bd (ev_X9_canAttack n V3 a0v x1 x2) (fun r6 V5 => (if r6 = 0 then eX9_mayLook_35 n V5 a0v 2 a0v else eX9_mayLook_35 n V5 a0v 0 a0v)) th)) th)) th
set_option maxHeartbeats 4000000 in
set_option maxRecDepth 100000 in
theorem sX9_mayLook_0 (n : Nat) {S0 : MS} {Q : Int32 → MS → Prop} {QX : String → MS → Prop} {S : MS} {V : VS} {a0 a0v : Nat} {x1 : Int32} {x2 : Int32} (hS : SM S V) (hx : Ex S0 S) (h_a0 : Ad S a0 a0v) (hQ : gd (eX9_mayLook_0 n V a0v x1 x2) (SQ Q S0) (SX QX S0)) : wX9_mayLook_0 Q QX S a0 x1 x2 := by
  unfold wX9_mayLook_0
  unfold eX9_mayLook_0 at hQ
  refine sim_X9_isUnit n hS h_a0 rfl ?_
  refine gd_mono (gd_bd hQ) (fun r2 V1 hQ S1 hS1 xS => ?_) (fun E V9 hQ S9 hS9 xS9 => gd_th hQ S9 hS9 (Ex_tr hx xS9))
  have hx1 : Ex S0 S1 := Ex_tr hx xS
  have h1_a0 := xS _ _ h_a0
  refine st_if rfl hQ (fun hQ => ?_) (fun hQ => ?_)
  · exact sX9_mayLook_17 n hS1 hx1 h1_a0 h1_a0 hQ
  · refine sim_X9_isUnit n hS1 h1_a0 rfl ?_
    refine gd_mono (gd_bd hQ) (fun r4 V3 hQ S3 hS3 xS => ?_) (fun E V9 hQ S9 hS9 xS9 => gd_th hQ S9 hS9 (Ex_tr hx1 xS9))
    have hx3 : Ex S0 S3 := Ex_tr hx1 xS
    have h3_a0 := xS _ _ h1_a0
    refine st_ifn rfl hQ (fun hQ => ?_) (fun hQ => ?_)
    · refine sim_X9_canAttack n hS3 h3_a0 rfl rfl ?_
      refine gd_mono (gd_bd hQ) (fun r6 V5 hQ S5 hS5 xS => ?_) (fun E V9 hQ S9 hS9 xS9 => gd_th hQ S9 hS9 (Ex_tr hx3 xS9))
      have hx5 : Ex S0 S5 := Ex_tr hx3 xS
      have h5_a0 := xS _ _ h3_a0
      refine st_ifn rfl hQ (fun hQ => ?_) (fun hQ => ?_)
      · exact sX9_mayLook_35 n hS5 hx5 h5_a0 h5_a0 hQ
      · exact sX9_mayLook_35 n hS5 hx5 h5_a0 h5_a0 hQ
    · exact sX9_mayLook_17 n hS3 hx3 h3_a0 h3_a0 hQ
def ev_X9_mayLook (n : Nat) (V : VS) (a0v : Nat) (x1 : Int32) (x2 : Int32) : Rs Int32 := eX9_mayLook_0 n V a0v x1 x2
theorem sim_X9_mayLook (n : Nat) {Q : Int32 → MS → Prop} {QX : String → MS → Prop} {S : MS} {V : VS} {a0 a0v : Nat} {x1 x1z : Int32} {x2 x2z : Int32} (hS : SM S V) (h_a0 : Ad S a0 a0v) (e_x1 : x1 = x1z) (e_x2 : x2 = x2z) (hQ : gd (ev_X9_mayLook n V a0v x1z x2z) (SQ Q S) (SX QX S)) : wp_X9_mayLook Q QX S a0 x1 x2 := by
  subst e_x1 e_x2
  exact sX9_mayLook_0 n hS Ex_rf h_a0 hQ
def eX9_chance_40 (n : Nat) (k16v : VS → Nat → Int32 → Int32 → Int32 → Int32 → Rs UInt64) (V : VS) (a0v : Nat) (y1 : Int32) (y2 : Int32) (y4 : Int32) (z0 : Int32) (z1 : Int32) : Rs UInt64 := k16v V a0v y1 y2 (z1 + z0) (y4 + 1)
set_option maxHeartbeats 4000000 in
set_option maxRecDepth 100000 in
theorem sX9_chance_40 (n : Nat) {S0 : MS} {Q : UInt64 → MS → Prop} {QX : String → MS → Prop} {k16 : MS → Nat → Int32 → Int32 → Int32 → Int32 → Prop} {k16v : VS → Nat → Int32 → Int32 → Int32 → Int32 → Rs UInt64} (hk16 : ∀ (S : MS) (V : VS) (p0 p0v : Nat) (p1 : Int32) (p2 : Int32) (p3 : Int32) (p4 : Int32), SM S V → Ex S0 S → Ad S p0 p0v → gd (k16v V p0v p1 p2 p3 p4) (SQ Q S0) (SX QX S0) → k16 S p0 p1 p2 p3 p4) {S : MS} {V : VS} {a0 a0v : Nat} {y1 : Int32} {y2 : Int32} {y4 : Int32} {z0 : Int32} {z1 : Int32} (hS : SM S V) (hx : Ex S0 S) (h_a0 : Ad S a0 a0v) (hQ : gd (eX9_chance_40 n k16v V a0v y1 y2 y4 z0 z1) (SQ Q S0) (SX QX S0)) : wX9_chance_40 Q QX k16 S a0 y1 y2 y4 z0 z1 := by
  unfold wX9_chance_40
  unfold eX9_chance_40 at hQ
  exact hk16 _ _ _ _ _ _ _ _ hS hx h_a0 hQ
def eX9_chance_16 (n : Nat) (k16v : VS → Nat → Int32 → Int32 → Int32 → Int32 → Rs UInt64) (V : VS) (a0v : Nat) (y1 : Int32) (y2 : Int32) (y3 : Int32) (y4 : Int32) : Rs UInt64 := (if 20 < y4 then (if gvf_n64 (FP.ddiv (FP.i2d y3) (4626322717216342016 : UInt64)) = true then rt (FP.ddiv (FP.i2d y3) (4626322717216342016 : UInt64)) V else none) else bd (ev_X9_hits n V a0v y1 y2 y4) (fun r2 V1 => (if r2 = 0 then eX9_chance_40 n k16v V1 a0v y1 y2 y4 0 y3 else eX9_chance_40 n k16v V1 a0v y1 y2 y4 1 y3)) th)
set_option maxHeartbeats 4000000 in
set_option maxRecDepth 100000 in
theorem sX9_chance_16 (n : Nat) {S0 : MS} {Q : UInt64 → MS → Prop} {QX : String → MS → Prop} {k16 : MS → Nat → Int32 → Int32 → Int32 → Int32 → Prop} {k16v : VS → Nat → Int32 → Int32 → Int32 → Int32 → Rs UInt64} (hk16 : ∀ (S : MS) (V : VS) (p0 p0v : Nat) (p1 : Int32) (p2 : Int32) (p3 : Int32) (p4 : Int32), SM S V → Ex S0 S → Ad S p0 p0v → gd (k16v V p0v p1 p2 p3 p4) (SQ Q S0) (SX QX S0) → k16 S p0 p1 p2 p3 p4) {S : MS} {V : VS} {a0 a0v : Nat} {y1 : Int32} {y2 : Int32} {y3 : Int32} {y4 : Int32} (hS : SM S V) (hx : Ex S0 S) (h_a0 : Ad S a0 a0v) (hQ : gd (eX9_chance_16 n k16v V a0v y1 y2 y3 y4) (SQ Q S0) (SX QX S0)) : wX9_chance_16 Q QX k16 S a0 y1 y2 y3 y4 := by
  unfold wX9_chance_16
  unfold eX9_chance_16 at hQ
  refine st_if rfl hQ (fun hQ => ?_) (fun hQ => ?_)
  · refine st_gd (fun h => by exact gvf_n64_of h) hQ (fun hQ => ?_)
    exact gd_rt hQ _ hS hx
  · refine sim_X9_hits n hS h_a0 rfl rfl rfl ?_
    refine gd_mono (gd_bd hQ) (fun r2 V1 hQ S1 hS1 xS => ?_) (fun E V9 hQ S9 hS9 xS9 => gd_th hQ S9 hS9 (Ex_tr hx xS9))
    have hx1 : Ex S0 S1 := Ex_tr hx xS
    have h1_a0 := xS _ _ h_a0
    refine st_if rfl hQ (fun hQ => ?_) (fun hQ => ?_)
    · exact sX9_chance_40 n hk16 hS1 hx1 h1_a0 hQ
    · exact sX9_chance_40 n hk16 hS1 hx1 h1_a0 hQ
def elX9_chance_16 (n : Nat) : Nat → VS → Nat → Int32 → Int32 → Int32 → Int32 → Rs UInt64
  | 0 => fun _ _ _ _ _ _ => none
  | m + 1 => fun V a0v y1 y2 y3 y4 => eX9_chance_16 n (elX9_chance_16 n m) V a0v y1 y2 y3 y4
theorem selX9_chance_16 (n : Nat) {S0 : MS} {Q : UInt64 → MS → Prop} {QX : String → MS → Prop} : ∀ (m : Nat), ∀ (S : MS) (V : VS) (p0 p0v : Nat) (p1 : Int32) (p2 : Int32) (p3 : Int32) (p4 : Int32), SM S V → Ex S0 S → Ad S p0 p0v → gd (elX9_chance_16 n m V p0v p1 p2 p3 p4) (SQ Q S0) (SX QX S0) → lX9_chance_16 Q QX m S p0 p1 p2 p3 p4 := by
  intro m
  induction m with
  | zero => intro S V p0 p0v p1 p2 p3 p4 hS hx q0 hQ; exact (gd_none hQ).elim
  | succ m ih => intro S V p0 p0v p1 p2 p3 p4 hS hx q0 hQ; exact sX9_chance_16 n ih hS hx q0 hQ
def eX9_chance_0 (n : Nat) (V : VS) (a0v : Nat) (x1 : Int32) (x2 : Int32) : Rs UInt64 := bd (ev_X9_mayLook n V a0v x1 x2) (fun r2 V1 => (if r2 = 0 then rt FP.dconst0 V1 else elX9_chance_16 n n V1 a0v x1 x2 0 1)) th
set_option maxHeartbeats 4000000 in
set_option maxRecDepth 100000 in
theorem sX9_chance_0 (n : Nat) {S0 : MS} {Q : UInt64 → MS → Prop} {QX : String → MS → Prop} {S : MS} {V : VS} {a0 a0v : Nat} {x1 : Int32} {x2 : Int32} (hS : SM S V) (hx : Ex S0 S) (h_a0 : Ad S a0 a0v) (hQ : gd (eX9_chance_0 n V a0v x1 x2) (SQ Q S0) (SX QX S0)) : wX9_chance_0 Q QX S a0 x1 x2 := by
  unfold wX9_chance_0
  unfold eX9_chance_0 at hQ
  refine sim_X9_mayLook n hS h_a0 rfl rfl ?_
  refine gd_mono (gd_bd hQ) (fun r2 V1 hQ S1 hS1 xS => ?_) (fun E V9 hQ S9 hS9 xS9 => gd_th hQ S9 hS9 (Ex_tr hx xS9))
  have hx1 : Ex S0 S1 := Ex_tr hx xS
  have h1_a0 := xS _ _ h_a0
  refine st_ifn rfl hQ (fun hQ => ?_) (fun hQ => ?_)
  · refine ⟨n, ?_⟩
    exact selX9_chance_16 n n _ _ _ _ _ _ _ _ hS1 hx1 h1_a0 hQ
  · exact gd_rt hQ _ hS1 hx1
def ev_X9_chance (n : Nat) (V : VS) (a0v : Nat) (x1 : Int32) (x2 : Int32) : Rs UInt64 := eX9_chance_0 n V a0v x1 x2
theorem sim_X9_chance (n : Nat) {Q : UInt64 → MS → Prop} {QX : String → MS → Prop} {S : MS} {V : VS} {a0 a0v : Nat} {x1 x1z : Int32} {x2 x2z : Int32} (hS : SM S V) (h_a0 : Ad S a0 a0v) (e_x1 : x1 = x1z) (e_x2 : x2 = x2z) (hQ : gd (ev_X9_chance n V a0v x1z x2z) (SQ Q S) (SX QX S)) : wp_X9_chance Q QX S a0 x1 x2 := by
  subst e_x1 e_x2
  exact sX9_chance_0 n hS Ex_rf h_a0 hQ
def eX9_damages_15 (n : Nat) (k5v : VS → Nat → Int32 → Int32 → Int32 → Int32 → Rs Int32) (k15v : VS → Nat → Int32 → Int32 → Int32 → Int32 → Int32 → Rs Int32) (V : VS) (a0v : Nat) (y1 : Int32) (y2 : Int32) (y3 : Int32) (y4 : Int32) (y5 : Int32) : Rs Int32 := (if 4 < y5 then k5v V a0v y1 y2 y3 (y4 + 1) else bd (ev_X9_hits n V a0v y1 y2 y4) (fun r2 V1 => (if r2 = 0 then k5v V1 a0v y1 y2 y3 (y4 + 1) else bd (ev_X9_damage n V1 a0v y1 y2 y4 y5) (fun r4 V3 => k15v V3 a0v y1 y2 (y3 + r4) y4 (y5 + 1)) th)) th)
set_option maxHeartbeats 4000000 in
set_option maxRecDepth 100000 in
theorem sX9_damages_15 (n : Nat) {S0 : MS} {Q : Int32 → MS → Prop} {QX : String → MS → Prop} {k5 : MS → Nat → Int32 → Int32 → Int32 → Int32 → Prop} {k5v : VS → Nat → Int32 → Int32 → Int32 → Int32 → Rs Int32} {k15 : MS → Nat → Int32 → Int32 → Int32 → Int32 → Int32 → Prop} {k15v : VS → Nat → Int32 → Int32 → Int32 → Int32 → Int32 → Rs Int32} (hk5 : ∀ (S : MS) (V : VS) (p0 p0v : Nat) (p1 : Int32) (p2 : Int32) (p3 : Int32) (p4 : Int32), SM S V → Ex S0 S → Ad S p0 p0v → gd (k5v V p0v p1 p2 p3 p4) (SQ Q S0) (SX QX S0) → k5 S p0 p1 p2 p3 p4) (hk15 : ∀ (S : MS) (V : VS) (p0 p0v : Nat) (p1 : Int32) (p2 : Int32) (p3 : Int32) (p4 : Int32) (p5 : Int32), SM S V → Ex S0 S → Ad S p0 p0v → gd (k15v V p0v p1 p2 p3 p4 p5) (SQ Q S0) (SX QX S0) → k15 S p0 p1 p2 p3 p4 p5) {S : MS} {V : VS} {a0 a0v : Nat} {y1 : Int32} {y2 : Int32} {y3 : Int32} {y4 : Int32} {y5 : Int32} (hS : SM S V) (hx : Ex S0 S) (h_a0 : Ad S a0 a0v) (hQ : gd (eX9_damages_15 n k5v k15v V a0v y1 y2 y3 y4 y5) (SQ Q S0) (SX QX S0)) : wX9_damages_15 Q QX k5 k15 S a0 y1 y2 y3 y4 y5 := by
  unfold wX9_damages_15
  unfold eX9_damages_15 at hQ
  refine st_if rfl hQ (fun hQ => ?_) (fun hQ => ?_)
  · exact hk5 _ _ _ _ _ _ _ _ hS hx h_a0 hQ
  · refine sim_X9_hits n hS h_a0 rfl rfl rfl ?_
    refine gd_mono (gd_bd hQ) (fun r2 V1 hQ S1 hS1 xS => ?_) (fun E V9 hQ S9 hS9 xS9 => gd_th hQ S9 hS9 (Ex_tr hx xS9))
    have hx1 : Ex S0 S1 := Ex_tr hx xS
    have h1_a0 := xS _ _ h_a0
    refine st_if rfl hQ (fun hQ => ?_) (fun hQ => ?_)
    · exact hk5 _ _ _ _ _ _ _ _ hS1 hx1 h1_a0 hQ
    · refine sim_X9_damage n hS1 h1_a0 rfl rfl rfl rfl ?_
      refine gd_mono (gd_bd hQ) (fun r4 V3 hQ S3 hS3 xS => ?_) (fun E V9 hQ S9 hS9 xS9 => gd_th hQ S9 hS9 (Ex_tr hx1 xS9))
      have hx3 : Ex S0 S3 := Ex_tr hx1 xS
      have h3_a0 := xS _ _ h1_a0
      exact hk15 _ _ _ _ _ _ _ _ _ hS3 hx3 h3_a0 hQ
def elX9_damages_15 (n : Nat) (k5v : VS → Nat → Int32 → Int32 → Int32 → Int32 → Rs Int32) : Nat → VS → Nat → Int32 → Int32 → Int32 → Int32 → Int32 → Rs Int32
  | 0 => fun _ _ _ _ _ _ _ => none
  | m + 1 => fun V a0v y1 y2 y3 y4 y5 => eX9_damages_15 n k5v (elX9_damages_15 n k5v m) V a0v y1 y2 y3 y4 y5
theorem selX9_damages_15 (n : Nat) {S0 : MS} {Q : Int32 → MS → Prop} {QX : String → MS → Prop} {k5 : MS → Nat → Int32 → Int32 → Int32 → Int32 → Prop} {k5v : VS → Nat → Int32 → Int32 → Int32 → Int32 → Rs Int32} (hk5 : ∀ (S : MS) (V : VS) (p0 p0v : Nat) (p1 : Int32) (p2 : Int32) (p3 : Int32) (p4 : Int32), SM S V → Ex S0 S → Ad S p0 p0v → gd (k5v V p0v p1 p2 p3 p4) (SQ Q S0) (SX QX S0) → k5 S p0 p1 p2 p3 p4) : ∀ (m : Nat), ∀ (S : MS) (V : VS) (p0 p0v : Nat) (p1 : Int32) (p2 : Int32) (p3 : Int32) (p4 : Int32) (p5 : Int32), SM S V → Ex S0 S → Ad S p0 p0v → gd (elX9_damages_15 n k5v m V p0v p1 p2 p3 p4 p5) (SQ Q S0) (SX QX S0) → lX9_damages_15 Q QX k5 m S p0 p1 p2 p3 p4 p5 := by
  intro m
  induction m with
  | zero => intro S V p0 p0v p1 p2 p3 p4 p5 hS hx q0 hQ; exact (gd_none hQ).elim
  | succ m ih => intro S V p0 p0v p1 p2 p3 p4 p5 hS hx q0 hQ; exact sX9_damages_15 n hk5 ih hS hx q0 hQ
def eX9_damages_5 (n : Nat) (k5v : VS → Nat → Int32 → Int32 → Int32 → Int32 → Rs Int32) (V : VS) (a0v : Nat) (y1 : Int32) (y2 : Int32) (y3 : Int32) (y4 : Int32) : Rs Int32 := (if 20 < y4 then rt y3 V else elX9_damages_15 n k5v n V a0v y1 y2 y3 y4 1)
set_option maxHeartbeats 4000000 in
set_option maxRecDepth 100000 in
theorem sX9_damages_5 (n : Nat) {S0 : MS} {Q : Int32 → MS → Prop} {QX : String → MS → Prop} {k5 : MS → Nat → Int32 → Int32 → Int32 → Int32 → Prop} {k5v : VS → Nat → Int32 → Int32 → Int32 → Int32 → Rs Int32} (hk5 : ∀ (S : MS) (V : VS) (p0 p0v : Nat) (p1 : Int32) (p2 : Int32) (p3 : Int32) (p4 : Int32), SM S V → Ex S0 S → Ad S p0 p0v → gd (k5v V p0v p1 p2 p3 p4) (SQ Q S0) (SX QX S0) → k5 S p0 p1 p2 p3 p4) {S : MS} {V : VS} {a0 a0v : Nat} {y1 : Int32} {y2 : Int32} {y3 : Int32} {y4 : Int32} (hS : SM S V) (hx : Ex S0 S) (h_a0 : Ad S a0 a0v) (hQ : gd (eX9_damages_5 n k5v V a0v y1 y2 y3 y4) (SQ Q S0) (SX QX S0)) : wX9_damages_5 Q QX k5 S a0 y1 y2 y3 y4 := by
  unfold wX9_damages_5
  unfold eX9_damages_5 at hQ
  refine st_if rfl hQ (fun hQ => ?_) (fun hQ => ?_)
  · exact gd_rt hQ _ hS hx
  · refine ⟨n, ?_⟩
    exact selX9_damages_15 n hk5 n _ _ _ _ _ _ _ _ _ hS hx h_a0 hQ
def elX9_damages_5 (n : Nat) : Nat → VS → Nat → Int32 → Int32 → Int32 → Int32 → Rs Int32
  | 0 => fun _ _ _ _ _ _ => none
  | m + 1 => fun V a0v y1 y2 y3 y4 => eX9_damages_5 n (elX9_damages_5 n m) V a0v y1 y2 y3 y4
theorem selX9_damages_5 (n : Nat) {S0 : MS} {Q : Int32 → MS → Prop} {QX : String → MS → Prop} : ∀ (m : Nat), ∀ (S : MS) (V : VS) (p0 p0v : Nat) (p1 : Int32) (p2 : Int32) (p3 : Int32) (p4 : Int32), SM S V → Ex S0 S → Ad S p0 p0v → gd (elX9_damages_5 n m V p0v p1 p2 p3 p4) (SQ Q S0) (SX QX S0) → lX9_damages_5 Q QX m S p0 p1 p2 p3 p4 := by
  intro m
  induction m with
  | zero => intro S V p0 p0v p1 p2 p3 p4 hS hx q0 hQ; exact (gd_none hQ).elim
  | succ m ih => intro S V p0 p0v p1 p2 p3 p4 hS hx q0 hQ; exact sX9_damages_5 n ih hS hx q0 hQ
def eX9_damages_0 (n : Nat) (V : VS) (a0v : Nat) (x1 : Int32) (x2 : Int32) : Rs Int32 := elX9_damages_5 n n V a0v x1 x2 0 1
set_option maxHeartbeats 4000000 in
set_option maxRecDepth 100000 in
theorem sX9_damages_0 (n : Nat) {S0 : MS} {Q : Int32 → MS → Prop} {QX : String → MS → Prop} {S : MS} {V : VS} {a0 a0v : Nat} {x1 : Int32} {x2 : Int32} (hS : SM S V) (hx : Ex S0 S) (h_a0 : Ad S a0 a0v) (hQ : gd (eX9_damages_0 n V a0v x1 x2) (SQ Q S0) (SX QX S0)) : wX9_damages_0 Q QX S a0 x1 x2 := by
  unfold wX9_damages_0
  unfold eX9_damages_0 at hQ
  refine ⟨n, ?_⟩
  exact selX9_damages_5 n n _ _ _ _ _ _ _ _ hS hx h_a0 hQ
def ev_X9_damages (n : Nat) (V : VS) (a0v : Nat) (x1 : Int32) (x2 : Int32) : Rs Int32 := eX9_damages_0 n V a0v x1 x2
theorem sim_X9_damages (n : Nat) {Q : Int32 → MS → Prop} {QX : String → MS → Prop} {S : MS} {V : VS} {a0 a0v : Nat} {x1 x1z : Int32} {x2 x2z : Int32} (hS : SM S V) (h_a0 : Ad S a0 a0v) (e_x1 : x1 = x1z) (e_x2 : x2 = x2z) (hQ : gd (ev_X9_damages n V a0v x1z x2z) (SQ Q S) (SX QX S)) : wp_X9_damages Q QX S a0 x1 x2 := by
  subst e_x1 e_x2
  exact sX9_damages_0 n hS Ex_rf h_a0 hQ
def eX9_meanDamage_0 (n : Nat) (V : VS) (a0v : Nat) (x1 : Int32) (x2 : Int32) : Rs UInt64 := bd (ev_X9_mayLook n V a0v x1 x2) (fun r2 V1 => (if r2 = 0 then rt FP.dconst0 V1 else bd (ev_X9_damages n V1 a0v x1 x2) (fun r4 V3 => (if gvf_n64 (FP.ddiv (FP.i2d r4) (4635329916471083008 : UInt64)) = true then rt (FP.ddiv (FP.i2d r4) (4635329916471083008 : UInt64)) V3 else none)) th)) th
set_option maxHeartbeats 4000000 in
set_option maxRecDepth 100000 in
theorem sX9_meanDamage_0 (n : Nat) {S0 : MS} {Q : UInt64 → MS → Prop} {QX : String → MS → Prop} {S : MS} {V : VS} {a0 a0v : Nat} {x1 : Int32} {x2 : Int32} (hS : SM S V) (hx : Ex S0 S) (h_a0 : Ad S a0 a0v) (hQ : gd (eX9_meanDamage_0 n V a0v x1 x2) (SQ Q S0) (SX QX S0)) : wX9_meanDamage_0 Q QX S a0 x1 x2 := by
  unfold wX9_meanDamage_0
  unfold eX9_meanDamage_0 at hQ
  refine sim_X9_mayLook n hS h_a0 rfl rfl ?_
  refine gd_mono (gd_bd hQ) (fun r2 V1 hQ S1 hS1 xS => ?_) (fun E V9 hQ S9 hS9 xS9 => gd_th hQ S9 hS9 (Ex_tr hx xS9))
  have hx1 : Ex S0 S1 := Ex_tr hx xS
  have h1_a0 := xS _ _ h_a0
  refine st_if rfl hQ (fun hQ => ?_) (fun hQ => ?_)
  · exact gd_rt hQ _ hS1 hx1
  · refine sim_X9_damages n hS1 h1_a0 rfl rfl ?_
    refine gd_mono (gd_bd hQ) (fun r4 V3 hQ S3 hS3 xS => ?_) (fun E V9 hQ S9 hS9 xS9 => gd_th hQ S9 hS9 (Ex_tr hx1 xS9))
    have hx3 : Ex S0 S3 := Ex_tr hx1 xS
    refine st_gd (fun h => by exact gvf_n64_of h) hQ (fun hQ => ?_)
    exact gd_rt hQ _ hS3 hx3
def ev_X9_meanDamage (n : Nat) (V : VS) (a0v : Nat) (x1 : Int32) (x2 : Int32) : Rs UInt64 := eX9_meanDamage_0 n V a0v x1 x2
theorem sim_X9_meanDamage (n : Nat) {Q : UInt64 → MS → Prop} {QX : String → MS → Prop} {S : MS} {V : VS} {a0 a0v : Nat} {x1 x1z : Int32} {x2 x2z : Int32} (hS : SM S V) (h_a0 : Ad S a0 a0v) (e_x1 : x1 = x1z) (e_x2 : x2 = x2z) (hQ : gd (ev_X9_meanDamage n V a0v x1z x2z) (SQ Q S) (SX QX S)) : wp_X9_meanDamage Q QX S a0 x1 x2 := by
  subst e_x1 e_x2
  exact sX9_meanDamage_0 n hS Ex_rf h_a0 hQ
