def eX9_bestTarget_111 (n : Nat) (k40v : VS → Nat → Int32 → Int32 → Int32 → Rs Int32) (V : VS) (a0v : Nat) (y2 : Int32) (y3 : Int32) : Rs Int32 := k40v V a0v y3 y2 (y3 + 1)
set_option maxHeartbeats 4000000 in
set_option maxRecDepth 100000 in
theorem sX9_bestTarget_111 (n : Nat) {S0 : MS} {Q : Int32 → MS → Prop} {QX : String → MS → Prop} {k40 : MS → Nat → Int32 → Int32 → Int32 → Prop} {k40v : VS → Nat → Int32 → Int32 → Int32 → Rs Int32} (hk40 : ∀ (S : MS) (V : VS) (p0 p0v : Nat) (p1 : Int32) (p2 : Int32) (p3 : Int32), SM S V → Ex S0 S → Ad S p0 p0v → gd (k40v V p0v p1 p2 p3) (SQ Q S0) (SX QX S0) → k40 S p0 p1 p2 p3) {S : MS} {V : VS} {a0 a0v : Nat} {y2 : Int32} {y3 : Int32} (hS : SM S V) (hx : Ex S0 S) (h_a0 : Ad S a0 a0v) (hQ : gd (eX9_bestTarget_111 n k40v V a0v y2 y3) (SQ Q S0) (SX QX S0)) : wX9_bestTarget_111 Q QX k40 S a0 y2 y3 := by
  unfold wX9_bestTarget_111
  unfold eX9_bestTarget_111 at hQ
  exact hk40 _ _ _ _ _ _ _ hS hx h_a0 hQ
def eX9_bestTarget_84 (n : Nat) (k40v : VS → Nat → Int32 → Int32 → Int32 → Rs Int32) (V : VS) (a0v : Nat) (y1 : Int32) (y2 : Int32) (y3 : Int32) (z0 : Int32) : Rs Int32 := (if 0 < z0 then eX9_bestTarget_111 n k40v V a0v y2 y3 else (if z0 = 0 then bd (ev_X9_of n V a0v y3 3) (fun r2 V1 => bd (ev_X9_of n V1 a0v y1 3) (fun r4 V3 => (if r4 ≤ r2 then k40v V3 a0v y1 y2 (y3 + 1) else eX9_bestTarget_111 n k40v V3 a0v y2 y3)) th) th else k40v V a0v y1 y2 (y3 + 1)))
set_option maxHeartbeats 4000000 in
set_option maxRecDepth 100000 in
theorem sX9_bestTarget_84 (n : Nat) {S0 : MS} {Q : Int32 → MS → Prop} {QX : String → MS → Prop} {k40 : MS → Nat → Int32 → Int32 → Int32 → Prop} {k40v : VS → Nat → Int32 → Int32 → Int32 → Rs Int32} (hk40 : ∀ (S : MS) (V : VS) (p0 p0v : Nat) (p1 : Int32) (p2 : Int32) (p3 : Int32), SM S V → Ex S0 S → Ad S p0 p0v → gd (k40v V p0v p1 p2 p3) (SQ Q S0) (SX QX S0) → k40 S p0 p1 p2 p3) {S : MS} {V : VS} {a0 a0v : Nat} {y1 : Int32} {y2 : Int32} {y3 : Int32} {z0 : Int32} (hS : SM S V) (hx : Ex S0 S) (h_a0 : Ad S a0 a0v) (hQ : gd (eX9_bestTarget_84 n k40v V a0v y1 y2 y3 z0) (SQ Q S0) (SX QX S0)) : wX9_bestTarget_84 Q QX k40 S a0 y1 y2 y3 z0 := by
  unfold wX9_bestTarget_84
  unfold eX9_bestTarget_84 at hQ
  refine st_if rfl hQ (fun hQ => ?_) (fun hQ => ?_)
  · exact sX9_bestTarget_111 n hk40 hS hx h_a0 hQ
  · refine st_ifn rfl hQ (fun hQ => ?_) (fun hQ => ?_)
    · exact hk40 _ _ _ _ _ _ _ hS hx h_a0 hQ
    · refine sim_X9_of n hS h_a0 rfl rfl ?_
      refine gd_mono (gd_bd hQ) (fun r2 V1 hQ S1 hS1 xS => ?_) (fun E V9 hQ S9 hS9 xS9 => gd_th hQ S9 hS9 (Ex_tr hx xS9))
      have hx1 : Ex S0 S1 := Ex_tr hx xS
      have h1_a0 := xS _ _ h_a0
      refine sim_X9_of n hS1 h1_a0 rfl rfl ?_
      refine gd_mono (gd_bd hQ) (fun r4 V3 hQ S3 hS3 xS => ?_) (fun E V9 hQ S9 hS9 xS9 => gd_th hQ S9 hS9 (Ex_tr hx1 xS9))
      have hx3 : Ex S0 S3 := Ex_tr hx1 xS
      have h3_a0 := xS _ _ h1_a0
      refine st_if rfl hQ (fun hQ => ?_) (fun hQ => ?_)
      · exact hk40 _ _ _ _ _ _ _ hS3 hx3 h3_a0 hQ
      · exact sX9_bestTarget_111 n hk40 hS3 hx3 h3_a0 hQ
def eX9_bestTarget_40 (n : Nat) (k40v : VS → Nat → Int32 → Int32 → Int32 → Rs Int32) (V : VS) (a0v : Nat) (y1 : Int32) (y2 : Int32) (y3 : Int32) : Rs Int32 := (vR V a0v 1).bind (fun a1v => (if gvp_in 66 (vN V a1v) = true then (if (vI V a1v (66 : Int32).toNatClampNeg) ≤ y3 then (if 0 ≤ y1 then rt y1 V else bd (ev_X9_no n V a0v 2) (fun r3 V2 => rt r3 V2) th) else bd (ev_X9_canAttack n V a0v y2 y3) (fun r5 V4 => (if r5 = 0 then k40v V4 a0v y1 y2 (y3 + 1) else (if 0 ≤ y1 then bd (ev_X9_damages n V4 a0v y2 y3) (fun r7 V6 => bd (ev_X9_damages n V6 a0v y2 y1) (fun r9 V8 => eX9_bestTarget_84 n k40v V8 a0v y1 y2 y3 (r7 - r9)) th) th else eX9_bestTarget_84 n k40v V4 a0v y1 y2 y3 1))) th) else none))
set_option maxHeartbeats 4000000 in
set_option maxRecDepth 100000 in
theorem sX9_bestTarget_40 (n : Nat) {S0 : MS} {Q : Int32 → MS → Prop} {QX : String → MS → Prop} {k40 : MS → Nat → Int32 → Int32 → Int32 → Prop} {k40v : VS → Nat → Int32 → Int32 → Int32 → Rs Int32} (hk40 : ∀ (S : MS) (V : VS) (p0 p0v : Nat) (p1 : Int32) (p2 : Int32) (p3 : Int32), SM S V → Ex S0 S → Ad S p0 p0v → gd (k40v V p0v p1 p2 p3) (SQ Q S0) (SX QX S0) → k40 S p0 p1 p2 p3) {S : MS} {V : VS} {a0 a0v : Nat} {y1 : Int32} {y2 : Int32} {y3 : Int32} (hS : SM S V) (hx : Ex S0 S) (h_a0 : Ad S a0 a0v) (hQ : gd (eX9_bestTarget_40 n k40v V a0v y1 y2 y3) (SQ Q S0) (SX QX S0)) : wX9_bestTarget_40 Q QX k40 S a0 y1 y2 y3 := by
  unfold wX9_bestTarget_40
  unfold eX9_bestTarget_40 at hQ
  refine st_rd hS h_a0 rfl hQ (fun a1 a1v h_a1 hQ => ?_)
  refine st_gd (fun h => by simp only [SM_N hS h_a1]; exact gvp_in_of h) hQ (fun hQ => ?_)
  refine st_if (show ((mI S a1 (66 : Int32).toNatClampNeg) ≤ y3) = ((vI V a1v (66 : Int32).toNatClampNeg) ≤ y3) from by simp only [SM_I hS h_a1]) hQ (fun hQ => ?_) (fun hQ => ?_)
  · refine st_if rfl hQ (fun hQ => ?_) (fun hQ => ?_)
    · exact gd_rt hQ _ hS hx
    · refine sim_X9_no n hS h_a0 rfl ?_
      refine gd_mono (gd_bd hQ) (fun r3 V2 hQ S2 hS2 xS => ?_) (fun E V9 hQ S9 hS9 xS9 => gd_th hQ S9 hS9 (Ex_tr hx xS9))
      have hx2 : Ex S0 S2 := Ex_tr hx xS
      exact gd_rt hQ _ hS2 hx2
  · refine sim_X9_canAttack n hS h_a0 rfl rfl ?_
    refine gd_mono (gd_bd hQ) (fun r5 V4 hQ S4 hS4 xS => ?_) (fun E V9 hQ S9 hS9 xS9 => gd_th hQ S9 hS9 (Ex_tr hx xS9))
    have hx4 : Ex S0 S4 := Ex_tr hx xS
    have h4_a0 := xS _ _ h_a0
    refine st_ifn rfl hQ (fun hQ => ?_) (fun hQ => ?_)
    · refine st_if rfl hQ (fun hQ => ?_) (fun hQ => ?_)
      · refine sim_X9_damages n hS4 h4_a0 rfl rfl ?_
        refine gd_mono (gd_bd hQ) (fun r7 V6 hQ S6 hS6 xS => ?_) (fun E V9 hQ S9 hS9 xS9 => gd_th hQ S9 hS9 (Ex_tr hx4 xS9))
        have hx6 : Ex S0 S6 := Ex_tr hx4 xS
        have h6_a0 := xS _ _ h4_a0
        refine sim_X9_damages n hS6 h6_a0 rfl rfl ?_
        refine gd_mono (gd_bd hQ) (fun r9 V8 hQ S8 hS8 xS => ?_) (fun E V9 hQ S9 hS9 xS9 => gd_th hQ S9 hS9 (Ex_tr hx6 xS9))
        have hx8 : Ex S0 S8 := Ex_tr hx6 xS
        have h8_a0 := xS _ _ h6_a0
        exact sX9_bestTarget_84 n hk40 hS8 hx8 h8_a0 hQ
      · exact sX9_bestTarget_84 n hk40 hS4 hx4 h4_a0 hQ
    · exact hk40 _ _ _ _ _ _ _ hS4 hx4 h4_a0 hQ
def elX9_bestTarget_40 (n : Nat) : Nat → VS → Nat → Int32 → Int32 → Int32 → Rs Int32
  | 0 => fun _ _ _ _ _ => none
  | m + 1 => fun V a0v y1 y2 y3 => eX9_bestTarget_40 n (elX9_bestTarget_40 n m) V a0v y1 y2 y3
theorem selX9_bestTarget_40 (n : Nat) {S0 : MS} {Q : Int32 → MS → Prop} {QX : String → MS → Prop} : ∀ (m : Nat), ∀ (S : MS) (V : VS) (p0 p0v : Nat) (p1 : Int32) (p2 : Int32) (p3 : Int32), SM S V → Ex S0 S → Ad S p0 p0v → gd (elX9_bestTarget_40 n m V p0v p1 p2 p3) (SQ Q S0) (SX QX S0) → lX9_bestTarget_40 Q QX m S p0 p1 p2 p3 := by
  intro m
  induction m with
  | zero => intro S V p0 p0v p1 p2 p3 hS hx q0 hQ; exact (gd_none hQ).elim
  | succ m ih => intro S V p0 p0v p1 p2 p3 hS hx q0 hQ; exact sX9_bestTarget_40 n ih hS hx q0 hQ
def eX9_bestTarget_14 (n : Nat) (V : VS) (a0v : Nat) (z0 : Int32) (w1v : Nat) : Rs Int32 := sq (wI V w1v 0 z0) (fun V1 => (if (vI V1 a0v 0) = 1 then rt 0 V1 else (vR V1 a0v 1).bind (fun a2v => (if gvp_in 166 (vN V1 a2v) = true then elX9_bestTarget_40 n n V1 a0v (-1) (vI V1 a2v (166 : Int32).toNatClampNeg) 0 else none))))
set_option maxHeartbeats 4000000 in
set_option maxRecDepth 100000 in
theorem sX9_bestTarget_14 (n : Nat) {S0 : MS} {Q : Int32 → MS → Prop} {QX : String → MS → Prop} {S : MS} {V : VS} {a0 a0v : Nat} {z0 : Int32} {w1 w1v : Nat} (hS : SM S V) (hx : Ex S0 S) (h_a0 : Ad S a0 a0v) (h_w1 : Ad S w1 w1v) (hQ : gd (eX9_bestTarget_14 n V a0v z0 w1v) (SQ Q S0) (SX QX S0)) : wX9_bestTarget_14 Q QX S a0 z0 w1 := by
  unfold wX9_bestTarget_14
  unfold eX9_bestTarget_14 at hQ
  intro S1 eS
  obtain ⟨V1, hS1, xS, hQ⟩ := st_sI hS h_w1 eS rfl rfl hQ
  have hx1 : Ex S0 S1 := Ex_tr hx xS
  have h1_a0 := xS _ _ h_a0
  refine st_ifn (show ((mI S1 a0 0) = 1) = ((vI V1 a0v 0) = 1) from by simp only [SM_I hS1 h1_a0]) hQ (fun hQ => ?_) (fun hQ => ?_)
  · refine st_rd hS1 h1_a0 rfl hQ (fun a2 a2v h1_a2 hQ => ?_)
    refine st_gd (fun h => by simp only [SM_N hS1 h1_a2]; exact gvp_in_of h) hQ (fun hQ => ?_)
    refine ⟨n, ?_⟩
    simp only [SM_I hS1 h1_a2]
    exact selX9_bestTarget_40 n n _ _ _ _ _ _ _ hS1 hx1 h1_a0 hQ
  · exact gd_rt hQ _ hS1 hx1
def eX9_bestTarget_0 (n : Nat) (V : VS) (a0v : Nat) : Rs Int32 := bd (ev_X9_conditions n V a0v) (fun r2 V1 => (if r2 = 1 then eX9_bestTarget_14 n V1 a0v 0 a0v else eX9_bestTarget_14 n V1 a0v 1 a0v)) th
set_option maxHeartbeats 4000000 in
set_option maxRecDepth 100000 in
theorem sX9_bestTarget_0 (n : Nat) {S0 : MS} {Q : Int32 → MS → Prop} {QX : String → MS → Prop} {S : MS} {V : VS} {a0 a0v : Nat} (hS : SM S V) (hx : Ex S0 S) (h_a0 : Ad S a0 a0v) (hQ : gd (eX9_bestTarget_0 n V a0v) (SQ Q S0) (SX QX S0)) : wX9_bestTarget_0 Q QX S a0 := by
  unfold wX9_bestTarget_0
  unfold eX9_bestTarget_0 at hQ
  refine sim_X9_conditions n hS h_a0 ?_
  refine gd_mono (gd_bd hQ) (fun r2 V1 hQ S1 hS1 xS => ?_) (fun E V9 hQ S9 hS9 xS9 => gd_th hQ S9 hS9 (Ex_tr hx xS9))
  have hx1 : Ex S0 S1 := Ex_tr hx xS
  have h1_a0 := xS _ _ h_a0
  refine st_if rfl hQ (fun hQ => ?_) (fun hQ => ?_)
  · exact sX9_bestTarget_14 n hS1 hx1 h1_a0 h1_a0 hQ
  · exact sX9_bestTarget_14 n hS1 hx1 h1_a0 h1_a0 hQ
def ev_X9_bestTarget (n : Nat) (V : VS) (a0v : Nat) : Rs Int32 := eX9_bestTarget_0 n V a0v
theorem sim_X9_bestTarget (n : Nat) {Q : Int32 → MS → Prop} {QX : String → MS → Prop} {S : MS} {V : VS} {a0 a0v : Nat} (hS : SM S V) (h_a0 : Ad S a0 a0v) (hQ : gd (ev_X9_bestTarget n V a0v) (SQ Q S) (SX QX S)) : wp_X9_bestTarget Q QX S a0 := by
  exact sX9_bestTarget_0 n hS Ex_rf h_a0 hQ
def eX9_keeps_52 (n : Nat) (k52v : VS → Nat → Int32 → Rs Unit) (V : VS) (a0v : Nat) (y1 : Int32) : Rs Unit := (if 290 ≤ y1 then sq (wI V a0v 9 ((vI V a0v 9) + 1)) (fun V1 => rt () V1) else (vR V a0v 6).bind (fun a2v => (vR V a0v 1).bind (fun a3v => (if gvp_in y1 (vN V a3v) = true then (if gvp_in (((vI V a0v 9) * 290) + y1) (vN V a2v) = true then sq (wI V a2v (((((vI V a0v 9) * 290) + y1) : Int32).toNatClampNeg) (vI V a3v (y1 : Int32).toNatClampNeg)) (fun V4 => k52v V4 a0v (y1 + 1)) else none) else none))))
set_option maxHeartbeats 4000000 in
set_option maxRecDepth 100000 in
theorem sX9_keeps_52 (n : Nat) {S0 : MS} {Q : MS → Prop} {QX : String → MS → Prop} {k52 : MS → Nat → Int32 → Prop} {k52v : VS → Nat → Int32 → Rs Unit} (hk52 : ∀ (S : MS) (V : VS) (p0 p0v : Nat) (p1 : Int32), SM S V → Ex S0 S → Ad S p0 p0v → gd (k52v V p0v p1) (SU Q S0) (SX QX S0) → k52 S p0 p1) {S : MS} {V : VS} {a0 a0v : Nat} {y1 : Int32} (hS : SM S V) (hx : Ex S0 S) (h_a0 : Ad S a0 a0v) (hQ : gd (eX9_keeps_52 n k52v V a0v y1) (SU Q S0) (SX QX S0)) : wX9_keeps_52 Q QX k52 S a0 y1 := by
  unfold wX9_keeps_52
  unfold eX9_keeps_52 at hQ
  refine st_if rfl hQ (fun hQ => ?_) (fun hQ => ?_)
  · intro S1 eS
    obtain ⟨V1, hS1, xS, hQ⟩ := st_sI hS h_a0 eS rfl (show (((mI S a0 9) + 1)) = (((vI V a0v 9) + 1)) from by simp only [SM_I hS h_a0]) hQ
    have hx1 : Ex S0 S1 := Ex_tr hx xS
    exact gd_rt hQ _ hS1 hx1
  · refine st_rd hS h_a0 rfl hQ (fun a2 a2v h_a2 hQ => ?_)
    refine st_rd hS h_a0 rfl hQ (fun a3 a3v h_a3 hQ => ?_)
    refine st_gd (fun h => by simp only [SM_N hS h_a3]; exact gvp_in_of h) hQ (fun hQ => ?_)
    refine st_gd (fun h => by simp only [SM_I hS h_a0, SM_N hS h_a2]; exact gvp_in_of h) hQ (fun hQ => ?_)
    intro S4 eS
    obtain ⟨V4, hS4, xS, hQ⟩ := st_sI hS h_a2 eS (show (((((mI S a0 9) * 290) + y1) : Int32).toNatClampNeg) = (((((vI V a0v 9) * 290) + y1) : Int32).toNatClampNeg) from by simp only [SM_I hS h_a0]) (show ((mI S a3 (y1 : Int32).toNatClampNeg)) = ((vI V a3v (y1 : Int32).toNatClampNeg)) from by simp only [SM_I hS h_a3]) hQ
    have hx4 : Ex S0 S4 := Ex_tr hx xS
    have h4_a0 := xS _ _ h_a0
    exact hk52 _ _ _ _ _ hS4 hx4 h4_a0 hQ
def elX9_keeps_52 (n : Nat) : Nat → VS → Nat → Int32 → Rs Unit
  | 0 => fun _ _ _ => none
  | m + 1 => fun V a0v y1 => eX9_keeps_52 n (elX9_keeps_52 n m) V a0v y1
theorem selX9_keeps_52 (n : Nat) {S0 : MS} {Q : MS → Prop} {QX : String → MS → Prop} : ∀ (m : Nat), ∀ (S : MS) (V : VS) (p0 p0v : Nat) (p1 : Int32), SM S V → Ex S0 S → Ad S p0 p0v → gd (elX9_keeps_52 n m V p0v p1) (SU Q S0) (SX QX S0) → lX9_keeps_52 Q QX m S p0 p1 := by
  intro m
  induction m with
  | zero => intro S V p0 p0v p1 hS hx q0 hQ; exact (gd_none hQ).elim
  | succ m ih => intro S V p0 p0v p1 hS hx q0 hQ; exact sX9_keeps_52 n ih hS hx q0 hQ
def eX9_keeps_11 (n : Nat) (k11v : VS → Nat → Int32 → Rs Unit) (V : VS) (a0v : Nat) (y1 : Int32) : Rs Unit := (if 2030 ≤ y1 then sq (wI V a0v 9 ((vI V a0v 9) - 1)) (fun V1 => elX9_keeps_52 n n V1 a0v 0) else (vR V a0v 6).bind (fun a2v => (vR V a0v 6).bind (fun a3v => (if gvp_in (y1 + 290) (vN V a3v) = true then (if gvp_in y1 (vN V a2v) = true then sq (wI V a2v ((y1 : Int32).toNatClampNeg) (vI V a3v ((y1 + 290) : Int32).toNatClampNeg)) (fun V4 => k11v V4 a0v (y1 + 1)) else none) else none))))
set_option maxHeartbeats 4000000 in
set_option maxRecDepth 100000 in
theorem sX9_keeps_11 (n : Nat) {S0 : MS} {Q : MS → Prop} {QX : String → MS → Prop} {k11 : MS → Nat → Int32 → Prop} {k11v : VS → Nat → Int32 → Rs Unit} (hk11 : ∀ (S : MS) (V : VS) (p0 p0v : Nat) (p1 : Int32), SM S V → Ex S0 S → Ad S p0 p0v → gd (k11v V p0v p1) (SU Q S0) (SX QX S0) → k11 S p0 p1) {S : MS} {V : VS} {a0 a0v : Nat} {y1 : Int32} (hS : SM S V) (hx : Ex S0 S) (h_a0 : Ad S a0 a0v) (hQ : gd (eX9_keeps_11 n k11v V a0v y1) (SU Q S0) (SX QX S0)) : wX9_keeps_11 Q QX k11 S a0 y1 := by
  unfold wX9_keeps_11
  unfold eX9_keeps_11 at hQ
  refine st_if rfl hQ (fun hQ => ?_) (fun hQ => ?_)
  · intro S1 eS
    obtain ⟨V1, hS1, xS, hQ⟩ := st_sI hS h_a0 eS rfl (show (((mI S a0 9) - 1)) = (((vI V a0v 9) - 1)) from by simp only [SM_I hS h_a0]) hQ
    have hx1 : Ex S0 S1 := Ex_tr hx xS
    have h1_a0 := xS _ _ h_a0
    refine ⟨n, ?_⟩
    exact selX9_keeps_52 n n _ _ _ _ _ hS1 hx1 h1_a0 hQ
  · refine st_rd hS h_a0 rfl hQ (fun a2 a2v h_a2 hQ => ?_)
    refine st_rd hS h_a0 rfl hQ (fun a3 a3v h_a3 hQ => ?_)
    refine st_gd (fun h => by simp only [SM_N hS h_a3]; exact gvp_in_of h) hQ (fun hQ => ?_)
    refine st_gd (fun h => by simp only [SM_N hS h_a2]; exact gvp_in_of h) hQ (fun hQ => ?_)
    intro S4 eS
    obtain ⟨V4, hS4, xS, hQ⟩ := st_sI hS h_a2 eS rfl (show ((mI S a3 ((y1 + 290) : Int32).toNatClampNeg)) = ((vI V a3v ((y1 + 290) : Int32).toNatClampNeg)) from by simp only [SM_I hS h_a3]) hQ
    have hx4 : Ex S0 S4 := Ex_tr hx xS
    have h4_a0 := xS _ _ h_a0
    exact hk11 _ _ _ _ _ hS4 hx4 h4_a0 hQ
def elX9_keeps_11 (n : Nat) : Nat → VS → Nat → Int32 → Rs Unit
  | 0 => fun _ _ _ => none
  | m + 1 => fun V a0v y1 => eX9_keeps_11 n (elX9_keeps_11 n m) V a0v y1
theorem selX9_keeps_11 (n : Nat) {S0 : MS} {Q : MS → Prop} {QX : String → MS → Prop} : ∀ (m : Nat), ∀ (S : MS) (V : VS) (p0 p0v : Nat) (p1 : Int32), SM S V → Ex S0 S → Ad S p0 p0v → gd (elX9_keeps_11 n m V p0v p1) (SU Q S0) (SX QX S0) → lX9_keeps_11 Q QX m S p0 p1 := by
  intro m
  induction m with
  | zero => intro S V p0 p0v p1 hS hx q0 hQ; exact (gd_none hQ).elim
  | succ m ih => intro S V p0 p0v p1 hS hx q0 hQ; exact sX9_keeps_11 n ih hS hx q0 hQ
def eX9_keeps_0 (n : Nat) (V : VS) (a0v : Nat) : Rs Unit := (if (vI V a0v 9) = 8 then elX9_keeps_11 n n V a0v 0 else elX9_keeps_52 n n V a0v 0)
set_option maxHeartbeats 4000000 in
set_option maxRecDepth 100000 in
theorem sX9_keeps_0 (n : Nat) {S0 : MS} {Q : MS → Prop} {QX : String → MS → Prop} {S : MS} {V : VS} {a0 a0v : Nat} (hS : SM S V) (hx : Ex S0 S) (h_a0 : Ad S a0 a0v) (hQ : gd (eX9_keeps_0 n V a0v) (SU Q S0) (SX QX S0)) : wX9_keeps_0 Q QX S a0 := by
  unfold wX9_keeps_0
  unfold eX9_keeps_0 at hQ
  refine st_ifn (show ((mI S a0 9) = 8) = ((vI V a0v 9) = 8) from by simp only [SM_I hS h_a0]) hQ (fun hQ => ?_) (fun hQ => ?_)
  · refine ⟨n, ?_⟩
    exact selX9_keeps_52 n n _ _ _ _ _ hS hx h_a0 hQ
  · refine ⟨n, ?_⟩
    exact selX9_keeps_11 n n _ _ _ _ _ hS hx h_a0 hQ
def ev_X9_keeps (n : Nat) (V : VS) (a0v : Nat) : Rs Unit := eX9_keeps_0 n V a0v
theorem sim_X9_keeps (n : Nat) {Q : MS → Prop} {QX : String → MS → Prop} {S : MS} {V : VS} {a0 a0v : Nat} (hS : SM S V) (h_a0 : Ad S a0 a0v) (hQ : gd (ev_X9_keeps n V a0v) (SU Q S) (SX QX S)) : wp_X9_keeps Q QX S a0 := by
  exact sX9_keeps_0 n hS Ex_rf h_a0 hQ
def eX9_ends_52 (n : Nat) (V : VS) (a0v : Nat) : Rs Int32 := bd (ev_X9_placeOfTurn n V a0v) (fun r2 V1 => bd (ev_X9_goesOn n V1 a0v r2) (fun _ V3 => (vR V3 a0v 1).bind (fun a4v => (if gvp_in 166 (vN V3 a4v) = true then rt (vI V3 a4v (166 : Int32).toNatClampNeg) V3 else none))) th) th
set_option maxHeartbeats 4000000 in
set_option maxRecDepth 100000 in
theorem sX9_ends_52 (n : Nat) {S0 : MS} {Q : Int32 → MS → Prop} {QX : String → MS → Prop} {S : MS} {V : VS} {a0 a0v : Nat} (hS : SM S V) (hx : Ex S0 S) (h_a0 : Ad S a0 a0v) (hQ : gd (eX9_ends_52 n V a0v) (SQ Q S0) (SX QX S0)) : wX9_ends_52 Q QX S a0 := by
  unfold wX9_ends_52
  unfold eX9_ends_52 at hQ
  refine sim_X9_placeOfTurn n hS h_a0 ?_
  refine gd_mono (gd_bd hQ) (fun r2 V1 hQ S1 hS1 xS => ?_) (fun E V9 hQ S9 hS9 xS9 => gd_th hQ S9 hS9 (Ex_tr hx xS9))
  have hx1 : Ex S0 S1 := Ex_tr hx xS
  have h1_a0 := xS _ _ h_a0
  refine sim_X9_goesOn n hS1 h1_a0 rfl ?_
  refine gd_mono (gd_bd hQ) (fun _ V3 hQ S3 hS3 xS => ?_) (fun E V9 hQ S9 hS9 xS9 => gd_th hQ S9 hS9 (Ex_tr hx1 xS9))
  have hx3 : Ex S0 S3 := Ex_tr hx1 xS
  have h3_a0 := xS _ _ h1_a0
  refine st_rd hS3 h3_a0 rfl hQ (fun a4 a4v h3_a4 hQ => ?_)
  refine st_gd (fun h => by simp only [SM_N hS3 h3_a4]; exact gvp_in_of h) hQ (fun hQ => ?_)
  simp only [SM_I hS3 h3_a4]
  exact gd_rt hQ _ hS3 hx3
def eX9_ends_26 (n : Nat) (V : VS) (a0v : Nat) (y1 : Int32) : Rs Int32 := bd (ev_X9_of n V a0v y1 8) (fun r2 V1 => (if r2 ≤ 0 then eX9_ends_52 n V1 a0v else bd (ev_X9_of n V1 a0v y1 8) (fun r4 V3 => bd (ev_X9_sets n V3 a0v y1 8 (r4 - 1)) (fun _ V5 => eX9_ends_52 n V5 a0v) th) th)) th
set_option maxHeartbeats 4000000 in
set_option maxRecDepth 100000 in
theorem sX9_ends_26 (n : Nat) {S0 : MS} {Q : Int32 → MS → Prop} {QX : String → MS → Prop} {S : MS} {V : VS} {a0 a0v : Nat} {y1 : Int32} (hS : SM S V) (hx : Ex S0 S) (h_a0 : Ad S a0 a0v) (hQ : gd (eX9_ends_26 n V a0v y1) (SQ Q S0) (SX QX S0)) : wX9_ends_26 Q QX S a0 y1 := by
  unfold wX9_ends_26
  unfold eX9_ends_26 at hQ
  refine sim_X9_of n hS h_a0 rfl rfl ?_
  refine gd_mono (gd_bd hQ) (fun r2 V1 hQ S1 hS1 xS => ?_) (fun E V9 hQ S9 hS9 xS9 => gd_th hQ S9 hS9 (Ex_tr hx xS9))
  have hx1 : Ex S0 S1 := Ex_tr hx xS
  have h1_a0 := xS _ _ h_a0
  refine st_if rfl hQ (fun hQ => ?_) (fun hQ => ?_)
  · exact sX9_ends_52 n hS1 hx1 h1_a0 hQ
  · refine sim_X9_of n hS1 h1_a0 rfl rfl ?_
    refine gd_mono (gd_bd hQ) (fun r4 V3 hQ S3 hS3 xS => ?_) (fun E V9 hQ S9 hS9 xS9 => gd_th hQ S9 hS9 (Ex_tr hx1 xS9))
    have hx3 : Ex S0 S3 := Ex_tr hx1 xS
    have h3_a0 := xS _ _ h1_a0
    refine sim_X9_sets n hS3 h3_a0 rfl rfl rfl ?_
    refine gd_mono (gd_bd hQ) (fun _ V5 hQ S5 hS5 xS => ?_) (fun E V9 hQ S9 hS9 xS9 => gd_th hQ S9 hS9 (Ex_tr hx3 xS9))
    have hx5 : Ex S0 S5 := Ex_tr hx3 xS
    have h5_a0 := xS _ _ h3_a0
    exact sX9_ends_52 n hS5 hx5 h5_a0 hQ
def eX9_ends_0 (n : Nat) (V : VS) (a0v : Nat) (x1 : Int32) : Rs Int32 := bd (ev_X9_of n V a0v x1 7) (fun r2 V1 => (if r2 ≤ 0 then eX9_ends_26 n V1 a0v x1 else bd (ev_X9_of n V1 a0v x1 7) (fun r4 V3 => bd (ev_X9_sets n V3 a0v x1 7 (r4 - 1)) (fun _ V5 => eX9_ends_26 n V5 a0v x1) th) th)) th
set_option maxHeartbeats 4000000 in
set_option maxRecDepth 100000 in
theorem sX9_ends_0 (n : Nat) {S0 : MS} {Q : Int32 → MS → Prop} {QX : String → MS → Prop} {S : MS} {V : VS} {a0 a0v : Nat} {x1 : Int32} (hS : SM S V) (hx : Ex S0 S) (h_a0 : Ad S a0 a0v) (hQ : gd (eX9_ends_0 n V a0v x1) (SQ Q S0) (SX QX S0)) : wX9_ends_0 Q QX S a0 x1 := by
  unfold wX9_ends_0
  unfold eX9_ends_0 at hQ
  refine sim_X9_of n hS h_a0 rfl rfl ?_
  refine gd_mono (gd_bd hQ) (fun r2 V1 hQ S1 hS1 xS => ?_) (fun E V9 hQ S9 hS9 xS9 => gd_th hQ S9 hS9 (Ex_tr hx xS9))
  have hx1 : Ex S0 S1 := Ex_tr hx xS
  have h1_a0 := xS _ _ h_a0
  refine st_if rfl hQ (fun hQ => ?_) (fun hQ => ?_)
  · exact sX9_ends_26 n hS1 hx1 h1_a0 hQ
  · refine sim_X9_of n hS1 h1_a0 rfl rfl ?_
    refine gd_mono (gd_bd hQ) (fun r4 V3 hQ S3 hS3 xS => ?_) (fun E V9 hQ S9 hS9 xS9 => gd_th hQ S9 hS9 (Ex_tr hx1 xS9))
    have hx3 : Ex S0 S3 := Ex_tr hx1 xS
    have h3_a0 := xS _ _ h1_a0
    refine sim_X9_sets n hS3 h3_a0 rfl rfl rfl ?_
    refine gd_mono (gd_bd hQ) (fun _ V5 hQ S5 hS5 xS => ?_) (fun E V9 hQ S9 hS9 xS9 => gd_th hQ S9 hS9 (Ex_tr hx3 xS9))
    have hx5 : Ex S0 S5 := Ex_tr hx3 xS
    have h5_a0 := xS _ _ h3_a0
    exact sX9_ends_26 n hS5 hx5 h5_a0 hQ
def ev_X9_ends (n : Nat) (V : VS) (a0v : Nat) (x1 : Int32) : Rs Int32 := eX9_ends_0 n V a0v x1
theorem sim_X9_ends (n : Nat) {Q : Int32 → MS → Prop} {QX : String → MS → Prop} {S : MS} {V : VS} {a0 a0v : Nat} {x1 x1z : Int32} (hS : SM S V) (h_a0 : Ad S a0 a0v) (e_x1 : x1 = x1z) (hQ : gd (ev_X9_ends n V a0v x1z) (SQ Q S) (SX QX S)) : wp_X9_ends Q QX S a0 x1 := by
  subst e_x1
  exact sX9_ends_0 n hS Ex_rf h_a0 hQ
def eX9_isStopped_47 (n : Nat) (k2v : VS → Nat → Int32 → Int32 → Rs Int32) (V : VS) (a0v : Nat) (y1 : Int32) (y3 : Int32) (z0 : Int32) : Rs Int32 := (if z0 = 0 then k2v V a0v y1 (y3 + 1) else bd (ev_X9_sets n V a0v y3 10 0) (fun _ V1 => bd (ev_X9_tells n V1 a0v 7 y3 y1) (fun _ V2 => bd (ev_X9_attacks n V2 a0v y3 y1) (fun r4 V3 => (if r4 ≤ 0 then k2v V3 a0v y1 (y3 + 1) else rt 1 V3)) th) th) th)
set_option maxHeartbeats 4000000 in
set_option maxRecDepth 100000 in
theorem sX9_isStopped_47 (n : Nat) {S0 : MS} {Q : Int32 → MS → Prop} {QX : String → MS → Prop} {k2 : MS → Nat → Int32 → Int32 → Prop} {k2v : VS → Nat → Int32 → Int32 → Rs Int32} (hk2 : ∀ (S : MS) (V : VS) (p0 p0v : Nat) (p1 : Int32) (p2 : Int32), SM S V → Ex S0 S → Ad S p0 p0v → gd (k2v V p0v p1 p2) (SQ Q S0) (SX QX S0) → k2 S p0 p1 p2) {S : MS} {V : VS} {a0 a0v : Nat} {y1 : Int32} {y3 : Int32} {z0 : Int32} (hS : SM S V) (hx : Ex S0 S) (h_a0 : Ad S a0 a0v) (hQ : gd (eX9_isStopped_47 n k2v V a0v y1 y3 z0) (SQ Q S0) (SX QX S0)) : wX9_isStopped_47 Q QX k2 S a0 y1 y3 z0 := by
  unfold wX9_isStopped_47
  unfold eX9_isStopped_47 at hQ
  refine st_ifn rfl hQ (fun hQ => ?_) (fun hQ => ?_)
  · refine sim_X9_sets n hS h_a0 rfl rfl rfl ?_
    refine gd_mono (gd_bd hQ) (fun _ V1 hQ S1 hS1 xS => ?_) (fun E V9 hQ S9 hS9 xS9 => gd_th hQ S9 hS9 (Ex_tr hx xS9))
    have hx1 : Ex S0 S1 := Ex_tr hx xS
    have h1_a0 := xS _ _ h_a0
    refine sim_X9_tells n hS1 h1_a0 rfl rfl rfl ?_
    refine gd_mono (gd_bd hQ) (fun _ V2 hQ S2 hS2 xS => ?_) (fun E V9 hQ S9 hS9 xS9 => gd_th hQ S9 hS9 (Ex_tr hx1 xS9))
    have hx2 : Ex S0 S2 := Ex_tr hx1 xS
    have h2_a0 := xS _ _ h1_a0
    refine sim_X9_attacks n hS2 h2_a0 rfl rfl ?_
    refine gd_mono (gd_bd hQ) (fun r4 V3 hQ S3 hS3 xS => ?_) (fun E V9 hQ S9 hS9 xS9 => gd_th hQ S9 hS9 (Ex_tr hx2 xS9))
    have hx3 : Ex S0 S3 := Ex_tr hx2 xS
    have h3_a0 := xS _ _ h2_a0
    refine st_if rfl hQ (fun hQ => ?_) (fun hQ => ?_)
    · exact hk2 _ _ _ _ _ _ hS3 hx3 h3_a0 hQ
    · exact gd_rt hQ _ hS3 hx3
  · exact hk2 _ _ _ _ _ _ hS hx h_a0 hQ
def eX9_isStopped_46 (n : Nat) (k2v : VS → Nat → Int32 → Int32 → Rs Int32) (V : VS) (a0v : Nat) (y1 : Int32) (y3 : Int32) : Rs Int32 := eX9_isStopped_47 n k2v V a0v y1 y3 0
set_option maxHeartbeats 4000000 in
set_option maxRecDepth 100000 in
theorem sX9_isStopped_46 (n : Nat) {S0 : MS} {Q : Int32 → MS → Prop} {QX : String → MS → Prop} {k2 : MS → Nat → Int32 → Int32 → Prop} {k2v : VS → Nat → Int32 → Int32 → Rs Int32} (hk2 : ∀ (S : MS) (V : VS) (p0 p0v : Nat) (p1 : Int32) (p2 : Int32), SM S V → Ex S0 S → Ad S p0 p0v → gd (k2v V p0v p1 p2) (SQ Q S0) (SX QX S0) → k2 S p0 p1 p2) {S : MS} {V : VS} {a0 a0v : Nat} {y1 : Int32} {y3 : Int32} (hS : SM S V) (hx : Ex S0 S) (h_a0 : Ad S a0 a0v) (hQ : gd (eX9_isStopped_46 n k2v V a0v y1 y3) (SQ Q S0) (SX QX S0)) : wX9_isStopped_46 Q QX k2 S a0 y1 y3 := by
  unfold wX9_isStopped_46
  unfold eX9_isStopped_46 at hQ
  exact sX9_isStopped_47 n hk2 hS hx h_a0 hQ
def eX9_isStopped_2 (n : Nat) (k2v : VS → Nat → Int32 → Int32 → Rs Int32) (V : VS) (a0v : Nat) (y1 : Int32) (y3 : Int32) : Rs Int32 := (vR V a0v 1).bind (fun a1v => (if gvp_in 66 (vN V a1v) = true then (if (vI V a1v (66 : Int32).toNatClampNeg) ≤ y3 then rt 0 V else bd (ev_X9_of n V a0v y3 10) (fun r3 V2 => (if r3 = 1 then bd (ev_X9_of n V2 a0v y3 4) (fun r5 V4 => (if r5 ≤ 0 then eX9_isStopped_46 n k2v V4 a0v y1 y3 else bd (ev_X9_canAttack n V4 a0v y3 y1) (fun r7 V6 => (if r7 = 0 then eX9_isStopped_46 n k2v V6 a0v y1 y3 else eX9_isStopped_47 n k2v V6 a0v y1 y3 1)) th)) th else eX9_isStopped_46 n k2v V2 a0v y1 y3)) th) else none))
set_option maxHeartbeats 4000000 in
set_option maxRecDepth 100000 in
theorem sX9_isStopped_2 (n : Nat) {S0 : MS} {Q : Int32 → MS → Prop} {QX : String → MS → Prop} {k2 : MS → Nat → Int32 → Int32 → Prop} {k2v : VS → Nat → Int32 → Int32 → Rs Int32} (hk2 : ∀ (S : MS) (V : VS) (p0 p0v : Nat) (p1 : Int32) (p2 : Int32), SM S V → Ex S0 S → Ad S p0 p0v → gd (k2v V p0v p1 p2) (SQ Q S0) (SX QX S0) → k2 S p0 p1 p2) {S : MS} {V : VS} {a0 a0v : Nat} {y1 : Int32} {y3 : Int32} (hS : SM S V) (hx : Ex S0 S) (h_a0 : Ad S a0 a0v) (hQ : gd (eX9_isStopped_2 n k2v V a0v y1 y3) (SQ Q S0) (SX QX S0)) : wX9_isStopped_2 Q QX k2 S a0 y1 y3 := by
  unfold wX9_isStopped_2
  unfold eX9_isStopped_2 at hQ
  refine st_rd hS h_a0 rfl hQ (fun a1 a1v h_a1 hQ => ?_)
  refine st_gd (fun h => by simp only [SM_N hS h_a1]; exact gvp_in_of h) hQ (fun hQ => ?_)
  refine st_if (show ((mI S a1 (66 : Int32).toNatClampNeg) ≤ y3) = ((vI V a1v (66 : Int32).toNatClampNeg) ≤ y3) from by simp only [SM_I hS h_a1]) hQ (fun hQ => ?_) (fun hQ => ?_)
  · exact gd_rt hQ _ hS hx
  · refine sim_X9_of n hS h_a0 rfl rfl ?_
    refine gd_mono (gd_bd hQ) (fun r3 V2 hQ S2 hS2 xS => ?_) (fun E V9 hQ S9 hS9 xS9 => gd_th hQ S9 hS9 (Ex_tr hx xS9))
    have hx2 : Ex S0 S2 := Ex_tr hx xS
    have h2_a0 := xS _ _ h_a0
    refine st_ifn rfl hQ (fun hQ => ?_) (fun hQ => ?_)
    · exact sX9_isStopped_46 n hk2 hS2 hx2 h2_a0 hQ
    · refine sim_X9_of n hS2 h2_a0 rfl rfl ?_
      refine gd_mono (gd_bd hQ) (fun r5 V4 hQ S4 hS4 xS => ?_) (fun E V9 hQ S9 hS9 xS9 => gd_th hQ S9 hS9 (Ex_tr hx2 xS9))
      have hx4 : Ex S0 S4 := Ex_tr hx2 xS
      have h4_a0 := xS _ _ h2_a0
      refine st_if rfl hQ (fun hQ => ?_) (fun hQ => ?_)
      · exact sX9_isStopped_46 n hk2 hS4 hx4 h4_a0 hQ
      · refine sim_X9_canAttack n hS4 h4_a0 rfl rfl ?_
        refine gd_mono (gd_bd hQ) (fun r7 V6 hQ S6 hS6 xS => ?_) (fun E V9 hQ S9 hS9 xS9 => gd_th hQ S9 hS9 (Ex_tr hx4 xS9))
        have hx6 : Ex S0 S6 := Ex_tr hx4 xS
        have h6_a0 := xS _ _ h4_a0
        refine st_if rfl hQ (fun hQ => ?_) (fun hQ => ?_)
        · exact sX9_isStopped_46 n hk2 hS6 hx6 h6_a0 hQ
        · exact sX9_isStopped_47 n hk2 hS6 hx6 h6_a0 hQ
def elX9_isStopped_2 (n : Nat) : Nat → VS → Nat → Int32 → Int32 → Rs Int32
  | 0 => fun _ _ _ _ => none
  | m + 1 => fun V a0v y1 y3 => eX9_isStopped_2 n (elX9_isStopped_2 n m) V a0v y1 y3
theorem selX9_isStopped_2 (n : Nat) {S0 : MS} {Q : Int32 → MS → Prop} {QX : String → MS → Prop} : ∀ (m : Nat), ∀ (S : MS) (V : VS) (p0 p0v : Nat) (p1 : Int32) (p2 : Int32), SM S V → Ex S0 S → Ad S p0 p0v → gd (elX9_isStopped_2 n m V p0v p1 p2) (SQ Q S0) (SX QX S0) → lX9_isStopped_2 Q QX m S p0 p1 p2 := by
  intro m
  induction m with
  | zero => intro S V p0 p0v p1 p2 hS hx q0 hQ; exact (gd_none hQ).elim
  | succ m ih => intro S V p0 p0v p1 p2 hS hx q0 hQ; exact sX9_isStopped_2 n ih hS hx q0 hQ
def eX9_isStopped_0 (n : Nat) (V : VS) (a0v : Nat) (x1 : Int32) (x2 : Int32) : Rs Int32 := elX9_isStopped_2 n n V a0v x1 0
set_option maxHeartbeats 4000000 in
set_option maxRecDepth 100000 in
theorem sX9_isStopped_0 (n : Nat) {S0 : MS} {Q : Int32 → MS → Prop} {QX : String → MS → Prop} {S : MS} {V : VS} {a0 a0v : Nat} {x1 : Int32} {x2 : Int32} (hS : SM S V) (hx : Ex S0 S) (h_a0 : Ad S a0 a0v) (hQ : gd (eX9_isStopped_0 n V a0v x1 x2) (SQ Q S0) (SX QX S0)) : wX9_isStopped_0 Q QX S a0 x1 x2 := by
  unfold wX9_isStopped_0
  unfold eX9_isStopped_0 at hQ
  refine ⟨n, ?_⟩
  exact selX9_isStopped_2 n n _ _ _ _ _ _ hS hx h_a0 hQ
def ev_X9_isStopped (n : Nat) (V : VS) (a0v : Nat) (x1 : Int32) (x2 : Int32) : Rs Int32 := eX9_isStopped_0 n V a0v x1 x2
theorem sim_X9_isStopped (n : Nat) {Q : Int32 → MS → Prop} {QX : String → MS → Prop} {S : MS} {V : VS} {a0 a0v : Nat} {x1 x1z : Int32} {x2 x2z : Int32} (hS : SM S V) (h_a0 : Ad S a0 a0v) (e_x1 : x1 = x1z) (e_x2 : x2 = x2z) (hQ : gd (ev_X9_isStopped n V a0v x1z x2z) (SQ Q S) (SX QX S)) : wp_X9_isStopped Q QX S a0 x1 x2 := by
  subst e_x1 e_x2
  exact sX9_isStopped_0 n hS Ex_rf h_a0 hQ
def eX9_moves_58 (n : Nat) (k15v : VS → Nat → Int32 → Int32 → Int32 → Int32 → Rs Int32) (V : VS) (a0v : Nat) (y1 : Int32) (y2 : Int32) (y3 : Int32) : Rs Int32 := bd (ev_X9_isStopped n V a0v y1 y3) (fun r2 V1 => k15v V1 a0v y1 y2 y3 r2) th
set_option maxHeartbeats 4000000 in
set_option maxRecDepth 100000 in
theorem sX9_moves_58 (n : Nat) {S0 : MS} {Q : Int32 → MS → Prop} {QX : String → MS → Prop} {k15 : MS → Nat → Int32 → Int32 → Int32 → Int32 → Prop} {k15v : VS → Nat → Int32 → Int32 → Int32 → Int32 → Rs Int32} (hk15 : ∀ (S : MS) (V : VS) (p0 p0v : Nat) (p1 : Int32) (p2 : Int32) (p3 : Int32) (p4 : Int32), SM S V → Ex S0 S → Ad S p0 p0v → gd (k15v V p0v p1 p2 p3 p4) (SQ Q S0) (SX QX S0) → k15 S p0 p1 p2 p3 p4) {S : MS} {V : VS} {a0 a0v : Nat} {y1 : Int32} {y2 : Int32} {y3 : Int32} (hS : SM S V) (hx : Ex S0 S) (h_a0 : Ad S a0 a0v) (hQ : gd (eX9_moves_58 n k15v V a0v y1 y2 y3) (SQ Q S0) (SX QX S0)) : wX9_moves_58 Q QX k15 S a0 y1 y2 y3 := by
  unfold wX9_moves_58
  unfold eX9_moves_58 at hQ
  refine sim_X9_isStopped n hS h_a0 rfl rfl ?_
  refine gd_mono (gd_bd hQ) (fun r2 V1 hQ S1 hS1 xS => ?_) (fun E V9 hQ S9 hS9 xS9 => gd_th hQ S9 hS9 (Ex_tr hx xS9))
  have hx1 : Ex S0 S1 := Ex_tr hx xS
  have h1_a0 := xS _ _ h_a0
  exact hk15 _ _ _ _ _ _ _ _ hS1 hx1 h1_a0 hQ
def eX9_moves_69 (n : Nat) (V : VS) (a0v : Nat) (y1 : Int32) (y3 : Int32) : Rs Int32 := bd (ev_X9_tells n V a0v 1 y1 y3) (fun _ V1 => rt y3 V1) th
set_option maxHeartbeats 4000000 in
set_option maxRecDepth 100000 in
theorem sX9_moves_69 (n : Nat) {S0 : MS} {Q : Int32 → MS → Prop} {QX : String → MS → Prop} {S : MS} {V : VS} {a0 a0v : Nat} {y1 : Int32} {y3 : Int32} (hS : SM S V) (hx : Ex S0 S) (h_a0 : Ad S a0 a0v) (hQ : gd (eX9_moves_69 n V a0v y1 y3) (SQ Q S0) (SX QX S0)) : wX9_moves_69 Q QX S a0 y1 y3 := by
  unfold wX9_moves_69
  unfold eX9_moves_69 at hQ
  refine sim_X9_tells n hS h_a0 rfl rfl rfl ?_
  refine gd_mono (gd_bd hQ) (fun _ V1 hQ S1 hS1 xS => ?_) (fun E V9 hQ S9 hS9 xS9 => gd_th hQ S9 hS9 (Ex_tr hx xS9))
  have hx1 : Ex S0 S1 := Ex_tr hx xS
  exact gd_rt hQ _ hS1 hx1
def eX9_moves_15 (n : Nat) (k15v : VS → Nat → Int32 → Int32 → Int32 → Int32 → Rs Int32) (V : VS) (a0v : Nat) (y1 : Int32) (y2 : Int32) (y3 : Int32) (y4 : Int32) : Rs Int32 := (if y3 = y2 then eX9_moves_69 n V a0v y1 y3 else (if y4 = 0 then bd (ev_X9_next n V a0v y3) (fun r2 V1 => bd (ev_X9_sets n V1 a0v y1 2 r2) (fun _ V3 => (vR V3 a0v 1).bind (fun a4v => (if gvp_in (2 + r2) (vN V3 a4v) = true then (if (vI V3 a4v ((2 + r2) : Int32).toNatClampNeg) = 4 then bd (ev_X9_sets n V3 a0v y1 8 2) (fun _ V5 => eX9_moves_58 n k15v V5 a0v y1 y2 r2) th else eX9_moves_58 n k15v V3 a0v y1 y2 r2) else none))) th) th else eX9_moves_69 n V a0v y1 y3))
set_option maxHeartbeats 4000000 in
set_option maxRecDepth 100000 in
theorem sX9_moves_15 (n : Nat) {S0 : MS} {Q : Int32 → MS → Prop} {QX : String → MS → Prop} {k15 : MS → Nat → Int32 → Int32 → Int32 → Int32 → Prop} {k15v : VS → Nat → Int32 → Int32 → Int32 → Int32 → Rs Int32} (hk15 : ∀ (S : MS) (V : VS) (p0 p0v : Nat) (p1 : Int32) (p2 : Int32) (p3 : Int32) (p4 : Int32), SM S V → Ex S0 S → Ad S p0 p0v → gd (k15v V p0v p1 p2 p3 p4) (SQ Q S0) (SX QX S0) → k15 S p0 p1 p2 p3 p4) {S : MS} {V : VS} {a0 a0v : Nat} {y1 : Int32} {y2 : Int32} {y3 : Int32} {y4 : Int32} (hS : SM S V) (hx : Ex S0 S) (h_a0 : Ad S a0 a0v) (hQ : gd (eX9_moves_15 n k15v V a0v y1 y2 y3 y4) (SQ Q S0) (SX QX S0)) : wX9_moves_15 Q QX k15 S a0 y1 y2 y3 y4 := by
  unfold wX9_moves_15
  unfold eX9_moves_15 at hQ
  refine st_if rfl hQ (fun hQ => ?_) (fun hQ => ?_)
  · exact sX9_moves_69 n hS hx h_a0 hQ
  · refine st_ifn rfl hQ (fun hQ => ?_) (fun hQ => ?_)
    · exact sX9_moves_69 n hS hx h_a0 hQ
    · refine sim_X9_next n hS h_a0 rfl ?_
      refine gd_mono (gd_bd hQ) (fun r2 V1 hQ S1 hS1 xS => ?_) (fun E V9 hQ S9 hS9 xS9 => gd_th hQ S9 hS9 (Ex_tr hx xS9))
      have hx1 : Ex S0 S1 := Ex_tr hx xS
      have h1_a0 := xS _ _ h_a0
      refine sim_X9_sets n hS1 h1_a0 rfl rfl rfl ?_
      refine gd_mono (gd_bd hQ) (fun _ V3 hQ S3 hS3 xS => ?_) (fun E V9 hQ S9 hS9 xS9 => gd_th hQ S9 hS9 (Ex_tr hx1 xS9))
      have hx3 : Ex S0 S3 := Ex_tr hx1 xS
      have h3_a0 := xS _ _ h1_a0
      refine st_rd hS3 h3_a0 rfl hQ (fun a4 a4v h3_a4 hQ => ?_)
      refine st_gd (fun h => by simp only [SM_N hS3 h3_a4]; exact gvp_in_of h) hQ (fun hQ => ?_)
      refine st_ifn (show ((mI S3 a4 ((2 + r2) : Int32).toNatClampNeg) = 4) = ((vI V3 a4v ((2 + r2) : Int32).toNatClampNeg) = 4) from by simp only [SM_I hS3 h3_a4]) hQ (fun hQ => ?_) (fun hQ => ?_)
      · exact sX9_moves_58 n hk15 hS3 hx3 h3_a0 hQ
      · refine sim_X9_sets n hS3 h3_a0 rfl rfl rfl ?_
        refine gd_mono (gd_bd hQ) (fun _ V5 hQ S5 hS5 xS => ?_) (fun E V9 hQ S9 hS9 xS9 => gd_th hQ S9 hS9 (Ex_tr hx3 xS9))
        have hx5 : Ex S0 S5 := Ex_tr hx3 xS
        have h5_a0 := xS _ _ h3_a0
        exact sX9_moves_58 n hk15 hS5 hx5 h5_a0 hQ
def elX9_moves_15 (n : Nat) : Nat → VS → Nat → Int32 → Int32 → Int32 → Int32 → Rs Int32
  | 0 => fun _ _ _ _ _ _ => none
  | m + 1 => fun V a0v y1 y2 y3 y4 => eX9_moves_15 n (elX9_moves_15 n m) V a0v y1 y2 y3 y4
theorem selX9_moves_15 (n : Nat) {S0 : MS} {Q : Int32 → MS → Prop} {QX : String → MS → Prop} : ∀ (m : Nat), ∀ (S : MS) (V : VS) (p0 p0v : Nat) (p1 : Int32) (p2 : Int32) (p3 : Int32) (p4 : Int32), SM S V → Ex S0 S → Ad S p0 p0v → gd (elX9_moves_15 n m V p0v p1 p2 p3 p4) (SQ Q S0) (SX QX S0) → lX9_moves_15 Q QX m S p0 p1 p2 p3 p4 := by
  intro m
  induction m with
  | zero => intro S V p0 p0v p1 p2 p3 p4 hS hx q0 hQ; exact (gd_none hQ).elim
  | succ m ih => intro S V p0 p0v p1 p2 p3 p4 hS hx q0 hQ; exact sX9_moves_15 n ih hS hx q0 hQ
def eX9_moves_0 (n : Nat) (V : VS) (a0v : Nat) (x1 : Int32) (x2 : Int32) : Rs Int32 := bd (ev_X9_measures n V a0v x2) (fun _ V1 => bd (ev_X9_of n V1 a0v x1 2) (fun r3 V2 => elX9_moves_15 n n V2 a0v x1 x2 r3 0) th) th
set_option maxHeartbeats 4000000 in
set_option maxRecDepth 100000 in
theorem sX9_moves_0 (n : Nat) {S0 : MS} {Q : Int32 → MS → Prop} {QX : String → MS → Prop} {S : MS} {V : VS} {a0 a0v : Nat} {x1 : Int32} {x2 : Int32} (hS : SM S V) (hx : Ex S0 S) (h_a0 : Ad S a0 a0v) (hQ : gd (eX9_moves_0 n V a0v x1 x2) (SQ Q S0) (SX QX S0)) : wX9_moves_0 Q QX S a0 x1 x2 := by
  unfold wX9_moves_0
  unfold eX9_moves_0 at hQ
  refine sim_X9_measures n hS h_a0 rfl ?_
  refine gd_mono (gd_bd hQ) (fun _ V1 hQ S1 hS1 xS => ?_) (fun E V9 hQ S9 hS9 xS9 => gd_th hQ S9 hS9 (Ex_tr hx xS9))
  have hx1 : Ex S0 S1 := Ex_tr hx xS
  have h1_a0 := xS _ _ h_a0
  refine sim_X9_of n hS1 h1_a0 rfl rfl ?_
  refine gd_mono (gd_bd hQ) (fun r3 V2 hQ S2 hS2 xS => ?_) (fun E V9 hQ S9 hS9 xS9 => gd_th hQ S9 hS9 (Ex_tr hx1 xS9))
  have hx2 : Ex S0 S2 := Ex_tr hx1 xS
  have h2_a0 := xS _ _ h1_a0
  refine ⟨n, ?_⟩
  exact selX9_moves_15 n n _ _ _ _ _ _ _ _ hS2 hx2 h2_a0 hQ
def ev_X9_moves (n : Nat) (V : VS) (a0v : Nat) (x1 : Int32) (x2 : Int32) : Rs Int32 := eX9_moves_0 n V a0v x1 x2
theorem sim_X9_moves (n : Nat) {Q : Int32 → MS → Prop} {QX : String → MS → Prop} {S : MS} {V : VS} {a0 a0v : Nat} {x1 x1z : Int32} {x2 x2z : Int32} (hS : SM S V) (h_a0 : Ad S a0 a0v) (e_x1 : x1 = x1z) (e_x2 : x2 = x2z) (hQ : gd (ev_X9_moves n V a0v x1z x2z) (SQ Q S) (SX QX S)) : wp_X9_moves Q QX S a0 x1 x2 := by
  subst e_x1 e_x2
  exact sX9_moves_0 n hS Ex_rf h_a0 hQ
def eX9_throwsAt_27 (n : Nat) (k27v : VS → Nat → Int32 → Int32 → Int32 → Rs Int32) (V : VS) (a0v : Nat) (y2 : Int32) (y3 : Int32) (y4 : Int32) : Rs Int32 := (vR V a0v 1).bind (fun a1v => (if gvp_in 66 (vN V a1v) = true then (if (vI V a1v (66 : Int32).toNatClampNeg) ≤ y4 then rt y3 V else bd (ev_X9_lives n V a0v y4) (fun r3 V2 => (if r3 = 0 then k27v V2 a0v y2 y3 (y4 + 1) else bd (ev_X9_of n V2 a0v y4 2) (fun r5 V4 => bd (ev_X9_apart n V4 a0v r5 y2) (fun r7 V6 => (if r7 ≤ 1 then bd (ev_X9_loses n V6 a0v y4 3) (fun _ V8 => bd (ev_X9_dies n V8 a0v y4) (fun _ V9 => bd (ev_X9_lives n V9 a0v y4) (fun r11 V10 => (if r11 = 0 then k27v V10 a0v y2 (y3 + 1) (y4 + 1) else bd (ev_X9_roll n V10 a0v 6) (fun r13 V12 => (if r13 < 5 then k27v V12 a0v y2 (y3 + 1) (y4 + 1) else bd (ev_X9_of n V12 a0v y4 7) (fun r15 V14 => (if r15 ≤ 0 then bd (ev_X9_sets n V14 a0v y4 7 1) (fun _ V16 => bd (ev_X9_tells n V16 a0v 6 y4 1) (fun _ V17 => k27v V17 a0v y2 (y3 + 1) (y4 + 1)) th) th else k27v V14 a0v y2 (y3 + 1) (y4 + 1))) th)) th)) th) th) th else k27v V6 a0v y2 y3 (y4 + 1))) th) th)) th) else none))
set_option maxHeartbeats 4000000 in
set_option maxRecDepth 100000 in
theorem sX9_throwsAt_27 (n : Nat) {S0 : MS} {Q : Int32 → MS → Prop} {QX : String → MS → Prop} {k27 : MS → Nat → Int32 → Int32 → Int32 → Prop} {k27v : VS → Nat → Int32 → Int32 → Int32 → Rs Int32} (hk27 : ∀ (S : MS) (V : VS) (p0 p0v : Nat) (p1 : Int32) (p2 : Int32) (p3 : Int32), SM S V → Ex S0 S → Ad S p0 p0v → gd (k27v V p0v p1 p2 p3) (SQ Q S0) (SX QX S0) → k27 S p0 p1 p2 p3) {S : MS} {V : VS} {a0 a0v : Nat} {y2 : Int32} {y3 : Int32} {y4 : Int32} (hS : SM S V) (hx : Ex S0 S) (h_a0 : Ad S a0 a0v) (hQ : gd (eX9_throwsAt_27 n k27v V a0v y2 y3 y4) (SQ Q S0) (SX QX S0)) : wX9_throwsAt_27 Q QX k27 S a0 y2 y3 y4 := by
  unfold wX9_throwsAt_27
  unfold eX9_throwsAt_27 at hQ
  refine st_rd hS h_a0 rfl hQ (fun a1 a1v h_a1 hQ => ?_)
  refine st_gd (fun h => by simp only [SM_N hS h_a1]; exact gvp_in_of h) hQ (fun hQ => ?_)
  refine st_if (show ((mI S a1 (66 : Int32).toNatClampNeg) ≤ y4) = ((vI V a1v (66 : Int32).toNatClampNeg) ≤ y4) from by simp only [SM_I hS h_a1]) hQ (fun hQ => ?_) (fun hQ => ?_)
  · exact gd_rt hQ _ hS hx
  · refine sim_X9_lives n hS h_a0 rfl ?_
    refine gd_mono (gd_bd hQ) (fun r3 V2 hQ S2 hS2 xS => ?_) (fun E V9 hQ S9 hS9 xS9 => gd_th hQ S9 hS9 (Ex_tr hx xS9))
    have hx2 : Ex S0 S2 := Ex_tr hx xS
    have h2_a0 := xS _ _ h_a0
    refine st_if rfl hQ (fun hQ => ?_) (fun hQ => ?_)
    · exact hk27 _ _ _ _ _ _ _ hS2 hx2 h2_a0 hQ
    · refine sim_X9_of n hS2 h2_a0 rfl rfl ?_
      refine gd_mono (gd_bd hQ) (fun r5 V4 hQ S4 hS4 xS => ?_) (fun E V9 hQ S9 hS9 xS9 => gd_th hQ S9 hS9 (Ex_tr hx2 xS9))
      have hx4 : Ex S0 S4 := Ex_tr hx2 xS
      have h4_a0 := xS _ _ h2_a0
      refine sim_X9_apart n hS4 h4_a0 rfl rfl ?_
      refine gd_mono (gd_bd hQ) (fun r7 V6 hQ S6 hS6 xS => ?_) (fun E V9 hQ S9 hS9 xS9 => gd_th hQ S9 hS9 (Ex_tr hx4 xS9))
      have hx6 : Ex S0 S6 := Ex_tr hx4 xS
      have h6_a0 := xS _ _ h4_a0
      refine st_if rfl hQ (fun hQ => ?_) (fun hQ => ?_)
      · refine sim_X9_loses n hS6 h6_a0 rfl rfl ?_
        refine gd_mono (gd_bd hQ) (fun _ V8 hQ S8 hS8 xS => ?_) (fun E V9 hQ S9 hS9 xS9 => gd_th hQ S9 hS9 (Ex_tr hx6 xS9))
        have hx8 : Ex S0 S8 := Ex_tr hx6 xS
        have h8_a0 := xS _ _ h6_a0
        refine sim_X9_dies n hS8 h8_a0 rfl ?_
        refine gd_mono (gd_bd hQ) (fun _ V9 hQ S9 hS9 xS => ?_) (fun E V9 hQ S9 hS9 xS9 => gd_th hQ S9 hS9 (Ex_tr hx8 xS9))
        have hx9 : Ex S0 S9 := Ex_tr hx8 xS
        have h9_a0 := xS _ _ h8_a0
        refine sim_X9_lives n hS9 h9_a0 rfl ?_
        refine gd_mono (gd_bd hQ) (fun r11 V10 hQ S10 hS10 xS => ?_) (fun E V9 hQ S9 hS9 xS9 => gd_th hQ S9 hS9 (Ex_tr hx9 xS9))
        have hx10 : Ex S0 S10 := Ex_tr hx9 xS
        have h10_a0 := xS _ _ h9_a0
        refine st_if rfl hQ (fun hQ => ?_) (fun hQ => ?_)
        · exact hk27 _ _ _ _ _ _ _ hS10 hx10 h10_a0 hQ
        · refine sim_X9_roll n hS10 h10_a0 rfl ?_
          refine gd_mono (gd_bd hQ) (fun r13 V12 hQ S12 hS12 xS => ?_) (fun E V9 hQ S9 hS9 xS9 => gd_th hQ S9 hS9 (Ex_tr hx10 xS9))
          have hx12 : Ex S0 S12 := Ex_tr hx10 xS
          have h12_a0 := xS _ _ h10_a0
          refine st_if rfl hQ (fun hQ => ?_) (fun hQ => ?_)
          · exact hk27 _ _ _ _ _ _ _ hS12 hx12 h12_a0 hQ
          · refine sim_X9_of n hS12 h12_a0 rfl rfl ?_
            refine gd_mono (gd_bd hQ) (fun r15 V14 hQ S14 hS14 xS => ?_) (fun E V9 hQ S9 hS9 xS9 => gd_th hQ S9 hS9 (Ex_tr hx12 xS9))
            have hx14 : Ex S0 S14 := Ex_tr hx12 xS
            have h14_a0 := xS _ _ h12_a0
            refine st_if rfl hQ (fun hQ => ?_) (fun hQ => ?_)
            · refine sim_X9_sets n hS14 h14_a0 rfl rfl rfl ?_
              refine gd_mono (gd_bd hQ) (fun _ V16 hQ S16 hS16 xS => ?_) (fun E V9 hQ S9 hS9 xS9 => gd_th hQ S9 hS9 (Ex_tr hx14 xS9))
              have hx16 : Ex S0 S16 := Ex_tr hx14 xS
              have h16_a0 := xS _ _ h14_a0
              refine sim_X9_tells n hS16 h16_a0 rfl rfl rfl ?_
              refine gd_mono (gd_bd hQ) (fun _ V17 hQ S17 hS17 xS => ?_) (fun E V9 hQ S9 hS9 xS9 => gd_th hQ S9 hS9 (Ex_tr hx16 xS9))
              have hx17 : Ex S0 S17 := Ex_tr hx16 xS
              have h17_a0 := xS _ _ h16_a0
              exact hk27 _ _ _ _ _ _ _ hS17 hx17 h17_a0 hQ
            · exact hk27 _ _ _ _ _ _ _ hS14 hx14 h14_a0 hQ
      · exact hk27 _ _ _ _ _ _ _ hS6 hx6 h6_a0 hQ
def elX9_throwsAt_27 (n : Nat) : Nat → VS → Nat → Int32 → Int32 → Int32 → Rs Int32
  | 0 => fun _ _ _ _ _ => none
  | m + 1 => fun V a0v y2 y3 y4 => eX9_throwsAt_27 n (elX9_throwsAt_27 n m) V a0v y2 y3 y4
theorem selX9_throwsAt_27 (n : Nat) {S0 : MS} {Q : Int32 → MS → Prop} {QX : String → MS → Prop} : ∀ (m : Nat), ∀ (S : MS) (V : VS) (p0 p0v : Nat) (p1 : Int32) (p2 : Int32) (p3 : Int32), SM S V → Ex S0 S → Ad S p0 p0v → gd (elX9_throwsAt_27 n m V p0v p1 p2 p3) (SQ Q S0) (SX QX S0) → lX9_throwsAt_27 Q QX m S p0 p1 p2 p3 := by
  intro m
  induction m with
  | zero => intro S V p0 p0v p1 p2 p3 hS hx q0 hQ; exact (gd_none hQ).elim
  | succ m ih => intro S V p0 p0v p1 p2 p3 hS hx q0 hQ; exact sX9_throwsAt_27 n ih hS hx q0 hQ
def eX9_throwsAt_0 (n : Nat) (V : VS) (a0v : Nat) (x1 : Int32) (x2 : Int32) : Rs Int32 := bd (ev_X9_of n V a0v x1 5) (fun r2 V1 => bd (ev_X9_sets n V1 a0v x1 5 (r2 - 1)) (fun _ V3 => bd (ev_X9_tells n V3 a0v 8 x1 x2) (fun _ V4 => elX9_throwsAt_27 n n V4 a0v x2 0 0) th) th) th
set_option maxHeartbeats 4000000 in
set_option maxRecDepth 100000 in
theorem sX9_throwsAt_0 (n : Nat) {S0 : MS} {Q : Int32 → MS → Prop} {QX : String → MS → Prop} {S : MS} {V : VS} {a0 a0v : Nat} {x1 : Int32} {x2 : Int32} (hS : SM S V) (hx : Ex S0 S) (h_a0 : Ad S a0 a0v) (hQ : gd (eX9_throwsAt_0 n V a0v x1 x2) (SQ Q S0) (SX QX S0)) : wX9_throwsAt_0 Q QX S a0 x1 x2 := by
  unfold wX9_throwsAt_0
  unfold eX9_throwsAt_0 at hQ
  refine sim_X9_of n hS h_a0 rfl rfl ?_
  refine gd_mono (gd_bd hQ) (fun r2 V1 hQ S1 hS1 xS => ?_) (fun E V9 hQ S9 hS9 xS9 => gd_th hQ S9 hS9 (Ex_tr hx xS9))
  have hx1 : Ex S0 S1 := Ex_tr hx xS
  have h1_a0 := xS _ _ h_a0
  refine sim_X9_sets n hS1 h1_a0 rfl rfl rfl ?_
  refine gd_mono (gd_bd hQ) (fun _ V3 hQ S3 hS3 xS => ?_) (fun E V9 hQ S9 hS9 xS9 => gd_th hQ S9 hS9 (Ex_tr hx1 xS9))
  have hx3 : Ex S0 S3 := Ex_tr hx1 xS
  have h3_a0 := xS _ _ h1_a0
  refine sim_X9_tells n hS3 h3_a0 rfl rfl rfl ?_
  refine gd_mono (gd_bd hQ) (fun _ V4 hQ S4 hS4 xS => ?_) (fun E V9 hQ S9 hS9 xS9 => gd_th hQ S9 hS9 (Ex_tr hx3 xS9))
  have hx4 : Ex S0 S4 := Ex_tr hx3 xS
  have h4_a0 := xS _ _ h3_a0
  refine ⟨n, ?_⟩
  exact selX9_throwsAt_27 n n _ _ _ _ _ _ _ hS4 hx4 h4_a0 hQ
def ev_X9_throwsAt (n : Nat) (V : VS) (a0v : Nat) (x1 : Int32) (x2 : Int32) : Rs Int32 := eX9_throwsAt_0 n V a0v x1 x2
theorem sim_X9_throwsAt (n : Nat) {Q : Int32 → MS → Prop} {QX : String → MS → Prop} {S : MS} {V : VS} {a0 a0v : Nat} {x1 x1z : Int32} {x2 x2z : Int32} (hS : SM S V) (h_a0 : Ad S a0 a0v) (e_x1 : x1 = x1z) (e_x2 : x2 = x2z) (hQ : gd (ev_X9_throwsAt n V a0v x1z x2z) (SQ Q S) (SX QX S)) : wp_X9_throwsAt Q QX S a0 x1 x2 := by
  subst e_x1 e_x2
  exact sX9_throwsAt_0 n hS Ex_rf h_a0 hQ
def eX9_does_195 (n : Nat) (V : VS) (a0v : Nat) (y5 : Int32) : Rs Int32 := bd (ev_X9_settles n V a0v) (fun _ V1 => rt y5 V1) th
set_option maxHeartbeats 4000000 in
set_option maxRecDepth 100000 in
theorem sX9_does_195 (n : Nat) {S0 : MS} {Q : Int32 → MS → Prop} {QX : String → MS → Prop} {S : MS} {V : VS} {a0 a0v : Nat} {y5 : Int32} (hS : SM S V) (hx : Ex S0 S) (h_a0 : Ad S a0 a0v) (hQ : gd (eX9_does_195 n V a0v y5) (SQ Q S0) (SX QX S0)) : wX9_does_195 Q QX S a0 y5 := by
  unfold wX9_does_195
  unfold eX9_does_195 at hQ
  refine sim_X9_settles n hS h_a0 ?_
  refine gd_mono (gd_bd hQ) (fun _ V1 hQ S1 hS1 xS => ?_) (fun E V9 hQ S9 hS9 xS9 => gd_th hQ S9 hS9 (Ex_tr hx xS9))
  have hx1 : Ex S0 S1 := Ex_tr hx xS
  exact gd_rt hQ _ hS1 hx1
def eX9_does_62 (n : Nat) (V : VS) (a0v : Nat) (y1 : Int32) (y2 : Int32) (y3 : Int32) (y4 : Int32) (z0 : Int32) (z1 : Int32) (w2v : Nat) : Rs Int32 := (if gvp_in z1 (vN V w2v) = true then sq (wI V w2v ((z1 : Int32).toNatClampNeg) z0) (fun V1 => (if (y1 : Int32).toInt < 0 ∨ 5 < (y1 : Int32).toInt then bd (ev_X9_ends n V1 a0v y3) (fun r3 V2 => rt r3 V2) th else (if (y1 : Int32).toInt = 0 then bd (ev_X9_moves n V1 a0v y3 y2) (fun r5 V4 => eX9_does_195 n V4 a0v r5) th else (if (y1 : Int32).toInt = 1 then bd (ev_X9_attacks n V1 a0v y3 y2) (fun r7 V6 => eX9_does_195 n V6 a0v r7) th else (if (y1 : Int32).toInt = 2 then bd (ev_X9_throwsAt n V1 a0v y3 y2) (fun r9 V8 => eX9_does_195 n V8 a0v r9) th else (if (y1 : Int32).toInt = 3 then bd (ev_X9_sets n V1 a0v y3 9 1) (fun _ V10 => (vR V10 a0v 1).bind (fun a11v => (if gvp_in 167 (vN V10 a11v) = true then rt (vI V10 a11v (167 : Int32).toNatClampNeg) V10 else none))) th else (if (y1 : Int32).toInt = 4 then bd (ev_X9_sets n V1 a0v y3 10 1) (fun _ V12 => rt y4 V12) th else (if (y1 : Int32).toInt = 5 then bd (ev_X9_of n V1 a0v y3 4) (fun r14 V13 => bd (ev_X9_kindly n V13 a0v y3 7) (fun r16 V15 => bd (ev_X9_sets n V15 a0v y3 4 r16) (fun _ V17 => rt r14 V17) th) th) th else none)))))))) else none)
set_option maxHeartbeats 4000000 in
set_option maxRecDepth 100000 in
theorem sX9_does_62 (n : Nat) {S0 : MS} {Q : Int32 → MS → Prop} {QX : String → MS → Prop} {S : MS} {V : VS} {a0 a0v : Nat} {y1 : Int32} {y2 : Int32} {y3 : Int32} {y4 : Int32} {z0 : Int32} {z1 : Int32} {w2 w2v : Nat} (hS : SM S V) (hx : Ex S0 S) (h_a0 : Ad S a0 a0v) (h_w2 : Ad S w2 w2v) (hQ : gd (eX9_does_62 n V a0v y1 y2 y3 y4 z0 z1 w2v) (SQ Q S0) (SX QX S0)) : wX9_does_62 Q QX S a0 y1 y2 y3 y4 z0 z1 w2 := by
  unfold wX9_does_62
  unfold eX9_does_62 at hQ
  refine st_gd (fun h => by simp only [SM_N hS h_w2]; exact gvp_in_of h) hQ (fun hQ => ?_)
  intro S1 eS
  obtain ⟨V1, hS1, xS, hQ⟩ := st_sI hS h_w2 eS rfl rfl hQ
  have hx1 : Ex S0 S1 := Ex_tr hx xS
  have h1_a0 := xS _ _ h_a0
  refine ⟨fun hc => ?_, fun hc => ?_, fun hc => ?_, fun hc => ?_, fun hc => ?_, fun hc => ?_, fun hc => ?_⟩
  · have hQ := gd_yes hQ hc
    refine sim_X9_ends n hS1 h1_a0 rfl ?_
    refine gd_mono (gd_bd hQ) (fun r3 V2 hQ S2 hS2 xS => ?_) (fun E V9 hQ S9 hS9 xS9 => gd_th hQ S9 hS9 (Ex_tr hx1 xS9))
    have hx2 : Ex S0 S2 := Ex_tr hx1 xS
    exact gd_rt hQ _ hS2 hx2
  · have hQ := gd_no hQ (by omega)
    have hQ := gd_yes hQ hc
    refine sim_X9_moves n hS1 h1_a0 rfl rfl ?_
    refine gd_mono (gd_bd hQ) (fun r5 V4 hQ S4 hS4 xS => ?_) (fun E V9 hQ S9 hS9 xS9 => gd_th hQ S9 hS9 (Ex_tr hx1 xS9))
    have hx4 : Ex S0 S4 := Ex_tr hx1 xS
    have h4_a0 := xS _ _ h1_a0
    exact sX9_does_195 n hS4 hx4 h4_a0 hQ
  · have hQ := gd_no hQ (by omega)
    have hQ := gd_no hQ (by omega)
    have hQ := gd_yes hQ hc
    refine sim_X9_attacks n hS1 h1_a0 rfl rfl ?_
    refine gd_mono (gd_bd hQ) (fun r7 V6 hQ S6 hS6 xS => ?_) (fun E V9 hQ S9 hS9 xS9 => gd_th hQ S9 hS9 (Ex_tr hx1 xS9))
    have hx6 : Ex S0 S6 := Ex_tr hx1 xS
    have h6_a0 := xS _ _ h1_a0
    exact sX9_does_195 n hS6 hx6 h6_a0 hQ
  · have hQ := gd_no hQ (by omega)
    have hQ := gd_no hQ (by omega)
    have hQ := gd_no hQ (by omega)
    have hQ := gd_yes hQ hc
    refine sim_X9_throwsAt n hS1 h1_a0 rfl rfl ?_
    refine gd_mono (gd_bd hQ) (fun r9 V8 hQ S8 hS8 xS => ?_) (fun E V9 hQ S9 hS9 xS9 => gd_th hQ S9 hS9 (Ex_tr hx1 xS9))
    have hx8 : Ex S0 S8 := Ex_tr hx1 xS
    have h8_a0 := xS _ _ h1_a0
    exact sX9_does_195 n hS8 hx8 h8_a0 hQ
  · have hQ := gd_no hQ (by omega)
    have hQ := gd_no hQ (by omega)
    have hQ := gd_no hQ (by omega)
    have hQ := gd_no hQ (by omega)
    have hQ := gd_yes hQ hc
    refine sim_X9_sets n hS1 h1_a0 rfl rfl rfl ?_
    refine gd_mono (gd_bd hQ) (fun _ V10 hQ S10 hS10 xS => ?_) (fun E V9 hQ S9 hS9 xS9 => gd_th hQ S9 hS9 (Ex_tr hx1 xS9))
    have hx10 : Ex S0 S10 := Ex_tr hx1 xS
    have h10_a0 := xS _ _ h1_a0
    refine st_rd hS10 h10_a0 rfl hQ (fun a11 a11v h10_a11 hQ => ?_)
    refine st_gd (fun h => by simp only [SM_N hS10 h10_a11]; exact gvp_in_of h) hQ (fun hQ => ?_)
    simp only [SM_I hS10 h10_a11]
    exact gd_rt hQ _ hS10 hx10
  · have hQ := gd_no hQ (by omega)
    have hQ := gd_no hQ (by omega)
    have hQ := gd_no hQ (by omega)
    have hQ := gd_no hQ (by omega)
    have hQ := gd_no hQ (by omega)
    have hQ := gd_yes hQ hc
    refine sim_X9_sets n hS1 h1_a0 rfl rfl rfl ?_
    refine gd_mono (gd_bd hQ) (fun _ V12 hQ S12 hS12 xS => ?_) (fun E V9 hQ S9 hS9 xS9 => gd_th hQ S9 hS9 (Ex_tr hx1 xS9))
    have hx12 : Ex S0 S12 := Ex_tr hx1 xS
    exact gd_rt hQ _ hS12 hx12
  · have hQ := gd_no hQ (by omega)
    have hQ := gd_no hQ (by omega)
    have hQ := gd_no hQ (by omega)
    have hQ := gd_no hQ (by omega)
    have hQ := gd_no hQ (by omega)
    have hQ := gd_no hQ (by omega)
    have hQ := gd_yes hQ hc
    refine sim_X9_of n hS1 h1_a0 rfl rfl ?_
    refine gd_mono (gd_bd hQ) (fun r14 V13 hQ S13 hS13 xS => ?_) (fun E V9 hQ S9 hS9 xS9 => gd_th hQ S9 hS9 (Ex_tr hx1 xS9))
    have hx13 : Ex S0 S13 := Ex_tr hx1 xS
    have h13_a0 := xS _ _ h1_a0
    refine sim_X9_kindly n hS13 h13_a0 rfl rfl ?_
    refine gd_mono (gd_bd hQ) (fun r16 V15 hQ S15 hS15 xS => ?_) (fun E V9 hQ S9 hS9 xS9 => gd_th hQ S9 hS9 (Ex_tr hx13 xS9))
    have hx15 : Ex S0 S15 := Ex_tr hx13 xS
    have h15_a0 := xS _ _ h13_a0
    refine sim_X9_sets n hS15 h15_a0 rfl rfl rfl ?_
    refine gd_mono (gd_bd hQ) (fun _ V17 hQ S17 hS17 xS => ?_) (fun E V9 hQ S9 hS9 xS9 => gd_th hQ S9 hS9 (Ex_tr hx15 xS9))
    have hx17 : Ex S0 S17 := Ex_tr hx15 xS
    exact gd_rt hQ _ hS17 hx17
def eX9_does_0 (n : Nat) (V : VS) (a0v : Nat) (x1 : Int32) (x2 : Int32) : Rs Int32 := (vR V a0v 1).bind (fun a1v => (if gvp_in 289 (vN V a1v) = true then (if gvp_in 289 (vN V a1v) = true then sq (wI V a1v ((289 : Int32).toNatClampNeg) ((vI V a1v (289 : Int32).toNatClampNeg) + 1)) (fun V2 => (vR V2 a0v 1).bind (fun a3v => (if gvp_in 166 (vN V2 a3v) = true then (vR V2 a0v 1).bind (fun a4v => (if gvp_in 167 (vN V2 a4v) = true then (vR V2 a0v 1).bind (fun a5v => (if x1 = 4 then eX9_does_62 n V2 a0v x1 x2 (vI V2 a3v (166 : Int32).toNatClampNeg) (vI V2 a4v (167 : Int32).toNatClampNeg) 0 167 a5v else (if x1 = 6 then eX9_does_62 n V2 a0v x1 x2 (vI V2 a3v (166 : Int32).toNatClampNeg) (vI V2 a4v (167 : Int32).toNatClampNeg) (vI V2 a4v (167 : Int32).toNatClampNeg) 167 a5v else eX9_does_62 n V2 a0v x1 x2 (vI V2 a3v (166 : Int32).toNatClampNeg) (vI V2 a4v (167 : Int32).toNatClampNeg) ((vI V2 a4v (167 : Int32).toNatClampNeg) - 1) 167 a5v))) else none)) else none))) else none) else none))
set_option maxHeartbeats 4000000 in
set_option maxRecDepth 100000 in
theorem sX9_does_0 (n : Nat) {S0 : MS} {Q : Int32 → MS → Prop} {QX : String → MS → Prop} {S : MS} {V : VS} {a0 a0v : Nat} {x1 : Int32} {x2 : Int32} (hS : SM S V) (hx : Ex S0 S) (h_a0 : Ad S a0 a0v) (hQ : gd (eX9_does_0 n V a0v x1 x2) (SQ Q S0) (SX QX S0)) : wX9_does_0 Q QX S a0 x1 x2 := by
  unfold wX9_does_0
  unfold eX9_does_0 at hQ
  refine st_rd hS h_a0 rfl hQ (fun a1 a1v h_a1 hQ => ?_)
  refine st_gd (fun h => by simp only [SM_N hS h_a1]; exact gvp_in_of h) hQ (fun hQ => ?_)
  refine st_gd (fun h => by simp only [SM_N hS h_a1]; exact gvp_in_of h) hQ (fun hQ => ?_)
  intro S2 eS
  obtain ⟨V2, hS2, xS, hQ⟩ := st_sI hS h_a1 eS rfl (show (((mI S a1 (289 : Int32).toNatClampNeg) + 1)) = (((vI V a1v (289 : Int32).toNatClampNeg) + 1)) from by simp only [SM_I hS h_a1]) hQ
  have hx2 : Ex S0 S2 := Ex_tr hx xS
  have h2_a0 := xS _ _ h_a0
  refine st_rd hS2 h2_a0 rfl hQ (fun a3 a3v h2_a3 hQ => ?_)
  refine st_gd (fun h => by simp only [SM_N hS2 h2_a3]; exact gvp_in_of h) hQ (fun hQ => ?_)
  refine st_rd hS2 h2_a0 rfl hQ (fun a4 a4v h2_a4 hQ => ?_)
  refine st_gd (fun h => by simp only [SM_N hS2 h2_a4]; exact gvp_in_of h) hQ (fun hQ => ?_)
  refine st_rd hS2 h2_a0 rfl hQ (fun a5 a5v h2_a5 hQ => ?_)
  refine st_ifn rfl hQ (fun hQ => ?_) (fun hQ => ?_)
  · refine st_ifn rfl hQ (fun hQ => ?_) (fun hQ => ?_)
    · simp only [SM_I hS2 h2_a3, SM_I hS2 h2_a4]
      exact sX9_does_62 n hS2 hx2 h2_a0 h2_a5 hQ
    · simp only [SM_I hS2 h2_a3, SM_I hS2 h2_a4]
      exact sX9_does_62 n hS2 hx2 h2_a0 h2_a5 hQ
  · simp only [SM_I hS2 h2_a3, SM_I hS2 h2_a4]
    exact sX9_does_62 n hS2 hx2 h2_a0 h2_a5 hQ
def ev_X9_does (n : Nat) (V : VS) (a0v : Nat) (x1 : Int32) (x2 : Int32) : Rs Int32 := eX9_does_0 n V a0v x1 x2
theorem sim_X9_does (n : Nat) {Q : Int32 → MS → Prop} {QX : String → MS → Prop} {S : MS} {V : VS} {a0 a0v : Nat} {x1 x1z : Int32} {x2 x2z : Int32} (hS : SM S V) (h_a0 : Ad S a0 a0v) (e_x1 : x1 = x1z) (e_x2 : x2 = x2z) (hQ : gd (ev_X9_does n V a0v x1z x2z) (SQ Q S) (SX QX S)) : wp_X9_does Q QX S a0 x1 x2 := by
  subst e_x1 e_x2
  exact sX9_does_0 n hS Ex_rf h_a0 hQ
def eX9_carries_0 (n : Nat) (V : VS) (a0v : Nat) (x1 : Int32) (x2 : Int32) : Rs Int32 := bd (ev_X9_keeps n V a0v) (fun _ V1 => (vR V1 a0v 1).bind (fun a2v => (if gvp_in 289 (vN V1 a2v) = true then (vR V1 a0v 7).bind (fun a3v => (if gvp_in (2 * (vI V1 a2v (289 : Int32).toNatClampNeg)) (vN V1 a3v) = true then sq (wI V1 a3v (((2 * (vI V1 a2v (289 : Int32).toNatClampNeg)) : Int32).toNatClampNeg) x1) (fun V4 => (vR V4 a0v 7).bind (fun a5v => (if gvp_in ((2 * (vI V1 a2v (289 : Int32).toNatClampNeg)) + 1) (vN V4 a5v) = true then sq (wI V4 a5v ((((2 * (vI V1 a2v (289 : Int32).toNatClampNeg)) + 1) : Int32).toNatClampNeg) x2) (fun V6 => bd (ev_X9_does n V6 a0v x1 x2) (fun r8 V7 => rt r8 V7) th) else none))) else none)) else none))) th
set_option maxHeartbeats 4000000 in
set_option maxRecDepth 100000 in
theorem sX9_carries_0 (n : Nat) {S0 : MS} {Q : Int32 → MS → Prop} {QX : String → MS → Prop} {S : MS} {V : VS} {a0 a0v : Nat} {x1 : Int32} {x2 : Int32} (hS : SM S V) (hx : Ex S0 S) (h_a0 : Ad S a0 a0v) (hQ : gd (eX9_carries_0 n V a0v x1 x2) (SQ Q S0) (SX QX S0)) : wX9_carries_0 Q QX S a0 x1 x2 := by
  unfold wX9_carries_0
  unfold eX9_carries_0 at hQ
  refine sim_X9_keeps n hS h_a0 ?_
  refine gd_mono (gd_bd hQ) (fun _ V1 hQ S1 hS1 xS => ?_) (fun E V9 hQ S9 hS9 xS9 => gd_th hQ S9 hS9 (Ex_tr hx xS9))
  have hx1 : Ex S0 S1 := Ex_tr hx xS
  have h1_a0 := xS _ _ h_a0
  refine st_rd hS1 h1_a0 rfl hQ (fun a2 a2v h1_a2 hQ => ?_)
  refine st_gd (fun h => by simp only [SM_N hS1 h1_a2]; exact gvp_in_of h) hQ (fun hQ => ?_)
  refine st_rd hS1 h1_a0 rfl hQ (fun a3 a3v h1_a3 hQ => ?_)
  refine st_gd (fun h => by simp only [SM_I hS1 h1_a2, SM_N hS1 h1_a3]; exact gvp_in_of h) hQ (fun hQ => ?_)
  intro S4 eS
  obtain ⟨V4, hS4, xS, hQ⟩ := st_sI hS1 h1_a3 eS (show (((2 * (mI S1 a2 (289 : Int32).toNatClampNeg)) : Int32).toNatClampNeg) = (((2 * (vI V1 a2v (289 : Int32).toNatClampNeg)) : Int32).toNatClampNeg) from by simp only [SM_I hS1 h1_a2]) rfl hQ
  have hx4 : Ex S0 S4 := Ex_tr hx1 xS
  have h4_a0 := xS _ _ h1_a0
  have h4_a2 := xS _ _ h1_a2
  refine st_rd hS4 h4_a0 rfl hQ (fun a5 a5v h4_a5 hQ => ?_)
  refine st_gd (fun h => by simp only [SM_I hS1 h1_a2, SM_N hS4 h4_a5]; exact gvp_in_of h) hQ (fun hQ => ?_)
  intro S6 eS
  obtain ⟨V6, hS6, xS, hQ⟩ := st_sI hS4 h4_a5 eS (show ((((2 * (mI S1 a2 (289 : Int32).toNatClampNeg)) + 1) : Int32).toNatClampNeg) = ((((2 * (vI V1 a2v (289 : Int32).toNatClampNeg)) + 1) : Int32).toNatClampNeg) from by simp only [SM_I hS1 h1_a2]) rfl hQ
  have hx6 : Ex S0 S6 := Ex_tr hx4 xS
  have h6_a0 := xS _ _ h4_a0
  refine sim_X9_does n hS6 h6_a0 rfl rfl ?_
  refine gd_mono (gd_bd hQ) (fun r8 V7 hQ S7 hS7 xS => ?_) (fun E V9 hQ S9 hS9 xS9 => gd_th hQ S9 hS9 (Ex_tr hx6 xS9))
  have hx7 : Ex S0 S7 := Ex_tr hx6 xS
  exact gd_rt hQ _ hS7 hx7
def ev_X9_carries (n : Nat) (V : VS) (a0v : Nat) (x1 : Int32) (x2 : Int32) : Rs Int32 := eX9_carries_0 n V a0v x1 x2
theorem sim_X9_carries (n : Nat) {Q : Int32 → MS → Prop} {QX : String → MS → Prop} {S : MS} {V : VS} {a0 a0v : Nat} {x1 x1z : Int32} {x2 x2z : Int32} (hS : SM S V) (h_a0 : Ad S a0 a0v) (e_x1 : x1 = x1z) (e_x2 : x2 = x2z) (hQ : gd (ev_X9_carries n V a0v x1z x2z) (SQ Q S) (SX QX S)) : wp_X9_carries Q QX S a0 x1 x2 := by
  subst e_x1 e_x2
  exact sX9_carries_0 n hS Ex_rf h_a0 hQ
def eX9_move_59 (n : Nat) (V : VS) (a0v : Nat) : Rs Int32 := bd (ev_X9_no n V a0v 4) (fun r2 V1 => rt r2 V1) th
set_option maxHeartbeats 4000000 in
set_option maxRecDepth 100000 in
theorem sX9_move_59 (n : Nat) {S0 : MS} {Q : Int32 → MS → Prop} {QX : String → MS → Prop} {S : MS} {V : VS} {a0 a0v : Nat} (hS : SM S V) (hx : Ex S0 S) (h_a0 : Ad S a0 a0v) (hQ : gd (eX9_move_59 n V a0v) (SQ Q S0) (SX QX S0)) : wX9_move_59 Q QX S a0 := by
  unfold wX9_move_59
  unfold eX9_move_59 at hQ
  refine sim_X9_no n hS h_a0 rfl ?_
  refine gd_mono (gd_bd hQ) (fun r2 V1 hQ S1 hS1 xS => ?_) (fun E V9 hQ S9 hS9 xS9 => gd_th hQ S9 hS9 (Ex_tr hx xS9))
  have hx1 : Ex S0 S1 := Ex_tr hx xS
  exact gd_rt hQ _ hS1 hx1
def eX9_move_0 (n : Nat) (V : VS) (a0v : Nat) (x1 : Int32) : Rs Int32 := bd (ev_X9_isCell n V a0v x1) (fun r2 V1 => bd (ev_X9_mayAsk n V1 a0v r2) (fun r4 V3 => (if r4 = 0 then rt 0 V3 else (vR V3 a0v 1).bind (fun a5v => (if gvp_in 167 (vN V3 a5v) = true then (if (vI V3 a5v (167 : Int32).toNatClampNeg) = 0 then bd (ev_X9_no n V3 a0v 3) (fun r14 V13 => rt r14 V13) th else bd (ev_X9_costsTo n V3 a0v x1) (fun r7 V6 => (if r7 < 1 then eX9_move_59 n V6 a0v else (vR V6 a0v 1).bind (fun a8v => (if gvp_in 166 (vN V6 a8v) = true then bd (ev_X9_kindly n V6 a0v (vI V6 a8v (166 : Int32).toNatClampNeg) 4) (fun r10 V9 => (if r7 ≤ r10 then bd (ev_X9_carries n V9 a0v 0 x1) (fun r12 V11 => rt r12 V11) th else eX9_move_59 n V9 a0v)) th else none)))) th) else none)))) th) th
set_option maxHeartbeats 4000000 in
set_option maxRecDepth 100000 in
theorem sX9_move_0 (n : Nat) {S0 : MS} {Q : Int32 → MS → Prop} {QX : String → MS → Prop} {S : MS} {V : VS} {a0 a0v : Nat} {x1 : Int32} (hS : SM S V) (hx : Ex S0 S) (h_a0 : Ad S a0 a0v) (hQ : gd (eX9_move_0 n V a0v x1) (SQ Q S0) (SX QX S0)) : wX9_move_0 Q QX S a0 x1 := by
  unfold wX9_move_0
  unfold eX9_move_0 at hQ
  refine sim_X9_isCell n hS h_a0 rfl ?_
  refine gd_mono (gd_bd hQ) (fun r2 V1 hQ S1 hS1 xS => ?_) (fun E V9 hQ S9 hS9 xS9 => gd_th hQ S9 hS9 (Ex_tr hx xS9))
  have hx1 : Ex S0 S1 := Ex_tr hx xS
  have h1_a0 := xS _ _ h_a0
  refine sim_X9_mayAsk n hS1 h1_a0 rfl ?_
  refine gd_mono (gd_bd hQ) (fun r4 V3 hQ S3 hS3 xS => ?_) (fun E V9 hQ S9 hS9 xS9 => gd_th hQ S9 hS9 (Ex_tr hx1 xS9))
  have hx3 : Ex S0 S3 := Ex_tr hx1 xS
  have h3_a0 := xS _ _ h1_a0
  refine st_ifn rfl hQ (fun hQ => ?_) (fun hQ => ?_)
  · refine st_rd hS3 h3_a0 rfl hQ (fun a5 a5v h3_a5 hQ => ?_)
    refine st_gd (fun h => by simp only [SM_N hS3 h3_a5]; exact gvp_in_of h) hQ (fun hQ => ?_)
    refine st_ifn (show ((mI S3 a5 (167 : Int32).toNatClampNeg) = 0) = ((vI V3 a5v (167 : Int32).toNatClampNeg) = 0) from by simp only [SM_I hS3 h3_a5]) hQ (fun hQ => ?_) (fun hQ => ?_)
    · refine sim_X9_costsTo n hS3 h3_a0 rfl ?_
      refine gd_mono (gd_bd hQ) (fun r7 V6 hQ S6 hS6 xS => ?_) (fun E V9 hQ S9 hS9 xS9 => gd_th hQ S9 hS9 (Ex_tr hx3 xS9))
      have hx6 : Ex S0 S6 := Ex_tr hx3 xS
      have h6_a0 := xS _ _ h3_a0
      refine st_if rfl hQ (fun hQ => ?_) (fun hQ => ?_)
      · exact sX9_move_59 n hS6 hx6 h6_a0 hQ
      · refine st_rd hS6 h6_a0 rfl hQ (fun a8 a8v h6_a8 hQ => ?_)
        refine st_gd (fun h => by simp only [SM_N hS6 h6_a8]; exact gvp_in_of h) hQ (fun hQ => ?_)
        refine sim_X9_kindly n hS6 h6_a0 (show ((mI S6 a8 (166 : Int32).toNatClampNeg)) = ((vI V6 a8v (166 : Int32).toNatClampNeg)) from by simp only [SM_I hS6 h6_a8]) rfl ?_
        refine gd_mono (gd_bd hQ) (fun r10 V9 hQ S9 hS9 xS => ?_) (fun E V9 hQ S9 hS9 xS9 => gd_th hQ S9 hS9 (Ex_tr hx6 xS9))
        have hx9 : Ex S0 S9 := Ex_tr hx6 xS
        have h9_a0 := xS _ _ h6_a0
        refine st_if rfl hQ (fun hQ => ?_) (fun hQ => ?_)
        · refine sim_X9_carries n hS9 h9_a0 rfl rfl ?_
          refine gd_mono (gd_bd hQ) (fun r12 V11 hQ S11 hS11 xS => ?_) (fun E V9 hQ S9 hS9 xS9 => gd_th hQ S9 hS9 (Ex_tr hx9 xS9))
          have hx11 : Ex S0 S11 := Ex_tr hx9 xS
          exact gd_rt hQ _ hS11 hx11
        · exact sX9_move_59 n hS9 hx9 h9_a0 hQ
    · refine sim_X9_no n hS3 h3_a0 rfl ?_
      refine gd_mono (gd_bd hQ) (fun r14 V13 hQ S13 hS13 xS => ?_) (fun E V9 hQ S9 hS9 xS9 => gd_th hQ S9 hS9 (Ex_tr hx3 xS9))
      have hx13 : Ex S0 S13 := Ex_tr hx3 xS
      exact gd_rt hQ _ hS13 hx13
  · exact gd_rt hQ _ hS3 hx3
def ev_X9_move (n : Nat) (V : VS) (a0v : Nat) (x1 : Int32) : Rs Int32 := eX9_move_0 n V a0v x1
theorem sim_X9_move (n : Nat) {Q : Int32 → MS → Prop} {QX : String → MS → Prop} {S : MS} {V : VS} {a0 a0v : Nat} {x1 x1z : Int32} (hS : SM S V) (h_a0 : Ad S a0 a0v) (e_x1 : x1 = x1z) (hQ : gd (ev_X9_move n V a0v x1z) (SQ Q S) (SX QX S)) : wp_X9_move Q QX S a0 x1 := by
  subst e_x1
  exact sX9_move_0 n hS Ex_rf h_a0 hQ
def eX9_attack_41 (n : Nat) (V : VS) (a0v : Nat) : Rs Int32 := bd (ev_X9_no n V a0v 3) (fun r2 V1 => rt r2 V1) th
set_option maxHeartbeats 4000000 in
set_option maxRecDepth 100000 in
theorem sX9_attack_41 (n : Nat) {S0 : MS} {Q : Int32 → MS → Prop} {QX : String → MS → Prop} {S : MS} {V : VS} {a0 a0v : Nat} (hS : SM S V) (hx : Ex S0 S) (h_a0 : Ad S a0 a0v) (hQ : gd (eX9_attack_41 n V a0v) (SQ Q S0) (SX QX S0)) : wX9_attack_41 Q QX S a0 := by
  unfold wX9_attack_41
  unfold eX9_attack_41 at hQ
  refine sim_X9_no n hS h_a0 rfl ?_
  refine gd_mono (gd_bd hQ) (fun r2 V1 hQ S1 hS1 xS => ?_) (fun E V9 hQ S9 hS9 xS9 => gd_th hQ S9 hS9 (Ex_tr hx xS9))
  have hx1 : Ex S0 S1 := Ex_tr hx xS
  exact gd_rt hQ _ hS1 hx1
def eX9_attack_0 (n : Nat) (V : VS) (a0v : Nat) (x1 : Int32) : Rs Int32 := bd (ev_X9_isUnit n V a0v x1) (fun r2 V1 => bd (ev_X9_mayAsk n V1 a0v r2) (fun r4 V3 => (if r4 = 0 then rt 0 V3 else (vR V3 a0v 1).bind (fun a5v => (if gvp_in 167 (vN V3 a5v) = true then (if (vI V3 a5v (167 : Int32).toNatClampNeg) = 0 then eX9_attack_41 n V3 a0v else (vR V3 a0v 1).bind (fun a6v => (if gvp_in 166 (vN V3 a6v) = true then bd (ev_X9_of n V3 a0v (vI V3 a6v (166 : Int32).toNatClampNeg) 4) (fun r8 V7 => (if r8 = 0 then eX9_attack_41 n V7 a0v else (vR V7 a0v 1).bind (fun a9v => (if gvp_in 166 (vN V7 a9v) = true then bd (ev_X9_canAttack n V7 a0v (vI V7 a9v (166 : Int32).toNatClampNeg) x1) (fun r11 V10 => (if r11 = 0 then bd (ev_X9_no n V10 a0v 4) (fun r13 V12 => rt r13 V12) th else bd (ev_X9_carries n V10 a0v 1 x1) (fun r15 V14 => rt r15 V14) th)) th else none)))) th else none))) else none)))) th) th
set_option maxHeartbeats 4000000 in
set_option maxRecDepth 100000 in
theorem sX9_attack_0 (n : Nat) {S0 : MS} {Q : Int32 → MS → Prop} {QX : String → MS → Prop} {S : MS} {V : VS} {a0 a0v : Nat} {x1 : Int32} (hS : SM S V) (hx : Ex S0 S) (h_a0 : Ad S a0 a0v) (hQ : gd (eX9_attack_0 n V a0v x1) (SQ Q S0) (SX QX S0)) : wX9_attack_0 Q QX S a0 x1 := by
  unfold wX9_attack_0
  unfold eX9_attack_0 at hQ
  refine sim_X9_isUnit n hS h_a0 rfl ?_
  refine gd_mono (gd_bd hQ) (fun r2 V1 hQ S1 hS1 xS => ?_) (fun E V9 hQ S9 hS9 xS9 => gd_th hQ S9 hS9 (Ex_tr hx xS9))
  have hx1 : Ex S0 S1 := Ex_tr hx xS
  have h1_a0 := xS _ _ h_a0
  refine sim_X9_mayAsk n hS1 h1_a0 rfl ?_
  refine gd_mono (gd_bd hQ) (fun r4 V3 hQ S3 hS3 xS => ?_) (fun E V9 hQ S9 hS9 xS9 => gd_th hQ S9 hS9 (Ex_tr hx1 xS9))
  have hx3 : Ex S0 S3 := Ex_tr hx1 xS
  have h3_a0 := xS _ _ h1_a0
  refine st_ifn rfl hQ (fun hQ => ?_) (fun hQ => ?_)
  · refine st_rd hS3 h3_a0 rfl hQ (fun a5 a5v h3_a5 hQ => ?_)
    refine st_gd (fun h => by simp only [SM_N hS3 h3_a5]; exact gvp_in_of h) hQ (fun hQ => ?_)
    refine st_if (show ((mI S3 a5 (167 : Int32).toNatClampNeg) = 0) = ((vI V3 a5v (167 : Int32).toNatClampNeg) = 0) from by simp only [SM_I hS3 h3_a5]) hQ (fun hQ => ?_) (fun hQ => ?_)
    · exact sX9_attack_41 n hS3 hx3 h3_a0 hQ
    · refine st_rd hS3 h3_a0 rfl hQ (fun a6 a6v h3_a6 hQ => ?_)
      refine st_gd (fun h => by simp only [SM_N hS3 h3_a6]; exact gvp_in_of h) hQ (fun hQ => ?_)
      refine sim_X9_of n hS3 h3_a0 (show ((mI S3 a6 (166 : Int32).toNatClampNeg)) = ((vI V3 a6v (166 : Int32).toNatClampNeg)) from by simp only [SM_I hS3 h3_a6]) rfl ?_
      refine gd_mono (gd_bd hQ) (fun r8 V7 hQ S7 hS7 xS => ?_) (fun E V9 hQ S9 hS9 xS9 => gd_th hQ S9 hS9 (Ex_tr hx3 xS9))
      have hx7 : Ex S0 S7 := Ex_tr hx3 xS
      have h7_a0 := xS _ _ h3_a0
      refine st_ifn rfl hQ (fun hQ => ?_) (fun hQ => ?_)
      · refine st_rd hS7 h7_a0 rfl hQ (fun a9 a9v h7_a9 hQ => ?_)
        refine st_gd (fun h => by simp only [SM_N hS7 h7_a9]; exact gvp_in_of h) hQ (fun hQ => ?_)
        refine sim_X9_canAttack n hS7 h7_a0 (show ((mI S7 a9 (166 : Int32).toNatClampNeg)) = ((vI V7 a9v (166 : Int32).toNatClampNeg)) from by simp only [SM_I hS7 h7_a9]) rfl ?_
        refine gd_mono (gd_bd hQ) (fun r11 V10 hQ S10 hS10 xS => ?_) (fun E V9 hQ S9 hS9 xS9 => gd_th hQ S9 hS9 (Ex_tr hx7 xS9))
        have hx10 : Ex S0 S10 := Ex_tr hx7 xS
        have h10_a0 := xS _ _ h7_a0
        refine st_if rfl hQ (fun hQ => ?_) (fun hQ => ?_)
        · refine sim_X9_no n hS10 h10_a0 rfl ?_
          refine gd_mono (gd_bd hQ) (fun r13 V12 hQ S12 hS12 xS => ?_) (fun E V9 hQ S9 hS9 xS9 => gd_th hQ S9 hS9 (Ex_tr hx10 xS9))
          have hx12 : Ex S0 S12 := Ex_tr hx10 xS
          exact gd_rt hQ _ hS12 hx12
        · refine sim_X9_carries n hS10 h10_a0 rfl rfl ?_
          refine gd_mono (gd_bd hQ) (fun r15 V14 hQ S14 hS14 xS => ?_) (fun E V9 hQ S9 hS9 xS9 => gd_th hQ S9 hS9 (Ex_tr hx10 xS9))
          have hx14 : Ex S0 S14 := Ex_tr hx10 xS
          exact gd_rt hQ _ hS14 hx14
      · exact sX9_attack_41 n hS7 hx7 h7_a0 hQ
  · exact gd_rt hQ _ hS3 hx3
def ev_X9_attack (n : Nat) (V : VS) (a0v : Nat) (x1 : Int32) : Rs Int32 := eX9_attack_0 n V a0v x1
theorem sim_X9_attack (n : Nat) {Q : Int32 → MS → Prop} {QX : String → MS → Prop} {S : MS} {V : VS} {a0 a0v : Nat} {x1 x1z : Int32} (hS : SM S V) (h_a0 : Ad S a0 a0v) (e_x1 : x1 = x1z) (hQ : gd (ev_X9_attack n V a0v x1z) (SQ Q S) (SX QX S)) : wp_X9_attack Q QX S a0 x1 := by
  subst e_x1
  exact sX9_attack_0 n hS Ex_rf h_a0 hQ
def eX9_throwAt_41 (n : Nat) (V : VS) (a0v : Nat) : Rs Int32 := bd (ev_X9_no n V a0v 3) (fun r2 V1 => rt r2 V1) th
set_option maxHeartbeats 4000000 in
set_option maxRecDepth 100000 in
theorem sX9_throwAt_41 (n : Nat) {S0 : MS} {Q : Int32 → MS → Prop} {QX : String → MS → Prop} {S : MS} {V : VS} {a0 a0v : Nat} (hS : SM S V) (hx : Ex S0 S) (h_a0 : Ad S a0 a0v) (hQ : gd (eX9_throwAt_41 n V a0v) (SQ Q S0) (SX QX S0)) : wX9_throwAt_41 Q QX S a0 := by
  unfold wX9_throwAt_41
  unfold eX9_throwAt_41 at hQ
  refine sim_X9_no n hS h_a0 rfl ?_
  refine gd_mono (gd_bd hQ) (fun r2 V1 hQ S1 hS1 xS => ?_) (fun E V9 hQ S9 hS9 xS9 => gd_th hQ S9 hS9 (Ex_tr hx xS9))
  have hx1 : Ex S0 S1 := Ex_tr hx xS
  exact gd_rt hQ _ hS1 hx1
def eX9_throwAt_101 (n : Nat) (V : VS) (a0v : Nat) : Rs Int32 := bd (ev_X9_no n V a0v 4) (fun r2 V1 => rt r2 V1) th
set_option maxHeartbeats 4000000 in
set_option maxRecDepth 100000 in
theorem sX9_throwAt_101 (n : Nat) {S0 : MS} {Q : Int32 → MS → Prop} {QX : String → MS → Prop} {S : MS} {V : VS} {a0 a0v : Nat} (hS : SM S V) (hx : Ex S0 S) (h_a0 : Ad S a0 a0v) (hQ : gd (eX9_throwAt_101 n V a0v) (SQ Q S0) (SX QX S0)) : wX9_throwAt_101 Q QX S a0 := by
  unfold wX9_throwAt_101
  unfold eX9_throwAt_101 at hQ
  refine sim_X9_no n hS h_a0 rfl ?_
  refine gd_mono (gd_bd hQ) (fun r2 V1 hQ S1 hS1 xS => ?_) (fun E V9 hQ S9 hS9 xS9 => gd_th hQ S9 hS9 (Ex_tr hx xS9))
  have hx1 : Ex S0 S1 := Ex_tr hx xS
  exact gd_rt hQ _ hS1 hx1
def eX9_throwAt_0 (n : Nat) (V : VS) (a0v : Nat) (x1 : Int32) : Rs Int32 := bd (ev_X9_isCell n V a0v x1) (fun r2 V1 => bd (ev_X9_mayAsk n V1 a0v r2) (fun r4 V3 => (if r4 = 0 then rt 0 V3 else (vR V3 a0v 1).bind (fun a5v => (if gvp_in 167 (vN V3 a5v) = true then (if (vI V3 a5v (167 : Int32).toNatClampNeg) = 0 then eX9_throwAt_41 n V3 a0v else (vR V3 a0v 1).bind (fun a6v => (if gvp_in 166 (vN V3 a6v) = true then bd (ev_X9_of n V3 a0v (vI V3 a6v (166 : Int32).toNatClampNeg) 5) (fun r8 V7 => (if r8 = 0 then eX9_throwAt_41 n V7 a0v else (vR V7 a0v 1).bind (fun a9v => (if gvp_in 166 (vN V7 a9v) = true then bd (ev_X9_of n V7 a0v (vI V7 a9v (166 : Int32).toNatClampNeg) 2) (fun r11 V10 => (vR V10 a0v 1).bind (fun a12v => (if gvp_in (2 + x1) (vN V10 a12v) = true then (if (vI V10 a12v ((2 + x1) : Int32).toNatClampNeg) = 1 then eX9_throwAt_101 n V10 a0v else bd (ev_X9_apart n V10 a0v r11 x1) (fun r14 V13 => (if 4 < r14 then eX9_throwAt_101 n V13 a0v else bd (ev_X9_sees n V13 a0v r11 x1) (fun r16 V15 => (if r16 = 0 then eX9_throwAt_101 n V15 a0v else bd (ev_X9_carries n V15 a0v 2 x1) (fun r18 V17 => rt r18 V17) th)) th)) th) else none))) th else none)))) th else none))) else none)))) th) th
set_option maxHeartbeats 4000000 in
set_option maxRecDepth 100000 in
theorem sX9_throwAt_0 (n : Nat) {S0 : MS} {Q : Int32 → MS → Prop} {QX : String → MS → Prop} {S : MS} {V : VS} {a0 a0v : Nat} {x1 : Int32} (hS : SM S V) (hx : Ex S0 S) (h_a0 : Ad S a0 a0v) (hQ : gd (eX9_throwAt_0 n V a0v x1) (SQ Q S0) (SX QX S0)) : wX9_throwAt_0 Q QX S a0 x1 := by
  unfold wX9_throwAt_0
  unfold eX9_throwAt_0 at hQ
  refine sim_X9_isCell n hS h_a0 rfl ?_
  refine gd_mono (gd_bd hQ) (fun r2 V1 hQ S1 hS1 xS => ?_) (fun E V9 hQ S9 hS9 xS9 => gd_th hQ S9 hS9 (Ex_tr hx xS9))
  have hx1 : Ex S0 S1 := Ex_tr hx xS
  have h1_a0 := xS _ _ h_a0
  refine sim_X9_mayAsk n hS1 h1_a0 rfl ?_
  refine gd_mono (gd_bd hQ) (fun r4 V3 hQ S3 hS3 xS => ?_) (fun E V9 hQ S9 hS9 xS9 => gd_th hQ S9 hS9 (Ex_tr hx1 xS9))
  have hx3 : Ex S0 S3 := Ex_tr hx1 xS
  have h3_a0 := xS _ _ h1_a0
  refine st_ifn rfl hQ (fun hQ => ?_) (fun hQ => ?_)
  · refine st_rd hS3 h3_a0 rfl hQ (fun a5 a5v h3_a5 hQ => ?_)
    refine st_gd (fun h => by simp only [SM_N hS3 h3_a5]; exact gvp_in_of h) hQ (fun hQ => ?_)
    refine st_if (show ((mI S3 a5 (167 : Int32).toNatClampNeg) = 0) = ((vI V3 a5v (167 : Int32).toNatClampNeg) = 0) from by simp only [SM_I hS3 h3_a5]) hQ (fun hQ => ?_) (fun hQ => ?_)
    · exact sX9_throwAt_41 n hS3 hx3 h3_a0 hQ
    · refine st_rd hS3 h3_a0 rfl hQ (fun a6 a6v h3_a6 hQ => ?_)
      refine st_gd (fun h => by simp only [SM_N hS3 h3_a6]; exact gvp_in_of h) hQ (fun hQ => ?_)
      refine sim_X9_of n hS3 h3_a0 (show ((mI S3 a6 (166 : Int32).toNatClampNeg)) = ((vI V3 a6v (166 : Int32).toNatClampNeg)) from by simp only [SM_I hS3 h3_a6]) rfl ?_
      refine gd_mono (gd_bd hQ) (fun r8 V7 hQ S7 hS7 xS => ?_) (fun E V9 hQ S9 hS9 xS9 => gd_th hQ S9 hS9 (Ex_tr hx3 xS9))
      have hx7 : Ex S0 S7 := Ex_tr hx3 xS
      have h7_a0 := xS _ _ h3_a0
      refine st_ifn rfl hQ (fun hQ => ?_) (fun hQ => ?_)
      · refine st_rd hS7 h7_a0 rfl hQ (fun a9 a9v h7_a9 hQ => ?_)
        refine st_gd (fun h => by simp only [SM_N hS7 h7_a9]; exact gvp_in_of h) hQ (fun hQ => ?_)
        refine sim_X9_of n hS7 h7_a0 (show ((mI S7 a9 (166 : Int32).toNatClampNeg)) = ((vI V7 a9v (166 : Int32).toNatClampNeg)) from by simp only [SM_I hS7 h7_a9]) rfl ?_
        refine gd_mono (gd_bd hQ) (fun r11 V10 hQ S10 hS10 xS => ?_) (fun E V9 hQ S9 hS9 xS9 => gd_th hQ S9 hS9 (Ex_tr hx7 xS9))
        have hx10 : Ex S0 S10 := Ex_tr hx7 xS
        have h10_a0 := xS _ _ h7_a0
        refine st_rd hS10 h10_a0 rfl hQ (fun a12 a12v h10_a12 hQ => ?_)
        refine st_gd (fun h => by simp only [SM_N hS10 h10_a12]; exact gvp_in_of h) hQ (fun hQ => ?_)
        refine st_if (show ((mI S10 a12 ((2 + x1) : Int32).toNatClampNeg) = 1) = ((vI V10 a12v ((2 + x1) : Int32).toNatClampNeg) = 1) from by simp only [SM_I hS10 h10_a12]) hQ (fun hQ => ?_) (fun hQ => ?_)
        · exact sX9_throwAt_101 n hS10 hx10 h10_a0 hQ
        · refine sim_X9_apart n hS10 h10_a0 rfl rfl ?_
          refine gd_mono (gd_bd hQ) (fun r14 V13 hQ S13 hS13 xS => ?_) (fun E V9 hQ S9 hS9 xS9 => gd_th hQ S9 hS9 (Ex_tr hx10 xS9))
          have hx13 : Ex S0 S13 := Ex_tr hx10 xS
          have h13_a0 := xS _ _ h10_a0
          refine st_if rfl hQ (fun hQ => ?_) (fun hQ => ?_)
          · exact sX9_throwAt_101 n hS13 hx13 h13_a0 hQ
          · refine sim_X9_sees n hS13 h13_a0 rfl rfl ?_
            refine gd_mono (gd_bd hQ) (fun r16 V15 hQ S15 hS15 xS => ?_) (fun E V9 hQ S9 hS9 xS9 => gd_th hQ S9 hS9 (Ex_tr hx13 xS9))
            have hx15 : Ex S0 S15 := Ex_tr hx13 xS
            have h15_a0 := xS _ _ h13_a0
            refine st_if rfl hQ (fun hQ => ?_) (fun hQ => ?_)
            · exact sX9_throwAt_101 n hS15 hx15 h15_a0 hQ
            · refine sim_X9_carries n hS15 h15_a0 rfl rfl ?_
              refine gd_mono (gd_bd hQ) (fun r18 V17 hQ S17 hS17 xS => ?_) (fun E V9 hQ S9 hS9 xS9 => gd_th hQ S9 hS9 (Ex_tr hx15 xS9))
              have hx17 : Ex S0 S17 := Ex_tr hx15 xS
              exact gd_rt hQ _ hS17 hx17
      · exact sX9_throwAt_41 n hS7 hx7 h7_a0 hQ
  · exact gd_rt hQ _ hS3 hx3
def ev_X9_throwAt (n : Nat) (V : VS) (a0v : Nat) (x1 : Int32) : Rs Int32 := eX9_throwAt_0 n V a0v x1
theorem sim_X9_throwAt (n : Nat) {Q : Int32 → MS → Prop} {QX : String → MS → Prop} {S : MS} {V : VS} {a0 a0v : Nat} {x1 x1z : Int32} (hS : SM S V) (h_a0 : Ad S a0 a0v) (e_x1 : x1 = x1z) (hQ : gd (ev_X9_throwAt n V a0v x1z) (SQ Q S) (SX QX S)) : wp_X9_throwAt Q QX S a0 x1 := by
  subst e_x1
  exact sX9_throwAt_0 n hS Ex_rf h_a0 hQ
def eX9_may_22 (n : Nat) (V : VS) (a0v : Nat) (z0 : Int32) (w1v : Nat) : Rs Int32 := sq (wI V w1v 0 z0) (fun V1 => (if (vI V1 a0v 0) = 0 then rt 1 V1 else rt 0 V1))
set_option maxHeartbeats 4000000 in
set_option maxRecDepth 100000 in
theorem sX9_may_22 (n : Nat) {S0 : MS} {Q : Int32 → MS → Prop} {QX : String → MS → Prop} {S : MS} {V : VS} {a0 a0v : Nat} {z0 : Int32} {w1 w1v : Nat} (hS : SM S V) (hx : Ex S0 S) (h_a0 : Ad S a0 a0v) (h_w1 : Ad S w1 w1v) (hQ : gd (eX9_may_22 n V a0v z0 w1v) (SQ Q S0) (SX QX S0)) : wX9_may_22 Q QX S a0 z0 w1 := by
  unfold wX9_may_22
  unfold eX9_may_22 at hQ
  intro S1 eS
  obtain ⟨V1, hS1, xS, hQ⟩ := st_sI hS h_w1 eS rfl rfl hQ
  have hx1 : Ex S0 S1 := Ex_tr hx xS
  have h1_a0 := xS _ _ h_a0
  refine st_ifn (show ((mI S1 a0 0) = 0) = ((vI V1 a0v 0) = 0) from by simp only [SM_I hS1 h1_a0]) hQ (fun hQ => ?_) (fun hQ => ?_)
  · exact gd_rt hQ _ hS1 hx1
  · exact gd_rt hQ _ hS1 hx1
def eX9_may_0 (n : Nat) (V : VS) (a0v : Nat) (x1 : Int32) : Rs Int32 := bd (ev_X9_conditions n V a0v) (fun r2 V1 => (if r2 = 1 then (if x1 = 0 then eX9_may_22 n V1 a0v 2 a0v else eX9_may_22 n V1 a0v 0 a0v) else eX9_may_22 n V1 a0v 1 a0v)) th
set_option maxHeartbeats 4000000 in
set_option maxRecDepth 100000 in
theorem sX9_may_0 (n : Nat) {S0 : MS} {Q : Int32 → MS → Prop} {QX : String → MS → Prop} {S : MS} {V : VS} {a0 a0v : Nat} {x1 : Int32} (hS : SM S V) (hx : Ex S0 S) (h_a0 : Ad S a0 a0v) (hQ : gd (eX9_may_0 n V a0v x1) (SQ Q S0) (SX QX S0)) : wX9_may_0 Q QX S a0 x1 := by
  unfold wX9_may_0
  unfold eX9_may_0 at hQ
  refine sim_X9_conditions n hS h_a0 ?_
  refine gd_mono (gd_bd hQ) (fun r2 V1 hQ S1 hS1 xS => ?_) (fun E V9 hQ S9 hS9 xS9 => gd_th hQ S9 hS9 (Ex_tr hx xS9))
  have hx1 : Ex S0 S1 := Ex_tr hx xS
  have h1_a0 := xS _ _ h_a0
  refine st_if rfl hQ (fun hQ => ?_) (fun hQ => ?_)
  · refine st_ifn rfl hQ (fun hQ => ?_) (fun hQ => ?_)
    · exact sX9_may_22 n hS1 hx1 h1_a0 h1_a0 hQ
    · exact sX9_may_22 n hS1 hx1 h1_a0 h1_a0 hQ
  · exact sX9_may_22 n hS1 hx1 h1_a0 h1_a0 hQ
def ev_X9_may (n : Nat) (V : VS) (a0v : Nat) (x1 : Int32) : Rs Int32 := eX9_may_0 n V a0v x1
theorem sim_X9_may (n : Nat) {Q : Int32 → MS → Prop} {QX : String → MS → Prop} {S : MS} {V : VS} {a0 a0v : Nat} {x1 x1z : Int32} (hS : SM S V) (h_a0 : Ad S a0 a0v) (e_x1 : x1 = x1z) (hQ : gd (ev_X9_may n V a0v x1z) (SQ Q S) (SX QX S)) : wp_X9_may Q QX S a0 x1 := by
  subst e_x1
  exact sX9_may_0 n hS Ex_rf h_a0 hQ
def eX9_guard_49 (n : Nat) (V : VS) (a0v : Nat) (z0 : Int32) (w1v : Nat) : Rs Int32 := bd (ev_X9_may n V w1v z0) (fun r2 V1 => (if r2 = 0 then rt 0 V1 else bd (ev_X9_carries n V1 a0v 3 0) (fun r4 V3 => rt r4 V3) th)) th
set_option maxHeartbeats 4000000 in
set_option maxRecDepth 100000 in
theorem sX9_guard_49 (n : Nat) {S0 : MS} {Q : Int32 → MS → Prop} {QX : String → MS → Prop} {S : MS} {V : VS} {a0 a0v : Nat} {z0 : Int32} {w1 w1v : Nat} (hS : SM S V) (hx : Ex S0 S) (h_a0 : Ad S a0 a0v) (h_w1 : Ad S w1 w1v) (hQ : gd (eX9_guard_49 n V a0v z0 w1v) (SQ Q S0) (SX QX S0)) : wX9_guard_49 Q QX S a0 z0 w1 := by
  unfold wX9_guard_49
  unfold eX9_guard_49 at hQ
  refine sim_X9_may n hS h_w1 rfl ?_
  refine gd_mono (gd_bd hQ) (fun r2 V1 hQ S1 hS1 xS => ?_) (fun E V9 hQ S9 hS9 xS9 => gd_th hQ S9 hS9 (Ex_tr hx xS9))
  have hx1 : Ex S0 S1 := Ex_tr hx xS
  have h1_a0 := xS _ _ h_a0
  refine st_if rfl hQ (fun hQ => ?_) (fun hQ => ?_)
  · exact gd_rt hQ _ hS1 hx1
  · refine sim_X9_carries n hS1 h1_a0 rfl rfl ?_
    refine gd_mono (gd_bd hQ) (fun r4 V3 hQ S3 hS3 xS => ?_) (fun E V9 hQ S9 hS9 xS9 => gd_th hQ S9 hS9 (Ex_tr hx1 xS9))
    have hx3 : Ex S0 S3 := Ex_tr hx1 xS
    exact gd_rt hQ _ hS3 hx3
def eX9_guard_48 (n : Nat) (V : VS) (a0v : Nat) (w0v : Nat) : Rs Int32 := eX9_guard_49 n V a0v 0 w0v
set_option maxHeartbeats 4000000 in
set_option maxRecDepth 100000 in
theorem sX9_guard_48 (n : Nat) {S0 : MS} {Q : Int32 → MS → Prop} {QX : String → MS → Prop} {S : MS} {V : VS} {a0 a0v : Nat} {w0 w0v : Nat} (hS : SM S V) (hx : Ex S0 S) (h_a0 : Ad S a0 a0v) (h_w0 : Ad S w0 w0v) (hQ : gd (eX9_guard_48 n V a0v w0v) (SQ Q S0) (SX QX S0)) : wX9_guard_48 Q QX S a0 w0 := by
  unfold wX9_guard_48
  unfold eX9_guard_48 at hQ
  exact sX9_guard_49 n hS hx h_a0 h_w0 hQ
def eX9_guard_36 (n : Nat) (V : VS) (a0v : Nat) (z0 : Int32) (w1v : Nat) (w2v : Nat) : Rs Int32 := bd (ev_X9_of n V w1v z0 9) (fun r2 V1 => (if r2 = 0 then eX9_guard_49 n V1 a0v 1 w2v else eX9_guard_48 n V1 a0v w2v)) th
set_option maxHeartbeats 4000000 in
set_option maxRecDepth 100000 in
theorem sX9_guard_36 (n : Nat) {S0 : MS} {Q : Int32 → MS → Prop} {QX : String → MS → Prop} {S : MS} {V : VS} {a0 a0v : Nat} {z0 : Int32} {w1 w1v : Nat} {w2 w2v : Nat} (hS : SM S V) (hx : Ex S0 S) (h_a0 : Ad S a0 a0v) (h_w1 : Ad S w1 w1v) (h_w2 : Ad S w2 w2v) (hQ : gd (eX9_guard_36 n V a0v z0 w1v w2v) (SQ Q S0) (SX QX S0)) : wX9_guard_36 Q QX S a0 z0 w1 w2 := by
  unfold wX9_guard_36
  unfold eX9_guard_36 at hQ
  refine sim_X9_of n hS h_w1 rfl rfl ?_
  refine gd_mono (gd_bd hQ) (fun r2 V1 hQ S1 hS1 xS => ?_) (fun E V9 hQ S9 hS9 xS9 => gd_th hQ S9 hS9 (Ex_tr hx xS9))
  have hx1 : Ex S0 S1 := Ex_tr hx xS
  have h1_a0 := xS _ _ h_a0
  have h1_w2 := xS _ _ h_w2
  refine st_ifn rfl hQ (fun hQ => ?_) (fun hQ => ?_)
  · exact sX9_guard_48 n hS1 hx1 h1_a0 h1_w2 hQ
  · exact sX9_guard_49 n hS1 hx1 h1_a0 h1_w2 hQ
def eX9_guard_0 (n : Nat) (V : VS) (a0v : Nat) : Rs Int32 := (vR V a0v 1).bind (fun a1v => (if gvp_in 167 (vN V a1v) = true then (if (vI V a1v (167 : Int32).toNatClampNeg) ≤ 0 then eX9_guard_48 n V a0v a0v else (vR V a0v 1).bind (fun a2v => (if gvp_in 166 (vN V a2v) = true then (if 0 ≤ (vI V a2v (166 : Int32).toNatClampNeg) then (vR V a0v 1).bind (fun a3v => (if gvp_in 166 (vN V a3v) = true then eX9_guard_36 n V a0v (vI V a3v (166 : Int32).toNatClampNeg) a0v a0v else none)) else eX9_guard_36 n V a0v 0 a0v a0v) else none))) else none))
set_option maxHeartbeats 4000000 in
set_option maxRecDepth 100000 in
theorem sX9_guard_0 (n : Nat) {S0 : MS} {Q : Int32 → MS → Prop} {QX : String → MS → Prop} {S : MS} {V : VS} {a0 a0v : Nat} (hS : SM S V) (hx : Ex S0 S) (h_a0 : Ad S a0 a0v) (hQ : gd (eX9_guard_0 n V a0v) (SQ Q S0) (SX QX S0)) : wX9_guard_0 Q QX S a0 := by
  unfold wX9_guard_0
  unfold eX9_guard_0 at hQ
  refine st_rd hS h_a0 rfl hQ (fun a1 a1v h_a1 hQ => ?_)
  refine st_gd (fun h => by simp only [SM_N hS h_a1]; exact gvp_in_of h) hQ (fun hQ => ?_)
  refine st_if (show ((mI S a1 (167 : Int32).toNatClampNeg) ≤ 0) = ((vI V a1v (167 : Int32).toNatClampNeg) ≤ 0) from by simp only [SM_I hS h_a1]) hQ (fun hQ => ?_) (fun hQ => ?_)
  · exact sX9_guard_48 n hS hx h_a0 h_a0 hQ
  · refine st_rd hS h_a0 rfl hQ (fun a2 a2v h_a2 hQ => ?_)
    refine st_gd (fun h => by simp only [SM_N hS h_a2]; exact gvp_in_of h) hQ (fun hQ => ?_)
    refine st_if (show (0 ≤ (mI S a2 (166 : Int32).toNatClampNeg)) = (0 ≤ (vI V a2v (166 : Int32).toNatClampNeg)) from by simp only [SM_I hS h_a2]) hQ (fun hQ => ?_) (fun hQ => ?_)
    · refine st_rd hS h_a0 rfl hQ (fun a3 a3v h_a3 hQ => ?_)
      refine st_gd (fun h => by simp only [SM_N hS h_a3]; exact gvp_in_of h) hQ (fun hQ => ?_)
      simp only [SM_I hS h_a3]
      exact sX9_guard_36 n hS hx h_a0 h_a0 h_a0 hQ
    · exact sX9_guard_36 n hS hx h_a0 h_a0 h_a0 hQ
def ev_X9_guard (n : Nat) (V : VS) (a0v : Nat) : Rs Int32 := eX9_guard_0 n V a0v
theorem sim_X9_guard (n : Nat) {Q : Int32 → MS → Prop} {QX : String → MS → Prop} {S : MS} {V : VS} {a0 a0v : Nat} (hS : SM S V) (h_a0 : Ad S a0 a0v) (hQ : gd (ev_X9_guard n V a0v) (SQ Q S) (SX QX S)) : wp_X9_guard Q QX S a0 := by
  exact sX9_guard_0 n hS Ex_rf h_a0 hQ
def eX9_watch_48 (n : Nat) (V : VS) (a0v : Nat) (z0 : Int32) (w1v : Nat) : Rs Int32 := bd (ev_X9_may n V w1v z0) (fun r2 V1 => (if r2 = 0 then rt 0 V1 else bd (ev_X9_carries n V1 a0v 4 0) (fun r4 V3 => rt r4 V3) th)) th
set_option maxHeartbeats 4000000 in
set_option maxRecDepth 100000 in
theorem sX9_watch_48 (n : Nat) {S0 : MS} {Q : Int32 → MS → Prop} {QX : String → MS → Prop} {S : MS} {V : VS} {a0 a0v : Nat} {z0 : Int32} {w1 w1v : Nat} (hS : SM S V) (hx : Ex S0 S) (h_a0 : Ad S a0 a0v) (h_w1 : Ad S w1 w1v) (hQ : gd (eX9_watch_48 n V a0v z0 w1v) (SQ Q S0) (SX QX S0)) : wX9_watch_48 Q QX S a0 z0 w1 := by
  unfold wX9_watch_48
  unfold eX9_watch_48 at hQ
  refine sim_X9_may n hS h_w1 rfl ?_
  refine gd_mono (gd_bd hQ) (fun r2 V1 hQ S1 hS1 xS => ?_) (fun E V9 hQ S9 hS9 xS9 => gd_th hQ S9 hS9 (Ex_tr hx xS9))
  have hx1 : Ex S0 S1 := Ex_tr hx xS
  have h1_a0 := xS _ _ h_a0
  refine st_if rfl hQ (fun hQ => ?_) (fun hQ => ?_)
  · exact gd_rt hQ _ hS1 hx1
  · refine sim_X9_carries n hS1 h1_a0 rfl rfl ?_
    refine gd_mono (gd_bd hQ) (fun r4 V3 hQ S3 hS3 xS => ?_) (fun E V9 hQ S9 hS9 xS9 => gd_th hQ S9 hS9 (Ex_tr hx1 xS9))
    have hx3 : Ex S0 S3 := Ex_tr hx1 xS
    exact gd_rt hQ _ hS3 hx3
def eX9_watch_47 (n : Nat) (V : VS) (a0v : Nat) (w0v : Nat) : Rs Int32 := eX9_watch_48 n V a0v 0 w0v
set_option maxHeartbeats 4000000 in
set_option maxRecDepth 100000 in
theorem sX9_watch_47 (n : Nat) {S0 : MS} {Q : Int32 → MS → Prop} {QX : String → MS → Prop} {S : MS} {V : VS} {a0 a0v : Nat} {w0 w0v : Nat} (hS : SM S V) (hx : Ex S0 S) (h_a0 : Ad S a0 a0v) (h_w0 : Ad S w0 w0v) (hQ : gd (eX9_watch_47 n V a0v w0v) (SQ Q S0) (SX QX S0)) : wX9_watch_47 Q QX S a0 w0 := by
  unfold wX9_watch_47
  unfold eX9_watch_47 at hQ
  exact sX9_watch_48 n hS hx h_a0 h_w0 hQ
def eX9_watch_36 (n : Nat) (V : VS) (a0v : Nat) (z0 : Int32) (w1v : Nat) (w2v : Nat) : Rs Int32 := bd (ev_X9_of n V w1v z0 4) (fun r2 V1 => (if r2 ≤ 0 then eX9_watch_47 n V1 a0v w2v else eX9_watch_48 n V1 a0v 1 w2v)) th
set_option maxHeartbeats 4000000 in
set_option maxRecDepth 100000 in
theorem sX9_watch_36 (n : Nat) {S0 : MS} {Q : Int32 → MS → Prop} {QX : String → MS → Prop} {S : MS} {V : VS} {a0 a0v : Nat} {z0 : Int32} {w1 w1v : Nat} {w2 w2v : Nat} (hS : SM S V) (hx : Ex S0 S) (h_a0 : Ad S a0 a0v) (h_w1 : Ad S w1 w1v) (h_w2 : Ad S w2 w2v) (hQ : gd (eX9_watch_36 n V a0v z0 w1v w2v) (SQ Q S0) (SX QX S0)) : wX9_watch_36 Q QX S a0 z0 w1 w2 := by
  unfold wX9_watch_36
  unfold eX9_watch_36 at hQ
  refine sim_X9_of n hS h_w1 rfl rfl ?_
  refine gd_mono (gd_bd hQ) (fun r2 V1 hQ S1 hS1 xS => ?_) (fun E V9 hQ S9 hS9 xS9 => gd_th hQ S9 hS9 (Ex_tr hx xS9))
  have hx1 : Ex S0 S1 := Ex_tr hx xS
  have h1_a0 := xS _ _ h_a0
  have h1_w2 := xS _ _ h_w2
  refine st_if rfl hQ (fun hQ => ?_) (fun hQ => ?_)
  · exact sX9_watch_47 n hS1 hx1 h1_a0 h1_w2 hQ
  · exact sX9_watch_48 n hS1 hx1 h1_a0 h1_w2 hQ
def eX9_watch_0 (n : Nat) (V : VS) (a0v : Nat) : Rs Int32 := (vR V a0v 1).bind (fun a1v => (if gvp_in 167 (vN V a1v) = true then (if (vI V a1v (167 : Int32).toNatClampNeg) ≤ 0 then eX9_watch_47 n V a0v a0v else (vR V a0v 1).bind (fun a2v => (if gvp_in 166 (vN V a2v) = true then (if 0 ≤ (vI V a2v (166 : Int32).toNatClampNeg) then (vR V a0v 1).bind (fun a3v => (if gvp_in 166 (vN V a3v) = true then eX9_watch_36 n V a0v (vI V a3v (166 : Int32).toNatClampNeg) a0v a0v else none)) else eX9_watch_36 n V a0v 0 a0v a0v) else none))) else none))
set_option maxHeartbeats 4000000 in
set_option maxRecDepth 100000 in
theorem sX9_watch_0 (n : Nat) {S0 : MS} {Q : Int32 → MS → Prop} {QX : String → MS → Prop} {S : MS} {V : VS} {a0 a0v : Nat} (hS : SM S V) (hx : Ex S0 S) (h_a0 : Ad S a0 a0v) (hQ : gd (eX9_watch_0 n V a0v) (SQ Q S0) (SX QX S0)) : wX9_watch_0 Q QX S a0 := by
  unfold wX9_watch_0
  unfold eX9_watch_0 at hQ
  refine st_rd hS h_a0 rfl hQ (fun a1 a1v h_a1 hQ => ?_)
  refine st_gd (fun h => by simp only [SM_N hS h_a1]; exact gvp_in_of h) hQ (fun hQ => ?_)
  refine st_if (show ((mI S a1 (167 : Int32).toNatClampNeg) ≤ 0) = ((vI V a1v (167 : Int32).toNatClampNeg) ≤ 0) from by simp only [SM_I hS h_a1]) hQ (fun hQ => ?_) (fun hQ => ?_)
  · exact sX9_watch_47 n hS hx h_a0 h_a0 hQ
  · refine st_rd hS h_a0 rfl hQ (fun a2 a2v h_a2 hQ => ?_)
    refine st_gd (fun h => by simp only [SM_N hS h_a2]; exact gvp_in_of h) hQ (fun hQ => ?_)
    refine st_if (show (0 ≤ (mI S a2 (166 : Int32).toNatClampNeg)) = (0 ≤ (vI V a2v (166 : Int32).toNatClampNeg)) from by simp only [SM_I hS h_a2]) hQ (fun hQ => ?_) (fun hQ => ?_)
    · refine st_rd hS h_a0 rfl hQ (fun a3 a3v h_a3 hQ => ?_)
      refine st_gd (fun h => by simp only [SM_N hS h_a3]; exact gvp_in_of h) hQ (fun hQ => ?_)
      simp only [SM_I hS h_a3]
      exact sX9_watch_36 n hS hx h_a0 h_a0 h_a0 hQ
    · exact sX9_watch_36 n hS hx h_a0 h_a0 h_a0 hQ
def ev_X9_watch (n : Nat) (V : VS) (a0v : Nat) : Rs Int32 := eX9_watch_0 n V a0v
theorem sim_X9_watch (n : Nat) {Q : Int32 → MS → Prop} {QX : String → MS → Prop} {S : MS} {V : VS} {a0 a0v : Nat} (hS : SM S V) (h_a0 : Ad S a0 a0v) (hQ : gd (ev_X9_watch n V a0v) (SQ Q S) (SX QX S)) : wp_X9_watch Q QX S a0 := by
  exact sX9_watch_0 n hS Ex_rf h_a0 hQ
def eX9_reload_17 (n : Nat) (V : VS) (a0v : Nat) (z0 : Int32) (w1v : Nat) : Rs Int32 := bd (ev_X9_may n V w1v z0) (fun r2 V1 => (if r2 = 0 then rt 0 V1 else bd (ev_X9_carries n V1 a0v 5 0) (fun r4 V3 => rt r4 V3) th)) th
set_option maxHeartbeats 4000000 in
set_option maxRecDepth 100000 in
theorem sX9_reload_17 (n : Nat) {S0 : MS} {Q : Int32 → MS → Prop} {QX : String → MS → Prop} {S : MS} {V : VS} {a0 a0v : Nat} {z0 : Int32} {w1 w1v : Nat} (hS : SM S V) (hx : Ex S0 S) (h_a0 : Ad S a0 a0v) (h_w1 : Ad S w1 w1v) (hQ : gd (eX9_reload_17 n V a0v z0 w1v) (SQ Q S0) (SX QX S0)) : wX9_reload_17 Q QX S a0 z0 w1 := by
  unfold wX9_reload_17
  unfold eX9_reload_17 at hQ
  refine sim_X9_may n hS h_w1 rfl ?_
  refine gd_mono (gd_bd hQ) (fun r2 V1 hQ S1 hS1 xS => ?_) (fun E V9 hQ S9 hS9 xS9 => gd_th hQ S9 hS9 (Ex_tr hx xS9))
  have hx1 : Ex S0 S1 := Ex_tr hx xS
  have h1_a0 := xS _ _ h_a0
  refine st_if rfl hQ (fun hQ => ?_) (fun hQ => ?_)
  · exact gd_rt hQ _ hS1 hx1
  · refine sim_X9_carries n hS1 h1_a0 rfl rfl ?_
    refine gd_mono (gd_bd hQ) (fun r4 V3 hQ S3 hS3 xS => ?_) (fun E V9 hQ S9 hS9 xS9 => gd_th hQ S9 hS9 (Ex_tr hx1 xS9))
    have hx3 : Ex S0 S3 := Ex_tr hx1 xS
    exact gd_rt hQ _ hS3 hx3
def eX9_reload_0 (n : Nat) (V : VS) (a0v : Nat) : Rs Int32 := (vR V a0v 1).bind (fun a1v => (if gvp_in 167 (vN V a1v) = true then (if (vI V a1v (167 : Int32).toNatClampNeg) ≤ 0 then eX9_reload_17 n V a0v 0 a0v else eX9_reload_17 n V a0v 1 a0v) else none))
set_option maxHeartbeats 4000000 in
set_option maxRecDepth 100000 in
theorem sX9_reload_0 (n : Nat) {S0 : MS} {Q : Int32 → MS → Prop} {QX : String → MS → Prop} {S : MS} {V : VS} {a0 a0v : Nat} (hS : SM S V) (hx : Ex S0 S) (h_a0 : Ad S a0 a0v) (hQ : gd (eX9_reload_0 n V a0v) (SQ Q S0) (SX QX S0)) : wX9_reload_0 Q QX S a0 := by
  unfold wX9_reload_0
  unfold eX9_reload_0 at hQ
  refine st_rd hS h_a0 rfl hQ (fun a1 a1v h_a1 hQ => ?_)
  refine st_gd (fun h => by simp only [SM_N hS h_a1]; exact gvp_in_of h) hQ (fun hQ => ?_)
  refine st_if (show ((mI S a1 (167 : Int32).toNatClampNeg) ≤ 0) = ((vI V a1v (167 : Int32).toNatClampNeg) ≤ 0) from by simp only [SM_I hS h_a1]) hQ (fun hQ => ?_) (fun hQ => ?_)
  · exact sX9_reload_17 n hS hx h_a0 h_a0 hQ
  · exact sX9_reload_17 n hS hx h_a0 h_a0 hQ
def ev_X9_reload (n : Nat) (V : VS) (a0v : Nat) : Rs Int32 := eX9_reload_0 n V a0v
theorem sim_X9_reload (n : Nat) {Q : Int32 → MS → Prop} {QX : String → MS → Prop} {S : MS} {V : VS} {a0 a0v : Nat} (hS : SM S V) (h_a0 : Ad S a0 a0v) (hQ : gd (ev_X9_reload n V a0v) (SQ Q S) (SX QX S)) : wp_X9_reload Q QX S a0 := by
  exact sX9_reload_0 n hS Ex_rf h_a0 hQ
def eX9_endTurn_0 (n : Nat) (V : VS) (a0v : Nat) : Rs Int32 := bd (ev_X9_may n V a0v 1) (fun r2 V1 => (if r2 = 0 then rt 0 V1 else bd (ev_X9_carries n V1 a0v 6 0) (fun r4 V3 => rt r4 V3) th)) th
set_option maxHeartbeats 4000000 in
set_option maxRecDepth 100000 in
theorem sX9_endTurn_0 (n : Nat) {S0 : MS} {Q : Int32 → MS → Prop} {QX : String → MS → Prop} {S : MS} {V : VS} {a0 a0v : Nat} (hS : SM S V) (hx : Ex S0 S) (h_a0 : Ad S a0 a0v) (hQ : gd (eX9_endTurn_0 n V a0v) (SQ Q S0) (SX QX S0)) : wX9_endTurn_0 Q QX S a0 := by
  unfold wX9_endTurn_0
  unfold eX9_endTurn_0 at hQ
  refine sim_X9_may n hS h_a0 rfl ?_
  refine gd_mono (gd_bd hQ) (fun r2 V1 hQ S1 hS1 xS => ?_) (fun E V9 hQ S9 hS9 xS9 => gd_th hQ S9 hS9 (Ex_tr hx xS9))
  have hx1 : Ex S0 S1 := Ex_tr hx xS
  have h1_a0 := xS _ _ h_a0
  refine st_if rfl hQ (fun hQ => ?_) (fun hQ => ?_)
  · exact gd_rt hQ _ hS1 hx1
  · refine sim_X9_carries n hS1 h1_a0 rfl rfl ?_
    refine gd_mono (gd_bd hQ) (fun r4 V3 hQ S3 hS3 xS => ?_) (fun E V9 hQ S9 hS9 xS9 => gd_th hQ S9 hS9 (Ex_tr hx1 xS9))
    have hx3 : Ex S0 S3 := Ex_tr hx1 xS
    exact gd_rt hQ _ hS3 hx3
def ev_X9_endTurn (n : Nat) (V : VS) (a0v : Nat) : Rs Int32 := eX9_endTurn_0 n V a0v
theorem sim_X9_endTurn (n : Nat) {Q : Int32 → MS → Prop} {QX : String → MS → Prop} {S : MS} {V : VS} {a0 a0v : Nat} (hS : SM S V) (h_a0 : Ad S a0 a0v) (hQ : gd (ev_X9_endTurn n V a0v) (SQ Q S) (SX QX S)) : wp_X9_endTurn Q QX S a0 := by
  exact sX9_endTurn_0 n hS Ex_rf h_a0 hQ
def eX9_eventCount_0 (n : Nat) (V : VS) (a0v : Nat) : Rs Int32 := sq (wI V a0v 0 0) (fun V1 => (vR V1 a0v 1).bind (fun a2v => (if gvp_in 168 (vN V1 a2v) = true then rt (vI V1 a2v (168 : Int32).toNatClampNeg) V1 else none)))
set_option maxHeartbeats 4000000 in
set_option maxRecDepth 100000 in
theorem sX9_eventCount_0 (n : Nat) {S0 : MS} {Q : Int32 → MS → Prop} {QX : String → MS → Prop} {S : MS} {V : VS} {a0 a0v : Nat} (hS : SM S V) (hx : Ex S0 S) (h_a0 : Ad S a0 a0v) (hQ : gd (eX9_eventCount_0 n V a0v) (SQ Q S0) (SX QX S0)) : wX9_eventCount_0 Q QX S a0 := by
  unfold wX9_eventCount_0
  unfold eX9_eventCount_0 at hQ
  intro S1 eS
  obtain ⟨V1, hS1, xS, hQ⟩ := st_sI hS h_a0 eS rfl rfl hQ
  have hx1 : Ex S0 S1 := Ex_tr hx xS
  have h1_a0 := xS _ _ h_a0
  refine st_rd hS1 h1_a0 rfl hQ (fun a2 a2v h1_a2 hQ => ?_)
  refine st_gd (fun h => by simp only [SM_N hS1 h1_a2]; exact gvp_in_of h) hQ (fun hQ => ?_)
  simp only [SM_I hS1 h1_a2]
  exact gd_rt hQ _ hS1 hx1
def ev_X9_eventCount (n : Nat) (V : VS) (a0v : Nat) : Rs Int32 := eX9_eventCount_0 n V a0v
theorem sim_X9_eventCount (n : Nat) {Q : Int32 → MS → Prop} {QX : String → MS → Prop} {S : MS} {V : VS} {a0 a0v : Nat} (hS : SM S V) (h_a0 : Ad S a0 a0v) (hQ : gd (ev_X9_eventCount n V a0v) (SQ Q S) (SX QX S)) : wp_X9_eventCount Q QX S a0 := by
  exact sX9_eventCount_0 n hS Ex_rf h_a0 hQ
def eX9_event_33 (n : Nat) (V : VS) (a0v : Nat) (y1 : Int32) (y2 : Int32) (z0 : Int32) (w1v : Nat) : Rs Int32 := sq (wI V w1v 0 z0) (fun V1 => (if (vI V1 a0v 0) = 0 then (vR V1 a0v 1).bind (fun a2v => (if gvp_in ((169 + (3 * y1)) + y2) (vN V1 a2v) = true then rt (vI V1 a2v (((169 + (3 * y1)) + y2) : Int32).toNatClampNeg) V1 else none)) else rt 0 V1))
set_option maxHeartbeats 4000000 in
set_option maxRecDepth 100000 in
theorem sX9_event_33 (n : Nat) {S0 : MS} {Q : Int32 → MS → Prop} {QX : String → MS → Prop} {S : MS} {V : VS} {a0 a0v : Nat} {y1 : Int32} {y2 : Int32} {z0 : Int32} {w1 w1v : Nat} (hS : SM S V) (hx : Ex S0 S) (h_a0 : Ad S a0 a0v) (h_w1 : Ad S w1 w1v) (hQ : gd (eX9_event_33 n V a0v y1 y2 z0 w1v) (SQ Q S0) (SX QX S0)) : wX9_event_33 Q QX S a0 y1 y2 z0 w1 := by
  unfold wX9_event_33
  unfold eX9_event_33 at hQ
  intro S1 eS
  obtain ⟨V1, hS1, xS, hQ⟩ := st_sI hS h_w1 eS rfl rfl hQ
  have hx1 : Ex S0 S1 := Ex_tr hx xS
  have h1_a0 := xS _ _ h_a0
  refine st_ifn (show ((mI S1 a0 0) = 0) = ((vI V1 a0v 0) = 0) from by simp only [SM_I hS1 h1_a0]) hQ (fun hQ => ?_) (fun hQ => ?_)
  · exact gd_rt hQ _ hS1 hx1
  · refine st_rd hS1 h1_a0 rfl hQ (fun a2 a2v h1_a2 hQ => ?_)
    refine st_gd (fun h => by simp only [SM_N hS1 h1_a2]; exact gvp_in_of h) hQ (fun hQ => ?_)
    simp only [SM_I hS1 h1_a2]
    exact gd_rt hQ _ hS1 hx1
def eX9_event_32 (n : Nat) (V : VS) (a0v : Nat) (y1 : Int32) (y2 : Int32) (w0v : Nat) : Rs Int32 := eX9_event_33 n V a0v y1 y2 1 w0v
set_option maxHeartbeats 4000000 in
set_option maxRecDepth 100000 in
theorem sX9_event_32 (n : Nat) {S0 : MS} {Q : Int32 → MS → Prop} {QX : String → MS → Prop} {S : MS} {V : VS} {a0 a0v : Nat} {y1 : Int32} {y2 : Int32} {w0 w0v : Nat} (hS : SM S V) (hx : Ex S0 S) (h_a0 : Ad S a0 a0v) (h_w0 : Ad S w0 w0v) (hQ : gd (eX9_event_32 n V a0v y1 y2 w0v) (SQ Q S0) (SX QX S0)) : wX9_event_32 Q QX S a0 y1 y2 w0 := by
  unfold wX9_event_32
  unfold eX9_event_32 at hQ
  exact sX9_event_33 n hS hx h_a0 h_w0 hQ
def eX9_event_0 (n : Nat) (V : VS) (a0v : Nat) (x1 : Int32) (x2 : Int32) : Rs Int32 := (vR V a0v 1).bind (fun a1v => (if gvp_in 168 (vN V a1v) = true then bd (ev_X9_isIn n V x1 0 ((vI V a1v (168 : Int32).toNatClampNeg) - 1)) (fun r3 V2 => (if r3 = 0 then eX9_event_32 n V2 a0v x1 x2 a0v else bd (ev_X9_isIn n V2 x2 0 2) (fun r5 V4 => (if r5 = 0 then eX9_event_32 n V4 a0v x1 x2 a0v else eX9_event_33 n V4 a0v x1 x2 0 a0v)) th)) th else none))
set_option maxHeartbeats 4000000 in
set_option maxRecDepth 100000 in
theorem sX9_event_0 (n : Nat) {S0 : MS} {Q : Int32 → MS → Prop} {QX : String → MS → Prop} {S : MS} {V : VS} {a0 a0v : Nat} {x1 : Int32} {x2 : Int32} (hS : SM S V) (hx : Ex S0 S) (h_a0 : Ad S a0 a0v) (hQ : gd (eX9_event_0 n V a0v x1 x2) (SQ Q S0) (SX QX S0)) : wX9_event_0 Q QX S a0 x1 x2 := by
  unfold wX9_event_0
  unfold eX9_event_0 at hQ
  refine st_rd hS h_a0 rfl hQ (fun a1 a1v h_a1 hQ => ?_)
  refine st_gd (fun h => by simp only [SM_N hS h_a1]; exact gvp_in_of h) hQ (fun hQ => ?_)
  refine sim_X9_isIn n hS rfl rfl (show (((mI S a1 (168 : Int32).toNatClampNeg) - 1)) = (((vI V a1v (168 : Int32).toNatClampNeg) - 1)) from by simp only [SM_I hS h_a1]) ?_
  refine gd_mono (gd_bd hQ) (fun r3 V2 hQ S2 hS2 xS => ?_) (fun E V9 hQ S9 hS9 xS9 => gd_th hQ S9 hS9 (Ex_tr hx xS9))
  have hx2 : Ex S0 S2 := Ex_tr hx xS
  have h2_a0 := xS _ _ h_a0
  refine st_if rfl hQ (fun hQ => ?_) (fun hQ => ?_)
  · exact sX9_event_32 n hS2 hx2 h2_a0 h2_a0 hQ
  · refine sim_X9_isIn n hS2 rfl rfl rfl ?_
    refine gd_mono (gd_bd hQ) (fun r5 V4 hQ S4 hS4 xS => ?_) (fun E V9 hQ S9 hS9 xS9 => gd_th hQ S9 hS9 (Ex_tr hx2 xS9))
    have hx4 : Ex S0 S4 := Ex_tr hx2 xS
    have h4_a0 := xS _ _ h2_a0
    refine st_if rfl hQ (fun hQ => ?_) (fun hQ => ?_)
    · exact sX9_event_32 n hS4 hx4 h4_a0 h4_a0 hQ
    · exact sX9_event_33 n hS4 hx4 h4_a0 h4_a0 hQ
def ev_X9_event (n : Nat) (V : VS) (a0v : Nat) (x1 : Int32) (x2 : Int32) : Rs Int32 := eX9_event_0 n V a0v x1 x2
theorem sim_X9_event (n : Nat) {Q : Int32 → MS → Prop} {QX : String → MS → Prop} {S : MS} {V : VS} {a0 a0v : Nat} {x1 x1z : Int32} {x2 x2z : Int32} (hS : SM S V) (h_a0 : Ad S a0 a0v) (e_x1 : x1 = x1z) (e_x2 : x2 = x2z) (hQ : gd (ev_X9_event n V a0v x1z x2z) (SQ Q S) (SX QX S)) : wp_X9_event Q QX S a0 x1 x2 := by
  subst e_x1 e_x2
  exact sX9_event_0 n hS Ex_rf h_a0 hQ
def eX9_commandCount_0 (n : Nat) (V : VS) (a0v : Nat) : Rs Int32 := sq (wI V a0v 0 0) (fun V1 => (vR V1 a0v 1).bind (fun a2v => (if gvp_in 289 (vN V1 a2v) = true then rt (vI V1 a2v (289 : Int32).toNatClampNeg) V1 else none)))
set_option maxHeartbeats 4000000 in
set_option maxRecDepth 100000 in
theorem sX9_commandCount_0 (n : Nat) {S0 : MS} {Q : Int32 → MS → Prop} {QX : String → MS → Prop} {S : MS} {V : VS} {a0 a0v : Nat} (hS : SM S V) (hx : Ex S0 S) (h_a0 : Ad S a0 a0v) (hQ : gd (eX9_commandCount_0 n V a0v) (SQ Q S0) (SX QX S0)) : wX9_commandCount_0 Q QX S a0 := by
  unfold wX9_commandCount_0
  unfold eX9_commandCount_0 at hQ
  intro S1 eS
  obtain ⟨V1, hS1, xS, hQ⟩ := st_sI hS h_a0 eS rfl rfl hQ
  have hx1 : Ex S0 S1 := Ex_tr hx xS
  have h1_a0 := xS _ _ h_a0
  refine st_rd hS1 h1_a0 rfl hQ (fun a2 a2v h1_a2 hQ => ?_)
  refine st_gd (fun h => by simp only [SM_N hS1 h1_a2]; exact gvp_in_of h) hQ (fun hQ => ?_)
  simp only [SM_I hS1 h1_a2]
  exact gd_rt hQ _ hS1 hx1
def ev_X9_commandCount (n : Nat) (V : VS) (a0v : Nat) : Rs Int32 := eX9_commandCount_0 n V a0v
theorem sim_X9_commandCount (n : Nat) {Q : Int32 → MS → Prop} {QX : String → MS → Prop} {S : MS} {V : VS} {a0 a0v : Nat} (hS : SM S V) (h_a0 : Ad S a0 a0v) (hQ : gd (ev_X9_commandCount n V a0v) (SQ Q S) (SX QX S)) : wp_X9_commandCount Q QX S a0 := by
  exact sX9_commandCount_0 n hS Ex_rf h_a0 hQ
def eX9_undo_38 (n : Nat) (k38v : VS → Nat → Int32 → Rs Int32) (V : VS) (a0v : Nat) (y1 : Int32) : Rs Int32 := (if 290 ≤ y1 then rt (vI V a0v 9) V else (vR V a0v 1).bind (fun a1v => (vR V a0v 6).bind (fun a2v => (if gvp_in (((vI V a0v 9) * 290) + y1) (vN V a2v) = true then (if gvp_in y1 (vN V a1v) = true then sq (wI V a1v ((y1 : Int32).toNatClampNeg) (vI V a2v ((((vI V a0v 9) * 290) + y1) : Int32).toNatClampNeg)) (fun V3 => k38v V3 a0v (y1 + 1)) else none) else none))))
set_option maxHeartbeats 4000000 in
set_option maxRecDepth 100000 in
theorem sX9_undo_38 (n : Nat) {S0 : MS} {Q : Int32 → MS → Prop} {QX : String → MS → Prop} {k38 : MS → Nat → Int32 → Prop} {k38v : VS → Nat → Int32 → Rs Int32} (hk38 : ∀ (S : MS) (V : VS) (p0 p0v : Nat) (p1 : Int32), SM S V → Ex S0 S → Ad S p0 p0v → gd (k38v V p0v p1) (SQ Q S0) (SX QX S0) → k38 S p0 p1) {S : MS} {V : VS} {a0 a0v : Nat} {y1 : Int32} (hS : SM S V) (hx : Ex S0 S) (h_a0 : Ad S a0 a0v) (hQ : gd (eX9_undo_38 n k38v V a0v y1) (SQ Q S0) (SX QX S0)) : wX9_undo_38 Q QX k38 S a0 y1 := by
  unfold wX9_undo_38
  unfold eX9_undo_38 at hQ
  refine st_if rfl hQ (fun hQ => ?_) (fun hQ => ?_)
  · simp only [SM_I hS h_a0]
    exact gd_rt hQ _ hS hx
  · refine st_rd hS h_a0 rfl hQ (fun a1 a1v h_a1 hQ => ?_)
    refine st_rd hS h_a0 rfl hQ (fun a2 a2v h_a2 hQ => ?_)
    refine st_gd (fun h => by simp only [SM_I hS h_a0, SM_N hS h_a2]; exact gvp_in_of h) hQ (fun hQ => ?_)
    refine st_gd (fun h => by simp only [SM_N hS h_a1]; exact gvp_in_of h) hQ (fun hQ => ?_)
    intro S3 eS
    obtain ⟨V3, hS3, xS, hQ⟩ := st_sI hS h_a1 eS rfl (show ((mI S a2 ((((mI S a0 9) * 290) + y1) : Int32).toNatClampNeg)) = ((vI V a2v ((((vI V a0v 9) * 290) + y1) : Int32).toNatClampNeg)) from by simp only [SM_I hS h_a2, SM_I hS h_a0]) hQ
    have hx3 : Ex S0 S3 := Ex_tr hx xS
    have h3_a0 := xS _ _ h_a0
    exact hk38 _ _ _ _ _ hS3 hx3 h3_a0 hQ
def elX9_undo_38 (n : Nat) : Nat → VS → Nat → Int32 → Rs Int32
  | 0 => fun _ _ _ => none
  | m + 1 => fun V a0v y1 => eX9_undo_38 n (elX9_undo_38 n m) V a0v y1
theorem selX9_undo_38 (n : Nat) {S0 : MS} {Q : Int32 → MS → Prop} {QX : String → MS → Prop} : ∀ (m : Nat), ∀ (S : MS) (V : VS) (p0 p0v : Nat) (p1 : Int32), SM S V → Ex S0 S → Ad S p0 p0v → gd (elX9_undo_38 n m V p0v p1) (SQ Q S0) (SX QX S0) → lX9_undo_38 Q QX m S p0 p1 := by
  intro m
  induction m with
  | zero => intro S V p0 p0v p1 hS hx q0 hQ; exact (gd_none hQ).elim
  | succ m ih => intro S V p0 p0v p1 hS hx q0 hQ; exact sX9_undo_38 n ih hS hx q0 hQ
def eX9_undo_13 (n : Nat) (V : VS) (a0v : Nat) (z0 : Int32) (w1v : Nat) : Rs Int32 := sq (wI V w1v 0 z0) (fun V1 => (if (vI V1 a0v 0) = 1 then rt 0 V1 else sq (wI V1 a0v 9 ((vI V1 a0v 9) - 1)) (fun V2 => elX9_undo_38 n n V2 a0v 0)))
set_option maxHeartbeats 4000000 in
set_option maxRecDepth 100000 in
theorem sX9_undo_13 (n : Nat) {S0 : MS} {Q : Int32 → MS → Prop} {QX : String → MS → Prop} {S : MS} {V : VS} {a0 a0v : Nat} {z0 : Int32} {w1 w1v : Nat} (hS : SM S V) (hx : Ex S0 S) (h_a0 : Ad S a0 a0v) (h_w1 : Ad S w1 w1v) (hQ : gd (eX9_undo_13 n V a0v z0 w1v) (SQ Q S0) (SX QX S0)) : wX9_undo_13 Q QX S a0 z0 w1 := by
  unfold wX9_undo_13
  unfold eX9_undo_13 at hQ
  intro S1 eS
  obtain ⟨V1, hS1, xS, hQ⟩ := st_sI hS h_w1 eS rfl rfl hQ
  have hx1 : Ex S0 S1 := Ex_tr hx xS
  have h1_a0 := xS _ _ h_a0
  refine st_ifn (show ((mI S1 a0 0) = 1) = ((vI V1 a0v 0) = 1) from by simp only [SM_I hS1 h1_a0]) hQ (fun hQ => ?_) (fun hQ => ?_)
  · intro S2 eS
    obtain ⟨V2, hS2, xS, hQ⟩ := st_sI hS1 h1_a0 eS rfl (show (((mI S1 a0 9) - 1)) = (((vI V1 a0v 9) - 1)) from by simp only [SM_I hS1 h1_a0]) hQ
    have hx2 : Ex S0 S2 := Ex_tr hx1 xS
    have h2_a0 := xS _ _ h1_a0
    refine ⟨n, ?_⟩
    exact selX9_undo_38 n n _ _ _ _ _ hS2 hx2 h2_a0 hQ
  · exact gd_rt hQ _ hS1 hx1
def eX9_undo_0 (n : Nat) (V : VS) (a0v : Nat) : Rs Int32 := (if (vI V a0v 9) = 0 then eX9_undo_13 n V a0v 1 a0v else eX9_undo_13 n V a0v 0 a0v)
set_option maxHeartbeats 4000000 in
set_option maxRecDepth 100000 in
theorem sX9_undo_0 (n : Nat) {S0 : MS} {Q : Int32 → MS → Prop} {QX : String → MS → Prop} {S : MS} {V : VS} {a0 a0v : Nat} (hS : SM S V) (hx : Ex S0 S) (h_a0 : Ad S a0 a0v) (hQ : gd (eX9_undo_0 n V a0v) (SQ Q S0) (SX QX S0)) : wX9_undo_0 Q QX S a0 := by
  unfold wX9_undo_0
  unfold eX9_undo_0 at hQ
  refine st_ifn (show ((mI S a0 9) = 0) = ((vI V a0v 9) = 0) from by simp only [SM_I hS h_a0]) hQ (fun hQ => ?_) (fun hQ => ?_)
  · exact sX9_undo_13 n hS hx h_a0 h_a0 hQ
  · exact sX9_undo_13 n hS hx h_a0 h_a0 hQ
def ev_X9_undo (n : Nat) (V : VS) (a0v : Nat) : Rs Int32 := eX9_undo_0 n V a0v
theorem sim_X9_undo (n : Nat) {Q : Int32 → MS → Prop} {QX : String → MS → Prop} {S : MS} {V : VS} {a0 a0v : Nat} (hS : SM S V) (h_a0 : Ad S a0 a0v) (hQ : gd (ev_X9_undo n V a0v) (SQ Q S) (SX QX S)) : wp_X9_undo Q QX S a0 := by
  exact sX9_undo_0 n hS Ex_rf h_a0 hQ
def eX9_isReplayed_161 (n : Nat) (k108v : VS → Nat → Int32 → Int32 → Rs Int32) (V : VS) (a0v : Nat) (y2 : Int32) (z0 : Int32) (z1 : Int32) : Rs Int32 := k108v V a0v (z1 &&& z0) (y2 + 1)
set_option maxHeartbeats 4000000 in
set_option maxRecDepth 100000 in
theorem sX9_isReplayed_161 (n : Nat) {S0 : MS} {Q : Int32 → MS → Prop} {QX : String → MS → Prop} {k108 : MS → Nat → Int32 → Int32 → Prop} {k108v : VS → Nat → Int32 → Int32 → Rs Int32} (hk108 : ∀ (S : MS) (V : VS) (p0 p0v : Nat) (p1 : Int32) (p2 : Int32), SM S V → Ex S0 S → Ad S p0 p0v → gd (k108v V p0v p1 p2) (SQ Q S0) (SX QX S0) → k108 S p0 p1 p2) {S : MS} {V : VS} {a0 a0v : Nat} {y2 : Int32} {z0 : Int32} {z1 : Int32} (hS : SM S V) (hx : Ex S0 S) (h_a0 : Ad S a0 a0v) (hQ : gd (eX9_isReplayed_161 n k108v V a0v y2 z0 z1) (SQ Q S0) (SX QX S0)) : wX9_isReplayed_161 Q QX k108 S a0 y2 z0 z1 := by
  unfold wX9_isReplayed_161
  unfold eX9_isReplayed_161 at hQ
  exact hk108 _ _ _ _ _ _ hS hx h_a0 hQ
def eX9_isReplayed_156 (n : Nat) (k108v : VS → Nat → Int32 → Int32 → Rs Int32) (V : VS) (a0v : Nat) (y2 : Int32) (z0 : Int32) : Rs Int32 := eX9_isReplayed_161 n k108v V a0v y2 1 z0
set_option maxHeartbeats 4000000 in
set_option maxRecDepth 100000 in
theorem sX9_isReplayed_156 (n : Nat) {S0 : MS} {Q : Int32 → MS → Prop} {QX : String → MS → Prop} {k108 : MS → Nat → Int32 → Int32 → Prop} {k108v : VS → Nat → Int32 → Int32 → Rs Int32} (hk108 : ∀ (S : MS) (V : VS) (p0 p0v : Nat) (p1 : Int32) (p2 : Int32), SM S V → Ex S0 S → Ad S p0 p0v → gd (k108v V p0v p1 p2) (SQ Q S0) (SX QX S0) → k108 S p0 p1 p2) {S : MS} {V : VS} {a0 a0v : Nat} {y2 : Int32} {z0 : Int32} (hS : SM S V) (hx : Ex S0 S) (h_a0 : Ad S a0 a0v) (hQ : gd (eX9_isReplayed_156 n k108v V a0v y2 z0) (SQ Q S0) (SX QX S0)) : wX9_isReplayed_156 Q QX k108 S a0 y2 z0 := by
  unfold wX9_isReplayed_156
  unfold eX9_isReplayed_156 at hQ
  exact sX9_isReplayed_161 n hk108 hS hx h_a0 hQ
def eX9_isReplayed_160 (n : Nat) (k108v : VS → Nat → Int32 → Int32 → Rs Int32) (V : VS) (a0v : Nat) (y2 : Int32) (z0 : Int32) : Rs Int32 := eX9_isReplayed_161 n k108v V a0v y2 0 z0
set_option maxHeartbeats 4000000 in
set_option maxRecDepth 100000 in
theorem sX9_isReplayed_160 (n : Nat) {S0 : MS} {Q : Int32 → MS → Prop} {QX : String → MS → Prop} {k108 : MS → Nat → Int32 → Int32 → Prop} {k108v : VS → Nat → Int32 → Int32 → Rs Int32} (hk108 : ∀ (S : MS) (V : VS) (p0 p0v : Nat) (p1 : Int32) (p2 : Int32), SM S V → Ex S0 S → Ad S p0 p0v → gd (k108v V p0v p1 p2) (SQ Q S0) (SX QX S0) → k108 S p0 p1 p2) {S : MS} {V : VS} {a0 a0v : Nat} {y2 : Int32} {z0 : Int32} (hS : SM S V) (hx : Ex S0 S) (h_a0 : Ad S a0 a0v) (hQ : gd (eX9_isReplayed_160 n k108v V a0v y2 z0) (SQ Q S0) (SX QX S0)) : wX9_isReplayed_160 Q QX k108 S a0 y2 z0 := by
  unfold wX9_isReplayed_160
  unfold eX9_isReplayed_160 at hQ
  exact sX9_isReplayed_161 n hk108 hS hx h_a0 hQ
def eX9_isReplayed_108 (n : Nat) (k108v : VS → Nat → Int32 → Int32 → Rs Int32) (V : VS) (a0v : Nat) (y1 : Int32) (y2 : Int32) : Rs Int32 := (if 290 ≤ y2 then (vR V a0v 5).bind (fun a1v => (vR V a0v 1).bind (fun a2v => bd (ev_X9_copies n V a1v a2v 290) (fun _ V3 => (if gisZ y1 = true then rt y1 V3 else none)) th)) else (vR V a0v 1).bind (fun a4v => (if gvp_in y2 (vN V a4v) = true then (vR V a0v 5).bind (fun a5v => (if gvp_in y2 (vN V a5v) = true then (if (vI V a4v (y2 : Int32).toNatClampNeg) = (vI V a5v (y2 : Int32).toNatClampNeg) then eX9_isReplayed_156 n k108v V a0v y2 y1 else (vR V a0v 1).bind (fun a6v => (if gvp_in 168 (vN V a6v) = true then (if y2 < (169 + (3 * (vI V a6v (168 : Int32).toNatClampNeg))) then eX9_isReplayed_160 n k108v V a0v y2 y1 else (if 289 ≤ y2 then eX9_isReplayed_160 n k108v V a0v y2 y1 else eX9_isReplayed_156 n k108v V a0v y2 y1)) else none))) else none)) else none)))
set_option maxHeartbeats 4000000 in
set_option maxRecDepth 100000 in
theorem sX9_isReplayed_108 (n : Nat) {S0 : MS} {Q : Int32 → MS → Prop} {QX : String → MS → Prop} {k108 : MS → Nat → Int32 → Int32 → Prop} {k108v : VS → Nat → Int32 → Int32 → Rs Int32} (hk108 : ∀ (S : MS) (V : VS) (p0 p0v : Nat) (p1 : Int32) (p2 : Int32), SM S V → Ex S0 S → Ad S p0 p0v → gd (k108v V p0v p1 p2) (SQ Q S0) (SX QX S0) → k108 S p0 p1 p2) {S : MS} {V : VS} {a0 a0v : Nat} {y1 : Int32} {y2 : Int32} (hS : SM S V) (hx : Ex S0 S) (h_a0 : Ad S a0 a0v) (hQ : gd (eX9_isReplayed_108 n k108v V a0v y1 y2) (SQ Q S0) (SX QX S0)) : wX9_isReplayed_108 Q QX k108 S a0 y1 y2 := by
  unfold wX9_isReplayed_108
  unfold eX9_isReplayed_108 at hQ
  refine st_if rfl hQ (fun hQ => ?_) (fun hQ => ?_)
  · refine st_rd hS h_a0 rfl hQ (fun a1 a1v h_a1 hQ => ?_)
    refine st_rd hS h_a0 rfl hQ (fun a2 a2v h_a2 hQ => ?_)
    refine sim_X9_copies n hS h_a1 h_a2 rfl ?_
    refine gd_mono (gd_bd hQ) (fun _ V3 hQ S3 hS3 xS => ?_) (fun E V9 hQ S9 hS9 xS9 => gd_th hQ S9 hS9 (Ex_tr hx xS9))
    have hx3 : Ex S0 S3 := Ex_tr hx xS
    refine st_gd (fun h => by exact gisZ_of h) hQ (fun hQ => ?_)
    exact gd_rt hQ _ hS3 hx3
  · refine st_rd hS h_a0 rfl hQ (fun a4 a4v h_a4 hQ => ?_)
    refine st_gd (fun h => by simp only [SM_N hS h_a4]; exact gvp_in_of h) hQ (fun hQ => ?_)
    refine st_rd hS h_a0 rfl hQ (fun a5 a5v h_a5 hQ => ?_)
    refine st_gd (fun h => by simp only [SM_N hS h_a5]; exact gvp_in_of h) hQ (fun hQ => ?_)
    refine st_if (show ((mI S a4 (y2 : Int32).toNatClampNeg) = (mI S a5 (y2 : Int32).toNatClampNeg)) = ((vI V a4v (y2 : Int32).toNatClampNeg) = (vI V a5v (y2 : Int32).toNatClampNeg)) from by simp only [SM_I hS h_a4, SM_I hS h_a5]) hQ (fun hQ => ?_) (fun hQ => ?_)
    · exact sX9_isReplayed_156 n hk108 hS hx h_a0 hQ
    · refine st_rd hS h_a0 rfl hQ (fun a6 a6v h_a6 hQ => ?_)
      refine st_gd (fun h => by simp only [SM_N hS h_a6]; exact gvp_in_of h) hQ (fun hQ => ?_)
      refine st_if (show (y2 < (169 + (3 * (mI S a6 (168 : Int32).toNatClampNeg)))) = (y2 < (169 + (3 * (vI V a6v (168 : Int32).toNatClampNeg)))) from by simp only [SM_I hS h_a6]) hQ (fun hQ => ?_) (fun hQ => ?_)
      · exact sX9_isReplayed_160 n hk108 hS hx h_a0 hQ
      · refine st_if rfl hQ (fun hQ => ?_) (fun hQ => ?_)
        · exact sX9_isReplayed_160 n hk108 hS hx h_a0 hQ
        · exact sX9_isReplayed_156 n hk108 hS hx h_a0 hQ
def elX9_isReplayed_108 (n : Nat) : Nat → VS → Nat → Int32 → Int32 → Rs Int32
  | 0 => fun _ _ _ _ => none
  | m + 1 => fun V a0v y1 y2 => eX9_isReplayed_108 n (elX9_isReplayed_108 n m) V a0v y1 y2
theorem selX9_isReplayed_108 (n : Nat) {S0 : MS} {Q : Int32 → MS → Prop} {QX : String → MS → Prop} : ∀ (m : Nat), ∀ (S : MS) (V : VS) (p0 p0v : Nat) (p1 : Int32) (p2 : Int32), SM S V → Ex S0 S → Ad S p0 p0v → gd (elX9_isReplayed_108 n m V p0v p1 p2) (SQ Q S0) (SX QX S0) → lX9_isReplayed_108 Q QX m S p0 p1 p2 := by
  intro m
  induction m with
  | zero => intro S V p0 p0v p1 p2 hS hx q0 hQ; exact (gd_none hQ).elim
  | succ m ih => intro S V p0 p0v p1 p2 hS hx q0 hQ; exact sX9_isReplayed_108 n ih hS hx q0 hQ
def eX9_isReplayed_60 (n : Nat) (k60v : VS → Nat → Int32 → Rs Int32) (V : VS) (a0v : Nat) (y1 : Int32) : Rs Int32 := (vR V a0v 5).bind (fun a1v => (if gvp_in 289 (vN V a1v) = true then (if (vI V a1v (289 : Int32).toNatClampNeg) ≤ y1 then elX9_isReplayed_108 n n V a0v 1 0 else (vR V a0v 7).bind (fun a2v => (if gvp_in (2 * y1) (vN V a2v) = true then (vR V a0v 7).bind (fun a3v => (if gvp_in ((2 * y1) + 1) (vN V a3v) = true then bd (ev_X9_does n V a0v (vI V a2v ((2 * y1) : Int32).toNatClampNeg) (vI V a3v (((2 * y1) + 1) : Int32).toNatClampNeg)) (fun r5 V4 => sq (wI V4 a0v 18 r5) (fun V6 => k60v V6 a0v (y1 + 1))) th else none)) else none))) else none))
set_option maxHeartbeats 4000000 in
set_option maxRecDepth 100000 in
theorem sX9_isReplayed_60 (n : Nat) {S0 : MS} {Q : Int32 → MS → Prop} {QX : String → MS → Prop} {k60 : MS → Nat → Int32 → Prop} {k60v : VS → Nat → Int32 → Rs Int32} (hk60 : ∀ (S : MS) (V : VS) (p0 p0v : Nat) (p1 : Int32), SM S V → Ex S0 S → Ad S p0 p0v → gd (k60v V p0v p1) (SQ Q S0) (SX QX S0) → k60 S p0 p1) {S : MS} {V : VS} {a0 a0v : Nat} {y1 : Int32} (hS : SM S V) (hx : Ex S0 S) (h_a0 : Ad S a0 a0v) (hQ : gd (eX9_isReplayed_60 n k60v V a0v y1) (SQ Q S0) (SX QX S0)) : wX9_isReplayed_60 Q QX k60 S a0 y1 := by
  unfold wX9_isReplayed_60
  unfold eX9_isReplayed_60 at hQ
  refine st_rd hS h_a0 rfl hQ (fun a1 a1v h_a1 hQ => ?_)
  refine st_gd (fun h => by simp only [SM_N hS h_a1]; exact gvp_in_of h) hQ (fun hQ => ?_)
  refine st_if (show ((mI S a1 (289 : Int32).toNatClampNeg) ≤ y1) = ((vI V a1v (289 : Int32).toNatClampNeg) ≤ y1) from by simp only [SM_I hS h_a1]) hQ (fun hQ => ?_) (fun hQ => ?_)
  · refine ⟨n, ?_⟩
    exact selX9_isReplayed_108 n n _ _ _ _ _ _ hS hx h_a0 hQ
  · refine st_rd hS h_a0 rfl hQ (fun a2 a2v h_a2 hQ => ?_)
    refine st_gd (fun h => by simp only [SM_N hS h_a2]; exact gvp_in_of h) hQ (fun hQ => ?_)
    refine st_rd hS h_a0 rfl hQ (fun a3 a3v h_a3 hQ => ?_)
    refine st_gd (fun h => by simp only [SM_N hS h_a3]; exact gvp_in_of h) hQ (fun hQ => ?_)
    refine sim_X9_does n hS h_a0 (show ((mI S a2 ((2 * y1) : Int32).toNatClampNeg)) = ((vI V a2v ((2 * y1) : Int32).toNatClampNeg)) from by simp only [SM_I hS h_a2]) (show ((mI S a3 (((2 * y1) + 1) : Int32).toNatClampNeg)) = ((vI V a3v (((2 * y1) + 1) : Int32).toNatClampNeg)) from by simp only [SM_I hS h_a3]) ?_
    refine gd_mono (gd_bd hQ) (fun r5 V4 hQ S4 hS4 xS => ?_) (fun E V9 hQ S9 hS9 xS9 => gd_th hQ S9 hS9 (Ex_tr hx xS9))
    have hx4 : Ex S0 S4 := Ex_tr hx xS
    have h4_a0 := xS _ _ h_a0
    intro S6 eS
    obtain ⟨V6, hS6, xS, hQ⟩ := st_sI hS4 h4_a0 eS rfl rfl hQ
    have hx6 : Ex S0 S6 := Ex_tr hx4 xS
    have h6_a0 := xS _ _ h4_a0
    exact hk60 _ _ _ _ _ hS6 hx6 h6_a0 hQ
def elX9_isReplayed_60 (n : Nat) : Nat → VS → Nat → Int32 → Rs Int32
  | 0 => fun _ _ _ => none
  | m + 1 => fun V a0v y1 => eX9_isReplayed_60 n (elX9_isReplayed_60 n m) V a0v y1
theorem selX9_isReplayed_60 (n : Nat) {S0 : MS} {Q : Int32 → MS → Prop} {QX : String → MS → Prop} : ∀ (m : Nat), ∀ (S : MS) (V : VS) (p0 p0v : Nat) (p1 : Int32), SM S V → Ex S0 S → Ad S p0 p0v → gd (elX9_isReplayed_60 n m V p0v p1) (SQ Q S0) (SX QX S0) → lX9_isReplayed_60 Q QX m S p0 p1 := by
  intro m
  induction m with
  | zero => intro S V p0 p0v p1 hS hx q0 hQ; exact (gd_none hQ).elim
  | succ m ih => intro S V p0 p0v p1 hS hx q0 hQ; exact sX9_isReplayed_60 n ih hS hx q0 hQ
def eX9_isReplayed_13 (n : Nat) (V : VS) (a0v : Nat) (z0 : Int32) (w1v : Nat) : Rs Int32 := sq (wI V w1v 0 z0) (fun V1 => (if (vI V1 a0v 0) = 1 then rt 0 V1 else (vR V1 a0v 1).bind (fun a2v => (vR V1 a0v 5).bind (fun a3v => bd (ev_X9_copies n V1 a2v a3v 290) (fun _ V4 => (vR V4 a0v 2).bind (fun a5v => (vR V4 a0v 1).bind (fun a6v => bd (ev_X9_copies n V4 a5v a6v 290) (fun _ V7 => bd (ev_X9_fights n V7 a0v) (fun _ V8 => elX9_isReplayed_60 n n V8 a0v 0) th) th))) th))))
set_option maxHeartbeats 4000000 in
set_option maxRecDepth 100000 in
theorem sX9_isReplayed_13 (n : Nat) {S0 : MS} {Q : Int32 → MS → Prop} {QX : String → MS → Prop} {S : MS} {V : VS} {a0 a0v : Nat} {z0 : Int32} {w1 w1v : Nat} (hS : SM S V) (hx : Ex S0 S) (h_a0 : Ad S a0 a0v) (h_w1 : Ad S w1 w1v) (hQ : gd (eX9_isReplayed_13 n V a0v z0 w1v) (SQ Q S0) (SX QX S0)) : wX9_isReplayed_13 Q QX S a0 z0 w1 := by
  unfold wX9_isReplayed_13
  unfold eX9_isReplayed_13 at hQ
  intro S1 eS
  obtain ⟨V1, hS1, xS, hQ⟩ := st_sI hS h_w1 eS rfl rfl hQ
  have hx1 : Ex S0 S1 := Ex_tr hx xS
  have h1_a0 := xS _ _ h_a0
  refine st_ifn (show ((mI S1 a0 0) = 1) = ((vI V1 a0v 0) = 1) from by simp only [SM_I hS1 h1_a0]) hQ (fun hQ => ?_) (fun hQ => ?_)
  · refine st_rd hS1 h1_a0 rfl hQ (fun a2 a2v h1_a2 hQ => ?_)
    refine st_rd hS1 h1_a0 rfl hQ (fun a3 a3v h1_a3 hQ => ?_)
    refine sim_X9_copies n hS1 h1_a2 h1_a3 rfl ?_
    refine gd_mono (gd_bd hQ) (fun _ V4 hQ S4 hS4 xS => ?_) (fun E V9 hQ S9 hS9 xS9 => gd_th hQ S9 hS9 (Ex_tr hx1 xS9))
    have hx4 : Ex S0 S4 := Ex_tr hx1 xS
    have h4_a0 := xS _ _ h1_a0
    refine st_rd hS4 h4_a0 rfl hQ (fun a5 a5v h4_a5 hQ => ?_)
    refine st_rd hS4 h4_a0 rfl hQ (fun a6 a6v h4_a6 hQ => ?_)
    refine sim_X9_copies n hS4 h4_a5 h4_a6 rfl ?_
    refine gd_mono (gd_bd hQ) (fun _ V7 hQ S7 hS7 xS => ?_) (fun E V9 hQ S9 hS9 xS9 => gd_th hQ S9 hS9 (Ex_tr hx4 xS9))
    have hx7 : Ex S0 S7 := Ex_tr hx4 xS
    have h7_a0 := xS _ _ h4_a0
    refine sim_X9_fights n hS7 h7_a0 ?_
    refine gd_mono (gd_bd hQ) (fun _ V8 hQ S8 hS8 xS => ?_) (fun E V9 hQ S9 hS9 xS9 => gd_th hQ S9 hS9 (Ex_tr hx7 xS9))
    have hx8 : Ex S0 S8 := Ex_tr hx7 xS
    have h8_a0 := xS _ _ h7_a0
    refine ⟨n, ?_⟩
    exact selX9_isReplayed_60 n n _ _ _ _ _ hS8 hx8 h8_a0 hQ
  · exact gd_rt hQ _ hS1 hx1
def eX9_isReplayed_0 (n : Nat) (V : VS) (a0v : Nat) : Rs Int32 := bd (ev_X9_hasBegun n V a0v) (fun r2 V1 => (if r2 = 0 then eX9_isReplayed_13 n V1 a0v 1 a0v else eX9_isReplayed_13 n V1 a0v 0 a0v)) th
set_option maxHeartbeats 4000000 in
set_option maxRecDepth 100000 in
theorem sX9_isReplayed_0 (n : Nat) {S0 : MS} {Q : Int32 → MS → Prop} {QX : String → MS → Prop} {S : MS} {V : VS} {a0 a0v : Nat} (hS : SM S V) (hx : Ex S0 S) (h_a0 : Ad S a0 a0v) (hQ : gd (eX9_isReplayed_0 n V a0v) (SQ Q S0) (SX QX S0)) : wX9_isReplayed_0 Q QX S a0 := by
  unfold wX9_isReplayed_0
  unfold eX9_isReplayed_0 at hQ
  refine sim_X9_hasBegun n hS h_a0 ?_
  refine gd_mono (gd_bd hQ) (fun r2 V1 hQ S1 hS1 xS => ?_) (fun E V9 hQ S9 hS9 xS9 => gd_th hQ S9 hS9 (Ex_tr hx xS9))
  have hx1 : Ex S0 S1 := Ex_tr hx xS
  have h1_a0 := xS _ _ h_a0
  refine st_if rfl hQ (fun hQ => ?_) (fun hQ => ?_)
  · exact sX9_isReplayed_13 n hS1 hx1 h1_a0 h1_a0 hQ
  · exact sX9_isReplayed_13 n hS1 hx1 h1_a0 h1_a0 hQ
def ev_X9_isReplayed (n : Nat) (V : VS) (a0v : Nat) : Rs Int32 := eX9_isReplayed_0 n V a0v
theorem sim_X9_isReplayed (n : Nat) {Q : Int32 → MS → Prop} {QX : String → MS → Prop} {S : MS} {V : VS} {a0 a0v : Nat} (hS : SM S V) (h_a0 : Ad S a0 a0v) (hQ : gd (ev_X9_isReplayed n V a0v) (SQ Q S) (SX QX S)) : wp_X9_isReplayed Q QX S a0 := by
  exact sX9_isReplayed_0 n hS Ex_rf h_a0 hQ
def eX9_meanHealth_86 (n : Nat) (V : VS) (a0v : Nat) (y2 : Int32) (y3 : Int32) : Rs UInt32 := (if (vI V a0v 0) ≤ 0 then (if gvf_n32 (FP.fdiv (FP.i2f y2) (FP.i2f y3)) = true then rt (FP.fdiv (FP.i2f y2) (FP.i2f y3)) V else none) else rt FP.fconst0 V)
set_option maxHeartbeats 4000000 in
set_option maxRecDepth 100000 in
theorem sX9_meanHealth_86 (n : Nat) {S0 : MS} {Q : UInt32 → MS → Prop} {QX : String → MS → Prop} {S : MS} {V : VS} {a0 a0v : Nat} {y2 : Int32} {y3 : Int32} (hS : SM S V) (hx : Ex S0 S) (h_a0 : Ad S a0 a0v) (hQ : gd (eX9_meanHealth_86 n V a0v y2 y3) (SQ Q S0) (SX QX S0)) : wX9_meanHealth_86 Q QX S a0 y2 y3 := by
  unfold wX9_meanHealth_86
  unfold eX9_meanHealth_86 at hQ
  refine st_if (show ((mI S a0 0) ≤ 0) = ((vI V a0v 0) ≤ 0) from by simp only [SM_I hS h_a0]) hQ (fun hQ => ?_) (fun hQ => ?_)
  · refine st_gd (fun h => by exact gvf_n32_of h) hQ (fun hQ => ?_)
    exact gd_rt hQ _ hS hx
  · exact gd_rt hQ _ hS hx
def eX9_meanHealth_25 (n : Nat) (k25v : VS → Nat → Int32 → Int32 → Int32 → Int32 → Rs UInt32) (V : VS) (a0v : Nat) (y1 : Int32) (y2 : Int32) (y3 : Int32) (y4 : Int32) : Rs UInt32 := (vR V a0v 1).bind (fun a1v => (if gvp_in 66 (vN V a1v) = true then (if (vI V a1v (66 : Int32).toNatClampNeg) ≤ y4 then (if (vI V a0v 0) = 0 then (if y3 = 0 then sq (wI V a0v 0 2) (fun V2 => eX9_meanHealth_86 n V2 a0v y2 y3) else eX9_meanHealth_86 n V a0v y2 y3) else eX9_meanHealth_86 n V a0v y2 y3) else bd (ev_X9_of n V a0v y4 0) (fun r4 V3 => (if r4 = y1 then bd (ev_X9_of n V3 a0v y4 3) (fun r6 V5 => k25v V5 a0v y1 (y2 + r6) (y3 + 1) (y4 + 1)) th else k25v V3 a0v y1 y2 y3 (y4 + 1))) th) else none))
set_option maxHeartbeats 4000000 in
set_option maxRecDepth 100000 in
theorem sX9_meanHealth_25 (n : Nat) {S0 : MS} {Q : UInt32 → MS → Prop} {QX : String → MS → Prop} {k25 : MS → Nat → Int32 → Int32 → Int32 → Int32 → Prop} {k25v : VS → Nat → Int32 → Int32 → Int32 → Int32 → Rs UInt32} (hk25 : ∀ (S : MS) (V : VS) (p0 p0v : Nat) (p1 : Int32) (p2 : Int32) (p3 : Int32) (p4 : Int32), SM S V → Ex S0 S → Ad S p0 p0v → gd (k25v V p0v p1 p2 p3 p4) (SQ Q S0) (SX QX S0) → k25 S p0 p1 p2 p3 p4) {S : MS} {V : VS} {a0 a0v : Nat} {y1 : Int32} {y2 : Int32} {y3 : Int32} {y4 : Int32} (hS : SM S V) (hx : Ex S0 S) (h_a0 : Ad S a0 a0v) (hQ : gd (eX9_meanHealth_25 n k25v V a0v y1 y2 y3 y4) (SQ Q S0) (SX QX S0)) : wX9_meanHealth_25 Q QX k25 S a0 y1 y2 y3 y4 := by
  unfold wX9_meanHealth_25
  unfold eX9_meanHealth_25 at hQ
  refine st_rd hS h_a0 rfl hQ (fun a1 a1v h_a1 hQ => ?_)
  refine st_gd (fun h => by simp only [SM_N hS h_a1]; exact gvp_in_of h) hQ (fun hQ => ?_)
  refine st_if (show ((mI S a1 (66 : Int32).toNatClampNeg) ≤ y4) = ((vI V a1v (66 : Int32).toNatClampNeg) ≤ y4) from by simp only [SM_I hS h_a1]) hQ (fun hQ => ?_) (fun hQ => ?_)
  · refine st_ifn (show ((mI S a0 0) = 0) = ((vI V a0v 0) = 0) from by simp only [SM_I hS h_a0]) hQ (fun hQ => ?_) (fun hQ => ?_)
    · exact sX9_meanHealth_86 n hS hx h_a0 hQ
    · refine st_ifn rfl hQ (fun hQ => ?_) (fun hQ => ?_)
      · exact sX9_meanHealth_86 n hS hx h_a0 hQ
      · intro S2 eS
        obtain ⟨V2, hS2, xS, hQ⟩ := st_sI hS h_a0 eS rfl rfl hQ
        have hx2 : Ex S0 S2 := Ex_tr hx xS
        have h2_a0 := xS _ _ h_a0
        exact sX9_meanHealth_86 n hS2 hx2 h2_a0 hQ
  · refine sim_X9_of n hS h_a0 rfl rfl ?_
    refine gd_mono (gd_bd hQ) (fun r4 V3 hQ S3 hS3 xS => ?_) (fun E V9 hQ S9 hS9 xS9 => gd_th hQ S9 hS9 (Ex_tr hx xS9))
    have hx3 : Ex S0 S3 := Ex_tr hx xS
    have h3_a0 := xS _ _ h_a0
    refine st_if rfl hQ (fun hQ => ?_) (fun hQ => ?_)
    · refine sim_X9_of n hS3 h3_a0 rfl rfl ?_
      refine gd_mono (gd_bd hQ) (fun r6 V5 hQ S5 hS5 xS => ?_) (fun E V9 hQ S9 hS9 xS9 => gd_th hQ S9 hS9 (Ex_tr hx3 xS9))
      have hx5 : Ex S0 S5 := Ex_tr hx3 xS
      have h5_a0 := xS _ _ h3_a0
      exact hk25 _ _ _ _ _ _ _ _ hS5 hx5 h5_a0 hQ
    · exact hk25 _ _ _ _ _ _ _ _ hS3 hx3 h3_a0 hQ
def elX9_meanHealth_25 (n : Nat) : Nat → VS → Nat → Int32 → Int32 → Int32 → Int32 → Rs UInt32
  | 0 => fun _ _ _ _ _ _ => none
  | m + 1 => fun V a0v y1 y2 y3 y4 => eX9_meanHealth_25 n (elX9_meanHealth_25 n m) V a0v y1 y2 y3 y4
theorem selX9_meanHealth_25 (n : Nat) {S0 : MS} {Q : UInt32 → MS → Prop} {QX : String → MS → Prop} : ∀ (m : Nat), ∀ (S : MS) (V : VS) (p0 p0v : Nat) (p1 : Int32) (p2 : Int32) (p3 : Int32) (p4 : Int32), SM S V → Ex S0 S → Ad S p0 p0v → gd (elX9_meanHealth_25 n m V p0v p1 p2 p3 p4) (SQ Q S0) (SX QX S0) → lX9_meanHealth_25 Q QX m S p0 p1 p2 p3 p4 := by
  intro m
  induction m with
  | zero => intro S V p0 p0v p1 p2 p3 p4 hS hx q0 hQ; exact (gd_none hQ).elim
  | succ m ih => intro S V p0 p0v p1 p2 p3 p4 hS hx q0 hQ; exact sX9_meanHealth_25 n ih hS hx q0 hQ
def eX9_meanHealth_15 (n : Nat) (V : VS) (a0v : Nat) (y1 : Int32) (z0 : Int32) (w1v : Nat) : Rs UInt32 := sq (wI V w1v 0 z0) (fun V1 => elX9_meanHealth_25 n n V1 a0v y1 0 0 0)
set_option maxHeartbeats 4000000 in
set_option maxRecDepth 100000 in
theorem sX9_meanHealth_15 (n : Nat) {S0 : MS} {Q : UInt32 → MS → Prop} {QX : String → MS → Prop} {S : MS} {V : VS} {a0 a0v : Nat} {y1 : Int32} {z0 : Int32} {w1 w1v : Nat} (hS : SM S V) (hx : Ex S0 S) (h_a0 : Ad S a0 a0v) (h_w1 : Ad S w1 w1v) (hQ : gd (eX9_meanHealth_15 n V a0v y1 z0 w1v) (SQ Q S0) (SX QX S0)) : wX9_meanHealth_15 Q QX S a0 y1 z0 w1 := by
  unfold wX9_meanHealth_15
  unfold eX9_meanHealth_15 at hQ
  intro S1 eS
  obtain ⟨V1, hS1, xS, hQ⟩ := st_sI hS h_w1 eS rfl rfl hQ
  have hx1 : Ex S0 S1 := Ex_tr hx xS
  have h1_a0 := xS _ _ h_a0
  refine ⟨n, ?_⟩
  exact selX9_meanHealth_25 n n _ _ _ _ _ _ _ _ hS1 hx1 h1_a0 hQ
def eX9_meanHealth_0 (n : Nat) (V : VS) (a0v : Nat) (x1 : Int32) : Rs UInt32 := bd (ev_X9_isIn n V x1 0 1) (fun r2 V1 => (if r2 = 0 then eX9_meanHealth_15 n V1 a0v x1 1 a0v else eX9_meanHealth_15 n V1 a0v x1 0 a0v)) th
set_option maxHeartbeats 4000000 in
set_option maxRecDepth 100000 in
theorem sX9_meanHealth_0 (n : Nat) {S0 : MS} {Q : UInt32 → MS → Prop} {QX : String → MS → Prop} {S : MS} {V : VS} {a0 a0v : Nat} {x1 : Int32} (hS : SM S V) (hx : Ex S0 S) (h_a0 : Ad S a0 a0v) (hQ : gd (eX9_meanHealth_0 n V a0v x1) (SQ Q S0) (SX QX S0)) : wX9_meanHealth_0 Q QX S a0 x1 := by
  unfold wX9_meanHealth_0
  unfold eX9_meanHealth_0 at hQ
  refine sim_X9_isIn n hS rfl rfl rfl ?_
  refine gd_mono (gd_bd hQ) (fun r2 V1 hQ S1 hS1 xS => ?_) (fun E V9 hQ S9 hS9 xS9 => gd_th hQ S9 hS9 (Ex_tr hx xS9))
  have hx1 : Ex S0 S1 := Ex_tr hx xS
  have h1_a0 := xS _ _ h_a0
  refine st_if rfl hQ (fun hQ => ?_) (fun hQ => ?_)
  · exact sX9_meanHealth_15 n hS1 hx1 h1_a0 h1_a0 hQ
  · exact sX9_meanHealth_15 n hS1 hx1 h1_a0 h1_a0 hQ
def ev_X9_meanHealth (n : Nat) (V : VS) (a0v : Nat) (x1 : Int32) : Rs UInt32 := eX9_meanHealth_0 n V a0v x1
theorem sim_X9_meanHealth (n : Nat) {Q : UInt32 → MS → Prop} {QX : String → MS → Prop} {S : MS} {V : VS} {a0 a0v : Nat} {x1 x1z : Int32} (hS : SM S V) (h_a0 : Ad S a0 a0v) (e_x1 : x1 = x1z) (hQ : gd (ev_X9_meanHealth n V a0v x1z) (SQ Q S) (SX QX S)) : wp_X9_meanHealth Q QX S a0 x1 := by
  subst e_x1
  exact sX9_meanHealth_0 n hS Ex_rf h_a0 hQ
