def eX8_meanHealth_11 (n : Nat) (k11v : VS → Nat → Int32 → Int32 → Int32 → Int32 → Rs UInt32) (V : VS) (a0v : Nat) (y1 : Int32) (y2 : Int32) (y3 : Int32) (y4 : Int32) : Rs UInt32 := (vR V a0v 3).bind (fun a1v => (if (vI V a1v 2) ≤ y4 then (if y3 = 0 then th "java/lang/ArithmeticException" V else (if gvf_n32 (FP.fdiv (FP.i2f y2) (FP.i2f y3)) = true then rt (FP.fdiv (FP.i2f y2) (FP.i2f y3)) V else none)) else (vR V a0v 3).bind (fun a2v => (vR V a2v 1).bind (fun a3v => (if gvp_in y4 (vN V a3v) = true then (vR V a3v ((y4 : Int32).toNatClampNeg)).bind (fun a4v => (if (vI V a4v 1) = y1 then k11v V a0v y1 (y2 + (vI V a4v 5)) (y3 + 1) (y4 + 1) else k11v V a0v y1 y2 y3 (y4 + 1))) else none)))))
set_option maxHeartbeats 4000000 in
set_option maxRecDepth 100000 in
theorem sX8_meanHealth_11 (n : Nat) {S0 : MS} {Q : UInt32 → MS → Prop} {QX : String → MS → Prop} {k11 : MS → Nat → Int32 → Int32 → Int32 → Int32 → Prop} {k11v : VS → Nat → Int32 → Int32 → Int32 → Int32 → Rs UInt32} (hk11 : ∀ (S : MS) (V : VS) (p0 p0v : Nat) (p1 : Int32) (p2 : Int32) (p3 : Int32) (p4 : Int32), SM S V → Ex S0 S → Ad S p0 p0v → gd (k11v V p0v p1 p2 p3 p4) (SQ Q S0) (SX QX S0) → k11 S p0 p1 p2 p3 p4) {S : MS} {V : VS} {a0 a0v : Nat} {y1 : Int32} {y2 : Int32} {y3 : Int32} {y4 : Int32} (hS : SM S V) (hx : Ex S0 S) (h_a0 : Ad S a0 a0v) (hQ : gd (eX8_meanHealth_11 n k11v V a0v y1 y2 y3 y4) (SQ Q S0) (SX QX S0)) : wX8_meanHealth_11 Q QX k11 S a0 y1 y2 y3 y4 := by
  unfold wX8_meanHealth_11
  unfold eX8_meanHealth_11 at hQ
  refine st_rd hS h_a0 rfl hQ (fun a1 a1v h_a1 hQ => ?_)
  refine st_if (show ((mI S a1 2) ≤ y4) = ((vI V a1v 2) ≤ y4) from by simp only [SM_I hS h_a1]) hQ (fun hQ => ?_) (fun hQ => ?_)
  · refine st_ifn rfl hQ (fun hQ => ?_) (fun hQ => ?_)
    · refine st_gd (fun h => by exact gvf_n32_of h) hQ (fun hQ => ?_)
      exact gd_rt hQ _ hS hx
    · exact gd_th hQ _ hS hx
  · refine st_rd hS h_a0 rfl hQ (fun a2 a2v h_a2 hQ => ?_)
    refine st_rd hS h_a2 rfl hQ (fun a3 a3v h_a3 hQ => ?_)
    refine st_gd (fun h => by simp only [SM_N hS h_a3]; exact gvp_in_of h) hQ (fun hQ => ?_)
    refine st_rd hS h_a3 rfl hQ (fun a4 a4v h_a4 hQ => ?_)
    refine st_ifn (show ((mI S a4 1) = y1) = ((vI V a4v 1) = y1) from by simp only [SM_I hS h_a4]) hQ (fun hQ => ?_) (fun hQ => ?_)
    · exact hk11 _ _ _ _ _ _ _ _ hS hx h_a0 hQ
    · simp only [SM_I hS h_a4]
      exact hk11 _ _ _ _ _ _ _ _ hS hx h_a0 hQ
def elX8_meanHealth_11 (n : Nat) : Nat → VS → Nat → Int32 → Int32 → Int32 → Int32 → Rs UInt32
  | 0 => fun _ _ _ _ _ _ => none
  | m + 1 => fun V a0v y1 y2 y3 y4 => eX8_meanHealth_11 n (elX8_meanHealth_11 n m) V a0v y1 y2 y3 y4
theorem selX8_meanHealth_11 (n : Nat) {S0 : MS} {Q : UInt32 → MS → Prop} {QX : String → MS → Prop} : ∀ (m : Nat), ∀ (S : MS) (V : VS) (p0 p0v : Nat) (p1 : Int32) (p2 : Int32) (p3 : Int32) (p4 : Int32), SM S V → Ex S0 S → Ad S p0 p0v → gd (elX8_meanHealth_11 n m V p0v p1 p2 p3 p4) (SQ Q S0) (SX QX S0) → lX8_meanHealth_11 Q QX m S p0 p1 p2 p3 p4 := by
  intro m
  induction m with
  | zero => intro S V p0 p0v p1 p2 p3 p4 hS hx q0 hQ; exact (gd_none hQ).elim
  | succ m ih => intro S V p0 p0v p1 p2 p3 p4 hS hx q0 hQ; exact sX8_meanHealth_11 n ih hS hx q0 hQ
def eX8_meanHealth_0 (n : Nat) (V : VS) (a0v : Nat) (x1 : Int32) : Rs UInt32 := bd (ev_X8_requireTeam n V x1) (fun _ V1 => elX8_meanHealth_11 n n V1 a0v x1 0 0 0) th
set_option maxHeartbeats 4000000 in
set_option maxRecDepth 100000 in
theorem sX8_meanHealth_0 (n : Nat) {S0 : MS} {Q : UInt32 → MS → Prop} {QX : String → MS → Prop} {S : MS} {V : VS} {a0 a0v : Nat} {x1 : Int32} (hS : SM S V) (hx : Ex S0 S) (h_a0 : Ad S a0 a0v) (hQ : gd (eX8_meanHealth_0 n V a0v x1) (SQ Q S0) (SX QX S0)) : wX8_meanHealth_0 Q QX S a0 x1 := by
  unfold wX8_meanHealth_0
  unfold eX8_meanHealth_0 at hQ
  refine sim_X8_requireTeam n hS rfl ?_
  refine gd_mono (gd_bd hQ) (fun _ V1 hQ S1 hS1 xS => ?_) (fun E V9 hQ S9 hS9 xS9 => gd_th hQ S9 hS9 (Ex_tr hx xS9))
  have hx1 : Ex S0 S1 := Ex_tr hx xS
  have h1_a0 := xS _ _ h_a0
  refine ⟨n, ?_⟩
  exact selX8_meanHealth_11 n n _ _ _ _ _ _ _ _ hS1 hx1 h1_a0 hQ
def ev_X8_meanHealth (n : Nat) (V : VS) (a0v : Nat) (x1 : Int32) : Rs UInt32 := eX8_meanHealth_0 n V a0v x1
theorem sim_X8_meanHealth (n : Nat) {Q : UInt32 → MS → Prop} {QX : String → MS → Prop} {S : MS} {V : VS} {a0 a0v : Nat} {x1 x1z : Int32} (hS : SM S V) (h_a0 : Ad S a0 a0v) (e_x1 : x1 = x1z) (hQ : gd (ev_X8_meanHealth n V a0v x1z) (SQ Q S) (SX QX S)) : wp_X8_meanHealth Q QX S a0 x1 := by
  subst e_x1
  exact sX8_meanHealth_0 n hS Ex_rf h_a0 hQ
def eX8_requireRow_20 (n : Nat) (V : VS) (a0v : Nat) (y1 : Int32) : Rs (Option Nat) := (if y1 = 0 then (vR V a0v 11).bind (fun a2v => rt (some a2v) V) else (vR V a0v 12).bind (fun a1v => rt (some a1v) V))
set_option maxHeartbeats 4000000 in
set_option maxRecDepth 100000 in
theorem sX8_requireRow_20 (n : Nat) {S0 : MS} {Q : Option Nat → MS → Prop} {QX : String → MS → Prop} {S : MS} {V : VS} {a0 a0v : Nat} {y1 : Int32} (hS : SM S V) (hx : Ex S0 S) (h_a0 : Ad S a0 a0v) (hQ : gd (eX8_requireRow_20 n V a0v y1) (SO Q S0) (SX QX S0)) : wX8_requireRow_20 Q QX S a0 y1 := by
  unfold wX8_requireRow_20
  unfold eX8_requireRow_20 at hQ
  refine st_ifn rfl hQ (fun hQ => ?_) (fun hQ => ?_)
  · refine st_rd hS h_a0 rfl hQ (fun a1 a1v h_a1 hQ => ?_)
    exact gd_rt hQ _ _ hS hx ⟨_, rfl, h_a1⟩
  · refine st_rd hS h_a0 rfl hQ (fun a2 a2v h_a2 hQ => ?_)
    exact gd_rt hQ _ _ hS hx ⟨_, rfl, h_a2⟩
def eX8_requireRow_0 (n : Nat) (V : VS) (a0v : Nat) (x1 : Int32) : Rs (Option Nat) := (if x1 = 0 then eX8_requireRow_20 n V a0v x1 else (if x1 = 1 then eX8_requireRow_20 n V a0v x1 else th "java/lang/IndexOutOfBoundsException" V))
set_option maxHeartbeats 4000000 in
set_option maxRecDepth 100000 in
theorem sX8_requireRow_0 (n : Nat) {S0 : MS} {Q : Option Nat → MS → Prop} {QX : String → MS → Prop} {S : MS} {V : VS} {a0 a0v : Nat} {x1 : Int32} (hS : SM S V) (hx : Ex S0 S) (h_a0 : Ad S a0 a0v) (hQ : gd (eX8_requireRow_0 n V a0v x1) (SO Q S0) (SX QX S0)) : wX8_requireRow_0 Q QX S a0 x1 := by
  unfold wX8_requireRow_0
  unfold eX8_requireRow_0 at hQ
  refine st_if rfl hQ (fun hQ => ?_) (fun hQ => ?_)
  · exact sX8_requireRow_20 n hS hx h_a0 hQ
  · refine st_if rfl hQ (fun hQ => ?_) (fun hQ => ?_)
    · exact sX8_requireRow_20 n hS hx h_a0 hQ
    · exact gd_th hQ _ hS hx
def ev_X8_requireRow (n : Nat) (V : VS) (a0v : Nat) (x1 : Int32) : Rs (Option Nat) := eX8_requireRow_0 n V a0v x1
theorem sim_X8_requireRow (n : Nat) {Q : Option Nat → MS → Prop} {QX : String → MS → Prop} {S : MS} {V : VS} {a0 a0v : Nat} {x1 x1z : Int32} (hS : SM S V) (h_a0 : Ad S a0 a0v) (e_x1 : x1 = x1z) (hQ : gd (ev_X8_requireRow n V a0v x1z) (SO Q S) (SX QX S)) : wp_X8_requireRow Q QX S a0 x1 := by
  subst e_x1
  exact sX8_requireRow_0 n hS Ex_rf h_a0 hQ
def eX8_storeHealths_0 (n : Nat) (V : VS) (a0v : Nat) (x1 : Int32) (x2 : Int32) : Rs Int32 := bd (ev_X8_requireRow n V a0v x1) (fun r2v V1 => Option.bind r2v (fun a3v => (vR V1 a0v 3).bind (fun a4v => bd (ev_X6_store n V1 a3v a4v x2) (fun _ V5 => rt (vI V5 a3v 4) V5) th))) th
set_option maxHeartbeats 4000000 in
set_option maxRecDepth 100000 in
theorem sX8_storeHealths_0 (n : Nat) {S0 : MS} {Q : Int32 → MS → Prop} {QX : String → MS → Prop} {S : MS} {V : VS} {a0 a0v : Nat} {x1 : Int32} {x2 : Int32} (hS : SM S V) (hx : Ex S0 S) (h_a0 : Ad S a0 a0v) (hQ : gd (eX8_storeHealths_0 n V a0v x1 x2) (SQ Q S0) (SX QX S0)) : wX8_storeHealths_0 Q QX S a0 x1 x2 := by
  unfold wX8_storeHealths_0
  unfold eX8_storeHealths_0 at hQ
  refine sim_X8_requireRow n hS h_a0 rfl ?_
  refine gd_mono (gd_bd hQ) (fun r2v V1 hQ S1 r2 hS1 xS o1_r2 => ?_) (fun E V9 hQ S9 hS9 xS9 => gd_th hQ S9 hS9 (Ex_tr hx xS9))
  have hx1 : Ex S0 S1 := Ex_tr hx xS
  have h1_a0 := xS _ _ h_a0
  refine st_un o1_r2 hQ (fun a3 a3v h1_a3 hQ => ?_)
  refine st_rd hS1 h1_a0 rfl hQ (fun a4 a4v h1_a4 hQ => ?_)
  refine sim_X6_store n hS1 h1_a3 h1_a4 rfl ?_
  refine gd_mono (gd_bd hQ) (fun _ V5 hQ S5 hS5 xS => ?_) (fun E V9 hQ S9 hS9 xS9 => gd_th hQ S9 hS9 (Ex_tr hx1 xS9))
  have hx5 : Ex S0 S5 := Ex_tr hx1 xS
  have h5_a3 := xS _ _ h1_a3
  simp only [SM_I hS5 h5_a3]
  exact gd_rt hQ _ hS5 hx5
def ev_X8_storeHealths (n : Nat) (V : VS) (a0v : Nat) (x1 : Int32) (x2 : Int32) : Rs Int32 := eX8_storeHealths_0 n V a0v x1 x2
theorem sim_X8_storeHealths (n : Nat) {Q : Int32 → MS → Prop} {QX : String → MS → Prop} {S : MS} {V : VS} {a0 a0v : Nat} {x1 x1z : Int32} {x2 x2z : Int32} (hS : SM S V) (h_a0 : Ad S a0 a0v) (e_x1 : x1 = x1z) (e_x2 : x2 = x2z) (hQ : gd (ev_X8_storeHealths n V a0v x1z x2z) (SQ Q S) (SX QX S)) : wp_X8_storeHealths Q QX S a0 x1 x2 := by
  subst e_x1 e_x2
  exact sX8_storeHealths_0 n hS Ex_rf h_a0 hQ
def eX8_copyHealths_30 (n : Nat) (V : VS) : Rs Int32 := th "java/util/NoSuchElementException" V
set_option maxHeartbeats 4000000 in
set_option maxRecDepth 100000 in
theorem sX8_copyHealths_30 (n : Nat) {S0 : MS} {Q : Int32 → MS → Prop} {QX : String → MS → Prop} {S : MS} {V : VS} (hS : SM S V) (hx : Ex S0 S) (hQ : gd (eX8_copyHealths_30 n V) (SQ Q S0) (SX QX S0)) : wX8_copyHealths_30 Q QX S := by
  unfold wX8_copyHealths_30
  unfold eX8_copyHealths_30 at hQ
  exact gd_th hQ _ hS hx
def eX8_copyHealths_85 (n : Nat) (V : VS) : Rs Int32 := th "java/lang/IllegalArgumentException" V
set_option maxHeartbeats 4000000 in
set_option maxRecDepth 100000 in
theorem sX8_copyHealths_85 (n : Nat) {S0 : MS} {Q : Int32 → MS → Prop} {QX : String → MS → Prop} {S : MS} {V : VS} (hS : SM S V) (hx : Ex S0 S) (hQ : gd (eX8_copyHealths_85 n V) (SQ Q S0) (SX QX S0)) : wX8_copyHealths_85 Q QX S := by
  unfold wX8_copyHealths_85
  unfold eX8_copyHealths_85 at hQ
  exact gd_th hQ _ hS hx
def eX8_copyHealths_0 (n : Nat) (V : VS) (a0v : Nat) (x1 : Int32) (x2 : Int32) : Rs Int32 := bd (ev_X8_requireRow n V a0v x1) (fun r2v V1 => Option.bind r2v (fun a3v => bd (ev_X8_requireRow n V1 a0v (1 - x1)) (fun r5v V4 => Option.bind r5v (fun a6v => (if (vI V4 a3v 2) = 0 then eX8_copyHealths_30 n V4 else (if (vI V4 a6v 2) = 0 then eX8_copyHealths_30 n V4 else (if (vI V4 a3v 3) = (vI V4 a6v 3) then (if x2 < 0 then eX8_copyHealths_85 n V4 else (if (vI V4 a3v 4) < x2 then eX8_copyHealths_85 n V4 else (if x2 ≤ (vI V4 a6v 4) then bd (ev_X6_takeFrom n V4 a6v a3v x2) (fun r8 V7 => (if gisZ r8 = true then rt r8 V7 else none)) th else eX8_copyHealths_85 n V4))) else th "java/lang/UnsupportedOperationException" V4))))) th)) th
set_option maxHeartbeats 4000000 in
set_option maxRecDepth 100000 in
theorem sX8_copyHealths_0 (n : Nat) {S0 : MS} {Q : Int32 → MS → Prop} {QX : String → MS → Prop} {S : MS} {V : VS} {a0 a0v : Nat} {x1 : Int32} {x2 : Int32} (hS : SM S V) (hx : Ex S0 S) (h_a0 : Ad S a0 a0v) (hQ : gd (eX8_copyHealths_0 n V a0v x1 x2) (SQ Q S0) (SX QX S0)) : wX8_copyHealths_0 Q QX S a0 x1 x2 := by
  unfold wX8_copyHealths_0
  unfold eX8_copyHealths_0 at hQ
  refine sim_X8_requireRow n hS h_a0 rfl ?_
  refine gd_mono (gd_bd hQ) (fun r2v V1 hQ S1 r2 hS1 xS o1_r2 => ?_) (fun E V9 hQ S9 hS9 xS9 => gd_th hQ S9 hS9 (Ex_tr hx xS9))
  have hx1 : Ex S0 S1 := Ex_tr hx xS
  have h1_a0 := xS _ _ h_a0
  refine st_un o1_r2 hQ (fun a3 a3v h1_a3 hQ => ?_)
  refine sim_X8_requireRow n hS1 h1_a0 rfl ?_
  refine gd_mono (gd_bd hQ) (fun r5v V4 hQ S4 r5 hS4 xS o4_r5 => ?_) (fun E V9 hQ S9 hS9 xS9 => gd_th hQ S9 hS9 (Ex_tr hx1 xS9))
  have hx4 : Ex S0 S4 := Ex_tr hx1 xS
  have h4_a3 := xS _ _ h1_a3
  refine st_un o4_r5 hQ (fun a6 a6v h4_a6 hQ => ?_)
  refine st_if (show ((mI S4 a3 2) = 0) = ((vI V4 a3v 2) = 0) from by simp only [SM_I hS4 h4_a3]) hQ (fun hQ => ?_) (fun hQ => ?_)
  · exact sX8_copyHealths_30 n hS4 hx4 hQ
  · refine st_ifn (show ((mI S4 a6 2) = 0) = ((vI V4 a6v 2) = 0) from by simp only [SM_I hS4 h4_a6]) hQ (fun hQ => ?_) (fun hQ => ?_)
    · refine st_if (show ((mI S4 a3 3) = (mI S4 a6 3)) = ((vI V4 a3v 3) = (vI V4 a6v 3)) from by simp only [SM_I hS4 h4_a3, SM_I hS4 h4_a6]) hQ (fun hQ => ?_) (fun hQ => ?_)
      · refine st_if rfl hQ (fun hQ => ?_) (fun hQ => ?_)
        · exact sX8_copyHealths_85 n hS4 hx4 hQ
        · refine st_if (show ((mI S4 a3 4) < x2) = ((vI V4 a3v 4) < x2) from by simp only [SM_I hS4 h4_a3]) hQ (fun hQ => ?_) (fun hQ => ?_)
          · exact sX8_copyHealths_85 n hS4 hx4 hQ
          · refine st_if (show (x2 ≤ (mI S4 a6 4)) = (x2 ≤ (vI V4 a6v 4)) from by simp only [SM_I hS4 h4_a6]) hQ (fun hQ => ?_) (fun hQ => ?_)
            · refine sim_X6_takeFrom n hS4 h4_a6 h4_a3 rfl ?_
              refine gd_mono (gd_bd hQ) (fun r8 V7 hQ S7 hS7 xS => ?_) (fun E V9 hQ S9 hS9 xS9 => gd_th hQ S9 hS9 (Ex_tr hx4 xS9))
              have hx7 : Ex S0 S7 := Ex_tr hx4 xS
              refine st_gd (fun h => by exact gisZ_of h) hQ (fun hQ => ?_)
              exact gd_rt hQ _ hS7 hx7
            · exact sX8_copyHealths_85 n hS4 hx4 hQ
      · exact gd_th hQ _ hS4 hx4
    · exact sX8_copyHealths_30 n hS4 hx4 hQ
def ev_X8_copyHealths (n : Nat) (V : VS) (a0v : Nat) (x1 : Int32) (x2 : Int32) : Rs Int32 := eX8_copyHealths_0 n V a0v x1 x2
theorem sim_X8_copyHealths (n : Nat) {Q : Int32 → MS → Prop} {QX : String → MS → Prop} {S : MS} {V : VS} {a0 a0v : Nat} {x1 x1z : Int32} {x2 x2z : Int32} (hS : SM S V) (h_a0 : Ad S a0 a0v) (e_x1 : x1 = x1z) (e_x2 : x2 = x2z) (hQ : gd (ev_X8_copyHealths n V a0v x1z x2z) (SQ Q S) (SX QX S)) : wp_X8_copyHealths Q QX S a0 x1 x2 := by
  subst e_x1 e_x2
  exact sX8_copyHealths_0 n hS Ex_rf h_a0 hQ
def eX8_bitsOf_67 (n : Nat) (V : VS) (y1 : UInt32) (y2 : Int32) : Rs Int32 := (if gvf_n32 (FP.fsub y1 FP.fconst1) = true then (if gvf_n32 (FP.fmul (FP.fsub y1 FP.fconst1) (1258291200 : UInt32)) = true then rt ((y2 <<< (23 &&& 31)) ||| (FP.f2i (FP.fmul (FP.fsub y1 FP.fconst1) (1258291200 : UInt32)))) V else none) else none)
set_option maxHeartbeats 4000000 in
set_option maxRecDepth 100000 in
theorem sX8_bitsOf_67 (n : Nat) {S0 : MS} {Q : Int32 → MS → Prop} {QX : String → MS → Prop} {S : MS} {V : VS} {y1 : UInt32} {y2 : Int32} (hS : SM S V) (hx : Ex S0 S) (hQ : gd (eX8_bitsOf_67 n V y1 y2) (SQ Q S0) (SX QX S0)) : wX8_bitsOf_67 Q QX S y1 y2 := by
  unfold wX8_bitsOf_67
  unfold eX8_bitsOf_67 at hQ
  refine st_gd (fun h => by exact gvf_n32_of h) hQ (fun hQ => ?_)
  refine st_gd (fun h => by exact gvf_n32_of h) hQ (fun hQ => ?_)
  exact gd_rt hQ _ hS hx
def eX8_bitsOf_42 (n : Nat) (k42v : VS → UInt32 → Int32 → Int32 → Rs Int32) (V : VS) (y1 : UInt32) (y2 : Int32) (y3 : Int32) : Rs Int32 := (if 126 ≤ y3 then eX8_bitsOf_67 n V y1 y2 else (if 0 ≤ (Op.cmpValue (FP.fcmp y1 FP.fconst1) CmpOp.g) then eX8_bitsOf_67 n V y1 y2 else (if gvf_n32 (FP.fmul y1 FP.fconst2) = true then k42v V (FP.fmul y1 FP.fconst2) (y2 + (-1)) (y3 + 1) else none)))
set_option maxHeartbeats 4000000 in
set_option maxRecDepth 100000 in
theorem sX8_bitsOf_42 (n : Nat) {S0 : MS} {Q : Int32 → MS → Prop} {QX : String → MS → Prop} {k42 : MS → UInt32 → Int32 → Int32 → Prop} {k42v : VS → UInt32 → Int32 → Int32 → Rs Int32} (hk42 : ∀ (S : MS) (V : VS) (p0 : UInt32) (p1 : Int32) (p2 : Int32), SM S V → Ex S0 S → gd (k42v V p0 p1 p2) (SQ Q S0) (SX QX S0) → k42 S p0 p1 p2) {S : MS} {V : VS} {y1 : UInt32} {y2 : Int32} {y3 : Int32} (hS : SM S V) (hx : Ex S0 S) (hQ : gd (eX8_bitsOf_42 n k42v V y1 y2 y3) (SQ Q S0) (SX QX S0)) : wX8_bitsOf_42 Q QX k42 S y1 y2 y3 := by
  unfold wX8_bitsOf_42
  unfold eX8_bitsOf_42 at hQ
  refine st_if rfl hQ (fun hQ => ?_) (fun hQ => ?_)
  · exact sX8_bitsOf_67 n hS hx hQ
  · refine st_if rfl hQ (fun hQ => ?_) (fun hQ => ?_)
    · exact sX8_bitsOf_67 n hS hx hQ
    · refine st_gd (fun h => by exact gvf_n32_of h) hQ (fun hQ => ?_)
      exact hk42 _ _ _ _ _ hS hx hQ
def elX8_bitsOf_42 (n : Nat) : Nat → VS → UInt32 → Int32 → Int32 → Rs Int32
  | 0 => fun _ _ _ _ => none
  | m + 1 => fun V y1 y2 y3 => eX8_bitsOf_42 n (elX8_bitsOf_42 n m) V y1 y2 y3
theorem selX8_bitsOf_42 (n : Nat) {S0 : MS} {Q : Int32 → MS → Prop} {QX : String → MS → Prop} : ∀ (m : Nat), ∀ (S : MS) (V : VS) (p0 : UInt32) (p1 : Int32) (p2 : Int32), SM S V → Ex S0 S → gd (elX8_bitsOf_42 n m V p0 p1 p2) (SQ Q S0) (SX QX S0) → lX8_bitsOf_42 Q QX m S p0 p1 p2 := by
  intro m
  induction m with
  | zero => intro S V p0 p1 p2 hS hx hQ; exact (gd_none hQ).elim
  | succ m ih => intro S V p0 p1 p2 hS hx hQ; exact sX8_bitsOf_42 n ih hS hx hQ
def eX8_bitsOf_15 (n : Nat) (k15v : VS → UInt32 → Int32 → Int32 → Rs Int32) (V : VS) (y1 : UInt32) (y2 : Int32) (y3 : Int32) : Rs Int32 := (if 127 ≤ y3 then elX8_bitsOf_42 n n V y1 y2 0 else (if (Op.cmpValue (FP.fcmp y1 FP.fconst2) CmpOp.l) < 0 then elX8_bitsOf_42 n n V y1 y2 0 else (if gvf_n32 (FP.fdiv y1 FP.fconst2) = true then k15v V (FP.fdiv y1 FP.fconst2) (y2 + 1) (y3 + 1) else none)))
set_option maxHeartbeats 4000000 in
set_option maxRecDepth 100000 in
theorem sX8_bitsOf_15 (n : Nat) {S0 : MS} {Q : Int32 → MS → Prop} {QX : String → MS → Prop} {k15 : MS → UInt32 → Int32 → Int32 → Prop} {k15v : VS → UInt32 → Int32 → Int32 → Rs Int32} (hk15 : ∀ (S : MS) (V : VS) (p0 : UInt32) (p1 : Int32) (p2 : Int32), SM S V → Ex S0 S → gd (k15v V p0 p1 p2) (SQ Q S0) (SX QX S0) → k15 S p0 p1 p2) {S : MS} {V : VS} {y1 : UInt32} {y2 : Int32} {y3 : Int32} (hS : SM S V) (hx : Ex S0 S) (hQ : gd (eX8_bitsOf_15 n k15v V y1 y2 y3) (SQ Q S0) (SX QX S0)) : wX8_bitsOf_15 Q QX k15 S y1 y2 y3 := by
  unfold wX8_bitsOf_15
  unfold eX8_bitsOf_15 at hQ
  refine st_if rfl hQ (fun hQ => ?_) (fun hQ => ?_)
  · refine ⟨n, ?_⟩
    exact selX8_bitsOf_42 n n _ _ _ _ _ hS hx hQ
  · refine st_if rfl hQ (fun hQ => ?_) (fun hQ => ?_)
    · refine ⟨n, ?_⟩
      exact selX8_bitsOf_42 n n _ _ _ _ _ hS hx hQ
    · refine st_gd (fun h => by exact gvf_n32_of h) hQ (fun hQ => ?_)
      exact hk15 _ _ _ _ _ hS hx hQ
def elX8_bitsOf_15 (n : Nat) : Nat → VS → UInt32 → Int32 → Int32 → Rs Int32
  | 0 => fun _ _ _ _ => none
  | m + 1 => fun V y1 y2 y3 => eX8_bitsOf_15 n (elX8_bitsOf_15 n m) V y1 y2 y3
theorem selX8_bitsOf_15 (n : Nat) {S0 : MS} {Q : Int32 → MS → Prop} {QX : String → MS → Prop} : ∀ (m : Nat), ∀ (S : MS) (V : VS) (p0 : UInt32) (p1 : Int32) (p2 : Int32), SM S V → Ex S0 S → gd (elX8_bitsOf_15 n m V p0 p1 p2) (SQ Q S0) (SX QX S0) → lX8_bitsOf_15 Q QX m S p0 p1 p2 := by
  intro m
  induction m with
  | zero => intro S V p0 p1 p2 hS hx hQ; exact (gd_none hQ).elim
  | succ m ih => intro S V p0 p1 p2 hS hx hQ; exact sX8_bitsOf_15 n ih hS hx hQ
def eX8_bitsOf_0 (n : Nat) (V : VS) (x1 : UInt32) : Rs Int32 := (if (Op.cmpValue (FP.fcmp x1 FP.fconst0) CmpOp.l) = 0 then rt 0 V else elX8_bitsOf_15 n n V x1 127 0)
set_option maxHeartbeats 4000000 in
set_option maxRecDepth 100000 in
theorem sX8_bitsOf_0 (n : Nat) {S0 : MS} {Q : Int32 → MS → Prop} {QX : String → MS → Prop} {S : MS} {V : VS} {x1 : UInt32} (hS : SM S V) (hx : Ex S0 S) (hQ : gd (eX8_bitsOf_0 n V x1) (SQ Q S0) (SX QX S0)) : wX8_bitsOf_0 Q QX S x1 := by
  unfold wX8_bitsOf_0
  unfold eX8_bitsOf_0 at hQ
  refine st_ifn rfl hQ (fun hQ => ?_) (fun hQ => ?_)
  · refine ⟨n, ?_⟩
    exact selX8_bitsOf_15 n n _ _ _ _ _ hS hx hQ
  · exact gd_rt hQ _ hS hx
def ev_X8_bitsOf (n : Nat) (V : VS) (x1 : UInt32) : Rs Int32 := eX8_bitsOf_0 n V x1
theorem sim_X8_bitsOf (n : Nat) {Q : Int32 → MS → Prop} {QX : String → MS → Prop} {S : MS} {V : VS} {x1 x1z : UInt32} (hS : SM S V) (e_x1 : x1 = x1z) (hQ : gd (ev_X8_bitsOf n V x1z) (SQ Q S) (SX QX S)) : wp_X8_bitsOf Q QX S x1 := by
  subst e_x1
  exact sX8_bitsOf_0 n hS Ex_rf hQ
def eX8_storedBits_25 (n : Nat) (V : VS) : Rs Int32 := th "java/util/NoSuchElementException" V
set_option maxHeartbeats 4000000 in
set_option maxRecDepth 100000 in
theorem sX8_storedBits_25 (n : Nat) {S0 : MS} {Q : Int32 → MS → Prop} {QX : String → MS → Prop} {S : MS} {V : VS} (hS : SM S V) (hx : Ex S0 S) (hQ : gd (eX8_storedBits_25 n V) (SQ Q S0) (SX QX S0)) : wX8_storedBits_25 Q QX S := by
  unfold wX8_storedBits_25
  unfold eX8_storedBits_25 at hQ
  exact gd_th hQ _ hS hx
def eX8_storedBits_59 (n : Nat) (V : VS) (z0 : UInt32) : Rs Int32 := bd (ev_X8_bitsOf n V z0) (fun r2 V1 => rt r2 V1) th
set_option maxHeartbeats 4000000 in
set_option maxRecDepth 100000 in
theorem sX8_storedBits_59 (n : Nat) {S0 : MS} {Q : Int32 → MS → Prop} {QX : String → MS → Prop} {S : MS} {V : VS} {z0 : UInt32} (hS : SM S V) (hx : Ex S0 S) (hQ : gd (eX8_storedBits_59 n V z0) (SQ Q S0) (SX QX S0)) : wX8_storedBits_59 Q QX S z0 := by
  unfold wX8_storedBits_59
  unfold eX8_storedBits_59 at hQ
  refine sim_X8_bitsOf n hS rfl ?_
  refine gd_mono (gd_bd hQ) (fun r2 V1 hQ S1 hS1 xS => ?_) (fun E V9 hQ S9 hS9 xS9 => gd_th hQ S9 hS9 (Ex_tr hx xS9))
  have hx1 : Ex S0 S1 := Ex_tr hx xS
  exact gd_rt hQ _ hS1 hx1
def eX8_storedBits_0 (n : Nat) (V : VS) (a0v : Nat) (x1 : Int32) (x2 : Int32) : Rs Int32 := bd (ev_X8_requireRow n V a0v x1) (fun r2v V1 => Option.bind r2v (fun a3v => (if (vI V1 a3v 2) = 0 then eX8_storedBits_25 n V1 else (if x2 < 0 then eX8_storedBits_25 n V1 else (if x2 < (vI V1 a3v 4) then (if (vI V1 a3v 3) = 0 then (vR V1 a3v 1).bind (fun a4v => (if gvp_in x2 (vN V1 a4v) = true then eX8_storedBits_59 n V1 (vF V1 a4v (x2 : Int32).toNatClampNeg) else none)) else (vR V1 a3v 0).bind (fun a5v => (if gvp_in x2 (vN V1 a5v) = true then eX8_storedBits_59 n V1 (FP.i2f (vI V1 a5v (x2 : Int32).toNatClampNeg)) else none))) else eX8_storedBits_25 n V1))))) th
set_option maxHeartbeats 4000000 in
set_option maxRecDepth 100000 in
theorem sX8_storedBits_0 (n : Nat) {S0 : MS} {Q : Int32 → MS → Prop} {QX : String → MS → Prop} {S : MS} {V : VS} {a0 a0v : Nat} {x1 : Int32} {x2 : Int32} (hS : SM S V) (hx : Ex S0 S) (h_a0 : Ad S a0 a0v) (hQ : gd (eX8_storedBits_0 n V a0v x1 x2) (SQ Q S0) (SX QX S0)) : wX8_storedBits_0 Q QX S a0 x1 x2 := by
  unfold wX8_storedBits_0
  unfold eX8_storedBits_0 at hQ
  refine sim_X8_requireRow n hS h_a0 rfl ?_
  refine gd_mono (gd_bd hQ) (fun r2v V1 hQ S1 r2 hS1 xS o1_r2 => ?_) (fun E V9 hQ S9 hS9 xS9 => gd_th hQ S9 hS9 (Ex_tr hx xS9))
  have hx1 : Ex S0 S1 := Ex_tr hx xS
  refine st_un o1_r2 hQ (fun a3 a3v h1_a3 hQ => ?_)
  refine st_if (show ((mI S1 a3 2) = 0) = ((vI V1 a3v 2) = 0) from by simp only [SM_I hS1 h1_a3]) hQ (fun hQ => ?_) (fun hQ => ?_)
  · exact sX8_storedBits_25 n hS1 hx1 hQ
  · refine st_if rfl hQ (fun hQ => ?_) (fun hQ => ?_)
    · exact sX8_storedBits_25 n hS1 hx1 hQ
    · refine st_if (show (x2 < (mI S1 a3 4)) = (x2 < (vI V1 a3v 4)) from by simp only [SM_I hS1 h1_a3]) hQ (fun hQ => ?_) (fun hQ => ?_)
      · refine st_if (show ((mI S1 a3 3) = 0) = ((vI V1 a3v 3) = 0) from by simp only [SM_I hS1 h1_a3]) hQ (fun hQ => ?_) (fun hQ => ?_)
        · refine st_rd hS1 h1_a3 rfl hQ (fun a4 a4v h1_a4 hQ => ?_)
          refine st_gd (fun h => by simp only [SM_N hS1 h1_a4]; exact gvp_in_of h) hQ (fun hQ => ?_)
          simp only [SM_F hS1 h1_a4]
          exact sX8_storedBits_59 n hS1 hx1 hQ
        · refine st_rd hS1 h1_a3 rfl hQ (fun a5 a5v h1_a5 hQ => ?_)
          refine st_gd (fun h => by simp only [SM_N hS1 h1_a5]; exact gvp_in_of h) hQ (fun hQ => ?_)
          simp only [SM_I hS1 h1_a5]
          exact sX8_storedBits_59 n hS1 hx1 hQ
      · exact sX8_storedBits_25 n hS1 hx1 hQ
def ev_X8_storedBits (n : Nat) (V : VS) (a0v : Nat) (x1 : Int32) (x2 : Int32) : Rs Int32 := eX8_storedBits_0 n V a0v x1 x2
theorem sim_X8_storedBits (n : Nat) {Q : Int32 → MS → Prop} {QX : String → MS → Prop} {S : MS} {V : VS} {a0 a0v : Nat} {x1 x1z : Int32} {x2 x2z : Int32} (hS : SM S V) (h_a0 : Ad S a0 a0v) (e_x1 : x1 = x1z) (e_x2 : x2 = x2z) (hQ : gd (ev_X8_storedBits n V a0v x1z x2z) (SQ Q S) (SX QX S)) : wp_X8_storedBits Q QX S a0 x1 x2 := by
  subst e_x1 e_x2
  exact sX8_storedBits_0 n hS Ex_rf h_a0 hQ
def eX8_snapshot_0 (n : Nat) (V : VS) (a0v : Nat) : Rs Int32 := (vR V a0v 6).bind (fun a1v => (vR V a0v 3).bind (fun a2v => bd (ev_X2_copyFrom n V a1v a2v) (fun _ V3 => (vR V3 a0v 7).bind (fun a4v => (vR V3 a0v 4).bind (fun a5v => bd (ev_X0_copyFrom n V3 a4v a5v) (fun _ V6 => sq (wI V6 a0v 8 1) (fun V7 => (vR V7 a0v 3).bind (fun a8v => rt (vI V7 a8v 2) V7))) th))) th))
set_option maxHeartbeats 4000000 in
set_option maxRecDepth 100000 in
theorem sX8_snapshot_0 (n : Nat) {S0 : MS} {Q : Int32 → MS → Prop} {QX : String → MS → Prop} {S : MS} {V : VS} {a0 a0v : Nat} (hS : SM S V) (hx : Ex S0 S) (h_a0 : Ad S a0 a0v) (hQ : gd (eX8_snapshot_0 n V a0v) (SQ Q S0) (SX QX S0)) : wX8_snapshot_0 Q QX S a0 := by
  unfold wX8_snapshot_0
  unfold eX8_snapshot_0 at hQ
  refine st_rd hS h_a0 rfl hQ (fun a1 a1v h_a1 hQ => ?_)
  refine st_rd hS h_a0 rfl hQ (fun a2 a2v h_a2 hQ => ?_)
  refine sim_X2_copyFrom n hS h_a1 h_a2 ?_
  refine gd_mono (gd_bd hQ) (fun _ V3 hQ S3 hS3 xS => ?_) (fun E V9 hQ S9 hS9 xS9 => gd_th hQ S9 hS9 (Ex_tr hx xS9))
  have hx3 : Ex S0 S3 := Ex_tr hx xS
  have h3_a0 := xS _ _ h_a0
  refine st_rd hS3 h3_a0 rfl hQ (fun a4 a4v h3_a4 hQ => ?_)
  refine st_rd hS3 h3_a0 rfl hQ (fun a5 a5v h3_a5 hQ => ?_)
  refine sim_X0_copyFrom n hS3 h3_a4 h3_a5 ?_
  refine gd_mono (gd_bd hQ) (fun _ V6 hQ S6 hS6 xS => ?_) (fun E V9 hQ S9 hS9 xS9 => gd_th hQ S9 hS9 (Ex_tr hx3 xS9))
  have hx6 : Ex S0 S6 := Ex_tr hx3 xS
  have h6_a0 := xS _ _ h3_a0
  intro S7 eS
  obtain ⟨V7, hS7, xS, hQ⟩ := st_sI hS6 h6_a0 eS rfl rfl hQ
  have hx7 : Ex S0 S7 := Ex_tr hx6 xS
  have h7_a0 := xS _ _ h6_a0
  refine st_rd hS7 h7_a0 rfl hQ (fun a8 a8v h7_a8 hQ => ?_)
  simp only [SM_I hS7 h7_a8]
  exact gd_rt hQ _ hS7 hx7
def ev_X8_snapshot (n : Nat) (V : VS) (a0v : Nat) : Rs Int32 := eX8_snapshot_0 n V a0v
theorem sim_X8_snapshot (n : Nat) {Q : Int32 → MS → Prop} {QX : String → MS → Prop} {S : MS} {V : VS} {a0 a0v : Nat} (hS : SM S V) (h_a0 : Ad S a0 a0v) (hQ : gd (ev_X8_snapshot n V a0v) (SQ Q S) (SX QX S)) : wp_X8_snapshot Q QX S a0 := by
  exact sX8_snapshot_0 n hS Ex_rf h_a0 hQ
def eX8_restore_0 (n : Nat) (V : VS) (a0v : Nat) : Rs Int32 := (if (vI V a0v 8) = 0 then th "java/lang/IllegalStateException" V else (vR V a0v 3).bind (fun a1v => (vR V a0v 6).bind (fun a2v => bd (ev_X2_copyFrom n V a1v a2v) (fun _ V3 => (vR V3 a0v 4).bind (fun a4v => (vR V3 a0v 7).bind (fun a5v => bd (ev_X0_copyFrom n V3 a4v a5v) (fun _ V6 => (vR V6 a0v 5).bind (fun a7v => bd (ev_X4_clear n V6 a7v) (fun _ V8 => (vR V8 a0v 3).bind (fun a9v => rt (vI V8 a9v 2) V8)) th)) th))) th)))
set_option maxHeartbeats 4000000 in
set_option maxRecDepth 100000 in
theorem sX8_restore_0 (n : Nat) {S0 : MS} {Q : Int32 → MS → Prop} {QX : String → MS → Prop} {S : MS} {V : VS} {a0 a0v : Nat} (hS : SM S V) (hx : Ex S0 S) (h_a0 : Ad S a0 a0v) (hQ : gd (eX8_restore_0 n V a0v) (SQ Q S0) (SX QX S0)) : wX8_restore_0 Q QX S a0 := by
  unfold wX8_restore_0
  unfold eX8_restore_0 at hQ
  refine st_ifn (show ((mI S a0 8) = 0) = ((vI V a0v 8) = 0) from by simp only [SM_I hS h_a0]) hQ (fun hQ => ?_) (fun hQ => ?_)
  · refine st_rd hS h_a0 rfl hQ (fun a1 a1v h_a1 hQ => ?_)
    refine st_rd hS h_a0 rfl hQ (fun a2 a2v h_a2 hQ => ?_)
    refine sim_X2_copyFrom n hS h_a1 h_a2 ?_
    refine gd_mono (gd_bd hQ) (fun _ V3 hQ S3 hS3 xS => ?_) (fun E V9 hQ S9 hS9 xS9 => gd_th hQ S9 hS9 (Ex_tr hx xS9))
    have hx3 : Ex S0 S3 := Ex_tr hx xS
    have h3_a0 := xS _ _ h_a0
    refine st_rd hS3 h3_a0 rfl hQ (fun a4 a4v h3_a4 hQ => ?_)
    refine st_rd hS3 h3_a0 rfl hQ (fun a5 a5v h3_a5 hQ => ?_)
    refine sim_X0_copyFrom n hS3 h3_a4 h3_a5 ?_
    refine gd_mono (gd_bd hQ) (fun _ V6 hQ S6 hS6 xS => ?_) (fun E V9 hQ S9 hS9 xS9 => gd_th hQ S9 hS9 (Ex_tr hx3 xS9))
    have hx6 : Ex S0 S6 := Ex_tr hx3 xS
    have h6_a0 := xS _ _ h3_a0
    refine st_rd hS6 h6_a0 rfl hQ (fun a7 a7v h6_a7 hQ => ?_)
    refine sim_X4_clear n hS6 h6_a7 ?_
    refine gd_mono (gd_bd hQ) (fun _ V8 hQ S8 hS8 xS => ?_) (fun E V9 hQ S9 hS9 xS9 => gd_th hQ S9 hS9 (Ex_tr hx6 xS9))
    have hx8 : Ex S0 S8 := Ex_tr hx6 xS
    have h8_a0 := xS _ _ h6_a0
    refine st_rd hS8 h8_a0 rfl hQ (fun a9 a9v h8_a9 hQ => ?_)
    simp only [SM_I hS8 h8_a9]
    exact gd_rt hQ _ hS8 hx8
  · exact gd_th hQ _ hS hx
def ev_X8_restore (n : Nat) (V : VS) (a0v : Nat) : Rs Int32 := eX8_restore_0 n V a0v
theorem sim_X8_restore (n : Nat) {Q : Int32 → MS → Prop} {QX : String → MS → Prop} {S : MS} {V : VS} {a0 a0v : Nat} (hS : SM S V) (h_a0 : Ad S a0 a0v) (hQ : gd (ev_X8_restore n V a0v) (SQ Q S) (SX QX S)) : wp_X8_restore Q QX S a0 := by
  exact sX8_restore_0 n hS Ex_rf h_a0 hQ
