def eX5_init_0 (n : Nat) (V : VS) (a0v : Nat) : Rs Unit := nwV V 64 (fun V2 a1v => sq (wR V2 a0v 0 (some a1v)) (fun V3 => nwV V3 64 (fun V5 a4v => sq (wR V5 a0v 1 (some a4v)) (fun V6 => nwV V6 64 (fun V8 a7v => sq (wR V8 a0v 2 (some a7v)) (fun V9 => rt () V9))))))
set_option maxHeartbeats 4000000 in
set_option maxRecDepth 100000 in
theorem sX5_init_0 (n : Nat) {S0 : MS} {Q : MS → Prop} {QX : String → MS → Prop} {S : MS} {V : VS} {a0 a0v : Nat} (hS : SM S V) (hx : Ex S0 S) (h_a0 : Ad S a0 a0v) (hQ : gd (eX5_init_0 n V a0v) (SU Q S0) (SX QX S0)) : wX5_init_0 Q QX S a0 := by
  unfold wX5_init_0
  unfold eX5_init_0 at hQ
  intro a1 q_a1 S2 eS
  obtain ⟨V2, a1v, hS2, xS, h2_a1, hQ⟩ := st_nw hS q_a1 eS rfl hQ
  have hx2 : Ex S0 S2 := Ex_tr hx xS
  have h2_a0 := xS _ _ h_a0
  intro S3 eS
  obtain ⟨V3, hS3, xS, hQ⟩ := st_sR hS2 h2_a0 eS rfl h2_a1 hQ
  have hx3 : Ex S0 S3 := Ex_tr hx2 xS
  have h3_a0 := xS _ _ h2_a0
  intro a4 q_a4 S5 eS
  obtain ⟨V5, a4v, hS5, xS, h5_a4, hQ⟩ := st_nw hS3 q_a4 eS rfl hQ
  have hx5 : Ex S0 S5 := Ex_tr hx3 xS
  have h5_a0 := xS _ _ h3_a0
  intro S6 eS
  obtain ⟨V6, hS6, xS, hQ⟩ := st_sR hS5 h5_a0 eS rfl h5_a4 hQ
  have hx6 : Ex S0 S6 := Ex_tr hx5 xS
  have h6_a0 := xS _ _ h5_a0
  intro a7 q_a7 S8 eS
  obtain ⟨V8, a7v, hS8, xS, h8_a7, hQ⟩ := st_nw hS6 q_a7 eS rfl hQ
  have hx8 : Ex S0 S8 := Ex_tr hx6 xS
  have h8_a0 := xS _ _ h6_a0
  intro S9 eS
  obtain ⟨V9, hS9, xS, hQ⟩ := st_sR hS8 h8_a0 eS rfl h8_a7 hQ
  have hx9 : Ex S0 S9 := Ex_tr hx8 xS
  exact gd_rt hQ _ hS9 hx9
def ev_X5_init (n : Nat) (V : VS) (a0v : Nat) : Rs Unit := eX5_init_0 n V a0v
theorem sim_X5_init (n : Nat) {Q : MS → Prop} {QX : String → MS → Prop} {S : MS} {V : VS} {a0 a0v : Nat} (hS : SM S V) (h_a0 : Ad S a0 a0v) (hQ : gd (ev_X5_init n V a0v) (SU Q S) (SX QX S)) : wp_X5_init Q QX S a0 := by
  exact sX5_init_0 n hS Ex_rf h_a0 hQ
def eX5_clear_76 (n : Nat) (k25v : VS → Nat → Nat → Nat → Int32 → Rs Unit) (V : VS) (a0v : Nat) (u1v : Nat) (u2v : Nat) (y3 : Int32) : Rs Unit := (vR V a0v 1).bind (fun a1v => (if gvp_in y3 (vN V a1v) = true then sq (wI V a1v ((y3 : Int32).toNatClampNeg) 1000000) (fun V2 => (vR V2 a0v 2).bind (fun a3v => (if gvp_in y3 (vN V2 a3v) = true then sq (wI V2 a3v ((y3 : Int32).toNatClampNeg) 0) (fun V4 => k25v V4 a0v u1v u2v (y3 + 1)) else none))) else none))
set_option maxHeartbeats 4000000 in
set_option maxRecDepth 100000 in
theorem sX5_clear_76 (n : Nat) {S0 : MS} {Q : MS → Prop} {QX : String → MS → Prop} {k25 : MS → Nat → Nat → Nat → Int32 → Prop} {k25v : VS → Nat → Nat → Nat → Int32 → Rs Unit} (hk25 : ∀ (S : MS) (V : VS) (p0 p0v : Nat) (p1 p1v : Nat) (p2 p2v : Nat) (p3 : Int32), SM S V → Ex S0 S → Ad S p0 p0v → Ad S p1 p1v → Ad S p2 p2v → gd (k25v V p0v p1v p2v p3) (SU Q S0) (SX QX S0) → k25 S p0 p1 p2 p3) {S : MS} {V : VS} {a0 a0v : Nat} {u1 u1v : Nat} {u2 u2v : Nat} {y3 : Int32} (hS : SM S V) (hx : Ex S0 S) (h_a0 : Ad S a0 a0v) (h_u1 : Ad S u1 u1v) (h_u2 : Ad S u2 u2v) (hQ : gd (eX5_clear_76 n k25v V a0v u1v u2v y3) (SU Q S0) (SX QX S0)) : wX5_clear_76 Q QX k25 S a0 u1 u2 y3 := by
  unfold wX5_clear_76
  unfold eX5_clear_76 at hQ
  refine st_rd hS h_a0 rfl hQ (fun a1 a1v h_a1 hQ => ?_)
  refine st_gd (fun h => by simp only [SM_N hS h_a1]; exact gvp_in_of h) hQ (fun hQ => ?_)
  intro S2 eS
  obtain ⟨V2, hS2, xS, hQ⟩ := st_sI hS h_a1 eS rfl rfl hQ
  have hx2 : Ex S0 S2 := Ex_tr hx xS
  have h2_a0 := xS _ _ h_a0
  have h2_u1 := xS _ _ h_u1
  have h2_u2 := xS _ _ h_u2
  refine st_rd hS2 h2_a0 rfl hQ (fun a3 a3v h2_a3 hQ => ?_)
  refine st_gd (fun h => by simp only [SM_N hS2 h2_a3]; exact gvp_in_of h) hQ (fun hQ => ?_)
  intro S4 eS
  obtain ⟨V4, hS4, xS, hQ⟩ := st_sI hS2 h2_a3 eS rfl rfl hQ
  have hx4 : Ex S0 S4 := Ex_tr hx2 xS
  have h4_a0 := xS _ _ h2_a0
  have h4_u1 := xS _ _ h2_u1
  have h4_u2 := xS _ _ h2_u2
  exact hk25 _ _ _ _ _ _ _ _ _ hS4 hx4 h4_a0 h4_u1 h4_u2 hQ
def eX5_clear_62 (n : Nat) (k25v : VS → Nat → Nat → Nat → Int32 → Rs Unit) (V : VS) (a0v : Nat) (u1v : Nat) (u2v : Nat) (y3 : Int32) (y4 : Int32) (z0 : Int32) (z1 : Int32) (w2v : Nat) : Rs Unit := (if gvp_in z1 (vN V w2v) = true then sq (wI V w2v ((z1 : Int32).toNatClampNeg) z0) (fun V1 => (if y4 = 1 then (vR V1 a0v 0).bind (fun a2v => (if gvp_in y3 (vN V1 a2v) = true then sq (wI V1 a2v ((y3 : Int32).toNatClampNeg) 0) (fun V3 => eX5_clear_76 n k25v V3 a0v u1v u2v y3) else none)) else eX5_clear_76 n k25v V1 a0v u1v u2v y3)) else none)
set_option maxHeartbeats 4000000 in
set_option maxRecDepth 100000 in
theorem sX5_clear_62 (n : Nat) {S0 : MS} {Q : MS → Prop} {QX : String → MS → Prop} {k25 : MS → Nat → Nat → Nat → Int32 → Prop} {k25v : VS → Nat → Nat → Nat → Int32 → Rs Unit} (hk25 : ∀ (S : MS) (V : VS) (p0 p0v : Nat) (p1 p1v : Nat) (p2 p2v : Nat) (p3 : Int32), SM S V → Ex S0 S → Ad S p0 p0v → Ad S p1 p1v → Ad S p2 p2v → gd (k25v V p0v p1v p2v p3) (SU Q S0) (SX QX S0) → k25 S p0 p1 p2 p3) {S : MS} {V : VS} {a0 a0v : Nat} {u1 u1v : Nat} {u2 u2v : Nat} {y3 : Int32} {y4 : Int32} {z0 : Int32} {z1 : Int32} {w2 w2v : Nat} (hS : SM S V) (hx : Ex S0 S) (h_a0 : Ad S a0 a0v) (h_u1 : Ad S u1 u1v) (h_u2 : Ad S u2 u2v) (h_w2 : Ad S w2 w2v) (hQ : gd (eX5_clear_62 n k25v V a0v u1v u2v y3 y4 z0 z1 w2v) (SU Q S0) (SX QX S0)) : wX5_clear_62 Q QX k25 S a0 u1 u2 y3 y4 z0 z1 w2 := by
  unfold wX5_clear_62
  unfold eX5_clear_62 at hQ
  refine st_gd (fun h => by simp only [SM_N hS h_w2]; exact gvp_in_of h) hQ (fun hQ => ?_)
  intro S1 eS
  obtain ⟨V1, hS1, xS, hQ⟩ := st_sI hS h_w2 eS rfl rfl hQ
  have hx1 : Ex S0 S1 := Ex_tr hx xS
  have h1_a0 := xS _ _ h_a0
  have h1_u1 := xS _ _ h_u1
  have h1_u2 := xS _ _ h_u2
  refine st_ifn rfl hQ (fun hQ => ?_) (fun hQ => ?_)
  · exact sX5_clear_76 n hk25 hS1 hx1 h1_a0 h1_u1 h1_u2 hQ
  · refine st_rd hS1 h1_a0 rfl hQ (fun a2 a2v h1_a2 hQ => ?_)
    refine st_gd (fun h => by simp only [SM_N hS1 h1_a2]; exact gvp_in_of h) hQ (fun hQ => ?_)
    intro S3 eS
    obtain ⟨V3, hS3, xS, hQ⟩ := st_sI hS1 h1_a2 eS rfl rfl hQ
    have hx3 : Ex S0 S3 := Ex_tr hx1 xS
    have h3_a0 := xS _ _ h1_a0
    have h3_u1 := xS _ _ h1_u1
    have h3_u2 := xS _ _ h1_u2
    exact sX5_clear_76 n hk25 hS3 hx3 h3_a0 h3_u1 h3_u2 hQ
def eX5_clear_57 (n : Nat) (k25v : VS → Nat → Nat → Nat → Int32 → Rs Unit) (V : VS) (a0v : Nat) (u1v : Nat) (u2v : Nat) (y3 : Int32) (y4 : Int32) (z0 : Int32) (w1v : Nat) : Rs Unit := eX5_clear_62 n k25v V a0v u1v u2v y3 y4 2 z0 w1v
set_option maxHeartbeats 4000000 in
set_option maxRecDepth 100000 in
theorem sX5_clear_57 (n : Nat) {S0 : MS} {Q : MS → Prop} {QX : String → MS → Prop} {k25 : MS → Nat → Nat → Nat → Int32 → Prop} {k25v : VS → Nat → Nat → Nat → Int32 → Rs Unit} (hk25 : ∀ (S : MS) (V : VS) (p0 p0v : Nat) (p1 p1v : Nat) (p2 p2v : Nat) (p3 : Int32), SM S V → Ex S0 S → Ad S p0 p0v → Ad S p1 p1v → Ad S p2 p2v → gd (k25v V p0v p1v p2v p3) (SU Q S0) (SX QX S0) → k25 S p0 p1 p2 p3) {S : MS} {V : VS} {a0 a0v : Nat} {u1 u1v : Nat} {u2 u2v : Nat} {y3 : Int32} {y4 : Int32} {z0 : Int32} {w1 w1v : Nat} (hS : SM S V) (hx : Ex S0 S) (h_a0 : Ad S a0 a0v) (h_u1 : Ad S u1 u1v) (h_u2 : Ad S u2 u2v) (h_w1 : Ad S w1 w1v) (hQ : gd (eX5_clear_57 n k25v V a0v u1v u2v y3 y4 z0 w1v) (SU Q S0) (SX QX S0)) : wX5_clear_57 Q QX k25 S a0 u1 u2 y3 y4 z0 w1 := by
  unfold wX5_clear_57
  unfold eX5_clear_57 at hQ
  exact sX5_clear_62 n hk25 hS hx h_a0 h_u1 h_u2 h_w1 hQ
def eX5_clear_99 (n : Nat) (k99v : VS → Nat → Nat → Int32 → Rs Unit) (V : VS) (a0v : Nat) (u1v : Nat) (y3 : Int32) : Rs Unit := (if (vI V u1v 2) ≤ y3 then rt () V else (vR V u1v 1).bind (fun a1v => (if gvp_in y3 (vN V a1v) = true then (vR V a1v ((y3 : Int32).toNatClampNeg)).bind (fun a2v => bd (ev_X7_lives n V a2v) (fun r4 V3 => (if r4 = 0 then k99v V3 a0v u1v (y3 + 1) else (if (vI V3 a0v 3) ≤ (vI V3 a2v 4) then k99v V3 a0v u1v (y3 + 1) else (vR V3 a0v 0).bind (fun a5v => (if gvp_in (vI V3 a2v 4) (vN V3 a5v) = true then sq (wI V3 a5v (((vI V3 a2v 4) : Int32).toNatClampNeg) 0) (fun V6 => k99v V6 a0v u1v (y3 + 1)) else none))))) th) else none)))
set_option maxHeartbeats 4000000 in
set_option maxRecDepth 100000 in
theorem sX5_clear_99 (n : Nat) {S0 : MS} {Q : MS → Prop} {QX : String → MS → Prop} {k99 : MS → Nat → Nat → Int32 → Prop} {k99v : VS → Nat → Nat → Int32 → Rs Unit} (hk99 : ∀ (S : MS) (V : VS) (p0 p0v : Nat) (p1 p1v : Nat) (p2 : Int32), SM S V → Ex S0 S → Ad S p0 p0v → Ad S p1 p1v → gd (k99v V p0v p1v p2) (SU Q S0) (SX QX S0) → k99 S p0 p1 p2) {S : MS} {V : VS} {a0 a0v : Nat} {u1 u1v : Nat} {y3 : Int32} (hS : SM S V) (hx : Ex S0 S) (h_a0 : Ad S a0 a0v) (h_u1 : Ad S u1 u1v) (hQ : gd (eX5_clear_99 n k99v V a0v u1v y3) (SU Q S0) (SX QX S0)) : wX5_clear_99 Q QX k99 S a0 u1 y3 := by
  unfold wX5_clear_99
  unfold eX5_clear_99 at hQ
  refine st_if (show ((mI S u1 2) ≤ y3) = ((vI V u1v 2) ≤ y3) from by simp only [SM_I hS h_u1]) hQ (fun hQ => ?_) (fun hQ => ?_)
  · exact gd_rt hQ _ hS hx
  · refine st_rd hS h_u1 rfl hQ (fun a1 a1v h_a1 hQ => ?_)
    refine st_gd (fun h => by simp only [SM_N hS h_a1]; exact gvp_in_of h) hQ (fun hQ => ?_)
    refine st_rd hS h_a1 rfl hQ (fun a2 a2v h_a2 hQ => ?_)
    refine sim_X7_lives n hS h_a2 ?_
    refine gd_mono (gd_bd hQ) (fun r4 V3 hQ S3 hS3 xS => ?_) (fun E V9 hQ S9 hS9 xS9 => gd_th hQ S9 hS9 (Ex_tr hx xS9))
    have hx3 : Ex S0 S3 := Ex_tr hx xS
    have h3_a0 := xS _ _ h_a0
    have h3_u1 := xS _ _ h_u1
    have h3_a2 := xS _ _ h_a2
    refine st_if rfl hQ (fun hQ => ?_) (fun hQ => ?_)
    · exact hk99 _ _ _ _ _ _ _ hS3 hx3 h3_a0 h3_u1 hQ
    · refine st_if (show ((mI S3 a0 3) ≤ (mI S3 a2 4)) = ((vI V3 a0v 3) ≤ (vI V3 a2v 4)) from by simp only [SM_I hS3 h3_a0, SM_I hS3 h3_a2]) hQ (fun hQ => ?_) (fun hQ => ?_)
      · exact hk99 _ _ _ _ _ _ _ hS3 hx3 h3_a0 h3_u1 hQ
      · refine st_rd hS3 h3_a0 rfl hQ (fun a5 a5v h3_a5 hQ => ?_)
        refine st_gd (fun h => by simp only [SM_I hS3 h3_a2, SM_N hS3 h3_a5]; exact gvp_in_of h) hQ (fun hQ => ?_)
        intro S6 eS
        obtain ⟨V6, hS6, xS, hQ⟩ := st_sI hS3 h3_a5 eS (show (((mI S3 a2 4) : Int32).toNatClampNeg) = (((vI V3 a2v 4) : Int32).toNatClampNeg) from by simp only [SM_I hS3 h3_a2]) rfl hQ
        have hx6 : Ex S0 S6 := Ex_tr hx3 xS
        have h6_a0 := xS _ _ h3_a0
        have h6_u1 := xS _ _ h3_u1
        exact hk99 _ _ _ _ _ _ _ hS6 hx6 h6_a0 h6_u1 hQ
def elX5_clear_99 (n : Nat) : Nat → VS → Nat → Nat → Int32 → Rs Unit
  | 0 => fun _ _ _ _ => none
  | m + 1 => fun V a0v u1v y3 => eX5_clear_99 n (elX5_clear_99 n m) V a0v u1v y3
theorem selX5_clear_99 (n : Nat) {S0 : MS} {Q : MS → Prop} {QX : String → MS → Prop} : ∀ (m : Nat), ∀ (S : MS) (V : VS) (p0 p0v : Nat) (p1 p1v : Nat) (p2 : Int32), SM S V → Ex S0 S → Ad S p0 p0v → Ad S p1 p1v → gd (elX5_clear_99 n m V p0v p1v p2) (SU Q S0) (SX QX S0) → lX5_clear_99 Q QX m S p0 p1 p2 := by
  intro m
  induction m with
  | zero => intro S V p0 p0v p1 p1v p2 hS hx q0 q1 hQ; exact (gd_none hQ).elim
  | succ m ih => intro S V p0 p0v p1 p1v p2 hS hx q0 q1 hQ; exact sX5_clear_99 n ih hS hx q0 q1 hQ
def eX5_clear_25 (n : Nat) (k25v : VS → Nat → Nat → Nat → Int32 → Rs Unit) (V : VS) (a0v : Nat) (u1v : Nat) (u2v : Nat) (y3 : Int32) : Rs Unit := (if (vI V a0v 3) ≤ y3 then elX5_clear_99 n n V a0v u1v 0 else bd (ev_X3_ground n V u2v y3) (fun r2 V1 => (vR V1 a0v 0).bind (fun a3v => (if r2 = 3 then eX5_clear_57 n k25v V1 a0v u1v u2v y3 r2 y3 a3v else (if r2 = 2 then eX5_clear_57 n k25v V1 a0v u1v u2v y3 r2 y3 a3v else eX5_clear_62 n k25v V1 a0v u1v u2v y3 r2 1 y3 a3v)))) th)
set_option maxHeartbeats 4000000 in
set_option maxRecDepth 100000 in
theorem sX5_clear_25 (n : Nat) {S0 : MS} {Q : MS → Prop} {QX : String → MS → Prop} {k25 : MS → Nat → Nat → Nat → Int32 → Prop} {k25v : VS → Nat → Nat → Nat → Int32 → Rs Unit} (hk25 : ∀ (S : MS) (V : VS) (p0 p0v : Nat) (p1 p1v : Nat) (p2 p2v : Nat) (p3 : Int32), SM S V → Ex S0 S → Ad S p0 p0v → Ad S p1 p1v → Ad S p2 p2v → gd (k25v V p0v p1v p2v p3) (SU Q S0) (SX QX S0) → k25 S p0 p1 p2 p3) {S : MS} {V : VS} {a0 a0v : Nat} {u1 u1v : Nat} {u2 u2v : Nat} {y3 : Int32} (hS : SM S V) (hx : Ex S0 S) (h_a0 : Ad S a0 a0v) (h_u1 : Ad S u1 u1v) (h_u2 : Ad S u2 u2v) (hQ : gd (eX5_clear_25 n k25v V a0v u1v u2v y3) (SU Q S0) (SX QX S0)) : wX5_clear_25 Q QX k25 S a0 u1 u2 y3 := by
  unfold wX5_clear_25
  unfold eX5_clear_25 at hQ
  refine st_if (show ((mI S a0 3) ≤ y3) = ((vI V a0v 3) ≤ y3) from by simp only [SM_I hS h_a0]) hQ (fun hQ => ?_) (fun hQ => ?_)
  · refine ⟨n, ?_⟩
    exact selX5_clear_99 n n _ _ _ _ _ _ _ hS hx h_a0 h_u1 hQ
  · refine sim_X3_ground n hS h_u2 rfl ?_
    refine gd_mono (gd_bd hQ) (fun r2 V1 hQ S1 hS1 xS => ?_) (fun E V9 hQ S9 hS9 xS9 => gd_th hQ S9 hS9 (Ex_tr hx xS9))
    have hx1 : Ex S0 S1 := Ex_tr hx xS
    have h1_a0 := xS _ _ h_a0
    have h1_u1 := xS _ _ h_u1
    have h1_u2 := xS _ _ h_u2
    refine st_rd hS1 h1_a0 rfl hQ (fun a3 a3v h1_a3 hQ => ?_)
    refine st_if rfl hQ (fun hQ => ?_) (fun hQ => ?_)
    · exact sX5_clear_57 n hk25 hS1 hx1 h1_a0 h1_u1 h1_u2 h1_a3 hQ
    · refine st_ifn rfl hQ (fun hQ => ?_) (fun hQ => ?_)
      · exact sX5_clear_62 n hk25 hS1 hx1 h1_a0 h1_u1 h1_u2 h1_a3 hQ
      · exact sX5_clear_57 n hk25 hS1 hx1 h1_a0 h1_u1 h1_u2 h1_a3 hQ
def elX5_clear_25 (n : Nat) : Nat → VS → Nat → Nat → Nat → Int32 → Rs Unit
  | 0 => fun _ _ _ _ _ => none
  | m + 1 => fun V a0v u1v u2v y3 => eX5_clear_25 n (elX5_clear_25 n m) V a0v u1v u2v y3
theorem selX5_clear_25 (n : Nat) {S0 : MS} {Q : MS → Prop} {QX : String → MS → Prop} : ∀ (m : Nat), ∀ (S : MS) (V : VS) (p0 p0v : Nat) (p1 p1v : Nat) (p2 p2v : Nat) (p3 : Int32), SM S V → Ex S0 S → Ad S p0 p0v → Ad S p1 p1v → Ad S p2 p2v → gd (elX5_clear_25 n m V p0v p1v p2v p3) (SU Q S0) (SX QX S0) → lX5_clear_25 Q QX m S p0 p1 p2 p3 := by
  intro m
  induction m with
  | zero => intro S V p0 p0v p1 p1v p2 p2v p3 hS hx q0 q1 q2 hQ; exact (gd_none hQ).elim
  | succ m ih => intro S V p0 p0v p1 p1v p2 p2v p3 hS hx q0 q1 q2 hQ; exact sX5_clear_25 n ih hS hx q0 q1 q2 hQ
def eX5_clear_0 (n : Nat) (V : VS) (a0v : Nat) (b1v : Nat) : Rs Unit := (vR V b1v 0).bind (fun a1v => sq (wI V a0v 3 (if 64 < ((vI V a1v 1) * (vI V a1v 2)) then 64 else ((vI V a1v 1) * (vI V a1v 2)))) (fun V2 => elX5_clear_25 n n V2 a0v b1v a1v 0))
set_option maxHeartbeats 4000000 in
set_option maxRecDepth 100000 in
theorem sX5_clear_0 (n : Nat) {S0 : MS} {Q : MS → Prop} {QX : String → MS → Prop} {S : MS} {V : VS} {a0 a0v : Nat} {b1 b1v : Nat} (hS : SM S V) (hx : Ex S0 S) (h_a0 : Ad S a0 a0v) (h_b1 : Ad S b1 b1v) (hQ : gd (eX5_clear_0 n V a0v b1v) (SU Q S0) (SX QX S0)) : wX5_clear_0 Q QX S a0 b1 := by
  unfold wX5_clear_0
  unfold eX5_clear_0 at hQ
  refine st_rd hS h_b1 rfl hQ (fun a1 a1v h_a1 hQ => ?_)
  intro S2 eS
  obtain ⟨V2, hS2, xS, hQ⟩ := st_sI hS h_a0 eS rfl (show ((if 64 < ((mI S a1 1) * (mI S a1 2)) then 64 else ((mI S a1 1) * (mI S a1 2)))) = ((if 64 < ((vI V a1v 1) * (vI V a1v 2)) then 64 else ((vI V a1v 1) * (vI V a1v 2)))) from by simp only [SM_I hS h_a1]) hQ
  have hx2 : Ex S0 S2 := Ex_tr hx xS
  have h2_a0 := xS _ _ h_a0
  have h2_b1 := xS _ _ h_b1
  have h2_a1 := xS _ _ h_a1
  refine ⟨n, ?_⟩
  exact selX5_clear_25 n n _ _ _ _ _ _ _ _ _ hS2 hx2 h2_a0 h2_b1 h2_a1 hQ
def ev_X5_clear (n : Nat) (V : VS) (a0v : Nat) (b1v : Nat) : Rs Unit := eX5_clear_0 n V a0v b1v
theorem sim_X5_clear (n : Nat) {Q : MS → Prop} {QX : String → MS → Prop} {S : MS} {V : VS} {a0 a0v : Nat} {b1 b1v : Nat} (hS : SM S V) (h_a0 : Ad S a0 a0v) (h_b1 : Ad S b1 b1v) (hQ : gd (ev_X5_clear n V a0v b1v) (SU Q S) (SX QX S)) : wp_X5_clear Q QX S a0 b1 := by
  exact sX5_clear_0 n hS Ex_rf h_a0 h_b1 hQ
def eX5_spread_27 (n : Nat) (k27v : VS → Nat → Nat → Int32 → Int32 → Int32 → Rs Unit) (V : VS) (a0v : Nat) (u1v : Nat) (y2 : Int32) (y3 : Int32) (y4 : Int32) : Rs Unit := (if 3 < y4 then rt () V else bd (ev_X3_neighbor n V u1v y2 y4) (fun r2 V1 => (if r2 < 0 then k27v V1 a0v u1v y2 y3 (y4 + 1) else (if (vI V1 a0v 3) ≤ r2 then k27v V1 a0v u1v y2 y3 (y4 + 1) else (vR V1 a0v 1).bind (fun a3v => (if gvp_in r2 (vN V1 a3v) = true then (if (vI V1 a3v (r2 : Int32).toNatClampNeg) ≤ y3 then k27v V1 a0v u1v y2 y3 (y4 + 1) else (vR V1 a0v 1).bind (fun a4v => (if gvp_in r2 (vN V1 a4v) = true then sq (wI V1 a4v ((r2 : Int32).toNatClampNeg) y3) (fun V5 => k27v V5 a0v u1v y2 y3 (y4 + 1)) else none))) else none))))) th)
set_option maxHeartbeats 4000000 in
set_option maxRecDepth 100000 in
theorem sX5_spread_27 (n : Nat) {S0 : MS} {Q : MS → Prop} {QX : String → MS → Prop} {k27 : MS → Nat → Nat → Int32 → Int32 → Int32 → Prop} {k27v : VS → Nat → Nat → Int32 → Int32 → Int32 → Rs Unit} (hk27 : ∀ (S : MS) (V : VS) (p0 p0v : Nat) (p1 p1v : Nat) (p2 : Int32) (p3 : Int32) (p4 : Int32), SM S V → Ex S0 S → Ad S p0 p0v → Ad S p1 p1v → gd (k27v V p0v p1v p2 p3 p4) (SU Q S0) (SX QX S0) → k27 S p0 p1 p2 p3 p4) {S : MS} {V : VS} {a0 a0v : Nat} {u1 u1v : Nat} {y2 : Int32} {y3 : Int32} {y4 : Int32} (hS : SM S V) (hx : Ex S0 S) (h_a0 : Ad S a0 a0v) (h_u1 : Ad S u1 u1v) (hQ : gd (eX5_spread_27 n k27v V a0v u1v y2 y3 y4) (SU Q S0) (SX QX S0)) : wX5_spread_27 Q QX k27 S a0 u1 y2 y3 y4 := by
  unfold wX5_spread_27
  unfold eX5_spread_27 at hQ
  refine st_if rfl hQ (fun hQ => ?_) (fun hQ => ?_)
  · exact gd_rt hQ _ hS hx
  · refine sim_X3_neighbor n hS h_u1 rfl rfl ?_
    refine gd_mono (gd_bd hQ) (fun r2 V1 hQ S1 hS1 xS => ?_) (fun E V9 hQ S9 hS9 xS9 => gd_th hQ S9 hS9 (Ex_tr hx xS9))
    have hx1 : Ex S0 S1 := Ex_tr hx xS
    have h1_a0 := xS _ _ h_a0
    have h1_u1 := xS _ _ h_u1
    refine st_if rfl hQ (fun hQ => ?_) (fun hQ => ?_)
    · exact hk27 _ _ _ _ _ _ _ _ _ hS1 hx1 h1_a0 h1_u1 hQ
    · refine st_if (show ((mI S1 a0 3) ≤ r2) = ((vI V1 a0v 3) ≤ r2) from by simp only [SM_I hS1 h1_a0]) hQ (fun hQ => ?_) (fun hQ => ?_)
      · exact hk27 _ _ _ _ _ _ _ _ _ hS1 hx1 h1_a0 h1_u1 hQ
      · refine st_rd hS1 h1_a0 rfl hQ (fun a3 a3v h1_a3 hQ => ?_)
        refine st_gd (fun h => by simp only [SM_N hS1 h1_a3]; exact gvp_in_of h) hQ (fun hQ => ?_)
        refine st_if (show ((mI S1 a3 (r2 : Int32).toNatClampNeg) ≤ y3) = ((vI V1 a3v (r2 : Int32).toNatClampNeg) ≤ y3) from by simp only [SM_I hS1 h1_a3]) hQ (fun hQ => ?_) (fun hQ => ?_)
        · exact hk27 _ _ _ _ _ _ _ _ _ hS1 hx1 h1_a0 h1_u1 hQ
        · refine st_rd hS1 h1_a0 rfl hQ (fun a4 a4v h1_a4 hQ => ?_)
          refine st_gd (fun h => by simp only [SM_N hS1 h1_a4]; exact gvp_in_of h) hQ (fun hQ => ?_)
          intro S5 eS
          obtain ⟨V5, hS5, xS, hQ⟩ := st_sI hS1 h1_a4 eS rfl rfl hQ
          have hx5 : Ex S0 S5 := Ex_tr hx1 xS
          have h5_a0 := xS _ _ h1_a0
          have h5_u1 := xS _ _ h1_u1
          exact hk27 _ _ _ _ _ _ _ _ _ hS5 hx5 h5_a0 h5_u1 hQ
def elX5_spread_27 (n : Nat) : Nat → VS → Nat → Nat → Int32 → Int32 → Int32 → Rs Unit
  | 0 => fun _ _ _ _ _ _ => none
  | m + 1 => fun V a0v u1v y2 y3 y4 => eX5_spread_27 n (elX5_spread_27 n m) V a0v u1v y2 y3 y4
theorem selX5_spread_27 (n : Nat) {S0 : MS} {Q : MS → Prop} {QX : String → MS → Prop} : ∀ (m : Nat), ∀ (S : MS) (V : VS) (p0 p0v : Nat) (p1 p1v : Nat) (p2 : Int32) (p3 : Int32) (p4 : Int32), SM S V → Ex S0 S → Ad S p0 p0v → Ad S p1 p1v → gd (elX5_spread_27 n m V p0v p1v p2 p3 p4) (SU Q S0) (SX QX S0) → lX5_spread_27 Q QX m S p0 p1 p2 p3 p4 := by
  intro m
  induction m with
  | zero => intro S V p0 p0v p1 p1v p2 p3 p4 hS hx q0 q1 hQ; exact (gd_none hQ).elim
  | succ m ih => intro S V p0 p0v p1 p1v p2 p3 p4 hS hx q0 q1 hQ; exact sX5_spread_27 n ih hS hx q0 q1 hQ
def eX5_spread_0 (n : Nat) (V : VS) (a0v : Nat) (b1v : Nat) (x2 : Int32) : Rs Unit := (vR V a0v 0).bind (fun a1v => (if gvp_in x2 (vN V a1v) = true then (if (vI V a1v (x2 : Int32).toNatClampNeg) = 0 then rt () V else (vR V a0v 1).bind (fun a2v => (if gvp_in x2 (vN V a2v) = true then (vR V a0v 0).bind (fun a3v => (if gvp_in x2 (vN V a3v) = true then elX5_spread_27 n n V a0v b1v x2 ((vI V a2v (x2 : Int32).toNatClampNeg) + (vI V a3v (x2 : Int32).toNatClampNeg)) 0 else none)) else none))) else none))
set_option maxHeartbeats 4000000 in
set_option maxRecDepth 100000 in
theorem sX5_spread_0 (n : Nat) {S0 : MS} {Q : MS → Prop} {QX : String → MS → Prop} {S : MS} {V : VS} {a0 a0v : Nat} {b1 b1v : Nat} {x2 : Int32} (hS : SM S V) (hx : Ex S0 S) (h_a0 : Ad S a0 a0v) (h_b1 : Ad S b1 b1v) (hQ : gd (eX5_spread_0 n V a0v b1v x2) (SU Q S0) (SX QX S0)) : wX5_spread_0 Q QX S a0 b1 x2 := by
  unfold wX5_spread_0
  unfold eX5_spread_0 at hQ
  refine st_rd hS h_a0 rfl hQ (fun a1 a1v h_a1 hQ => ?_)
  refine st_gd (fun h => by simp only [SM_N hS h_a1]; exact gvp_in_of h) hQ (fun hQ => ?_)
  refine st_ifn (show ((mI S a1 (x2 : Int32).toNatClampNeg) = 0) = ((vI V a1v (x2 : Int32).toNatClampNeg) = 0) from by simp only [SM_I hS h_a1]) hQ (fun hQ => ?_) (fun hQ => ?_)
  · refine st_rd hS h_a0 rfl hQ (fun a2 a2v h_a2 hQ => ?_)
    refine st_gd (fun h => by simp only [SM_N hS h_a2]; exact gvp_in_of h) hQ (fun hQ => ?_)
    refine st_rd hS h_a0 rfl hQ (fun a3 a3v h_a3 hQ => ?_)
    refine st_gd (fun h => by simp only [SM_N hS h_a3]; exact gvp_in_of h) hQ (fun hQ => ?_)
    refine ⟨n, ?_⟩
    simp only [SM_I hS h_a2, SM_I hS h_a3]
    exact selX5_spread_27 n n _ _ _ _ _ _ _ _ _ hS hx h_a0 h_b1 hQ
  · exact gd_rt hQ _ hS hx
def ev_X5_spread (n : Nat) (V : VS) (a0v : Nat) (b1v : Nat) (x2 : Int32) : Rs Unit := eX5_spread_0 n V a0v b1v x2
theorem sim_X5_spread (n : Nat) {Q : MS → Prop} {QX : String → MS → Prop} {S : MS} {V : VS} {a0 a0v : Nat} {b1 b1v : Nat} {x2 x2z : Int32} (hS : SM S V) (h_a0 : Ad S a0 a0v) (h_b1 : Ad S b1 b1v) (e_x2 : x2 = x2z) (hQ : gd (ev_X5_spread n V a0v b1v x2z) (SU Q S) (SX QX S)) : wp_X5_spread Q QX S a0 b1 x2 := by
  subst e_x2
  exact sX5_spread_0 n hS Ex_rf h_a0 h_b1 hQ
def eX5_findCheapest_7 (n : Nat) (k7v : VS → Nat → Int32 → Int32 → Int32 → Rs Int32) (V : VS) (a0v : Nat) (y1 : Int32) (y2 : Int32) (y3 : Int32) : Rs Int32 := (if (vI V a0v 3) ≤ y3 then rt y1 V else (vR V a0v 2).bind (fun a1v => (if gvp_in y3 (vN V a1v) = true then (if (vI V a1v (y3 : Int32).toNatClampNeg) = 0 then (vR V a0v 1).bind (fun a2v => (if gvp_in y3 (vN V a2v) = true then (if y2 ≤ (vI V a2v (y3 : Int32).toNatClampNeg) then k7v V a0v y1 y2 (y3 + 1) else (vR V a0v 1).bind (fun a3v => (if gvp_in y3 (vN V a3v) = true then k7v V a0v y3 (vI V a3v (y3 : Int32).toNatClampNeg) (y3 + 1) else none))) else none)) else k7v V a0v y1 y2 (y3 + 1)) else none)))
set_option maxHeartbeats 4000000 in
set_option maxRecDepth 100000 in
theorem sX5_findCheapest_7 (n : Nat) {S0 : MS} {Q : Int32 → MS → Prop} {QX : String → MS → Prop} {k7 : MS → Nat → Int32 → Int32 → Int32 → Prop} {k7v : VS → Nat → Int32 → Int32 → Int32 → Rs Int32} (hk7 : ∀ (S : MS) (V : VS) (p0 p0v : Nat) (p1 : Int32) (p2 : Int32) (p3 : Int32), SM S V → Ex S0 S → Ad S p0 p0v → gd (k7v V p0v p1 p2 p3) (SQ Q S0) (SX QX S0) → k7 S p0 p1 p2 p3) {S : MS} {V : VS} {a0 a0v : Nat} {y1 : Int32} {y2 : Int32} {y3 : Int32} (hS : SM S V) (hx : Ex S0 S) (h_a0 : Ad S a0 a0v) (hQ : gd (eX5_findCheapest_7 n k7v V a0v y1 y2 y3) (SQ Q S0) (SX QX S0)) : wX5_findCheapest_7 Q QX k7 S a0 y1 y2 y3 := by
  unfold wX5_findCheapest_7
  unfold eX5_findCheapest_7 at hQ
  refine st_if (show ((mI S a0 3) ≤ y3) = ((vI V a0v 3) ≤ y3) from by simp only [SM_I hS h_a0]) hQ (fun hQ => ?_) (fun hQ => ?_)
  · exact gd_rt hQ _ hS hx
  · refine st_rd hS h_a0 rfl hQ (fun a1 a1v h_a1 hQ => ?_)
    refine st_gd (fun h => by simp only [SM_N hS h_a1]; exact gvp_in_of h) hQ (fun hQ => ?_)
    refine st_ifn (show ((mI S a1 (y3 : Int32).toNatClampNeg) = 0) = ((vI V a1v (y3 : Int32).toNatClampNeg) = 0) from by simp only [SM_I hS h_a1]) hQ (fun hQ => ?_) (fun hQ => ?_)
    · exact hk7 _ _ _ _ _ _ _ hS hx h_a0 hQ
    · refine st_rd hS h_a0 rfl hQ (fun a2 a2v h_a2 hQ => ?_)
      refine st_gd (fun h => by simp only [SM_N hS h_a2]; exact gvp_in_of h) hQ (fun hQ => ?_)
      refine st_if (show (y2 ≤ (mI S a2 (y3 : Int32).toNatClampNeg)) = (y2 ≤ (vI V a2v (y3 : Int32).toNatClampNeg)) from by simp only [SM_I hS h_a2]) hQ (fun hQ => ?_) (fun hQ => ?_)
      · exact hk7 _ _ _ _ _ _ _ hS hx h_a0 hQ
      · refine st_rd hS h_a0 rfl hQ (fun a3 a3v h_a3 hQ => ?_)
        refine st_gd (fun h => by simp only [SM_N hS h_a3]; exact gvp_in_of h) hQ (fun hQ => ?_)
        simp only [SM_I hS h_a3]
        exact hk7 _ _ _ _ _ _ _ hS hx h_a0 hQ
def elX5_findCheapest_7 (n : Nat) : Nat → VS → Nat → Int32 → Int32 → Int32 → Rs Int32
  | 0 => fun _ _ _ _ _ => none
  | m + 1 => fun V a0v y1 y2 y3 => eX5_findCheapest_7 n (elX5_findCheapest_7 n m) V a0v y1 y2 y3
theorem selX5_findCheapest_7 (n : Nat) {S0 : MS} {Q : Int32 → MS → Prop} {QX : String → MS → Prop} : ∀ (m : Nat), ∀ (S : MS) (V : VS) (p0 p0v : Nat) (p1 : Int32) (p2 : Int32) (p3 : Int32), SM S V → Ex S0 S → Ad S p0 p0v → gd (elX5_findCheapest_7 n m V p0v p1 p2 p3) (SQ Q S0) (SX QX S0) → lX5_findCheapest_7 Q QX m S p0 p1 p2 p3 := by
  intro m
  induction m with
  | zero => intro S V p0 p0v p1 p2 p3 hS hx q0 hQ; exact (gd_none hQ).elim
  | succ m ih => intro S V p0 p0v p1 p2 p3 hS hx q0 hQ; exact sX5_findCheapest_7 n ih hS hx q0 hQ
def eX5_findCheapest_0 (n : Nat) (V : VS) (a0v : Nat) : Rs Int32 := elX5_findCheapest_7 n n V a0v (-1) 1000000 0
set_option maxHeartbeats 4000000 in
set_option maxRecDepth 100000 in
theorem sX5_findCheapest_0 (n : Nat) {S0 : MS} {Q : Int32 → MS → Prop} {QX : String → MS → Prop} {S : MS} {V : VS} {a0 a0v : Nat} (hS : SM S V) (hx : Ex S0 S) (h_a0 : Ad S a0 a0v) (hQ : gd (eX5_findCheapest_0 n V a0v) (SQ Q S0) (SX QX S0)) : wX5_findCheapest_0 Q QX S a0 := by
  unfold wX5_findCheapest_0
  unfold eX5_findCheapest_0 at hQ
  refine ⟨n, ?_⟩
  exact selX5_findCheapest_7 n n _ _ _ _ _ _ _ hS hx h_a0 hQ
def ev_X5_findCheapest (n : Nat) (V : VS) (a0v : Nat) : Rs Int32 := eX5_findCheapest_0 n V a0v
theorem sim_X5_findCheapest (n : Nat) {Q : Int32 → MS → Prop} {QX : String → MS → Prop} {S : MS} {V : VS} {a0 a0v : Nat} (hS : SM S V) (h_a0 : Ad S a0 a0v) (hQ : gd (ev_X5_findCheapest n V a0v) (SQ Q S) (SX QX S)) : wp_X5_findCheapest Q QX S a0 := by
  exact sX5_findCheapest_0 n hS Ex_rf h_a0 hQ
def eX5_measure_69 (n : Nat) (k69v : VS → Nat → Nat → Int32 → Int32 → Rs Unit) (V : VS) (a0v : Nat) (u1v : Nat) (y5 : Int32) (y6 : Int32) : Rs Unit := (if 64 ≤ y6 then rt () V else (if y5 < 0 then rt () V else (vR V a0v 2).bind (fun a1v => (if gvp_in y5 (vN V a1v) = true then sq (wI V a1v ((y5 : Int32).toNatClampNeg) 1) (fun V2 => (vR V2 u1v 0).bind (fun a3v => bd (ev_X5_spread n V2 a0v a3v y5) (fun _ V4 => bd (ev_X5_findCheapest n V4 a0v) (fun r6 V5 => k69v V5 a0v u1v r6 (y6 + 1)) th) th)) else none))))
set_option maxHeartbeats 4000000 in
set_option maxRecDepth 100000 in
theorem sX5_measure_69 (n : Nat) {S0 : MS} {Q : MS → Prop} {QX : String → MS → Prop} {k69 : MS → Nat → Nat → Int32 → Int32 → Prop} {k69v : VS → Nat → Nat → Int32 → Int32 → Rs Unit} (hk69 : ∀ (S : MS) (V : VS) (p0 p0v : Nat) (p1 p1v : Nat) (p2 : Int32) (p3 : Int32), SM S V → Ex S0 S → Ad S p0 p0v → Ad S p1 p1v → gd (k69v V p0v p1v p2 p3) (SU Q S0) (SX QX S0) → k69 S p0 p1 p2 p3) {S : MS} {V : VS} {a0 a0v : Nat} {u1 u1v : Nat} {y5 : Int32} {y6 : Int32} (hS : SM S V) (hx : Ex S0 S) (h_a0 : Ad S a0 a0v) (h_u1 : Ad S u1 u1v) (hQ : gd (eX5_measure_69 n k69v V a0v u1v y5 y6) (SU Q S0) (SX QX S0)) : wX5_measure_69 Q QX k69 S a0 u1 y5 y6 := by
  unfold wX5_measure_69
  unfold eX5_measure_69 at hQ
  refine st_if rfl hQ (fun hQ => ?_) (fun hQ => ?_)
  · exact gd_rt hQ _ hS hx
  · refine st_if rfl hQ (fun hQ => ?_) (fun hQ => ?_)
    · exact gd_rt hQ _ hS hx
    · refine st_rd hS h_a0 rfl hQ (fun a1 a1v h_a1 hQ => ?_)
      refine st_gd (fun h => by simp only [SM_N hS h_a1]; exact gvp_in_of h) hQ (fun hQ => ?_)
      intro S2 eS
      obtain ⟨V2, hS2, xS, hQ⟩ := st_sI hS h_a1 eS rfl rfl hQ
      have hx2 : Ex S0 S2 := Ex_tr hx xS
      have h2_a0 := xS _ _ h_a0
      have h2_u1 := xS _ _ h_u1
      refine st_rd hS2 h2_u1 rfl hQ (fun a3 a3v h2_a3 hQ => ?_)
      refine sim_X5_spread n hS2 h2_a0 h2_a3 rfl ?_
      refine gd_mono (gd_bd hQ) (fun _ V4 hQ S4 hS4 xS => ?_) (fun E V9 hQ S9 hS9 xS9 => gd_th hQ S9 hS9 (Ex_tr hx2 xS9))
      have hx4 : Ex S0 S4 := Ex_tr hx2 xS
      have h4_a0 := xS _ _ h2_a0
      have h4_u1 := xS _ _ h2_u1
      refine sim_X5_findCheapest n hS4 h4_a0 ?_
      refine gd_mono (gd_bd hQ) (fun r6 V5 hQ S5 hS5 xS => ?_) (fun E V9 hQ S9 hS9 xS9 => gd_th hQ S9 hS9 (Ex_tr hx4 xS9))
      have hx5 : Ex S0 S5 := Ex_tr hx4 xS
      have h5_a0 := xS _ _ h4_a0
      have h5_u1 := xS _ _ h4_u1
      exact hk69 _ _ _ _ _ _ _ _ hS5 hx5 h5_a0 h5_u1 hQ
def elX5_measure_69 (n : Nat) : Nat → VS → Nat → Nat → Int32 → Int32 → Rs Unit
  | 0 => fun _ _ _ _ _ => none
  | m + 1 => fun V a0v u1v y5 y6 => eX5_measure_69 n (elX5_measure_69 n m) V a0v u1v y5 y6
theorem selX5_measure_69 (n : Nat) {S0 : MS} {Q : MS → Prop} {QX : String → MS → Prop} : ∀ (m : Nat), ∀ (S : MS) (V : VS) (p0 p0v : Nat) (p1 p1v : Nat) (p2 : Int32) (p3 : Int32), SM S V → Ex S0 S → Ad S p0 p0v → Ad S p1 p1v → gd (elX5_measure_69 n m V p0v p1v p2 p3) (SU Q S0) (SX QX S0) → lX5_measure_69 Q QX m S p0 p1 p2 p3 := by
  intro m
  induction m with
  | zero => intro S V p0 p0v p1 p1v p2 p3 hS hx q0 q1 hQ; exact (gd_none hQ).elim
  | succ m ih => intro S V p0 p0v p1 p1v p2 p3 hS hx q0 q1 hQ; exact sX5_measure_69 n ih hS hx q0 q1 hQ
def eX5_measure_56 (n : Nat) (V : VS) (a0v : Nat) (u1v : Nat) (y2 : Int32) : Rs Unit := (vR V a0v 1).bind (fun a1v => (if gvp_in y2 (vN V a1v) = true then sq (wI V a1v ((y2 : Int32).toNatClampNeg) 0) (fun V2 => elX5_measure_69 n n V2 a0v u1v y2 0) else none))
set_option maxHeartbeats 4000000 in
set_option maxRecDepth 100000 in
theorem sX5_measure_56 (n : Nat) {S0 : MS} {Q : MS → Prop} {QX : String → MS → Prop} {S : MS} {V : VS} {a0 a0v : Nat} {u1 u1v : Nat} {y2 : Int32} (hS : SM S V) (hx : Ex S0 S) (h_a0 : Ad S a0 a0v) (h_u1 : Ad S u1 u1v) (hQ : gd (eX5_measure_56 n V a0v u1v y2) (SU Q S0) (SX QX S0)) : wX5_measure_56 Q QX S a0 u1 y2 := by
  unfold wX5_measure_56
  unfold eX5_measure_56 at hQ
  refine st_rd hS h_a0 rfl hQ (fun a1 a1v h_a1 hQ => ?_)
  refine st_gd (fun h => by simp only [SM_N hS h_a1]; exact gvp_in_of h) hQ (fun hQ => ?_)
  intro S2 eS
  obtain ⟨V2, hS2, xS, hQ⟩ := st_sI hS h_a1 eS rfl rfl hQ
  have hx2 : Ex S0 S2 := Ex_tr hx xS
  have h2_a0 := xS _ _ h_a0
  have h2_u1 := xS _ _ h_u1
  refine ⟨n, ?_⟩
  exact selX5_measure_69 n n _ _ _ _ _ _ _ _ hS2 hx2 h2_a0 h2_u1 hQ
def eX5_measure_27 (n : Nat) (V : VS) (a0v : Nat) (u1v : Nat) (y2 : Int32) (z0 : Int32) : Rs Unit := (if y2 < 0 then rt () V else (if (vI V a0v 3) ≤ y2 then rt () V else (vR V a0v 0).bind (fun a1v => (if gvp_in y2 (vN V a1v) = true then (if (vI V a1v (y2 : Int32).toNatClampNeg) = 0 then (if z0 = 0 then rt () V else eX5_measure_56 n V a0v u1v y2) else eX5_measure_56 n V a0v u1v y2) else none))))
set_option maxHeartbeats 4000000 in
set_option maxRecDepth 100000 in
theorem sX5_measure_27 (n : Nat) {S0 : MS} {Q : MS → Prop} {QX : String → MS → Prop} {S : MS} {V : VS} {a0 a0v : Nat} {u1 u1v : Nat} {y2 : Int32} {z0 : Int32} (hS : SM S V) (hx : Ex S0 S) (h_a0 : Ad S a0 a0v) (h_u1 : Ad S u1 u1v) (hQ : gd (eX5_measure_27 n V a0v u1v y2 z0) (SU Q S0) (SX QX S0)) : wX5_measure_27 Q QX S a0 u1 y2 z0 := by
  unfold wX5_measure_27
  unfold eX5_measure_27 at hQ
  refine st_if rfl hQ (fun hQ => ?_) (fun hQ => ?_)
  · exact gd_rt hQ _ hS hx
  · refine st_if (show ((mI S a0 3) ≤ y2) = ((vI V a0v 3) ≤ y2) from by simp only [SM_I hS h_a0]) hQ (fun hQ => ?_) (fun hQ => ?_)
    · exact gd_rt hQ _ hS hx
    · refine st_rd hS h_a0 rfl hQ (fun a1 a1v h_a1 hQ => ?_)
      refine st_gd (fun h => by simp only [SM_N hS h_a1]; exact gvp_in_of h) hQ (fun hQ => ?_)
      refine st_ifn (show ((mI S a1 (y2 : Int32).toNatClampNeg) = 0) = ((vI V a1v (y2 : Int32).toNatClampNeg) = 0) from by simp only [SM_I hS h_a1]) hQ (fun hQ => ?_) (fun hQ => ?_)
      · exact sX5_measure_56 n hS hx h_a0 h_u1 hQ
      · refine st_ifn rfl hQ (fun hQ => ?_) (fun hQ => ?_)
        · exact sX5_measure_56 n hS hx h_a0 h_u1 hQ
        · exact gd_rt hQ _ hS hx
def eX5_measure_26 (n : Nat) (V : VS) (a0v : Nat) (u1v : Nat) (y2 : Int32) : Rs Unit := eX5_measure_27 n V a0v u1v y2 0
set_option maxHeartbeats 4000000 in
set_option maxRecDepth 100000 in
theorem sX5_measure_26 (n : Nat) {S0 : MS} {Q : MS → Prop} {QX : String → MS → Prop} {S : MS} {V : VS} {a0 a0v : Nat} {u1 u1v : Nat} {y2 : Int32} (hS : SM S V) (hx : Ex S0 S) (h_a0 : Ad S a0 a0v) (h_u1 : Ad S u1 u1v) (hQ : gd (eX5_measure_26 n V a0v u1v y2) (SU Q S0) (SX QX S0)) : wX5_measure_26 Q QX S a0 u1 y2 := by
  unfold wX5_measure_26
  unfold eX5_measure_26 at hQ
  exact sX5_measure_27 n hS hx h_a0 h_u1 hQ
def eX5_measure_0 (n : Nat) (V : VS) (a0v : Nat) (b1v : Nat) (x2 : Int32) : Rs Unit := bd (ev_X5_clear n V a0v b1v) (fun _ V1 => bd (ev_X2_onTurn n V1 b1v) (fun r3v V2 => om r3v (eX5_measure_26 n V2 a0v b1v x2) (fun a4v => (if (vI V2 a4v 4) = x2 then eX5_measure_27 n V2 a0v b1v x2 1 else eX5_measure_26 n V2 a0v b1v x2))) th) th
set_option maxHeartbeats 4000000 in
set_option maxRecDepth 100000 in
theorem sX5_measure_0 (n : Nat) {S0 : MS} {Q : MS → Prop} {QX : String → MS → Prop} {S : MS} {V : VS} {a0 a0v : Nat} {b1 b1v : Nat} {x2 : Int32} (hS : SM S V) (hx : Ex S0 S) (h_a0 : Ad S a0 a0v) (h_b1 : Ad S b1 b1v) (hQ : gd (eX5_measure_0 n V a0v b1v x2) (SU Q S0) (SX QX S0)) : wX5_measure_0 Q QX S a0 b1 x2 := by
  unfold wX5_measure_0
  unfold eX5_measure_0 at hQ
  refine sim_X5_clear n hS h_a0 h_b1 ?_
  refine gd_mono (gd_bd hQ) (fun _ V1 hQ S1 hS1 xS => ?_) (fun E V9 hQ S9 hS9 xS9 => gd_th hQ S9 hS9 (Ex_tr hx xS9))
  have hx1 : Ex S0 S1 := Ex_tr hx xS
  have h1_a0 := xS _ _ h_a0
  have h1_b1 := xS _ _ h_b1
  refine sim_X2_onTurn n hS1 h1_b1 ?_
  refine gd_mono (gd_bd hQ) (fun r3v V2 hQ S2 r3 hS2 xS o2_r3 => ?_) (fun E V9 hQ S9 hS9 xS9 => gd_th hQ S9 hS9 (Ex_tr hx1 xS9))
  have hx2 : Ex S0 S2 := Ex_tr hx1 xS
  have h2_a0 := xS _ _ h1_a0
  have h2_b1 := xS _ _ h1_b1
  refine st_om o2_r3 hQ (fun hQ => ?_) (fun a4 a4v h2_a4 hQ => ?_)
  · exact sX5_measure_26 n hS2 hx2 h2_a0 h2_b1 hQ
  · refine st_ifn (show ((mI S2 a4 4) = x2) = ((vI V2 a4v 4) = x2) from by simp only [SM_I hS2 h2_a4]) hQ (fun hQ => ?_) (fun hQ => ?_)
    · exact sX5_measure_26 n hS2 hx2 h2_a0 h2_b1 hQ
    · exact sX5_measure_27 n hS2 hx2 h2_a0 h2_b1 hQ
def ev_X5_measure (n : Nat) (V : VS) (a0v : Nat) (b1v : Nat) (x2 : Int32) : Rs Unit := eX5_measure_0 n V a0v b1v x2
theorem sim_X5_measure (n : Nat) {Q : MS → Prop} {QX : String → MS → Prop} {S : MS} {V : VS} {a0 a0v : Nat} {b1 b1v : Nat} {x2 x2z : Int32} (hS : SM S V) (h_a0 : Ad S a0 a0v) (h_b1 : Ad S b1 b1v) (e_x2 : x2 = x2z) (hQ : gd (ev_X5_measure n V a0v b1v x2z) (SU Q S) (SX QX S)) : wp_X5_measure Q QX S a0 b1 x2 := by
  subst e_x2
  exact sX5_measure_0 n hS Ex_rf h_a0 h_b1 hQ
def eX5_costsFrom_0 (n : Nat) (V : VS) (a0v : Nat) (x1 : Int32) : Rs Int32 := (if x1 < 0 then rt 1000000 V else (if (vI V a0v 3) ≤ x1 then rt 1000000 V else (vR V a0v 1).bind (fun a1v => (if gvp_in x1 (vN V a1v) = true then rt (vI V a1v (x1 : Int32).toNatClampNeg) V else none))))
set_option maxHeartbeats 4000000 in
set_option maxRecDepth 100000 in
theorem sX5_costsFrom_0 (n : Nat) {S0 : MS} {Q : Int32 → MS → Prop} {QX : String → MS → Prop} {S : MS} {V : VS} {a0 a0v : Nat} {x1 : Int32} (hS : SM S V) (hx : Ex S0 S) (h_a0 : Ad S a0 a0v) (hQ : gd (eX5_costsFrom_0 n V a0v x1) (SQ Q S0) (SX QX S0)) : wX5_costsFrom_0 Q QX S a0 x1 := by
  unfold wX5_costsFrom_0
  unfold eX5_costsFrom_0 at hQ
  refine st_if rfl hQ (fun hQ => ?_) (fun hQ => ?_)
  · exact gd_rt hQ _ hS hx
  · refine st_if (show ((mI S a0 3) ≤ x1) = ((vI V a0v 3) ≤ x1) from by simp only [SM_I hS h_a0]) hQ (fun hQ => ?_) (fun hQ => ?_)
    · exact gd_rt hQ _ hS hx
    · refine st_rd hS h_a0 rfl hQ (fun a1 a1v h_a1 hQ => ?_)
      refine st_gd (fun h => by simp only [SM_N hS h_a1]; exact gvp_in_of h) hQ (fun hQ => ?_)
      simp only [SM_I hS h_a1]
      exact gd_rt hQ _ hS hx
def ev_X5_costsFrom (n : Nat) (V : VS) (a0v : Nat) (x1 : Int32) : Rs Int32 := eX5_costsFrom_0 n V a0v x1
theorem sim_X5_costsFrom (n : Nat) {Q : Int32 → MS → Prop} {QX : String → MS → Prop} {S : MS} {V : VS} {a0 a0v : Nat} {x1 x1z : Int32} (hS : SM S V) (h_a0 : Ad S a0 a0v) (e_x1 : x1 = x1z) (hQ : gd (ev_X5_costsFrom n V a0v x1z) (SQ Q S) (SX QX S)) : wp_X5_costsFrom Q QX S a0 x1 := by
  subst e_x1
  exact sX5_costsFrom_0 n hS Ex_rf h_a0 hQ
def eX5_next_14 (n : Nat) (k14v : VS → Nat → Nat → Int32 → Int32 → Rs Int32) (V : VS) (a0v : Nat) (u1v : Nat) (y2 : Int32) (y3 : Int32) : Rs Int32 := (if 3 < y3 then rt (-1) V else bd (ev_X3_neighbor n V u1v y2 y3) (fun r2 V1 => (if r2 < 0 then k14v V1 a0v u1v y2 (y3 + 1) else (if (vI V1 a0v 3) ≤ r2 then k14v V1 a0v u1v y2 (y3 + 1) else (vR V1 a0v 0).bind (fun a3v => (if gvp_in r2 (vN V1 a3v) = true then (if (vI V1 a3v (r2 : Int32).toNatClampNeg) ≤ 0 then k14v V1 a0v u1v y2 (y3 + 1) else (vR V1 a0v 1).bind (fun a4v => (if gvp_in r2 (vN V1 a4v) = true then (vR V1 a0v 0).bind (fun a5v => (if gvp_in r2 (vN V1 a5v) = true then (vR V1 a0v 1).bind (fun a6v => (if gvp_in y2 (vN V1 a6v) = true then (if ((vI V1 a4v (r2 : Int32).toNatClampNeg) + (vI V1 a5v (r2 : Int32).toNatClampNeg)) = (vI V1 a6v (y2 : Int32).toNatClampNeg) then rt r2 V1 else k14v V1 a0v u1v y2 (y3 + 1)) else none)) else none)) else none))) else none))))) th)
set_option maxHeartbeats 4000000 in
set_option maxRecDepth 100000 in
theorem sX5_next_14 (n : Nat) {S0 : MS} {Q : Int32 → MS → Prop} {QX : String → MS → Prop} {k14 : MS → Nat → Nat → Int32 → Int32 → Prop} {k14v : VS → Nat → Nat → Int32 → Int32 → Rs Int32} (hk14 : ∀ (S : MS) (V : VS) (p0 p0v : Nat) (p1 p1v : Nat) (p2 : Int32) (p3 : Int32), SM S V → Ex S0 S → Ad S p0 p0v → Ad S p1 p1v → gd (k14v V p0v p1v p2 p3) (SQ Q S0) (SX QX S0) → k14 S p0 p1 p2 p3) {S : MS} {V : VS} {a0 a0v : Nat} {u1 u1v : Nat} {y2 : Int32} {y3 : Int32} (hS : SM S V) (hx : Ex S0 S) (h_a0 : Ad S a0 a0v) (h_u1 : Ad S u1 u1v) (hQ : gd (eX5_next_14 n k14v V a0v u1v y2 y3) (SQ Q S0) (SX QX S0)) : wX5_next_14 Q QX k14 S a0 u1 y2 y3 := by
  unfold wX5_next_14
  unfold eX5_next_14 at hQ
  refine st_if rfl hQ (fun hQ => ?_) (fun hQ => ?_)
  · exact gd_rt hQ _ hS hx
  · refine sim_X3_neighbor n hS h_u1 rfl rfl ?_
    refine gd_mono (gd_bd hQ) (fun r2 V1 hQ S1 hS1 xS => ?_) (fun E V9 hQ S9 hS9 xS9 => gd_th hQ S9 hS9 (Ex_tr hx xS9))
    have hx1 : Ex S0 S1 := Ex_tr hx xS
    have h1_a0 := xS _ _ h_a0
    have h1_u1 := xS _ _ h_u1
    refine st_if rfl hQ (fun hQ => ?_) (fun hQ => ?_)
    · exact hk14 _ _ _ _ _ _ _ _ hS1 hx1 h1_a0 h1_u1 hQ
    · refine st_if (show ((mI S1 a0 3) ≤ r2) = ((vI V1 a0v 3) ≤ r2) from by simp only [SM_I hS1 h1_a0]) hQ (fun hQ => ?_) (fun hQ => ?_)
      · exact hk14 _ _ _ _ _ _ _ _ hS1 hx1 h1_a0 h1_u1 hQ
      · refine st_rd hS1 h1_a0 rfl hQ (fun a3 a3v h1_a3 hQ => ?_)
        refine st_gd (fun h => by simp only [SM_N hS1 h1_a3]; exact gvp_in_of h) hQ (fun hQ => ?_)
        refine st_if (show ((mI S1 a3 (r2 : Int32).toNatClampNeg) ≤ 0) = ((vI V1 a3v (r2 : Int32).toNatClampNeg) ≤ 0) from by simp only [SM_I hS1 h1_a3]) hQ (fun hQ => ?_) (fun hQ => ?_)
        · exact hk14 _ _ _ _ _ _ _ _ hS1 hx1 h1_a0 h1_u1 hQ
        · refine st_rd hS1 h1_a0 rfl hQ (fun a4 a4v h1_a4 hQ => ?_)
          refine st_gd (fun h => by simp only [SM_N hS1 h1_a4]; exact gvp_in_of h) hQ (fun hQ => ?_)
          refine st_rd hS1 h1_a0 rfl hQ (fun a5 a5v h1_a5 hQ => ?_)
          refine st_gd (fun h => by simp only [SM_N hS1 h1_a5]; exact gvp_in_of h) hQ (fun hQ => ?_)
          refine st_rd hS1 h1_a0 rfl hQ (fun a6 a6v h1_a6 hQ => ?_)
          refine st_gd (fun h => by simp only [SM_N hS1 h1_a6]; exact gvp_in_of h) hQ (fun hQ => ?_)
          refine st_ifn (show (((mI S1 a4 (r2 : Int32).toNatClampNeg) + (mI S1 a5 (r2 : Int32).toNatClampNeg)) = (mI S1 a6 (y2 : Int32).toNatClampNeg)) = (((vI V1 a4v (r2 : Int32).toNatClampNeg) + (vI V1 a5v (r2 : Int32).toNatClampNeg)) = (vI V1 a6v (y2 : Int32).toNatClampNeg)) from by simp only [SM_I hS1 h1_a4, SM_I hS1 h1_a5, SM_I hS1 h1_a6]) hQ (fun hQ => ?_) (fun hQ => ?_)
          · exact hk14 _ _ _ _ _ _ _ _ hS1 hx1 h1_a0 h1_u1 hQ
          · exact gd_rt hQ _ hS1 hx1
def elX5_next_14 (n : Nat) : Nat → VS → Nat → Nat → Int32 → Int32 → Rs Int32
  | 0 => fun _ _ _ _ _ => none
  | m + 1 => fun V a0v u1v y2 y3 => eX5_next_14 n (elX5_next_14 n m) V a0v u1v y2 y3
theorem selX5_next_14 (n : Nat) {S0 : MS} {Q : Int32 → MS → Prop} {QX : String → MS → Prop} : ∀ (m : Nat), ∀ (S : MS) (V : VS) (p0 p0v : Nat) (p1 p1v : Nat) (p2 : Int32) (p3 : Int32), SM S V → Ex S0 S → Ad S p0 p0v → Ad S p1 p1v → gd (elX5_next_14 n m V p0v p1v p2 p3) (SQ Q S0) (SX QX S0) → lX5_next_14 Q QX m S p0 p1 p2 p3 := by
  intro m
  induction m with
  | zero => intro S V p0 p0v p1 p1v p2 p3 hS hx q0 q1 hQ; exact (gd_none hQ).elim
  | succ m ih => intro S V p0 p0v p1 p1v p2 p3 hS hx q0 q1 hQ; exact sX5_next_14 n ih hS hx q0 q1 hQ
def eX5_next_0 (n : Nat) (V : VS) (a0v : Nat) (b1v : Nat) (x2 : Int32) : Rs Int32 := bd (ev_X5_costsFrom n V a0v x2) (fun r2 V1 => (if r2 < 1000000 then elX5_next_14 n n V1 a0v b1v x2 0 else rt (-1) V1)) th
set_option maxHeartbeats 4000000 in
set_option maxRecDepth 100000 in
theorem sX5_next_0 (n : Nat) {S0 : MS} {Q : Int32 → MS → Prop} {QX : String → MS → Prop} {S : MS} {V : VS} {a0 a0v : Nat} {b1 b1v : Nat} {x2 : Int32} (hS : SM S V) (hx : Ex S0 S) (h_a0 : Ad S a0 a0v) (h_b1 : Ad S b1 b1v) (hQ : gd (eX5_next_0 n V a0v b1v x2) (SQ Q S0) (SX QX S0)) : wX5_next_0 Q QX S a0 b1 x2 := by
  unfold wX5_next_0
  unfold eX5_next_0 at hQ
  refine sim_X5_costsFrom n hS h_a0 rfl ?_
  refine gd_mono (gd_bd hQ) (fun r2 V1 hQ S1 hS1 xS => ?_) (fun E V9 hQ S9 hS9 xS9 => gd_th hQ S9 hS9 (Ex_tr hx xS9))
  have hx1 : Ex S0 S1 := Ex_tr hx xS
  have h1_a0 := xS _ _ h_a0
  have h1_b1 := xS _ _ h_b1
  refine st_if rfl hQ (fun hQ => ?_) (fun hQ => ?_)
  · refine ⟨n, ?_⟩
    exact selX5_next_14 n n _ _ _ _ _ _ _ _ hS1 hx1 h1_a0 h1_b1 hQ
  · exact gd_rt hQ _ hS1 hx1
def ev_X5_next (n : Nat) (V : VS) (a0v : Nat) (b1v : Nat) (x2 : Int32) : Rs Int32 := eX5_next_0 n V a0v b1v x2
theorem sim_X5_next (n : Nat) {Q : Int32 → MS → Prop} {QX : String → MS → Prop} {S : MS} {V : VS} {a0 a0v : Nat} {b1 b1v : Nat} {x2 x2z : Int32} (hS : SM S V) (h_a0 : Ad S a0 a0v) (h_b1 : Ad S b1 b1v) (e_x2 : x2 = x2z) (hQ : gd (ev_X5_next n V a0v b1v x2z) (SQ Q S) (SX QX S)) : wp_X5_next Q QX S a0 b1 x2 := by
  subst e_x2
  exact sX5_next_0 n hS Ex_rf h_a0 h_b1 hQ
