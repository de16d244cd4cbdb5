def eL_law_1227 (n : Nat) (L : Nat) (xs : Nat → Int32) (k28v : VS → Nat → Nat → Nat → Nat → Int32 → Rs Unit) (V : VS) (u1v : Nat) (u2v : Nat) (u3v : Nat) (u4v : Nat) (y5 : Int32) : Rs Unit := k28v V u1v u2v u3v u4v (y5 + 4)
set_option maxHeartbeats 4000000 in
set_option maxRecDepth 100000 in
theorem sL_law_1227 (n : Nat) (L : Nat) (xs : Nat → Int32) {S0 : MS} {k28 : MS → Nat → Nat → Nat → Nat → Int32 → Prop} {k28v : VS → Nat → Nat → Nat → Nat → Int32 → Rs Unit} (hk28 : ∀ (S : MS) (V : VS) (p0 p0v : Nat) (p1 p1v : Nat) (p2 p2v : Nat) (p3 p3v : Nat) (p4 : Int32), SM S V → Ex S0 S → Ad S p0 p0v → Ad S p1 p1v → Ad S p2 p2v → Ad S p3 p3v → gd (k28v V p0v p1v p2v p3v p4) AT BT → k28 S p0 p1 p2 p3 p4) {S : MS} {V : VS} {u1 u1v : Nat} {u2 u2v : Nat} {u3 u3v : Nat} {u4 u4v : Nat} {y5 : Int32} (hS : SM S V) (hx : Ex S0 S) (h_u1 : Ad S u1 u1v) (h_u2 : Ad S u2 u2v) (h_u3 : Ad S u3 u3v) (h_u4 : Ad S u4 u4v) (hQ : gd (eL_law_1227 n L xs k28v V u1v u2v u3v u4v y5) AT BT) : wL_law_1227 L xs k28 S u1 u2 u3 u4 y5 := by
  unfold wL_law_1227
  unfold eL_law_1227 at hQ
  exact hk28 _ _ _ _ _ _ _ _ _ _ _ hS hx h_u1 h_u2 h_u3 h_u4 hQ
def eL_law_208 (n : Nat) (L : Nat) (xs : Nat → Int32) (k28v : VS → Nat → Nat → Nat → Nat → Int32 → Rs Unit) (V : VS) (u1v : Nat) (u2v : Nat) (u3v : Nat) (u4v : Nat) (y5 : Int32) : Rs Unit := (if gvp_in (y5 + 1) L = true then bd (ev_L_append n V u1v ((((xs ((y5 + 1) : Int32).toNatClampNeg) : Int32).toUInt32 % 65536).toInt32) u3v) (fun r2 V1 => (if gvp_in (y5 + 1) L = true then bd (ev_X9_append n V1 u2v ((((xs ((y5 + 1) : Int32).toNatClampNeg) : Int32).toUInt32 % 65536).toInt32)) (fun r4 V3 => eL_law_1227 n L xs k28v V3 u1v u2v u3v u4v y5) (fun _ _ => none) else none)) (fun _ _ => none) else none)
set_option maxHeartbeats 4000000 in
set_option maxRecDepth 100000 in
theorem sL_law_208 (n : Nat) (L : Nat) (xs : Nat → Int32) {S0 : MS} {k28 : MS → Nat → Nat → Nat → Nat → Int32 → Prop} {k28v : VS → Nat → Nat → Nat → Nat → Int32 → Rs Unit} (hk28 : ∀ (S : MS) (V : VS) (p0 p0v : Nat) (p1 p1v : Nat) (p2 p2v : Nat) (p3 p3v : Nat) (p4 : Int32), SM S V → Ex S0 S → Ad S p0 p0v → Ad S p1 p1v → Ad S p2 p2v → Ad S p3 p3v → gd (k28v V p0v p1v p2v p3v p4) AT BT → k28 S p0 p1 p2 p3 p4) {S : MS} {V : VS} {u1 u1v : Nat} {u2 u2v : Nat} {u3 u3v : Nat} {u4 u4v : Nat} {y5 : Int32} (hS : SM S V) (hx : Ex S0 S) (h_u1 : Ad S u1 u1v) (h_u2 : Ad S u2 u2v) (h_u3 : Ad S u3 u3v) (h_u4 : Ad S u4 u4v) (hQ : gd (eL_law_208 n L xs k28v V u1v u2v u3v u4v y5) AT BT) : wL_law_208 L xs k28 S u1 u2 u3 u4 y5 := by
  unfold wL_law_208
  unfold eL_law_208 at hQ
  refine st_gd (fun h => by exact gvp_in_of h) hQ (fun hQ => ?_)
  refine sim_L_append n hS h_u1 rfl h_u3 ?_
  refine gd_mono (gd_bd hQ) (fun r2 V1 hQ S1 hS1 xS => ?_) (fun E V9 hQ => (gd_none hQ).elim)
  have hx1 : Ex S0 S1 := Ex_tr hx xS
  have h1_u1 := xS _ _ h_u1
  have h1_u2 := xS _ _ h_u2
  have h1_u3 := xS _ _ h_u3
  have h1_u4 := xS _ _ h_u4
  refine st_gd (fun h => by exact gvp_in_of h) hQ (fun hQ => ?_)
  refine sim_X9_append n hS1 h1_u2 rfl ?_
  refine gd_mono (gd_bd hQ) (fun r4 V3 hQ S3 hS3 xS => ?_) (fun E V9 hQ => (gd_none hQ).elim)
  have hx3 : Ex S0 S3 := Ex_tr hx1 xS
  have h3_u1 := xS _ _ h1_u1
  have h3_u2 := xS _ _ h1_u2
  have h3_u3 := xS _ _ h1_u3
  have h3_u4 := xS _ _ h1_u4
  exact sL_law_1227 n L xs hk28 hS3 hx3 h3_u1 h3_u2 h3_u3 h3_u4 hQ
def eL_law_238 (n : Nat) (L : Nat) (xs : Nat → Int32) (k28v : VS → Nat → Nat → Nat → Nat → Int32 → Rs Unit) (V : VS) (u1v : Nat) (u2v : Nat) (u3v : Nat) (u4v : Nat) (y5 : Int32) : Rs Unit := (if gvp_in (y5 + 1) L = true then bd (ev_L_load n V u1v (xs ((y5 + 1) : Int32).toNatClampNeg) u3v) (fun r2 V1 => (if gvp_in (y5 + 1) L = true then bd (ev_X9_load n V1 u2v (xs ((y5 + 1) : Int32).toNatClampNeg)) (fun r4 V3 => eL_law_1227 n L xs k28v V3 u1v u2v u3v u4v y5) (fun _ _ => none) else none)) (fun _ _ => none) else none)
set_option maxHeartbeats 4000000 in
set_option maxRecDepth 100000 in
theorem sL_law_238 (n : Nat) (L : Nat) (xs : Nat → Int32) {S0 : MS} {k28 : MS → Nat → Nat → Nat → Nat → Int32 → Prop} {k28v : VS → Nat → Nat → Nat → Nat → Int32 → Rs Unit} (hk28 : ∀ (S : MS) (V : VS) (p0 p0v : Nat) (p1 p1v : Nat) (p2 p2v : Nat) (p3 p3v : Nat) (p4 : Int32), SM S V → Ex S0 S → Ad S p0 p0v → Ad S p1 p1v → Ad S p2 p2v → Ad S p3 p3v → gd (k28v V p0v p1v p2v p3v p4) AT BT → k28 S p0 p1 p2 p3 p4) {S : MS} {V : VS} {u1 u1v : Nat} {u2 u2v : Nat} {u3 u3v : Nat} {u4 u4v : Nat} {y5 : Int32} (hS : SM S V) (hx : Ex S0 S) (h_u1 : Ad S u1 u1v) (h_u2 : Ad S u2 u2v) (h_u3 : Ad S u3 u3v) (h_u4 : Ad S u4 u4v) (hQ : gd (eL_law_238 n L xs k28v V u1v u2v u3v u4v y5) AT BT) : wL_law_238 L xs k28 S u1 u2 u3 u4 y5 := by
  unfold wL_law_238
  unfold eL_law_238 at hQ
  refine st_gd (fun h => by exact gvp_in_of h) hQ (fun hQ => ?_)
  refine sim_L_load n hS h_u1 rfl h_u3 ?_
  refine gd_mono (gd_bd hQ) (fun r2 V1 hQ S1 hS1 xS => ?_) (fun E V9 hQ => (gd_none hQ).elim)
  have hx1 : Ex S0 S1 := Ex_tr hx xS
  have h1_u1 := xS _ _ h_u1
  have h1_u2 := xS _ _ h_u2
  have h1_u3 := xS _ _ h_u3
  have h1_u4 := xS _ _ h_u4
  refine st_gd (fun h => by exact gvp_in_of h) hQ (fun hQ => ?_)
  refine sim_X9_load n hS1 h1_u2 rfl ?_
  refine gd_mono (gd_bd hQ) (fun r4 V3 hQ S3 hS3 xS => ?_) (fun E V9 hQ => (gd_none hQ).elim)
  have hx3 : Ex S0 S3 := Ex_tr hx1 xS
  have h3_u1 := xS _ _ h1_u1
  have h3_u2 := xS _ _ h1_u2
  have h3_u3 := xS _ _ h1_u3
  have h3_u4 := xS _ _ h1_u4
  exact sL_law_1227 n L xs hk28 hS3 hx3 h3_u1 h3_u2 h3_u3 h3_u4 hQ
def eL_law_266 (n : Nat) (L : Nat) (xs : Nat → Int32) (k28v : VS → Nat → Nat → Nat → Nat → Int32 → Rs Unit) (V : VS) (u1v : Nat) (u2v : Nat) (u3v : Nat) (u4v : Nat) (y5 : Int32) : Rs Unit := bd (ev_L_errorPosition n V u1v u3v) (fun r2 V1 => bd (ev_X9_errorPosition n V1 u2v) (fun r4 V3 => eL_law_1227 n L xs k28v V3 u1v u2v u3v u4v y5) (fun _ _ => none)) (fun _ _ => none)
set_option maxHeartbeats 4000000 in
set_option maxRecDepth 100000 in
theorem sL_law_266 (n : Nat) (L : Nat) (xs : Nat → Int32) {S0 : MS} {k28 : MS → Nat → Nat → Nat → Nat → Int32 → Prop} {k28v : VS → Nat → Nat → Nat → Nat → Int32 → Rs Unit} (hk28 : ∀ (S : MS) (V : VS) (p0 p0v : Nat) (p1 p1v : Nat) (p2 p2v : Nat) (p3 p3v : Nat) (p4 : Int32), SM S V → Ex S0 S → Ad S p0 p0v → Ad S p1 p1v → Ad S p2 p2v → Ad S p3 p3v → gd (k28v V p0v p1v p2v p3v p4) AT BT → k28 S p0 p1 p2 p3 p4) {S : MS} {V : VS} {u1 u1v : Nat} {u2 u2v : Nat} {u3 u3v : Nat} {u4 u4v : Nat} {y5 : Int32} (hS : SM S V) (hx : Ex S0 S) (h_u1 : Ad S u1 u1v) (h_u2 : Ad S u2 u2v) (h_u3 : Ad S u3 u3v) (h_u4 : Ad S u4 u4v) (hQ : gd (eL_law_266 n L xs k28v V u1v u2v u3v u4v y5) AT BT) : wL_law_266 L xs k28 S u1 u2 u3 u4 y5 := by
  unfold wL_law_266
  unfold eL_law_266 at hQ
  refine sim_L_errorPosition n hS h_u1 h_u3 ?_
  refine gd_mono (gd_bd hQ) (fun r2 V1 hQ S1 hS1 xS => ?_) (fun E V9 hQ => (gd_none hQ).elim)
  have hx1 : Ex S0 S1 := Ex_tr hx xS
  have h1_u1 := xS _ _ h_u1
  have h1_u2 := xS _ _ h_u2
  have h1_u3 := xS _ _ h_u3
  have h1_u4 := xS _ _ h_u4
  refine sim_X9_errorPosition n hS1 h1_u2 ?_
  refine gd_mono (gd_bd hQ) (fun r4 V3 hQ S3 hS3 xS => ?_) (fun E V9 hQ => (gd_none hQ).elim)
  have hx3 : Ex S0 S3 := Ex_tr hx1 xS
  have h3_u1 := xS _ _ h1_u1
  have h3_u2 := xS _ _ h1_u2
  have h3_u3 := xS _ _ h1_u3
  have h3_u4 := xS _ _ h1_u4
  exact sL_law_1227 n L xs hk28 hS3 hx3 h3_u1 h3_u2 h3_u3 h3_u4 hQ
def eL_law_282 (n : Nat) (L : Nat) (xs : Nat → Int32) (k28v : VS → Nat → Nat → Nat → Nat → Int32 → Rs Unit) (V : VS) (u1v : Nat) (u2v : Nat) (u3v : Nat) (u4v : Nat) (y5 : Int32) : Rs Unit := (if gvp_in (y5 + 1) L = true then (if gvp_in (y5 + 2) L = true then bd (ev_L_terrain n V u1v (xs ((y5 + 1) : Int32).toNatClampNeg) (xs ((y5 + 2) : Int32).toNatClampNeg) u3v) (fun r2 V1 => (if gvp_in (y5 + 1) L = true then (if gvp_in (y5 + 2) L = true then bd (ev_X9_terrain n V1 u2v (xs ((y5 + 1) : Int32).toNatClampNeg) (xs ((y5 + 2) : Int32).toNatClampNeg)) (fun r4 V3 => eL_law_1227 n L xs k28v V3 u1v u2v u3v u4v y5) (fun _ _ => none) else none) else none)) (fun _ _ => none) else none) else none)
set_option maxHeartbeats 4000000 in
set_option maxRecDepth 100000 in
theorem sL_law_282 (n : Nat) (L : Nat) (xs : Nat → Int32) {S0 : MS} {k28 : MS → Nat → Nat → Nat → Nat → Int32 → Prop} {k28v : VS → Nat → Nat → Nat → Nat → Int32 → Rs Unit} (hk28 : ∀ (S : MS) (V : VS) (p0 p0v : Nat) (p1 p1v : Nat) (p2 p2v : Nat) (p3 p3v : Nat) (p4 : Int32), SM S V → Ex S0 S → Ad S p0 p0v → Ad S p1 p1v → Ad S p2 p2v → Ad S p3 p3v → gd (k28v V p0v p1v p2v p3v p4) AT BT → k28 S p0 p1 p2 p3 p4) {S : MS} {V : VS} {u1 u1v : Nat} {u2 u2v : Nat} {u3 u3v : Nat} {u4 u4v : Nat} {y5 : Int32} (hS : SM S V) (hx : Ex S0 S) (h_u1 : Ad S u1 u1v) (h_u2 : Ad S u2 u2v) (h_u3 : Ad S u3 u3v) (h_u4 : Ad S u4 u4v) (hQ : gd (eL_law_282 n L xs k28v V u1v u2v u3v u4v y5) AT BT) : wL_law_282 L xs k28 S u1 u2 u3 u4 y5 := by
  unfold wL_law_282
  unfold eL_law_282 at hQ
  refine st_gd (fun h => by exact gvp_in_of h) hQ (fun hQ => ?_)
  refine st_gd (fun h => by exact gvp_in_of h) hQ (fun hQ => ?_)
  refine sim_L_terrain n hS h_u1 rfl rfl h_u3 ?_
  refine gd_mono (gd_bd hQ) (fun r2 V1 hQ S1 hS1 xS => ?_) (fun E V9 hQ => (gd_none hQ).elim)
  have hx1 : Ex S0 S1 := Ex_tr hx xS
  have h1_u1 := xS _ _ h_u1
  have h1_u2 := xS _ _ h_u2
  have h1_u3 := xS _ _ h_u3
  have h1_u4 := xS _ _ h_u4
  refine st_gd (fun h => by exact gvp_in_of h) hQ (fun hQ => ?_)
  refine st_gd (fun h => by exact gvp_in_of h) hQ (fun hQ => ?_)
  refine sim_X9_terrain n hS1 h1_u2 rfl rfl ?_
  refine gd_mono (gd_bd hQ) (fun r4 V3 hQ S3 hS3 xS => ?_) (fun E V9 hQ => (gd_none hQ).elim)
  have hx3 : Ex S0 S3 := Ex_tr hx1 xS
  have h3_u1 := xS _ _ h1_u1
  have h3_u2 := xS _ _ h1_u2
  have h3_u3 := xS _ _ h1_u3
  have h3_u4 := xS _ _ h1_u4
  exact sL_law_1227 n L xs hk28 hS3 hx3 h3_u1 h3_u2 h3_u3 h3_u4 hQ
def eL_law_322 (n : Nat) (L : Nat) (xs : Nat → Int32) (k28v : VS → Nat → Nat → Nat → Nat → Int32 → Rs Unit) (V : VS) (u1v : Nat) (u2v : Nat) (u3v : Nat) (u4v : Nat) (y5 : Int32) : Rs Unit := (if gvp_in (y5 + 1) L = true then (if gvp_in (y5 + 2) L = true then bd (ev_L_isSeen n V u1v (xs ((y5 + 1) : Int32).toNatClampNeg) (xs ((y5 + 2) : Int32).toNatClampNeg) u3v) (fun r2 V1 => (if gvp_in (y5 + 1) L = true then (if gvp_in (y5 + 2) L = true then bd (ev_X9_isSeen n V1 u2v (xs ((y5 + 1) : Int32).toNatClampNeg) (xs ((y5 + 2) : Int32).toNatClampNeg)) (fun r4 V3 => eL_law_1227 n L xs k28v V3 u1v u2v u3v u4v y5) (fun _ _ => none) else none) else none)) (fun _ _ => none) else none) else none)
set_option maxHeartbeats 4000000 in
set_option maxRecDepth 100000 in
theorem sL_law_322 (n : Nat) (L : Nat) (xs : Nat → Int32) {S0 : MS} {k28 : MS → Nat → Nat → Nat → Nat → Int32 → Prop} {k28v : VS → Nat → Nat → Nat → Nat → Int32 → Rs Unit} (hk28 : ∀ (S : MS) (V : VS) (p0 p0v : Nat) (p1 p1v : Nat) (p2 p2v : Nat) (p3 p3v : Nat) (p4 : Int32), SM S V → Ex S0 S → Ad S p0 p0v → Ad S p1 p1v → Ad S p2 p2v → Ad S p3 p3v → gd (k28v V p0v p1v p2v p3v p4) AT BT → k28 S p0 p1 p2 p3 p4) {S : MS} {V : VS} {u1 u1v : Nat} {u2 u2v : Nat} {u3 u3v : Nat} {u4 u4v : Nat} {y5 : Int32} (hS : SM S V) (hx : Ex S0 S) (h_u1 : Ad S u1 u1v) (h_u2 : Ad S u2 u2v) (h_u3 : Ad S u3 u3v) (h_u4 : Ad S u4 u4v) (hQ : gd (eL_law_322 n L xs k28v V u1v u2v u3v u4v y5) AT BT) : wL_law_322 L xs k28 S u1 u2 u3 u4 y5 := by
  unfold wL_law_322
  unfold eL_law_322 at hQ
  refine st_gd (fun h => by exact gvp_in_of h) hQ (fun hQ => ?_)
  refine st_gd (fun h => by exact gvp_in_of h) hQ (fun hQ => ?_)
  refine sim_L_isSeen n hS h_u1 rfl rfl h_u3 ?_
  refine gd_mono (gd_bd hQ) (fun r2 V1 hQ S1 hS1 xS => ?_) (fun E V9 hQ => (gd_none hQ).elim)
  have hx1 : Ex S0 S1 := Ex_tr hx xS
  have h1_u1 := xS _ _ h_u1
  have h1_u2 := xS _ _ h_u2
  have h1_u3 := xS _ _ h_u3
  have h1_u4 := xS _ _ h_u4
  refine st_gd (fun h => by exact gvp_in_of h) hQ (fun hQ => ?_)
  refine st_gd (fun h => by exact gvp_in_of h) hQ (fun hQ => ?_)
  refine sim_X9_isSeen n hS1 h1_u2 rfl rfl ?_
  refine gd_mono (gd_bd hQ) (fun r4 V3 hQ S3 hS3 xS => ?_) (fun E V9 hQ => (gd_none hQ).elim)
  have hx3 : Ex S0 S3 := Ex_tr hx1 xS
  have h3_u1 := xS _ _ h1_u1
  have h3_u2 := xS _ _ h1_u2
  have h3_u3 := xS _ _ h1_u3
  have h3_u4 := xS _ _ h1_u4
  exact sL_law_1227 n L xs hk28 hS3 hx3 h3_u1 h3_u2 h3_u3 h3_u4 hQ
def eL_law_362 (n : Nat) (L : Nat) (xs : Nat → Int32) (k28v : VS → Nat → Nat → Nat → Nat → Int32 → Rs Unit) (V : VS) (u1v : Nat) (u2v : Nat) (u3v : Nat) (u4v : Nat) (y5 : Int32) : Rs Unit := (if gvp_in (y5 + 1) L = true then (if gvp_in (y5 + 2) L = true then bd (ev_L_cover n V u1v (xs ((y5 + 1) : Int32).toNatClampNeg) (xs ((y5 + 2) : Int32).toNatClampNeg) u3v) (fun r2 V1 => (if gvp_in (y5 + 1) L = true then (if gvp_in (y5 + 2) L = true then bd (ev_X9_cover n V1 u2v (xs ((y5 + 1) : Int32).toNatClampNeg) (xs ((y5 + 2) : Int32).toNatClampNeg)) (fun r4 V3 => eL_law_1227 n L xs k28v V3 u1v u2v u3v u4v y5) (fun _ _ => none) else none) else none)) (fun _ _ => none) else none) else none)
set_option maxHeartbeats 4000000 in
set_option maxRecDepth 100000 in
theorem sL_law_362 (n : Nat) (L : Nat) (xs : Nat → Int32) {S0 : MS} {k28 : MS → Nat → Nat → Nat → Nat → Int32 → Prop} {k28v : VS → Nat → Nat → Nat → Nat → Int32 → Rs Unit} (hk28 : ∀ (S : MS) (V : VS) (p0 p0v : Nat) (p1 p1v : Nat) (p2 p2v : Nat) (p3 p3v : Nat) (p4 : Int32), SM S V → Ex S0 S → Ad S p0 p0v → Ad S p1 p1v → Ad S p2 p2v → Ad S p3 p3v → gd (k28v V p0v p1v p2v p3v p4) AT BT → k28 S p0 p1 p2 p3 p4) {S : MS} {V : VS} {u1 u1v : Nat} {u2 u2v : Nat} {u3 u3v : Nat} {u4 u4v : Nat} {y5 : Int32} (hS : SM S V) (hx : Ex S0 S) (h_u1 : Ad S u1 u1v) (h_u2 : Ad S u2 u2v) (h_u3 : Ad S u3 u3v) (h_u4 : Ad S u4 u4v) (hQ : gd (eL_law_362 n L xs k28v V u1v u2v u3v u4v y5) AT BT) : wL_law_362 L xs k28 S u1 u2 u3 u4 y5 := by
  unfold wL_law_362
  unfold eL_law_362 at hQ
  refine st_gd (fun h => by exact gvp_in_of h) hQ (fun hQ => ?_)
  refine st_gd (fun h => by exact gvp_in_of h) hQ (fun hQ => ?_)
  refine sim_L_cover n hS h_u1 rfl rfl h_u3 ?_
  refine gd_mono (gd_bd hQ) (fun r2 V1 hQ S1 hS1 xS => ?_) (fun E V9 hQ => (gd_none hQ).elim)
  have hx1 : Ex S0 S1 := Ex_tr hx xS
  have h1_u1 := xS _ _ h_u1
  have h1_u2 := xS _ _ h_u2
  have h1_u3 := xS _ _ h_u3
  have h1_u4 := xS _ _ h_u4
  refine st_gd (fun h => by exact gvp_in_of h) hQ (fun hQ => ?_)
  refine st_gd (fun h => by exact gvp_in_of h) hQ (fun hQ => ?_)
  refine sim_X9_cover n hS1 h1_u2 rfl rfl ?_
  refine gd_mono (gd_bd hQ) (fun r4 V3 hQ S3 hS3 xS => ?_) (fun E V9 hQ => (gd_none hQ).elim)
  have hx3 : Ex S0 S3 := Ex_tr hx1 xS
  have h3_u1 := xS _ _ h1_u1
  have h3_u2 := xS _ _ h1_u2
  have h3_u3 := xS _ _ h1_u3
  have h3_u4 := xS _ _ h1_u4
  exact sL_law_1227 n L xs hk28 hS3 hx3 h3_u1 h3_u2 h3_u3 h3_u4 hQ
def eL_law_402 (n : Nat) (L : Nat) (xs : Nat → Int32) (k28v : VS → Nat → Nat → Nat → Nat → Int32 → Rs Unit) (V : VS) (u1v : Nat) (u2v : Nat) (u3v : Nat) (u4v : Nat) (y5 : Int32) : Rs Unit := (if gvp_in (y5 + 1) L = true then (if gvp_in (y5 + 2) L = true then (if gvp_in (y5 + 3) L = true then bd (ev_L_addUnit n V u1v (xs ((y5 + 1) : Int32).toNatClampNeg) (xs ((y5 + 2) : Int32).toNatClampNeg) (xs ((y5 + 3) : Int32).toNatClampNeg) u3v) (fun r2 V1 => (if gvp_in (y5 + 1) L = true then (if gvp_in (y5 + 2) L = true then (if gvp_in (y5 + 3) L = true then bd (ev_X9_addUnit n V1 u2v (xs ((y5 + 1) : Int32).toNatClampNeg) (xs ((y5 + 2) : Int32).toNatClampNeg) (xs ((y5 + 3) : Int32).toNatClampNeg)) (fun r4 V3 => eL_law_1227 n L xs k28v V3 u1v u2v u3v u4v y5) (fun _ _ => none) else none) else none) else none)) (fun _ _ => none) else none) else none) else none)
set_option maxHeartbeats 4000000 in
set_option maxRecDepth 100000 in
theorem sL_law_402 (n : Nat) (L : Nat) (xs : Nat → Int32) {S0 : MS} {k28 : MS → Nat → Nat → Nat → Nat → Int32 → Prop} {k28v : VS → Nat → Nat → Nat → Nat → Int32 → Rs Unit} (hk28 : ∀ (S : MS) (V : VS) (p0 p0v : Nat) (p1 p1v : Nat) (p2 p2v : Nat) (p3 p3v : Nat) (p4 : Int32), SM S V → Ex S0 S → Ad S p0 p0v → Ad S p1 p1v → Ad S p2 p2v → Ad S p3 p3v → gd (k28v V p0v p1v p2v p3v p4) AT BT → k28 S p0 p1 p2 p3 p4) {S : MS} {V : VS} {u1 u1v : Nat} {u2 u2v : Nat} {u3 u3v : Nat} {u4 u4v : Nat} {y5 : Int32} (hS : SM S V) (hx : Ex S0 S) (h_u1 : Ad S u1 u1v) (h_u2 : Ad S u2 u2v) (h_u3 : Ad S u3 u3v) (h_u4 : Ad S u4 u4v) (hQ : gd (eL_law_402 n L xs k28v V u1v u2v u3v u4v y5) AT BT) : wL_law_402 L xs k28 S u1 u2 u3 u4 y5 := by
  unfold wL_law_402
  unfold eL_law_402 at hQ
  refine st_gd (fun h => by exact gvp_in_of h) hQ (fun hQ => ?_)
  refine st_gd (fun h => by exact gvp_in_of h) hQ (fun hQ => ?_)
  refine st_gd (fun h => by exact gvp_in_of h) hQ (fun hQ => ?_)
  refine sim_L_addUnit n hS h_u1 rfl rfl rfl h_u3 ?_
  refine gd_mono (gd_bd hQ) (fun r2 V1 hQ S1 hS1 xS => ?_) (fun E V9 hQ => (gd_none hQ).elim)
  have hx1 : Ex S0 S1 := Ex_tr hx xS
  have h1_u1 := xS _ _ h_u1
  have h1_u2 := xS _ _ h_u2
  have h1_u3 := xS _ _ h_u3
  have h1_u4 := xS _ _ h_u4
  refine st_gd (fun h => by exact gvp_in_of h) hQ (fun hQ => ?_)
  refine st_gd (fun h => by exact gvp_in_of h) hQ (fun hQ => ?_)
  refine st_gd (fun h => by exact gvp_in_of h) hQ (fun hQ => ?_)
  refine sim_X9_addUnit n hS1 h1_u2 rfl rfl rfl ?_
  refine gd_mono (gd_bd hQ) (fun r4 V3 hQ S3 hS3 xS => ?_) (fun E V9 hQ => (gd_none hQ).elim)
  have hx3 : Ex S0 S3 := Ex_tr hx1 xS
  have h3_u1 := xS _ _ h1_u1
  have h3_u2 := xS _ _ h1_u2
  have h3_u3 := xS _ _ h1_u3
  have h3_u4 := xS _ _ h1_u4
  exact sL_law_1227 n L xs hk28 hS3 hx3 h3_u1 h3_u2 h3_u3 h3_u4 hQ
def eL_law_454 (n : Nat) (L : Nat) (xs : Nat → Int32) (k28v : VS → Nat → Nat → Nat → Nat → Int32 → Rs Unit) (V : VS) (u1v : Nat) (u2v : Nat) (u3v : Nat) (u4v : Nat) (y5 : Int32) : Rs Unit := bd (ev_X8_unitCount n V u1v) (fun r2 V1 => bd (ev_X9_unitCount n V1 u2v) (fun r4 V3 => eL_law_1227 n L xs k28v V3 u1v u2v u3v u4v y5) (fun _ _ => none)) (fun _ _ => none)
set_option maxHeartbeats 4000000 in
set_option maxRecDepth 100000 in
theorem sL_law_454 (n : Nat) (L : Nat) (xs : Nat → Int32) {S0 : MS} {k28 : MS → Nat → Nat → Nat → Nat → Int32 → Prop} {k28v : VS → Nat → Nat → Nat → Nat → Int32 → Rs Unit} (hk28 : ∀ (S : MS) (V : VS) (p0 p0v : Nat) (p1 p1v : Nat) (p2 p2v : Nat) (p3 p3v : Nat) (p4 : Int32), SM S V → Ex S0 S → Ad S p0 p0v → Ad S p1 p1v → Ad S p2 p2v → Ad S p3 p3v → gd (k28v V p0v p1v p2v p3v p4) AT BT → k28 S p0 p1 p2 p3 p4) {S : MS} {V : VS} {u1 u1v : Nat} {u2 u2v : Nat} {u3 u3v : Nat} {u4 u4v : Nat} {y5 : Int32} (hS : SM S V) (hx : Ex S0 S) (h_u1 : Ad S u1 u1v) (h_u2 : Ad S u2 u2v) (h_u3 : Ad S u3 u3v) (h_u4 : Ad S u4 u4v) (hQ : gd (eL_law_454 n L xs k28v V u1v u2v u3v u4v y5) AT BT) : wL_law_454 L xs k28 S u1 u2 u3 u4 y5 := by
  unfold wL_law_454
  unfold eL_law_454 at hQ
  refine sim_X8_unitCount n hS h_u1 ?_
  refine gd_mono (gd_bd hQ) (fun r2 V1 hQ S1 hS1 xS => ?_) (fun E V9 hQ => (gd_none hQ).elim)
  have hx1 : Ex S0 S1 := Ex_tr hx xS
  have h1_u1 := xS _ _ h_u1
  have h1_u2 := xS _ _ h_u2
  have h1_u3 := xS _ _ h_u3
  have h1_u4 := xS _ _ h_u4
  refine sim_X9_unitCount n hS1 h1_u2 ?_
  refine gd_mono (gd_bd hQ) (fun r4 V3 hQ S3 hS3 xS => ?_) (fun E V9 hQ => (gd_none hQ).elim)
  have hx3 : Ex S0 S3 := Ex_tr hx1 xS
  have h3_u1 := xS _ _ h1_u1
  have h3_u2 := xS _ _ h1_u2
  have h3_u3 := xS _ _ h1_u3
  have h3_u4 := xS _ _ h1_u4
  exact sL_law_1227 n L xs hk28 hS3 hx3 h3_u1 h3_u2 h3_u3 h3_u4 hQ
def eL_law_467 (n : Nat) (L : Nat) (xs : Nat → Int32) (k28v : VS → Nat → Nat → Nat → Nat → Int32 → Rs Unit) (V : VS) (u1v : Nat) (u2v : Nat) (u3v : Nat) (u4v : Nat) (y5 : Int32) : Rs Unit := (if gvp_in (y5 + 1) L = true then (if gvp_in (y5 + 2) L = true then bd (ev_L_unit n V u1v (xs ((y5 + 1) : Int32).toNatClampNeg) (xs ((y5 + 2) : Int32).toNatClampNeg) u3v) (fun r2 V1 => (if gvp_in (y5 + 1) L = true then (if gvp_in (y5 + 2) L = true then bd (ev_X9_unit n V1 u2v (xs ((y5 + 1) : Int32).toNatClampNeg) (xs ((y5 + 2) : Int32).toNatClampNeg)) (fun r4 V3 => eL_law_1227 n L xs k28v V3 u1v u2v u3v u4v y5) (fun _ _ => none) else none) else none)) (fun _ _ => none) else none) else none)
set_option maxHeartbeats 4000000 in
set_option maxRecDepth 100000 in
theorem sL_law_467 (n : Nat) (L : Nat) (xs : Nat → Int32) {S0 : MS} {k28 : MS → Nat → Nat → Nat → Nat → Int32 → Prop} {k28v : VS → Nat → Nat → Nat → Nat → Int32 → Rs Unit} (hk28 : ∀ (S : MS) (V : VS) (p0 p0v : Nat) (p1 p1v : Nat) (p2 p2v : Nat) (p3 p3v : Nat) (p4 : Int32), SM S V → Ex S0 S → Ad S p0 p0v → Ad S p1 p1v → Ad S p2 p2v → Ad S p3 p3v → gd (k28v V p0v p1v p2v p3v p4) AT BT → k28 S p0 p1 p2 p3 p4) {S : MS} {V : VS} {u1 u1v : Nat} {u2 u2v : Nat} {u3 u3v : Nat} {u4 u4v : Nat} {y5 : Int32} (hS : SM S V) (hx : Ex S0 S) (h_u1 : Ad S u1 u1v) (h_u2 : Ad S u2 u2v) (h_u3 : Ad S u3 u3v) (h_u4 : Ad S u4 u4v) (hQ : gd (eL_law_467 n L xs k28v V u1v u2v u3v u4v y5) AT BT) : wL_law_467 L xs k28 S u1 u2 u3 u4 y5 := by
  unfold wL_law_467
  unfold eL_law_467 at hQ
  refine st_gd (fun h => by exact gvp_in_of h) hQ (fun hQ => ?_)
  refine st_gd (fun h => by exact gvp_in_of h) hQ (fun hQ => ?_)
  refine sim_L_unit n hS h_u1 rfl rfl h_u3 ?_
  refine gd_mono (gd_bd hQ) (fun r2 V1 hQ S1 hS1 xS => ?_) (fun E V9 hQ => (gd_none hQ).elim)
  have hx1 : Ex S0 S1 := Ex_tr hx xS
  have h1_u1 := xS _ _ h_u1
  have h1_u2 := xS _ _ h_u2
  have h1_u3 := xS _ _ h_u3
  have h1_u4 := xS _ _ h_u4
  refine st_gd (fun h => by exact gvp_in_of h) hQ (fun hQ => ?_)
  refine st_gd (fun h => by exact gvp_in_of h) hQ (fun hQ => ?_)
  refine sim_X9_unit n hS1 h1_u2 rfl rfl ?_
  refine gd_mono (gd_bd hQ) (fun r4 V3 hQ S3 hS3 xS => ?_) (fun E V9 hQ => (gd_none hQ).elim)
  have hx3 : Ex S0 S3 := Ex_tr hx1 xS
  have h3_u1 := xS _ _ h1_u1
  have h3_u2 := xS _ _ h1_u2
  have h3_u3 := xS _ _ h1_u3
  have h3_u4 := xS _ _ h1_u4
  exact sL_law_1227 n L xs hk28 hS3 hx3 h3_u1 h3_u2 h3_u3 h3_u4 hQ
def eL_law_507 (n : Nat) (L : Nat) (xs : Nat → Int32) (k28v : VS → Nat → Nat → Nat → Nat → Int32 → Rs Unit) (V : VS) (u1v : Nat) (u2v : Nat) (u3v : Nat) (u4v : Nat) (y5 : Int32) : Rs Unit := bd (ev_L_begin n V u1v u3v) (fun r2 V1 => bd (ev_X9_begin n V1 u2v) (fun r4 V3 => eL_law_1227 n L xs k28v V3 u1v u2v u3v u4v y5) (fun _ _ => none)) (fun _ _ => none)
set_option maxHeartbeats 4000000 in
set_option maxRecDepth 100000 in
theorem sL_law_507 (n : Nat) (L : Nat) (xs : Nat → Int32) {S0 : MS} {k28 : MS → Nat → Nat → Nat → Nat → Int32 → Prop} {k28v : VS → Nat → Nat → Nat → Nat → Int32 → Rs Unit} (hk28 : ∀ (S : MS) (V : VS) (p0 p0v : Nat) (p1 p1v : Nat) (p2 p2v : Nat) (p3 p3v : Nat) (p4 : Int32), SM S V → Ex S0 S → Ad S p0 p0v → Ad S p1 p1v → Ad S p2 p2v → Ad S p3 p3v → gd (k28v V p0v p1v p2v p3v p4) AT BT → k28 S p0 p1 p2 p3 p4) {S : MS} {V : VS} {u1 u1v : Nat} {u2 u2v : Nat} {u3 u3v : Nat} {u4 u4v : Nat} {y5 : Int32} (hS : SM S V) (hx : Ex S0 S) (h_u1 : Ad S u1 u1v) (h_u2 : Ad S u2 u2v) (h_u3 : Ad S u3 u3v) (h_u4 : Ad S u4 u4v) (hQ : gd (eL_law_507 n L xs k28v V u1v u2v u3v u4v y5) AT BT) : wL_law_507 L xs k28 S u1 u2 u3 u4 y5 := by
  unfold wL_law_507
  unfold eL_law_507 at hQ
  refine sim_L_begin n hS h_u1 h_u3 ?_
  refine gd_mono (gd_bd hQ) (fun r2 V1 hQ S1 hS1 xS => ?_) (fun E V9 hQ => (gd_none hQ).elim)
  have hx1 : Ex S0 S1 := Ex_tr hx xS
  have h1_u1 := xS _ _ h_u1
  have h1_u2 := xS _ _ h_u2
  have h1_u3 := xS _ _ h_u3
  have h1_u4 := xS _ _ h_u4
  refine sim_X9_begin n hS1 h1_u2 ?_
  refine gd_mono (gd_bd hQ) (fun r4 V3 hQ S3 hS3 xS => ?_) (fun E V9 hQ => (gd_none hQ).elim)
  have hx3 : Ex S0 S3 := Ex_tr hx1 xS
  have h3_u1 := xS _ _ h1_u1
  have h3_u2 := xS _ _ h1_u2
  have h3_u3 := xS _ _ h1_u3
  have h3_u4 := xS _ _ h1_u4
  exact sL_law_1227 n L xs hk28 hS3 hx3 h3_u1 h3_u2 h3_u3 h3_u4 hQ
def eL_law_523 (n : Nat) (L : Nat) (xs : Nat → Int32) (k28v : VS → Nat → Nat → Nat → Nat → Int32 → Rs Unit) (V : VS) (u1v : Nat) (u2v : Nat) (u3v : Nat) (u4v : Nat) (y5 : Int32) : Rs Unit := bd (ev_X8_condition n V u1v) (fun r2 V1 => bd (ev_X9_condition n V1 u2v) (fun r4 V3 => eL_law_1227 n L xs k28v V3 u1v u2v u3v u4v y5) (fun _ _ => none)) (fun _ _ => none)
set_option maxHeartbeats 4000000 in
set_option maxRecDepth 100000 in
theorem sL_law_523 (n : Nat) (L : Nat) (xs : Nat → Int32) {S0 : MS} {k28 : MS → Nat → Nat → Nat → Nat → Int32 → Prop} {k28v : VS → Nat → Nat → Nat → Nat → Int32 → Rs Unit} (hk28 : ∀ (S : MS) (V : VS) (p0 p0v : Nat) (p1 p1v : Nat) (p2 p2v : Nat) (p3 p3v : Nat) (p4 : Int32), SM S V → Ex S0 S → Ad S p0 p0v → Ad S p1 p1v → Ad S p2 p2v → Ad S p3 p3v → gd (k28v V p0v p1v p2v p3v p4) AT BT → k28 S p0 p1 p2 p3 p4) {S : MS} {V : VS} {u1 u1v : Nat} {u2 u2v : Nat} {u3 u3v : Nat} {u4 u4v : Nat} {y5 : Int32} (hS : SM S V) (hx : Ex S0 S) (h_u1 : Ad S u1 u1v) (h_u2 : Ad S u2 u2v) (h_u3 : Ad S u3 u3v) (h_u4 : Ad S u4 u4v) (hQ : gd (eL_law_523 n L xs k28v V u1v u2v u3v u4v y5) AT BT) : wL_law_523 L xs k28 S u1 u2 u3 u4 y5 := by
  unfold wL_law_523
  unfold eL_law_523 at hQ
  refine sim_X8_condition n hS h_u1 ?_
  refine gd_mono (gd_bd hQ) (fun r2 V1 hQ S1 hS1 xS => ?_) (fun E V9 hQ => (gd_none hQ).elim)
  have hx1 : Ex S0 S1 := Ex_tr hx xS
  have h1_u1 := xS _ _ h_u1
  have h1_u2 := xS _ _ h_u2
  have h1_u3 := xS _ _ h_u3
  have h1_u4 := xS _ _ h_u4
  refine sim_X9_condition n hS1 h1_u2 ?_
  refine gd_mono (gd_bd hQ) (fun r4 V3 hQ S3 hS3 xS => ?_) (fun E V9 hQ => (gd_none hQ).elim)
  have hx3 : Ex S0 S3 := Ex_tr hx1 xS
  have h3_u1 := xS _ _ h1_u1
  have h3_u2 := xS _ _ h1_u2
  have h3_u3 := xS _ _ h1_u3
  have h3_u4 := xS _ _ h1_u4
  exact sL_law_1227 n L xs hk28 hS3 hx3 h3_u1 h3_u2 h3_u3 h3_u4 hQ
def eL_law_536 (n : Nat) (L : Nat) (xs : Nat → Int32) (k28v : VS → Nat → Nat → Nat → Nat → Int32 → Rs Unit) (V : VS) (u1v : Nat) (u2v : Nat) (u3v : Nat) (u4v : Nat) (y5 : Int32) : Rs Unit := bd (ev_X8_round n V u1v) (fun r2 V1 => bd (ev_X9_round n V1 u2v) (fun r4 V3 => eL_law_1227 n L xs k28v V3 u1v u2v u3v u4v y5) (fun _ _ => none)) (fun _ _ => none)
set_option maxHeartbeats 4000000 in
set_option maxRecDepth 100000 in
theorem sL_law_536 (n : Nat) (L : Nat) (xs : Nat → Int32) {S0 : MS} {k28 : MS → Nat → Nat → Nat → Nat → Int32 → Prop} {k28v : VS → Nat → Nat → Nat → Nat → Int32 → Rs Unit} (hk28 : ∀ (S : MS) (V : VS) (p0 p0v : Nat) (p1 p1v : Nat) (p2 p2v : Nat) (p3 p3v : Nat) (p4 : Int32), SM S V → Ex S0 S → Ad S p0 p0v → Ad S p1 p1v → Ad S p2 p2v → Ad S p3 p3v → gd (k28v V p0v p1v p2v p3v p4) AT BT → k28 S p0 p1 p2 p3 p4) {S : MS} {V : VS} {u1 u1v : Nat} {u2 u2v : Nat} {u3 u3v : Nat} {u4 u4v : Nat} {y5 : Int32} (hS : SM S V) (hx : Ex S0 S) (h_u1 : Ad S u1 u1v) (h_u2 : Ad S u2 u2v) (h_u3 : Ad S u3 u3v) (h_u4 : Ad S u4 u4v) (hQ : gd (eL_law_536 n L xs k28v V u1v u2v u3v u4v y5) AT BT) : wL_law_536 L xs k28 S u1 u2 u3 u4 y5 := by
  unfold wL_law_536
  unfold eL_law_536 at hQ
  refine sim_X8_round n hS h_u1 ?_
  refine gd_mono (gd_bd hQ) (fun r2 V1 hQ S1 hS1 xS => ?_) (fun E V9 hQ => (gd_none hQ).elim)
  have hx1 : Ex S0 S1 := Ex_tr hx xS
  have h1_u1 := xS _ _ h_u1
  have h1_u2 := xS _ _ h_u2
  have h1_u3 := xS _ _ h_u3
  have h1_u4 := xS _ _ h_u4
  refine sim_X9_round n hS1 h1_u2 ?_
  refine gd_mono (gd_bd hQ) (fun r4 V3 hQ S3 hS3 xS => ?_) (fun E V9 hQ => (gd_none hQ).elim)
  have hx3 : Ex S0 S3 := Ex_tr hx1 xS
  have h3_u1 := xS _ _ h1_u1
  have h3_u2 := xS _ _ h1_u2
  have h3_u3 := xS _ _ h1_u3
  have h3_u4 := xS _ _ h1_u4
  exact sL_law_1227 n L xs hk28 hS3 hx3 h3_u1 h3_u2 h3_u3 h3_u4 hQ
def eL_law_549 (n : Nat) (L : Nat) (xs : Nat → Int32) (k28v : VS → Nat → Nat → Nat → Nat → Int32 → Rs Unit) (V : VS) (u1v : Nat) (u2v : Nat) (u3v : Nat) (u4v : Nat) (y5 : Int32) : Rs Unit := bd (ev_L_current n V u1v u3v) (fun r2 V1 => bd (ev_X9_current n V1 u2v) (fun r4 V3 => eL_law_1227 n L xs k28v V3 u1v u2v u3v u4v y5) (fun _ _ => none)) (fun _ _ => none)
set_option maxHeartbeats 4000000 in
set_option maxRecDepth 100000 in
theorem sL_law_549 (n : Nat) (L : Nat) (xs : Nat → Int32) {S0 : MS} {k28 : MS → Nat → Nat → Nat → Nat → Int32 → Prop} {k28v : VS → Nat → Nat → Nat → Nat → Int32 → Rs Unit} (hk28 : ∀ (S : MS) (V : VS) (p0 p0v : Nat) (p1 p1v : Nat) (p2 p2v : Nat) (p3 p3v : Nat) (p4 : Int32), SM S V → Ex S0 S → Ad S p0 p0v → Ad S p1 p1v → Ad S p2 p2v → Ad S p3 p3v → gd (k28v V p0v p1v p2v p3v p4) AT BT → k28 S p0 p1 p2 p3 p4) {S : MS} {V : VS} {u1 u1v : Nat} {u2 u2v : Nat} {u3 u3v : Nat} {u4 u4v : Nat} {y5 : Int32} (hS : SM S V) (hx : Ex S0 S) (h_u1 : Ad S u1 u1v) (h_u2 : Ad S u2 u2v) (h_u3 : Ad S u3 u3v) (h_u4 : Ad S u4 u4v) (hQ : gd (eL_law_549 n L xs k28v V u1v u2v u3v u4v y5) AT BT) : wL_law_549 L xs k28 S u1 u2 u3 u4 y5 := by
  unfold wL_law_549
  unfold eL_law_549 at hQ
  refine sim_L_current n hS h_u1 h_u3 ?_
  refine gd_mono (gd_bd hQ) (fun r2 V1 hQ S1 hS1 xS => ?_) (fun E V9 hQ => (gd_none hQ).elim)
  have hx1 : Ex S0 S1 := Ex_tr hx xS
  have h1_u1 := xS _ _ h_u1
  have h1_u2 := xS _ _ h_u2
  have h1_u3 := xS _ _ h_u3
  have h1_u4 := xS _ _ h_u4
  refine sim_X9_current n hS1 h1_u2 ?_
  refine gd_mono (gd_bd hQ) (fun r4 V3 hQ S3 hS3 xS => ?_) (fun E V9 hQ => (gd_none hQ).elim)
  have hx3 : Ex S0 S3 := Ex_tr hx1 xS
  have h3_u1 := xS _ _ h1_u1
  have h3_u2 := xS _ _ h1_u2
  have h3_u3 := xS _ _ h1_u3
  have h3_u4 := xS _ _ h1_u4
  exact sL_law_1227 n L xs hk28 hS3 hx3 h3_u1 h3_u2 h3_u3 h3_u4 hQ
def eL_law_565 (n : Nat) (L : Nat) (xs : Nat → Int32) (k28v : VS → Nat → Nat → Nat → Nat → Int32 → Rs Unit) (V : VS) (u1v : Nat) (u2v : Nat) (u3v : Nat) (u4v : Nat) (y5 : Int32) : Rs Unit := (if gvp_in (y5 + 1) L = true then bd (ev_L_order n V u1v (xs ((y5 + 1) : Int32).toNatClampNeg) u3v) (fun r2 V1 => (if gvp_in (y5 + 1) L = true then bd (ev_X9_order n V1 u2v (xs ((y5 + 1) : Int32).toNatClampNeg)) (fun r4 V3 => eL_law_1227 n L xs k28v V3 u1v u2v u3v u4v y5) (fun _ _ => none) else none)) (fun _ _ => none) else none)
set_option maxHeartbeats 4000000 in
set_option maxRecDepth 100000 in
theorem sL_law_565 (n : Nat) (L : Nat) (xs : Nat → Int32) {S0 : MS} {k28 : MS → Nat → Nat → Nat → Nat → Int32 → Prop} {k28v : VS → Nat → Nat → Nat → Nat → Int32 → Rs Unit} (hk28 : ∀ (S : MS) (V : VS) (p0 p0v : Nat) (p1 p1v : Nat) (p2 p2v : Nat) (p3 p3v : Nat) (p4 : Int32), SM S V → Ex S0 S → Ad S p0 p0v → Ad S p1 p1v → Ad S p2 p2v → Ad S p3 p3v → gd (k28v V p0v p1v p2v p3v p4) AT BT → k28 S p0 p1 p2 p3 p4) {S : MS} {V : VS} {u1 u1v : Nat} {u2 u2v : Nat} {u3 u3v : Nat} {u4 u4v : Nat} {y5 : Int32} (hS : SM S V) (hx : Ex S0 S) (h_u1 : Ad S u1 u1v) (h_u2 : Ad S u2 u2v) (h_u3 : Ad S u3 u3v) (h_u4 : Ad S u4 u4v) (hQ : gd (eL_law_565 n L xs k28v V u1v u2v u3v u4v y5) AT BT) : wL_law_565 L xs k28 S u1 u2 u3 u4 y5 := by
  unfold wL_law_565
  unfold eL_law_565 at hQ
  refine st_gd (fun h => by exact gvp_in_of h) hQ (fun hQ => ?_)
  refine sim_L_order n hS h_u1 rfl h_u3 ?_
  refine gd_mono (gd_bd hQ) (fun r2 V1 hQ S1 hS1 xS => ?_) (fun E V9 hQ => (gd_none hQ).elim)
  have hx1 : Ex S0 S1 := Ex_tr hx xS
  have h1_u1 := xS _ _ h_u1
  have h1_u2 := xS _ _ h_u2
  have h1_u3 := xS _ _ h_u3
  have h1_u4 := xS _ _ h_u4
  refine st_gd (fun h => by exact gvp_in_of h) hQ (fun hQ => ?_)
  refine sim_X9_order n hS1 h1_u2 rfl ?_
  refine gd_mono (gd_bd hQ) (fun r4 V3 hQ S3 hS3 xS => ?_) (fun E V9 hQ => (gd_none hQ).elim)
  have hx3 : Ex S0 S3 := Ex_tr hx1 xS
  have h3_u1 := xS _ _ h1_u1
  have h3_u2 := xS _ _ h1_u2
  have h3_u3 := xS _ _ h1_u3
  have h3_u4 := xS _ _ h1_u4
  exact sL_law_1227 n L xs hk28 hS3 hx3 h3_u1 h3_u2 h3_u3 h3_u4 hQ
def eL_law_593 (n : Nat) (L : Nat) (xs : Nat → Int32) (k28v : VS → Nat → Nat → Nat → Nat → Int32 → Rs Unit) (V : VS) (u1v : Nat) (u2v : Nat) (u3v : Nat) (u4v : Nat) (y5 : Int32) : Rs Unit := (if gvp_in (y5 + 1) L = true then bd (ev_L_costs n V u1v (xs ((y5 + 1) : Int32).toNatClampNeg) u3v) (fun r2 V1 => (if gvp_in (y5 + 1) L = true then bd (ev_X9_costs n V1 u2v (xs ((y5 + 1) : Int32).toNatClampNeg)) (fun r4 V3 => eL_law_1227 n L xs k28v V3 u1v u2v u3v u4v y5) (fun _ _ => none) else none)) (fun _ _ => none) else none)
set_option maxHeartbeats 4000000 in
set_option maxRecDepth 100000 in
theorem sL_law_593 (n : Nat) (L : Nat) (xs : Nat → Int32) {S0 : MS} {k28 : MS → Nat → Nat → Nat → Nat → Int32 → Prop} {k28v : VS → Nat → Nat → Nat → Nat → Int32 → Rs Unit} (hk28 : ∀ (S : MS) (V : VS) (p0 p0v : Nat) (p1 p1v : Nat) (p2 p2v : Nat) (p3 p3v : Nat) (p4 : Int32), SM S V → Ex S0 S → Ad S p0 p0v → Ad S p1 p1v → Ad S p2 p2v → Ad S p3 p3v → gd (k28v V p0v p1v p2v p3v p4) AT BT → k28 S p0 p1 p2 p3 p4) {S : MS} {V : VS} {u1 u1v : Nat} {u2 u2v : Nat} {u3 u3v : Nat} {u4 u4v : Nat} {y5 : Int32} (hS : SM S V) (hx : Ex S0 S) (h_u1 : Ad S u1 u1v) (h_u2 : Ad S u2 u2v) (h_u3 : Ad S u3 u3v) (h_u4 : Ad S u4 u4v) (hQ : gd (eL_law_593 n L xs k28v V u1v u2v u3v u4v y5) AT BT) : wL_law_593 L xs k28 S u1 u2 u3 u4 y5 := by
  unfold wL_law_593
  unfold eL_law_593 at hQ
  refine st_gd (fun h => by exact gvp_in_of h) hQ (fun hQ => ?_)
  refine sim_L_costs n hS h_u1 rfl h_u3 ?_
  refine gd_mono (gd_bd hQ) (fun r2 V1 hQ S1 hS1 xS => ?_) (fun E V9 hQ => (gd_none hQ).elim)
  have hx1 : Ex S0 S1 := Ex_tr hx xS
  have h1_u1 := xS _ _ h_u1
  have h1_u2 := xS _ _ h_u2
  have h1_u3 := xS _ _ h_u3
  have h1_u4 := xS _ _ h_u4
  refine st_gd (fun h => by exact gvp_in_of h) hQ (fun hQ => ?_)
  refine sim_X9_costs n hS1 h1_u2 rfl ?_
  refine gd_mono (gd_bd hQ) (fun r4 V3 hQ S3 hS3 xS => ?_) (fun E V9 hQ => (gd_none hQ).elim)
  have hx3 : Ex S0 S3 := Ex_tr hx1 xS
  have h3_u1 := xS _ _ h1_u1
  have h3_u2 := xS _ _ h1_u2
  have h3_u3 := xS _ _ h1_u3
  have h3_u4 := xS _ _ h1_u4
  exact sL_law_1227 n L xs hk28 hS3 hx3 h3_u1 h3_u2 h3_u3 h3_u4 hQ
def eL_law_621 (n : Nat) (L : Nat) (xs : Nat → Int32) (k28v : VS → Nat → Nat → Nat → Nat → Int32 → Rs Unit) (V : VS) (u1v : Nat) (u2v : Nat) (u3v : Nat) (u4v : Nat) (y5 : Int32) : Rs Unit := (if gvp_in (y5 + 1) L = true then (if gvp_in (y5 + 2) L = true then bd (ev_L_pathCell n V u1v (xs ((y5 + 1) : Int32).toNatClampNeg) (xs ((y5 + 2) : Int32).toNatClampNeg) u3v) (fun r2 V1 => (if gvp_in (y5 + 1) L = true then (if gvp_in (y5 + 2) L = true then bd (ev_X9_pathCell n V1 u2v (xs ((y5 + 1) : Int32).toNatClampNeg) (xs ((y5 + 2) : Int32).toNatClampNeg)) (fun r4 V3 => eL_law_1227 n L xs k28v V3 u1v u2v u3v u4v y5) (fun _ _ => none) else none) else none)) (fun _ _ => none) else none) else none)
set_option maxHeartbeats 4000000 in
set_option maxRecDepth 100000 in
theorem sL_law_621 (n : Nat) (L : Nat) (xs : Nat → Int32) {S0 : MS} {k28 : MS → Nat → Nat → Nat → Nat → Int32 → Prop} {k28v : VS → Nat → Nat → Nat → Nat → Int32 → Rs Unit} (hk28 : ∀ (S : MS) (V : VS) (p0 p0v : Nat) (p1 p1v : Nat) (p2 p2v : Nat) (p3 p3v : Nat) (p4 : Int32), SM S V → Ex S0 S → Ad S p0 p0v → Ad S p1 p1v → Ad S p2 p2v → Ad S p3 p3v → gd (k28v V p0v p1v p2v p3v p4) AT BT → k28 S p0 p1 p2 p3 p4) {S : MS} {V : VS} {u1 u1v : Nat} {u2 u2v : Nat} {u3 u3v : Nat} {u4 u4v : Nat} {y5 : Int32} (hS : SM S V) (hx : Ex S0 S) (h_u1 : Ad S u1 u1v) (h_u2 : Ad S u2 u2v) (h_u3 : Ad S u3 u3v) (h_u4 : Ad S u4 u4v) (hQ : gd (eL_law_621 n L xs k28v V u1v u2v u3v u4v y5) AT BT) : wL_law_621 L xs k28 S u1 u2 u3 u4 y5 := by
  unfold wL_law_621
  unfold eL_law_621 at hQ
  refine st_gd (fun h => by exact gvp_in_of h) hQ (fun hQ => ?_)
  refine st_gd (fun h => by exact gvp_in_of h) hQ (fun hQ => ?_)
  refine sim_L_pathCell n hS h_u1 rfl rfl h_u3 ?_
  refine gd_mono (gd_bd hQ) (fun r2 V1 hQ S1 hS1 xS => ?_) (fun E V9 hQ => (gd_none hQ).elim)
  have hx1 : Ex S0 S1 := Ex_tr hx xS
  have h1_u1 := xS _ _ h_u1
  have h1_u2 := xS _ _ h_u2
  have h1_u3 := xS _ _ h_u3
  have h1_u4 := xS _ _ h_u4
  refine st_gd (fun h => by exact gvp_in_of h) hQ (fun hQ => ?_)
  refine st_gd (fun h => by exact gvp_in_of h) hQ (fun hQ => ?_)
  refine sim_X9_pathCell n hS1 h1_u2 rfl rfl ?_
  refine gd_mono (gd_bd hQ) (fun r4 V3 hQ S3 hS3 xS => ?_) (fun E V9 hQ => (gd_none hQ).elim)
  have hx3 : Ex S0 S3 := Ex_tr hx1 xS
  have h3_u1 := xS _ _ h1_u1
  have h3_u2 := xS _ _ h1_u2
  have h3_u3 := xS _ _ h1_u3
  have h3_u4 := xS _ _ h1_u4
  exact sL_law_1227 n L xs hk28 hS3 hx3 h3_u1 h3_u2 h3_u3 h3_u4 hQ
def eL_law_661 (n : Nat) (L : Nat) (xs : Nat → Int32) (k28v : VS → Nat → Nat → Nat → Nat → Int32 → Rs Unit) (V : VS) (u1v : Nat) (u2v : Nat) (u3v : Nat) (u4v : Nat) (y5 : Int32) : Rs Unit := (if gvp_in (y5 + 1) L = true then (if gvp_in (y5 + 2) L = true then bd (ev_L_chance n V u1v (xs ((y5 + 1) : Int32).toNatClampNeg) (xs ((y5 + 2) : Int32).toNatClampNeg) u4v) (fun r2 V1 => (if gvp_in (y5 + 1) L = true then (if gvp_in (y5 + 2) L = true then bd (ev_X9_chance n V1 u2v (xs ((y5 + 1) : Int32).toNatClampNeg) (xs ((y5 + 2) : Int32).toNatClampNeg)) (fun r4 V3 => eL_law_1227 n L xs k28v V3 u1v u2v u3v u4v y5) (fun _ _ => none) else none) else none)) (fun _ _ => none) else none) else none)
set_option maxHeartbeats 4000000 in
set_option maxRecDepth 100000 in
theorem sL_law_661 (n : Nat) (L : Nat) (xs : Nat → Int32) {S0 : MS} {k28 : MS → Nat → Nat → Nat → Nat → Int32 → Prop} {k28v : VS → Nat → Nat → Nat → Nat → Int32 → Rs Unit} (hk28 : ∀ (S : MS) (V : VS) (p0 p0v : Nat) (p1 p1v : Nat) (p2 p2v : Nat) (p3 p3v : Nat) (p4 : Int32), SM S V → Ex S0 S → Ad S p0 p0v → Ad S p1 p1v → Ad S p2 p2v → Ad S p3 p3v → gd (k28v V p0v p1v p2v p3v p4) AT BT → k28 S p0 p1 p2 p3 p4) {S : MS} {V : VS} {u1 u1v : Nat} {u2 u2v : Nat} {u3 u3v : Nat} {u4 u4v : Nat} {y5 : Int32} (hS : SM S V) (hx : Ex S0 S) (h_u1 : Ad S u1 u1v) (h_u2 : Ad S u2 u2v) (h_u3 : Ad S u3 u3v) (h_u4 : Ad S u4 u4v) (hQ : gd (eL_law_661 n L xs k28v V u1v u2v u3v u4v y5) AT BT) : wL_law_661 L xs k28 S u1 u2 u3 u4 y5 := by
  unfold wL_law_661
  unfold eL_law_661 at hQ
  refine st_gd (fun h => by exact gvp_in_of h) hQ (fun hQ => ?_)
  refine st_gd (fun h => by exact gvp_in_of h) hQ (fun hQ => ?_)
  refine sim_L_chance n hS h_u1 rfl rfl h_u4 ?_
  refine gd_mono (gd_bd hQ) (fun r2 V1 hQ S1 hS1 xS => ?_) (fun E V9 hQ => (gd_none hQ).elim)
  have hx1 : Ex S0 S1 := Ex_tr hx xS
  have h1_u1 := xS _ _ h_u1
  have h1_u2 := xS _ _ h_u2
  have h1_u3 := xS _ _ h_u3
  have h1_u4 := xS _ _ h_u4
  refine st_gd (fun h => by exact gvp_in_of h) hQ (fun hQ => ?_)
  refine st_gd (fun h => by exact gvp_in_of h) hQ (fun hQ => ?_)
  refine sim_X9_chance n hS1 h1_u2 rfl rfl ?_
  refine gd_mono (gd_bd hQ) (fun r4 V3 hQ S3 hS3 xS => ?_) (fun E V9 hQ => (gd_none hQ).elim)
  have hx3 : Ex S0 S3 := Ex_tr hx1 xS
  have h3_u1 := xS _ _ h1_u1
  have h3_u2 := xS _ _ h1_u2
  have h3_u3 := xS _ _ h1_u3
  have h3_u4 := xS _ _ h1_u4
  exact sL_law_1227 n L xs hk28 hS3 hx3 h3_u1 h3_u2 h3_u3 h3_u4 hQ
def eL_law_702 (n : Nat) (L : Nat) (xs : Nat → Int32) (k28v : VS → Nat → Nat → Nat → Nat → Int32 → Rs Unit) (V : VS) (u1v : Nat) (u2v : Nat) (u3v : Nat) (u4v : Nat) (y5 : Int32) : Rs Unit := (if gvp_in (y5 + 1) L = true then (if gvp_in (y5 + 2) L = true then bd (ev_L_meanDamage n V u1v (xs ((y5 + 1) : Int32).toNatClampNeg) (xs ((y5 + 2) : Int32).toNatClampNeg) u4v) (fun r2 V1 => (if gvp_in (y5 + 1) L = true then (if gvp_in (y5 + 2) L = true then bd (ev_X9_meanDamage n V1 u2v (xs ((y5 + 1) : Int32).toNatClampNeg) (xs ((y5 + 2) : Int32).toNatClampNeg)) (fun r4 V3 => eL_law_1227 n L xs k28v V3 u1v u2v u3v u4v y5) (fun _ _ => none) else none) else none)) (fun _ _ => none) else none) else none)
set_option maxHeartbeats 4000000 in
set_option maxRecDepth 100000 in
theorem sL_law_702 (n : Nat) (L : Nat) (xs : Nat → Int32) {S0 : MS} {k28 : MS → Nat → Nat → Nat → Nat → Int32 → Prop} {k28v : VS → Nat → Nat → Nat → Nat → Int32 → Rs Unit} (hk28 : ∀ (S : MS) (V : VS) (p0 p0v : Nat) (p1 p1v : Nat) (p2 p2v : Nat) (p3 p3v : Nat) (p4 : Int32), SM S V → Ex S0 S → Ad S p0 p0v → Ad S p1 p1v → Ad S p2 p2v → Ad S p3 p3v → gd (k28v V p0v p1v p2v p3v p4) AT BT → k28 S p0 p1 p2 p3 p4) {S : MS} {V : VS} {u1 u1v : Nat} {u2 u2v : Nat} {u3 u3v : Nat} {u4 u4v : Nat} {y5 : Int32} (hS : SM S V) (hx : Ex S0 S) (h_u1 : Ad S u1 u1v) (h_u2 : Ad S u2 u2v) (h_u3 : Ad S u3 u3v) (h_u4 : Ad S u4 u4v) (hQ : gd (eL_law_702 n L xs k28v V u1v u2v u3v u4v y5) AT BT) : wL_law_702 L xs k28 S u1 u2 u3 u4 y5 := by
  unfold wL_law_702
  unfold eL_law_702 at hQ
  refine st_gd (fun h => by exact gvp_in_of h) hQ (fun hQ => ?_)
  refine st_gd (fun h => by exact gvp_in_of h) hQ (fun hQ => ?_)
  refine sim_L_meanDamage n hS h_u1 rfl rfl h_u4 ?_
  refine gd_mono (gd_bd hQ) (fun r2 V1 hQ S1 hS1 xS => ?_) (fun E V9 hQ => (gd_none hQ).elim)
  have hx1 : Ex S0 S1 := Ex_tr hx xS
  have h1_u1 := xS _ _ h_u1
  have h1_u2 := xS _ _ h_u2
  have h1_u3 := xS _ _ h_u3
  have h1_u4 := xS _ _ h_u4
  refine st_gd (fun h => by exact gvp_in_of h) hQ (fun hQ => ?_)
  refine st_gd (fun h => by exact gvp_in_of h) hQ (fun hQ => ?_)
  refine sim_X9_meanDamage n hS1 h1_u2 rfl rfl ?_
  refine gd_mono (gd_bd hQ) (fun r4 V3 hQ S3 hS3 xS => ?_) (fun E V9 hQ => (gd_none hQ).elim)
  have hx3 : Ex S0 S3 := Ex_tr hx1 xS
  have h3_u1 := xS _ _ h1_u1
  have h3_u2 := xS _ _ h1_u2
  have h3_u3 := xS _ _ h1_u3
  have h3_u4 := xS _ _ h1_u4
  exact sL_law_1227 n L xs hk28 hS3 hx3 h3_u1 h3_u2 h3_u3 h3_u4 hQ
def eL_law_743 (n : Nat) (L : Nat) (xs : Nat → Int32) (k28v : VS → Nat → Nat → Nat → Nat → Int32 → Rs Unit) (V : VS) (u1v : Nat) (u2v : Nat) (u3v : Nat) (u4v : Nat) (y5 : Int32) : Rs Unit := bd (ev_L_bestTarget n V u1v u3v) (fun r2 V1 => bd (ev_X9_bestTarget n V1 u2v) (fun r4 V3 => eL_law_1227 n L xs k28v V3 u1v u2v u3v u4v y5) (fun _ _ => none)) (fun _ _ => none)
set_option maxHeartbeats 4000000 in
set_option maxRecDepth 100000 in
theorem sL_law_743 (n : Nat) (L : Nat) (xs : Nat → Int32) {S0 : MS} {k28 : MS → Nat → Nat → Nat → Nat → Int32 → Prop} {k28v : VS → Nat → Nat → Nat → Nat → Int32 → Rs Unit} (hk28 : ∀ (S : MS) (V : VS) (p0 p0v : Nat) (p1 p1v : Nat) (p2 p2v : Nat) (p3 p3v : Nat) (p4 : Int32), SM S V → Ex S0 S → Ad S p0 p0v → Ad S p1 p1v → Ad S p2 p2v → Ad S p3 p3v → gd (k28v V p0v p1v p2v p3v p4) AT BT → k28 S p0 p1 p2 p3 p4) {S : MS} {V : VS} {u1 u1v : Nat} {u2 u2v : Nat} {u3 u3v : Nat} {u4 u4v : Nat} {y5 : Int32} (hS : SM S V) (hx : Ex S0 S) (h_u1 : Ad S u1 u1v) (h_u2 : Ad S u2 u2v) (h_u3 : Ad S u3 u3v) (h_u4 : Ad S u4 u4v) (hQ : gd (eL_law_743 n L xs k28v V u1v u2v u3v u4v y5) AT BT) : wL_law_743 L xs k28 S u1 u2 u3 u4 y5 := by
  unfold wL_law_743
  unfold eL_law_743 at hQ
  refine sim_L_bestTarget n hS h_u1 h_u3 ?_
  refine gd_mono (gd_bd hQ) (fun r2 V1 hQ S1 hS1 xS => ?_) (fun E V9 hQ => (gd_none hQ).elim)
  have hx1 : Ex S0 S1 := Ex_tr hx xS
  have h1_u1 := xS _ _ h_u1
  have h1_u2 := xS _ _ h_u2
  have h1_u3 := xS _ _ h_u3
  have h1_u4 := xS _ _ h_u4
  refine sim_X9_bestTarget n hS1 h1_u2 ?_
  refine gd_mono (gd_bd hQ) (fun r4 V3 hQ S3 hS3 xS => ?_) (fun E V9 hQ => (gd_none hQ).elim)
  have hx3 : Ex S0 S3 := Ex_tr hx1 xS
  have h3_u1 := xS _ _ h1_u1
  have h3_u2 := xS _ _ h1_u2
  have h3_u3 := xS _ _ h1_u3
  have h3_u4 := xS _ _ h1_u4
  exact sL_law_1227 n L xs hk28 hS3 hx3 h3_u1 h3_u2 h3_u3 h3_u4 hQ
def eL_law_759 (n : Nat) (L : Nat) (xs : Nat → Int32) (k28v : VS → Nat → Nat → Nat → Nat → Int32 → Rs Unit) (V : VS) (u1v : Nat) (u2v : Nat) (u3v : Nat) (u4v : Nat) (y5 : Int32) : Rs Unit := (if gvp_in (y5 + 1) L = true then bd (ev_L_move n V u1v (xs ((y5 + 1) : Int32).toNatClampNeg) u3v) (fun r2 V1 => (if gvp_in (y5 + 1) L = true then bd (ev_X9_move n V1 u2v (xs ((y5 + 1) : Int32).toNatClampNeg)) (fun r4 V3 => eL_law_1227 n L xs k28v V3 u1v u2v u3v u4v y5) (fun _ _ => none) else none)) (fun _ _ => none) else none)
set_option maxHeartbeats 4000000 in
set_option maxRecDepth 100000 in
theorem sL_law_759 (n : Nat) (L : Nat) (xs : Nat → Int32) {S0 : MS} {k28 : MS → Nat → Nat → Nat → Nat → Int32 → Prop} {k28v : VS → Nat → Nat → Nat → Nat → Int32 → Rs Unit} (hk28 : ∀ (S : MS) (V : VS) (p0 p0v : Nat) (p1 p1v : Nat) (p2 p2v : Nat) (p3 p3v : Nat) (p4 : Int32), SM S V → Ex S0 S → Ad S p0 p0v → Ad S p1 p1v → Ad S p2 p2v → Ad S p3 p3v → gd (k28v V p0v p1v p2v p3v p4) AT BT → k28 S p0 p1 p2 p3 p4) {S : MS} {V : VS} {u1 u1v : Nat} {u2 u2v : Nat} {u3 u3v : Nat} {u4 u4v : Nat} {y5 : Int32} (hS : SM S V) (hx : Ex S0 S) (h_u1 : Ad S u1 u1v) (h_u2 : Ad S u2 u2v) (h_u3 : Ad S u3 u3v) (h_u4 : Ad S u4 u4v) (hQ : gd (eL_law_759 n L xs k28v V u1v u2v u3v u4v y5) AT BT) : wL_law_759 L xs k28 S u1 u2 u3 u4 y5 := by
  unfold wL_law_759
  unfold eL_law_759 at hQ
  refine st_gd (fun h => by exact gvp_in_of h) hQ (fun hQ => ?_)
  refine sim_L_move n hS h_u1 rfl h_u3 ?_
  refine gd_mono (gd_bd hQ) (fun r2 V1 hQ S1 hS1 xS => ?_) (fun E V9 hQ => (gd_none hQ).elim)
  have hx1 : Ex S0 S1 := Ex_tr hx xS
  have h1_u1 := xS _ _ h_u1
  have h1_u2 := xS _ _ h_u2
  have h1_u3 := xS _ _ h_u3
  have h1_u4 := xS _ _ h_u4
  refine st_gd (fun h => by exact gvp_in_of h) hQ (fun hQ => ?_)
  refine sim_X9_move n hS1 h1_u2 rfl ?_
  refine gd_mono (gd_bd hQ) (fun r4 V3 hQ S3 hS3 xS => ?_) (fun E V9 hQ => (gd_none hQ).elim)
  have hx3 : Ex S0 S3 := Ex_tr hx1 xS
  have h3_u1 := xS _ _ h1_u1
  have h3_u2 := xS _ _ h1_u2
  have h3_u3 := xS _ _ h1_u3
  have h3_u4 := xS _ _ h1_u4
  exact sL_law_1227 n L xs hk28 hS3 hx3 h3_u1 h3_u2 h3_u3 h3_u4 hQ
def eL_law_787 (n : Nat) (L : Nat) (xs : Nat → Int32) (k28v : VS → Nat → Nat → Nat → Nat → Int32 → Rs Unit) (V : VS) (u1v : Nat) (u2v : Nat) (u3v : Nat) (u4v : Nat) (y5 : Int32) : Rs Unit := (if gvp_in (y5 + 1) L = true then bd (ev_L_attack n V u1v (xs ((y5 + 1) : Int32).toNatClampNeg) u3v) (fun r2 V1 => (if gvp_in (y5 + 1) L = true then bd (ev_X9_attack n V1 u2v (xs ((y5 + 1) : Int32).toNatClampNeg)) (fun r4 V3 => eL_law_1227 n L xs k28v V3 u1v u2v u3v u4v y5) (fun _ _ => none) else none)) (fun _ _ => none) else none)
set_option maxHeartbeats 4000000 in
set_option maxRecDepth 100000 in
theorem sL_law_787 (n : Nat) (L : Nat) (xs : Nat → Int32) {S0 : MS} {k28 : MS → Nat → Nat → Nat → Nat → Int32 → Prop} {k28v : VS → Nat → Nat → Nat → Nat → Int32 → Rs Unit} (hk28 : ∀ (S : MS) (V : VS) (p0 p0v : Nat) (p1 p1v : Nat) (p2 p2v : Nat) (p3 p3v : Nat) (p4 : Int32), SM S V → Ex S0 S → Ad S p0 p0v → Ad S p1 p1v → Ad S p2 p2v → Ad S p3 p3v → gd (k28v V p0v p1v p2v p3v p4) AT BT → k28 S p0 p1 p2 p3 p4) {S : MS} {V : VS} {u1 u1v : Nat} {u2 u2v : Nat} {u3 u3v : Nat} {u4 u4v : Nat} {y5 : Int32} (hS : SM S V) (hx : Ex S0 S) (h_u1 : Ad S u1 u1v) (h_u2 : Ad S u2 u2v) (h_u3 : Ad S u3 u3v) (h_u4 : Ad S u4 u4v) (hQ : gd (eL_law_787 n L xs k28v V u1v u2v u3v u4v y5) AT BT) : wL_law_787 L xs k28 S u1 u2 u3 u4 y5 := by
  unfold wL_law_787
  unfold eL_law_787 at hQ
  refine st_gd (fun h => by exact gvp_in_of h) hQ (fun hQ => ?_)
  refine sim_L_attack n hS h_u1 rfl h_u3 ?_
  refine gd_mono (gd_bd hQ) (fun r2 V1 hQ S1 hS1 xS => ?_) (fun E V9 hQ => (gd_none hQ).elim)
  have hx1 : Ex S0 S1 := Ex_tr hx xS
  have h1_u1 := xS _ _ h_u1
  have h1_u2 := xS _ _ h_u2
  have h1_u3 := xS _ _ h_u3
  have h1_u4 := xS _ _ h_u4
  refine st_gd (fun h => by exact gvp_in_of h) hQ (fun hQ => ?_)
  refine sim_X9_attack n hS1 h1_u2 rfl ?_
  refine gd_mono (gd_bd hQ) (fun r4 V3 hQ S3 hS3 xS => ?_) (fun E V9 hQ => (gd_none hQ).elim)
  have hx3 : Ex S0 S3 := Ex_tr hx1 xS
  have h3_u1 := xS _ _ h1_u1
  have h3_u2 := xS _ _ h1_u2
  have h3_u3 := xS _ _ h1_u3
  have h3_u4 := xS _ _ h1_u4
  exact sL_law_1227 n L xs hk28 hS3 hx3 h3_u1 h3_u2 h3_u3 h3_u4 hQ
def eL_law_815 (n : Nat) (L : Nat) (xs : Nat → Int32) (k28v : VS → Nat → Nat → Nat → Nat → Int32 → Rs Unit) (V : VS) (u1v : Nat) (u2v : Nat) (u3v : Nat) (u4v : Nat) (y5 : Int32) : Rs Unit := (if gvp_in (y5 + 1) L = true then bd (ev_L_throwAt n V u1v (xs ((y5 + 1) : Int32).toNatClampNeg) u3v) (fun r2 V1 => (if gvp_in (y5 + 1) L = true then bd (ev_X9_throwAt n V1 u2v (xs ((y5 + 1) : Int32).toNatClampNeg)) (fun r4 V3 => eL_law_1227 n L xs k28v V3 u1v u2v u3v u4v y5) (fun _ _ => none) else none)) (fun _ _ => none) else none)
set_option maxHeartbeats 4000000 in
set_option maxRecDepth 100000 in
theorem sL_law_815 (n : Nat) (L : Nat) (xs : Nat → Int32) {S0 : MS} {k28 : MS → Nat → Nat → Nat → Nat → Int32 → Prop} {k28v : VS → Nat → Nat → Nat → Nat → Int32 → Rs Unit} (hk28 : ∀ (S : MS) (V : VS) (p0 p0v : Nat) (p1 p1v : Nat) (p2 p2v : Nat) (p3 p3v : Nat) (p4 : Int32), SM S V → Ex S0 S → Ad S p0 p0v → Ad S p1 p1v → Ad S p2 p2v → Ad S p3 p3v → gd (k28v V p0v p1v p2v p3v p4) AT BT → k28 S p0 p1 p2 p3 p4) {S : MS} {V : VS} {u1 u1v : Nat} {u2 u2v : Nat} {u3 u3v : Nat} {u4 u4v : Nat} {y5 : Int32} (hS : SM S V) (hx : Ex S0 S) (h_u1 : Ad S u1 u1v) (h_u2 : Ad S u2 u2v) (h_u3 : Ad S u3 u3v) (h_u4 : Ad S u4 u4v) (hQ : gd (eL_law_815 n L xs k28v V u1v u2v u3v u4v y5) AT BT) : wL_law_815 L xs k28 S u1 u2 u3 u4 y5 := by
  unfold wL_law_815
  unfold eL_law_815 at hQ
  refine st_gd (fun h => by exact gvp_in_of h) hQ (fun hQ => ?_)
  refine sim_L_throwAt n hS h_u1 rfl h_u3 ?_
  refine gd_mono (gd_bd hQ) (fun r2 V1 hQ S1 hS1 xS => ?_) (fun E V9 hQ => (gd_none hQ).elim)
  have hx1 : Ex S0 S1 := Ex_tr hx xS
  have h1_u1 := xS _ _ h_u1
  have h1_u2 := xS _ _ h_u2
  have h1_u3 := xS _ _ h_u3
  have h1_u4 := xS _ _ h_u4
  refine st_gd (fun h => by exact gvp_in_of h) hQ (fun hQ => ?_)
  refine sim_X9_throwAt n hS1 h1_u2 rfl ?_
  refine gd_mono (gd_bd hQ) (fun r4 V3 hQ S3 hS3 xS => ?_) (fun E V9 hQ => (gd_none hQ).elim)
  have hx3 : Ex S0 S3 := Ex_tr hx1 xS
  have h3_u1 := xS _ _ h1_u1
  have h3_u2 := xS _ _ h1_u2
  have h3_u3 := xS _ _ h1_u3
  have h3_u4 := xS _ _ h1_u4
  exact sL_law_1227 n L xs hk28 hS3 hx3 h3_u1 h3_u2 h3_u3 h3_u4 hQ
def eL_law_843 (n : Nat) (L : Nat) (xs : Nat → Int32) (k28v : VS → Nat → Nat → Nat → Nat → Int32 → Rs Unit) (V : VS) (u1v : Nat) (u2v : Nat) (u3v : Nat) (u4v : Nat) (y5 : Int32) : Rs Unit := bd (ev_L_guard n V u1v u3v) (fun r2 V1 => bd (ev_X9_guard n V1 u2v) (fun r4 V3 => eL_law_1227 n L xs k28v V3 u1v u2v u3v u4v y5) (fun _ _ => none)) (fun _ _ => none)
set_option maxHeartbeats 4000000 in
set_option maxRecDepth 100000 in
theorem sL_law_843 (n : Nat) (L : Nat) (xs : Nat → Int32) {S0 : MS} {k28 : MS → Nat → Nat → Nat → Nat → Int32 → Prop} {k28v : VS → Nat → Nat → Nat → Nat → Int32 → Rs Unit} (hk28 : ∀ (S : MS) (V : VS) (p0 p0v : Nat) (p1 p1v : Nat) (p2 p2v : Nat) (p3 p3v : Nat) (p4 : Int32), SM S V → Ex S0 S → Ad S p0 p0v → Ad S p1 p1v → Ad S p2 p2v → Ad S p3 p3v → gd (k28v V p0v p1v p2v p3v p4) AT BT → k28 S p0 p1 p2 p3 p4) {S : MS} {V : VS} {u1 u1v : Nat} {u2 u2v : Nat} {u3 u3v : Nat} {u4 u4v : Nat} {y5 : Int32} (hS : SM S V) (hx : Ex S0 S) (h_u1 : Ad S u1 u1v) (h_u2 : Ad S u2 u2v) (h_u3 : Ad S u3 u3v) (h_u4 : Ad S u4 u4v) (hQ : gd (eL_law_843 n L xs k28v V u1v u2v u3v u4v y5) AT BT) : wL_law_843 L xs k28 S u1 u2 u3 u4 y5 := by
  unfold wL_law_843
  unfold eL_law_843 at hQ
  refine sim_L_guard n hS h_u1 h_u3 ?_
  refine gd_mono (gd_bd hQ) (fun r2 V1 hQ S1 hS1 xS => ?_) (fun E V9 hQ => (gd_none hQ).elim)
  have hx1 : Ex S0 S1 := Ex_tr hx xS
  have h1_u1 := xS _ _ h_u1
  have h1_u2 := xS _ _ h_u2
  have h1_u3 := xS _ _ h_u3
  have h1_u4 := xS _ _ h_u4
  refine sim_X9_guard n hS1 h1_u2 ?_
  refine gd_mono (gd_bd hQ) (fun r4 V3 hQ S3 hS3 xS => ?_) (fun E V9 hQ => (gd_none hQ).elim)
  have hx3 : Ex S0 S3 := Ex_tr hx1 xS
  have h3_u1 := xS _ _ h1_u1
  have h3_u2 := xS _ _ h1_u2
  have h3_u3 := xS _ _ h1_u3
  have h3_u4 := xS _ _ h1_u4
  exact sL_law_1227 n L xs hk28 hS3 hx3 h3_u1 h3_u2 h3_u3 h3_u4 hQ
def eL_law_859 (n : Nat) (L : Nat) (xs : Nat → Int32) (k28v : VS → Nat → Nat → Nat → Nat → Int32 → Rs Unit) (V : VS) (u1v : Nat) (u2v : Nat) (u3v : Nat) (u4v : Nat) (y5 : Int32) : Rs Unit := bd (ev_L_watch n V u1v u3v) (fun r2 V1 => bd (ev_X9_watch n V1 u2v) (fun r4 V3 => eL_law_1227 n L xs k28v V3 u1v u2v u3v u4v y5) (fun _ _ => none)) (fun _ _ => none)
set_option maxHeartbeats 4000000 in
set_option maxRecDepth 100000 in
theorem sL_law_859 (n : Nat) (L : Nat) (xs : Nat → Int32) {S0 : MS} {k28 : MS → Nat → Nat → Nat → Nat → Int32 → Prop} {k28v : VS → Nat → Nat → Nat → Nat → Int32 → Rs Unit} (hk28 : ∀ (S : MS) (V : VS) (p0 p0v : Nat) (p1 p1v : Nat) (p2 p2v : Nat) (p3 p3v : Nat) (p4 : Int32), SM S V → Ex S0 S → Ad S p0 p0v → Ad S p1 p1v → Ad S p2 p2v → Ad S p3 p3v → gd (k28v V p0v p1v p2v p3v p4) AT BT → k28 S p0 p1 p2 p3 p4) {S : MS} {V : VS} {u1 u1v : Nat} {u2 u2v : Nat} {u3 u3v : Nat} {u4 u4v : Nat} {y5 : Int32} (hS : SM S V) (hx : Ex S0 S) (h_u1 : Ad S u1 u1v) (h_u2 : Ad S u2 u2v) (h_u3 : Ad S u3 u3v) (h_u4 : Ad S u4 u4v) (hQ : gd (eL_law_859 n L xs k28v V u1v u2v u3v u4v y5) AT BT) : wL_law_859 L xs k28 S u1 u2 u3 u4 y5 := by
  unfold wL_law_859
  unfold eL_law_859 at hQ
  refine sim_L_watch n hS h_u1 h_u3 ?_
  refine gd_mono (gd_bd hQ) (fun r2 V1 hQ S1 hS1 xS => ?_) (fun E V9 hQ => (gd_none hQ).elim)
  have hx1 : Ex S0 S1 := Ex_tr hx xS
  have h1_u1 := xS _ _ h_u1
  have h1_u2 := xS _ _ h_u2
  have h1_u3 := xS _ _ h_u3
  have h1_u4 := xS _ _ h_u4
  refine sim_X9_watch n hS1 h1_u2 ?_
  refine gd_mono (gd_bd hQ) (fun r4 V3 hQ S3 hS3 xS => ?_) (fun E V9 hQ => (gd_none hQ).elim)
  have hx3 : Ex S0 S3 := Ex_tr hx1 xS
  have h3_u1 := xS _ _ h1_u1
  have h3_u2 := xS _ _ h1_u2
  have h3_u3 := xS _ _ h1_u3
  have h3_u4 := xS _ _ h1_u4
  exact sL_law_1227 n L xs hk28 hS3 hx3 h3_u1 h3_u2 h3_u3 h3_u4 hQ
def eL_law_875 (n : Nat) (L : Nat) (xs : Nat → Int32) (k28v : VS → Nat → Nat → Nat → Nat → Int32 → Rs Unit) (V : VS) (u1v : Nat) (u2v : Nat) (u3v : Nat) (u4v : Nat) (y5 : Int32) : Rs Unit := bd (ev_L_reload n V u1v u3v) (fun r2 V1 => bd (ev_X9_reload n V1 u2v) (fun r4 V3 => eL_law_1227 n L xs k28v V3 u1v u2v u3v u4v y5) (fun _ _ => none)) (fun _ _ => none)
set_option maxHeartbeats 4000000 in
set_option maxRecDepth 100000 in
theorem sL_law_875 (n : Nat) (L : Nat) (xs : Nat → Int32) {S0 : MS} {k28 : MS → Nat → Nat → Nat → Nat → Int32 → Prop} {k28v : VS → Nat → Nat → Nat → Nat → Int32 → Rs Unit} (hk28 : ∀ (S : MS) (V : VS) (p0 p0v : Nat) (p1 p1v : Nat) (p2 p2v : Nat) (p3 p3v : Nat) (p4 : Int32), SM S V → Ex S0 S → Ad S p0 p0v → Ad S p1 p1v → Ad S p2 p2v → Ad S p3 p3v → gd (k28v V p0v p1v p2v p3v p4) AT BT → k28 S p0 p1 p2 p3 p4) {S : MS} {V : VS} {u1 u1v : Nat} {u2 u2v : Nat} {u3 u3v : Nat} {u4 u4v : Nat} {y5 : Int32} (hS : SM S V) (hx : Ex S0 S) (h_u1 : Ad S u1 u1v) (h_u2 : Ad S u2 u2v) (h_u3 : Ad S u3 u3v) (h_u4 : Ad S u4 u4v) (hQ : gd (eL_law_875 n L xs k28v V u1v u2v u3v u4v y5) AT BT) : wL_law_875 L xs k28 S u1 u2 u3 u4 y5 := by
  unfold wL_law_875
  unfold eL_law_875 at hQ
  refine sim_L_reload n hS h_u1 h_u3 ?_
  refine gd_mono (gd_bd hQ) (fun r2 V1 hQ S1 hS1 xS => ?_) (fun E V9 hQ => (gd_none hQ).elim)
  have hx1 : Ex S0 S1 := Ex_tr hx xS
  have h1_u1 := xS _ _ h_u1
  have h1_u2 := xS _ _ h_u2
  have h1_u3 := xS _ _ h_u3
  have h1_u4 := xS _ _ h_u4
  refine sim_X9_reload n hS1 h1_u2 ?_
  refine gd_mono (gd_bd hQ) (fun r4 V3 hQ S3 hS3 xS => ?_) (fun E V9 hQ => (gd_none hQ).elim)
  have hx3 : Ex S0 S3 := Ex_tr hx1 xS
  have h3_u1 := xS _ _ h1_u1
  have h3_u2 := xS _ _ h1_u2
  have h3_u3 := xS _ _ h1_u3
  have h3_u4 := xS _ _ h1_u4
  exact sL_law_1227 n L xs hk28 hS3 hx3 h3_u1 h3_u2 h3_u3 h3_u4 hQ
def eL_law_891 (n : Nat) (L : Nat) (xs : Nat → Int32) (k28v : VS → Nat → Nat → Nat → Nat → Int32 → Rs Unit) (V : VS) (u1v : Nat) (u2v : Nat) (u3v : Nat) (u4v : Nat) (y5 : Int32) : Rs Unit := bd (ev_L_endTurn n V u1v u3v) (fun r2 V1 => bd (ev_X9_endTurn n V1 u2v) (fun r4 V3 => eL_law_1227 n L xs k28v V3 u1v u2v u3v u4v y5) (fun _ _ => none)) (fun _ _ => none)
set_option maxHeartbeats 4000000 in
set_option maxRecDepth 100000 in
theorem sL_law_891 (n : Nat) (L : Nat) (xs : Nat → Int32) {S0 : MS} {k28 : MS → Nat → Nat → Nat → Nat → Int32 → Prop} {k28v : VS → Nat → Nat → Nat → Nat → Int32 → Rs Unit} (hk28 : ∀ (S : MS) (V : VS) (p0 p0v : Nat) (p1 p1v : Nat) (p2 p2v : Nat) (p3 p3v : Nat) (p4 : Int32), SM S V → Ex S0 S → Ad S p0 p0v → Ad S p1 p1v → Ad S p2 p2v → Ad S p3 p3v → gd (k28v V p0v p1v p2v p3v p4) AT BT → k28 S p0 p1 p2 p3 p4) {S : MS} {V : VS} {u1 u1v : Nat} {u2 u2v : Nat} {u3 u3v : Nat} {u4 u4v : Nat} {y5 : Int32} (hS : SM S V) (hx : Ex S0 S) (h_u1 : Ad S u1 u1v) (h_u2 : Ad S u2 u2v) (h_u3 : Ad S u3 u3v) (h_u4 : Ad S u4 u4v) (hQ : gd (eL_law_891 n L xs k28v V u1v u2v u3v u4v y5) AT BT) : wL_law_891 L xs k28 S u1 u2 u3 u4 y5 := by
  unfold wL_law_891
  unfold eL_law_891 at hQ
  refine sim_L_endTurn n hS h_u1 h_u3 ?_
  refine gd_mono (gd_bd hQ) (fun r2 V1 hQ S1 hS1 xS => ?_) (fun E V9 hQ => (gd_none hQ).elim)
  have hx1 : Ex S0 S1 := Ex_tr hx xS
  have h1_u1 := xS _ _ h_u1
  have h1_u2 := xS _ _ h_u2
  have h1_u3 := xS _ _ h_u3
  have h1_u4 := xS _ _ h_u4
  refine sim_X9_endTurn n hS1 h1_u2 ?_
  refine gd_mono (gd_bd hQ) (fun r4 V3 hQ S3 hS3 xS => ?_) (fun E V9 hQ => (gd_none hQ).elim)
  have hx3 : Ex S0 S3 := Ex_tr hx1 xS
  have h3_u1 := xS _ _ h1_u1
  have h3_u2 := xS _ _ h1_u2
  have h3_u3 := xS _ _ h1_u3
  have h3_u4 := xS _ _ h1_u4
  exact sL_law_1227 n L xs hk28 hS3 hx3 h3_u1 h3_u2 h3_u3 h3_u4 hQ
def eL_law_907 (n : Nat) (L : Nat) (xs : Nat → Int32) (k28v : VS → Nat → Nat → Nat → Nat → Int32 → Rs Unit) (V : VS) (u1v : Nat) (u2v : Nat) (u3v : Nat) (u4v : Nat) (y5 : Int32) : Rs Unit := bd (ev_X8_eventCount n V u1v) (fun r2 V1 => bd (ev_X9_eventCount n V1 u2v) (fun r4 V3 => eL_law_1227 n L xs k28v V3 u1v u2v u3v u4v y5) (fun _ _ => none)) (fun _ _ => none)
set_option maxHeartbeats 4000000 in
set_option maxRecDepth 100000 in
theorem sL_law_907 (n : Nat) (L : Nat) (xs : Nat → Int32) {S0 : MS} {k28 : MS → Nat → Nat → Nat → Nat → Int32 → Prop} {k28v : VS → Nat → Nat → Nat → Nat → Int32 → Rs Unit} (hk28 : ∀ (S : MS) (V : VS) (p0 p0v : Nat) (p1 p1v : Nat) (p2 p2v : Nat) (p3 p3v : Nat) (p4 : Int32), SM S V → Ex S0 S → Ad S p0 p0v → Ad S p1 p1v → Ad S p2 p2v → Ad S p3 p3v → gd (k28v V p0v p1v p2v p3v p4) AT BT → k28 S p0 p1 p2 p3 p4) {S : MS} {V : VS} {u1 u1v : Nat} {u2 u2v : Nat} {u3 u3v : Nat} {u4 u4v : Nat} {y5 : Int32} (hS : SM S V) (hx : Ex S0 S) (h_u1 : Ad S u1 u1v) (h_u2 : Ad S u2 u2v) (h_u3 : Ad S u3 u3v) (h_u4 : Ad S u4 u4v) (hQ : gd (eL_law_907 n L xs k28v V u1v u2v u3v u4v y5) AT BT) : wL_law_907 L xs k28 S u1 u2 u3 u4 y5 := by
  unfold wL_law_907
  unfold eL_law_907 at hQ
  refine sim_X8_eventCount n hS h_u1 ?_
  refine gd_mono (gd_bd hQ) (fun r2 V1 hQ S1 hS1 xS => ?_) (fun E V9 hQ => (gd_none hQ).elim)
  have hx1 : Ex S0 S1 := Ex_tr hx xS
  have h1_u1 := xS _ _ h_u1
  have h1_u2 := xS _ _ h_u2
  have h1_u3 := xS _ _ h_u3
  have h1_u4 := xS _ _ h_u4
  refine sim_X9_eventCount n hS1 h1_u2 ?_
  refine gd_mono (gd_bd hQ) (fun r4 V3 hQ S3 hS3 xS => ?_) (fun E V9 hQ => (gd_none hQ).elim)
  have hx3 : Ex S0 S3 := Ex_tr hx1 xS
  have h3_u1 := xS _ _ h1_u1
  have h3_u2 := xS _ _ h1_u2
  have h3_u3 := xS _ _ h1_u3
  have h3_u4 := xS _ _ h1_u4
  exact sL_law_1227 n L xs hk28 hS3 hx3 h3_u1 h3_u2 h3_u3 h3_u4 hQ
def eL_law_920 (n : Nat) (L : Nat) (xs : Nat → Int32) (k28v : VS → Nat → Nat → Nat → Nat → Int32 → Rs Unit) (V : VS) (u1v : Nat) (u2v : Nat) (u3v : Nat) (u4v : Nat) (y5 : Int32) : Rs Unit := (if gvp_in (y5 + 1) L = true then (if gvp_in (y5 + 2) L = true then bd (ev_L_event n V u1v (xs ((y5 + 1) : Int32).toNatClampNeg) (xs ((y5 + 2) : Int32).toNatClampNeg) u3v) (fun r2 V1 => (if gvp_in (y5 + 1) L = true then (if gvp_in (y5 + 2) L = true then bd (ev_X9_event n V1 u2v (xs ((y5 + 1) : Int32).toNatClampNeg) (xs ((y5 + 2) : Int32).toNatClampNeg)) (fun r4 V3 => eL_law_1227 n L xs k28v V3 u1v u2v u3v u4v y5) (fun _ _ => none) else none) else none)) (fun _ _ => none) else none) else none)
set_option maxHeartbeats 4000000 in
set_option maxRecDepth 100000 in
theorem sL_law_920 (n : Nat) (L : Nat) (xs : Nat → Int32) {S0 : MS} {k28 : MS → Nat → Nat → Nat → Nat → Int32 → Prop} {k28v : VS → Nat → Nat → Nat → Nat → Int32 → Rs Unit} (hk28 : ∀ (S : MS) (V : VS) (p0 p0v : Nat) (p1 p1v : Nat) (p2 p2v : Nat) (p3 p3v : Nat) (p4 : Int32), SM S V → Ex S0 S → Ad S p0 p0v → Ad S p1 p1v → Ad S p2 p2v → Ad S p3 p3v → gd (k28v V p0v p1v p2v p3v p4) AT BT → k28 S p0 p1 p2 p3 p4) {S : MS} {V : VS} {u1 u1v : Nat} {u2 u2v : Nat} {u3 u3v : Nat} {u4 u4v : Nat} {y5 : Int32} (hS : SM S V) (hx : Ex S0 S) (h_u1 : Ad S u1 u1v) (h_u2 : Ad S u2 u2v) (h_u3 : Ad S u3 u3v) (h_u4 : Ad S u4 u4v) (hQ : gd (eL_law_920 n L xs k28v V u1v u2v u3v u4v y5) AT BT) : wL_law_920 L xs k28 S u1 u2 u3 u4 y5 := by
  unfold wL_law_920
  unfold eL_law_920 at hQ
  refine st_gd (fun h => by exact gvp_in_of h) hQ (fun hQ => ?_)
  refine st_gd (fun h => by exact gvp_in_of h) hQ (fun hQ => ?_)
  refine sim_L_event n hS h_u1 rfl rfl h_u3 ?_
  refine gd_mono (gd_bd hQ) (fun r2 V1 hQ S1 hS1 xS => ?_) (fun E V9 hQ => (gd_none hQ).elim)
  have hx1 : Ex S0 S1 := Ex_tr hx xS
  have h1_u1 := xS _ _ h_u1
  have h1_u2 := xS _ _ h_u2
  have h1_u3 := xS _ _ h_u3
  have h1_u4 := xS _ _ h_u4
  refine st_gd (fun h => by exact gvp_in_of h) hQ (fun hQ => ?_)
  refine st_gd (fun h => by exact gvp_in_of h) hQ (fun hQ => ?_)
  refine sim_X9_event n hS1 h1_u2 rfl rfl ?_
  refine gd_mono (gd_bd hQ) (fun r4 V3 hQ S3 hS3 xS => ?_) (fun E V9 hQ => (gd_none hQ).elim)
  have hx3 : Ex S0 S3 := Ex_tr hx1 xS
  have h3_u1 := xS _ _ h1_u1
  have h3_u2 := xS _ _ h1_u2
  have h3_u3 := xS _ _ h1_u3
  have h3_u4 := xS _ _ h1_u4
  exact sL_law_1227 n L xs hk28 hS3 hx3 h3_u1 h3_u2 h3_u3 h3_u4 hQ
def eL_law_960 (n : Nat) (L : Nat) (xs : Nat → Int32) (k28v : VS → Nat → Nat → Nat → Nat → Int32 → Rs Unit) (V : VS) (u1v : Nat) (u2v : Nat) (u3v : Nat) (u4v : Nat) (y5 : Int32) : Rs Unit := bd (ev_X8_commandCount n V u1v) (fun r2 V1 => bd (ev_X9_commandCount n V1 u2v) (fun r4 V3 => eL_law_1227 n L xs k28v V3 u1v u2v u3v u4v y5) (fun _ _ => none)) (fun _ _ => none)
set_option maxHeartbeats 4000000 in
set_option maxRecDepth 100000 in
theorem sL_law_960 (n : Nat) (L : Nat) (xs : Nat → Int32) {S0 : MS} {k28 : MS → Nat → Nat → Nat → Nat → Int32 → Prop} {k28v : VS → Nat → Nat → Nat → Nat → Int32 → Rs Unit} (hk28 : ∀ (S : MS) (V : VS) (p0 p0v : Nat) (p1 p1v : Nat) (p2 p2v : Nat) (p3 p3v : Nat) (p4 : Int32), SM S V → Ex S0 S → Ad S p0 p0v → Ad S p1 p1v → Ad S p2 p2v → Ad S p3 p3v → gd (k28v V p0v p1v p2v p3v p4) AT BT → k28 S p0 p1 p2 p3 p4) {S : MS} {V : VS} {u1 u1v : Nat} {u2 u2v : Nat} {u3 u3v : Nat} {u4 u4v : Nat} {y5 : Int32} (hS : SM S V) (hx : Ex S0 S) (h_u1 : Ad S u1 u1v) (h_u2 : Ad S u2 u2v) (h_u3 : Ad S u3 u3v) (h_u4 : Ad S u4 u4v) (hQ : gd (eL_law_960 n L xs k28v V u1v u2v u3v u4v y5) AT BT) : wL_law_960 L xs k28 S u1 u2 u3 u4 y5 := by
  unfold wL_law_960
  unfold eL_law_960 at hQ
  refine sim_X8_commandCount n hS h_u1 ?_
  refine gd_mono (gd_bd hQ) (fun r2 V1 hQ S1 hS1 xS => ?_) (fun E V9 hQ => (gd_none hQ).elim)
  have hx1 : Ex S0 S1 := Ex_tr hx xS
  have h1_u1 := xS _ _ h_u1
  have h1_u2 := xS _ _ h_u2
  have h1_u3 := xS _ _ h_u3
  have h1_u4 := xS _ _ h_u4
  refine sim_X9_commandCount n hS1 h1_u2 ?_
  refine gd_mono (gd_bd hQ) (fun r4 V3 hQ S3 hS3 xS => ?_) (fun E V9 hQ => (gd_none hQ).elim)
  have hx3 : Ex S0 S3 := Ex_tr hx1 xS
  have h3_u1 := xS _ _ h1_u1
  have h3_u2 := xS _ _ h1_u2
  have h3_u3 := xS _ _ h1_u3
  have h3_u4 := xS _ _ h1_u4
  exact sL_law_1227 n L xs hk28 hS3 hx3 h3_u1 h3_u2 h3_u3 h3_u4 hQ
def eL_law_973 (n : Nat) (L : Nat) (xs : Nat → Int32) (k28v : VS → Nat → Nat → Nat → Nat → Int32 → Rs Unit) (V : VS) (u1v : Nat) (u2v : Nat) (u3v : Nat) (u4v : Nat) (y5 : Int32) : Rs Unit := bd (ev_L_undo n V u1v u3v) (fun r2 V1 => bd (ev_X9_undo n V1 u2v) (fun r4 V3 => eL_law_1227 n L xs k28v V3 u1v u2v u3v u4v y5) (fun _ _ => none)) (fun _ _ => none)
set_option maxHeartbeats 4000000 in
set_option maxRecDepth 100000 in
theorem sL_law_973 (n : Nat) (L : Nat) (xs : Nat → Int32) {S0 : MS} {k28 : MS → Nat → Nat → Nat → Nat → Int32 → Prop} {k28v : VS → Nat → Nat → Nat → Nat → Int32 → Rs Unit} (hk28 : ∀ (S : MS) (V : VS) (p0 p0v : Nat) (p1 p1v : Nat) (p2 p2v : Nat) (p3 p3v : Nat) (p4 : Int32), SM S V → Ex S0 S → Ad S p0 p0v → Ad S p1 p1v → Ad S p2 p2v → Ad S p3 p3v → gd (k28v V p0v p1v p2v p3v p4) AT BT → k28 S p0 p1 p2 p3 p4) {S : MS} {V : VS} {u1 u1v : Nat} {u2 u2v : Nat} {u3 u3v : Nat} {u4 u4v : Nat} {y5 : Int32} (hS : SM S V) (hx : Ex S0 S) (h_u1 : Ad S u1 u1v) (h_u2 : Ad S u2 u2v) (h_u3 : Ad S u3 u3v) (h_u4 : Ad S u4 u4v) (hQ : gd (eL_law_973 n L xs k28v V u1v u2v u3v u4v y5) AT BT) : wL_law_973 L xs k28 S u1 u2 u3 u4 y5 := by
  unfold wL_law_973
  unfold eL_law_973 at hQ
  refine sim_L_undo n hS h_u1 h_u3 ?_
  refine gd_mono (gd_bd hQ) (fun r2 V1 hQ S1 hS1 xS => ?_) (fun E V9 hQ => (gd_none hQ).elim)
  have hx1 : Ex S0 S1 := Ex_tr hx xS
  have h1_u1 := xS _ _ h_u1
  have h1_u2 := xS _ _ h_u2
  have h1_u3 := xS _ _ h_u3
  have h1_u4 := xS _ _ h_u4
  refine sim_X9_undo n hS1 h1_u2 ?_
  refine gd_mono (gd_bd hQ) (fun r4 V3 hQ S3 hS3 xS => ?_) (fun E V9 hQ => (gd_none hQ).elim)
  have hx3 : Ex S0 S3 := Ex_tr hx1 xS
  have h3_u1 := xS _ _ h1_u1
  have h3_u2 := xS _ _ h1_u2
  have h3_u3 := xS _ _ h1_u3
  have h3_u4 := xS _ _ h1_u4
  exact sL_law_1227 n L xs hk28 hS3 hx3 h3_u1 h3_u2 h3_u3 h3_u4 hQ
def eL_law_989 (n : Nat) (L : Nat) (xs : Nat → Int32) (k28v : VS → Nat → Nat → Nat → Nat → Int32 → Rs Unit) (V : VS) (u1v : Nat) (u2v : Nat) (u3v : Nat) (u4v : Nat) (y5 : Int32) : Rs Unit := bd (ev_L_isReplayed n V u1v u3v) (fun r2 V1 => bd (ev_X9_isReplayed n V1 u2v) (fun r4 V3 => eL_law_1227 n L xs k28v V3 u1v u2v u3v u4v y5) (fun _ _ => none)) (fun _ _ => none)
set_option maxHeartbeats 4000000 in
set_option maxRecDepth 100000 in
theorem sL_law_989 (n : Nat) (L : Nat) (xs : Nat → Int32) {S0 : MS} {k28 : MS → Nat → Nat → Nat → Nat → Int32 → Prop} {k28v : VS → Nat → Nat → Nat → Nat → Int32 → Rs Unit} (hk28 : ∀ (S : MS) (V : VS) (p0 p0v : Nat) (p1 p1v : Nat) (p2 p2v : Nat) (p3 p3v : Nat) (p4 : Int32), SM S V → Ex S0 S → Ad S p0 p0v → Ad S p1 p1v → Ad S p2 p2v → Ad S p3 p3v → gd (k28v V p0v p1v p2v p3v p4) AT BT → k28 S p0 p1 p2 p3 p4) {S : MS} {V : VS} {u1 u1v : Nat} {u2 u2v : Nat} {u3 u3v : Nat} {u4 u4v : Nat} {y5 : Int32} (hS : SM S V) (hx : Ex S0 S) (h_u1 : Ad S u1 u1v) (h_u2 : Ad S u2 u2v) (h_u3 : Ad S u3 u3v) (h_u4 : Ad S u4 u4v) (hQ : gd (eL_law_989 n L xs k28v V u1v u2v u3v u4v y5) AT BT) : wL_law_989 L xs k28 S u1 u2 u3 u4 y5 := by
  unfold wL_law_989
  unfold eL_law_989 at hQ
  refine sim_L_isReplayed n hS h_u1 h_u3 ?_
  refine gd_mono (gd_bd hQ) (fun r2 V1 hQ S1 hS1 xS => ?_) (fun E V9 hQ => (gd_none hQ).elim)
  have hx1 : Ex S0 S1 := Ex_tr hx xS
  have h1_u1 := xS _ _ h_u1
  have h1_u2 := xS _ _ h_u2
  have h1_u3 := xS _ _ h_u3
  have h1_u4 := xS _ _ h_u4
  refine sim_X9_isReplayed n hS1 h1_u2 ?_
  refine gd_mono (gd_bd hQ) (fun r4 V3 hQ S3 hS3 xS => ?_) (fun E V9 hQ => (gd_none hQ).elim)
  have hx3 : Ex S0 S3 := Ex_tr hx1 xS
  have h3_u1 := xS _ _ h1_u1
  have h3_u2 := xS _ _ h1_u2
  have h3_u3 := xS _ _ h1_u3
  have h3_u4 := xS _ _ h1_u4
  exact sL_law_1227 n L xs hk28 hS3 hx3 h3_u1 h3_u2 h3_u3 h3_u4 hQ
def eL_law_1005 (n : Nat) (L : Nat) (xs : Nat → Int32) (k28v : VS → Nat → Nat → Nat → Nat → Int32 → Rs Unit) (V : VS) (u1v : Nat) (u2v : Nat) (u3v : Nat) (u4v : Nat) (y5 : Int32) : Rs Unit := (if gvp_in (y5 + 1) L = true then bd (ev_L_meanHealth n V u1v (xs ((y5 + 1) : Int32).toNatClampNeg) u4v) (fun r2 V1 => (if gvp_in (y5 + 1) L = true then bd (ev_X9_meanHealth n V1 u2v (xs ((y5 + 1) : Int32).toNatClampNeg)) (fun r4 V3 => eL_law_1227 n L xs k28v V3 u1v u2v u3v u4v y5) (fun _ _ => none) else none)) (fun _ _ => none) else none)
set_option maxHeartbeats 4000000 in
set_option maxRecDepth 100000 in
theorem sL_law_1005 (n : Nat) (L : Nat) (xs : Nat → Int32) {S0 : MS} {k28 : MS → Nat → Nat → Nat → Nat → Int32 → Prop} {k28v : VS → Nat → Nat → Nat → Nat → Int32 → Rs Unit} (hk28 : ∀ (S : MS) (V : VS) (p0 p0v : Nat) (p1 p1v : Nat) (p2 p2v : Nat) (p3 p3v : Nat) (p4 : Int32), SM S V → Ex S0 S → Ad S p0 p0v → Ad S p1 p1v → Ad S p2 p2v → Ad S p3 p3v → gd (k28v V p0v p1v p2v p3v p4) AT BT → k28 S p0 p1 p2 p3 p4) {S : MS} {V : VS} {u1 u1v : Nat} {u2 u2v : Nat} {u3 u3v : Nat} {u4 u4v : Nat} {y5 : Int32} (hS : SM S V) (hx : Ex S0 S) (h_u1 : Ad S u1 u1v) (h_u2 : Ad S u2 u2v) (h_u3 : Ad S u3 u3v) (h_u4 : Ad S u4 u4v) (hQ : gd (eL_law_1005 n L xs k28v V u1v u2v u3v u4v y5) AT BT) : wL_law_1005 L xs k28 S u1 u2 u3 u4 y5 := by
  unfold wL_law_1005
  unfold eL_law_1005 at hQ
  refine st_gd (fun h => by exact gvp_in_of h) hQ (fun hQ => ?_)
  refine sim_L_meanHealth n hS h_u1 rfl h_u4 ?_
  refine gd_mono (gd_bd hQ) (fun r2 V1 hQ S1 hS1 xS => ?_) (fun E V9 hQ => (gd_none hQ).elim)
  have hx1 : Ex S0 S1 := Ex_tr hx xS
  have h1_u1 := xS _ _ h_u1
  have h1_u2 := xS _ _ h_u2
  have h1_u3 := xS _ _ h_u3
  have h1_u4 := xS _ _ h_u4
  refine st_gd (fun h => by exact gvp_in_of h) hQ (fun hQ => ?_)
  refine sim_X9_meanHealth n hS1 h1_u2 rfl ?_
  refine gd_mono (gd_bd hQ) (fun r4 V3 hQ S3 hS3 xS => ?_) (fun E V9 hQ => (gd_none hQ).elim)
  have hx3 : Ex S0 S3 := Ex_tr hx1 xS
  have h3_u1 := xS _ _ h1_u1
  have h3_u2 := xS _ _ h1_u2
  have h3_u3 := xS _ _ h1_u3
  have h3_u4 := xS _ _ h1_u4
  exact sL_law_1227 n L xs hk28 hS3 hx3 h3_u1 h3_u2 h3_u3 h3_u4 hQ
def eL_law_1082 (n : Nat) (L : Nat) (xs : Nat → Int32) (k28v : VS → Nat → Nat → Nat → Nat → Int32 → Rs Unit) (V : VS) (u1v : Nat) (u2v : Nat) (u3v : Nat) (u4v : Nat) (y5 : Int32) (z0 : Int32) (z1 : Int32) (w2v : Nat) : Rs Unit := bd (ev_X9_storeHealths n V w2v z1 z0) (fun r2 V1 => eL_law_1227 n L xs k28v V1 u1v u2v u3v u4v y5) (fun _ _ => none)
set_option maxHeartbeats 4000000 in
set_option maxRecDepth 100000 in
theorem sL_law_1082 (n : Nat) (L : Nat) (xs : Nat → Int32) {S0 : MS} {k28 : MS → Nat → Nat → Nat → Nat → Int32 → Prop} {k28v : VS → Nat → Nat → Nat → Nat → Int32 → Rs Unit} (hk28 : ∀ (S : MS) (V : VS) (p0 p0v : Nat) (p1 p1v : Nat) (p2 p2v : Nat) (p3 p3v : Nat) (p4 : Int32), SM S V → Ex S0 S → Ad S p0 p0v → Ad S p1 p1v → Ad S p2 p2v → Ad S p3 p3v → gd (k28v V p0v p1v p2v p3v p4) AT BT → k28 S p0 p1 p2 p3 p4) {S : MS} {V : VS} {u1 u1v : Nat} {u2 u2v : Nat} {u3 u3v : Nat} {u4 u4v : Nat} {y5 : Int32} {z0 : Int32} {z1 : Int32} {w2 w2v : Nat} (hS : SM S V) (hx : Ex S0 S) (h_u1 : Ad S u1 u1v) (h_u2 : Ad S u2 u2v) (h_u3 : Ad S u3 u3v) (h_u4 : Ad S u4 u4v) (h_w2 : Ad S w2 w2v) (hQ : gd (eL_law_1082 n L xs k28v V u1v u2v u3v u4v y5 z0 z1 w2v) AT BT) : wL_law_1082 L xs k28 S u1 u2 u3 u4 y5 z0 z1 w2 := by
  unfold wL_law_1082
  unfold eL_law_1082 at hQ
  refine sim_X9_storeHealths n hS h_w2 rfl rfl ?_
  refine gd_mono (gd_bd hQ) (fun r2 V1 hQ S1 hS1 xS => ?_) (fun E V9 hQ => (gd_none hQ).elim)
  have hx1 : Ex S0 S1 := Ex_tr hx xS
  have h1_u1 := xS _ _ h_u1
  have h1_u2 := xS _ _ h_u2
  have h1_u3 := xS _ _ h_u3
  have h1_u4 := xS _ _ h_u4
  exact sL_law_1227 n L xs hk28 hS1 hx1 h1_u1 h1_u2 h1_u3 h1_u4 hQ
def eL_law_1055 (n : Nat) (L : Nat) (xs : Nat → Int32) (k28v : VS → Nat → Nat → Nat → Nat → Int32 → Rs Unit) (V : VS) (u1v : Nat) (u2v : Nat) (u3v : Nat) (u4v : Nat) (y5 : Int32) (z0 : Int32) (z1 : Int32) (w2v : Nat) : Rs Unit := bd (ev_L_storeHealths n V w2v z1 z0 u3v) (fun r2 V1 => (if gvp_in (y5 + 1) L = true then (if gvp_in (y5 + 2) L = true then (if (xs ((y5 + 2) : Int32).toNatClampNeg) = 0 then eL_law_1082 n L xs k28v V1 u1v u2v u3v u4v y5 0 (xs ((y5 + 1) : Int32).toNatClampNeg) u2v else eL_law_1082 n L xs k28v V1 u1v u2v u3v u4v y5 1 (xs ((y5 + 1) : Int32).toNatClampNeg) u2v) else none) else none)) (fun _ _ => none)
set_option maxHeartbeats 4000000 in
set_option maxRecDepth 100000 in
theorem sL_law_1055 (n : Nat) (L : Nat) (xs : Nat → Int32) {S0 : MS} {k28 : MS → Nat → Nat → Nat → Nat → Int32 → Prop} {k28v : VS → Nat → Nat → Nat → Nat → Int32 → Rs Unit} (hk28 : ∀ (S : MS) (V : VS) (p0 p0v : Nat) (p1 p1v : Nat) (p2 p2v : Nat) (p3 p3v : Nat) (p4 : Int32), SM S V → Ex S0 S → Ad S p0 p0v → Ad S p1 p1v → Ad S p2 p2v → Ad S p3 p3v → gd (k28v V p0v p1v p2v p3v p4) AT BT → k28 S p0 p1 p2 p3 p4) {S : MS} {V : VS} {u1 u1v : Nat} {u2 u2v : Nat} {u3 u3v : Nat} {u4 u4v : Nat} {y5 : Int32} {z0 : Int32} {z1 : Int32} {w2 w2v : Nat} (hS : SM S V) (hx : Ex S0 S) (h_u1 : Ad S u1 u1v) (h_u2 : Ad S u2 u2v) (h_u3 : Ad S u3 u3v) (h_u4 : Ad S u4 u4v) (h_w2 : Ad S w2 w2v) (hQ : gd (eL_law_1055 n L xs k28v V u1v u2v u3v u4v y5 z0 z1 w2v) AT BT) : wL_law_1055 L xs k28 S u1 u2 u3 u4 y5 z0 z1 w2 := by
  unfold wL_law_1055
  unfold eL_law_1055 at hQ
  refine sim_L_storeHealths n hS h_w2 rfl rfl h_u3 ?_
  refine gd_mono (gd_bd hQ) (fun r2 V1 hQ S1 hS1 xS => ?_) (fun E V9 hQ => (gd_none hQ).elim)
  have hx1 : Ex S0 S1 := Ex_tr hx xS
  have h1_u1 := xS _ _ h_u1
  have h1_u2 := xS _ _ h_u2
  have h1_u3 := xS _ _ h_u3
  have h1_u4 := xS _ _ h_u4
  refine st_gd (fun h => by exact gvp_in_of h) hQ (fun hQ => ?_)
  refine st_gd (fun h => by exact gvp_in_of h) hQ (fun hQ => ?_)
  refine st_if rfl hQ (fun hQ => ?_) (fun hQ => ?_)
  · exact sL_law_1082 n L xs hk28 hS1 hx1 h1_u1 h1_u2 h1_u3 h1_u4 h1_u2 hQ
  · exact sL_law_1082 n L xs hk28 hS1 hx1 h1_u1 h1_u2 h1_u3 h1_u4 h1_u2 hQ
def eL_law_1034 (n : Nat) (L : Nat) (xs : Nat → Int32) (k28v : VS → Nat → Nat → Nat → Nat → Int32 → Rs Unit) (V : VS) (u1v : Nat) (u2v : Nat) (u3v : Nat) (u4v : Nat) (y5 : Int32) : Rs Unit := (if gvp_in (y5 + 1) L = true then (if gvp_in (y5 + 2) L = true then (if (xs ((y5 + 2) : Int32).toNatClampNeg) = 0 then eL_law_1055 n L xs k28v V u1v u2v u3v u4v y5 0 (xs ((y5 + 1) : Int32).toNatClampNeg) u1v else eL_law_1055 n L xs k28v V u1v u2v u3v u4v y5 1 (xs ((y5 + 1) : Int32).toNatClampNeg) u1v) else none) else none)
set_option maxHeartbeats 4000000 in
set_option maxRecDepth 100000 in
theorem sL_law_1034 (n : Nat) (L : Nat) (xs : Nat → Int32) {S0 : MS} {k28 : MS → Nat → Nat → Nat → Nat → Int32 → Prop} {k28v : VS → Nat → Nat → Nat → Nat → Int32 → Rs Unit} (hk28 : ∀ (S : MS) (V : VS) (p0 p0v : Nat) (p1 p1v : Nat) (p2 p2v : Nat) (p3 p3v : Nat) (p4 : Int32), SM S V → Ex S0 S → Ad S p0 p0v → Ad S p1 p1v → Ad S p2 p2v → Ad S p3 p3v → gd (k28v V p0v p1v p2v p3v p4) AT BT → k28 S p0 p1 p2 p3 p4) {S : MS} {V : VS} {u1 u1v : Nat} {u2 u2v : Nat} {u3 u3v : Nat} {u4 u4v : Nat} {y5 : Int32} (hS : SM S V) (hx : Ex S0 S) (h_u1 : Ad S u1 u1v) (h_u2 : Ad S u2 u2v) (h_u3 : Ad S u3 u3v) (h_u4 : Ad S u4 u4v) (hQ : gd (eL_law_1034 n L xs k28v V u1v u2v u3v u4v y5) AT BT) : wL_law_1034 L xs k28 S u1 u2 u3 u4 y5 := by
  unfold wL_law_1034
  unfold eL_law_1034 at hQ
  refine st_gd (fun h => by exact gvp_in_of h) hQ (fun hQ => ?_)
  refine st_gd (fun h => by exact gvp_in_of h) hQ (fun hQ => ?_)
  refine st_if rfl hQ (fun hQ => ?_) (fun hQ => ?_)
  · exact sL_law_1055 n L xs hk28 hS hx h_u1 h_u2 h_u3 h_u4 h_u1 hQ
  · exact sL_law_1055 n L xs hk28 hS hx h_u1 h_u2 h_u3 h_u4 h_u1 hQ
def eL_law_1090 (n : Nat) (L : Nat) (xs : Nat → Int32) (k28v : VS → Nat → Nat → Nat → Nat → Int32 → Rs Unit) (V : VS) (u1v : Nat) (u2v : Nat) (u3v : Nat) (u4v : Nat) (y5 : Int32) : Rs Unit := (if gvp_in (y5 + 1) L = true then (if gvp_in (y5 + 2) L = true then bd (ev_L_copyHealths n V u1v (xs ((y5 + 1) : Int32).toNatClampNeg) (xs ((y5 + 2) : Int32).toNatClampNeg) u3v) (fun r2 V1 => (if gvp_in (y5 + 1) L = true then (if gvp_in (y5 + 2) L = true then bd (ev_X9_copyHealths n V1 u2v (xs ((y5 + 1) : Int32).toNatClampNeg) (xs ((y5 + 2) : Int32).toNatClampNeg)) (fun r4 V3 => eL_law_1227 n L xs k28v V3 u1v u2v u3v u4v y5) (fun _ _ => none) else none) else none)) (fun _ _ => none) else none) else none)
set_option maxHeartbeats 4000000 in
set_option maxRecDepth 100000 in
theorem sL_law_1090 (n : Nat) (L : Nat) (xs : Nat → Int32) {S0 : MS} {k28 : MS → Nat → Nat → Nat → Nat → Int32 → Prop} {k28v : VS → Nat → Nat → Nat → Nat → Int32 → Rs Unit} (hk28 : ∀ (S : MS) (V : VS) (p0 p0v : Nat) (p1 p1v : Nat) (p2 p2v : Nat) (p3 p3v : Nat) (p4 : Int32), SM S V → Ex S0 S → Ad S p0 p0v → Ad S p1 p1v → Ad S p2 p2v → Ad S p3 p3v → gd (k28v V p0v p1v p2v p3v p4) AT BT → k28 S p0 p1 p2 p3 p4) {S : MS} {V : VS} {u1 u1v : Nat} {u2 u2v : Nat} {u3 u3v : Nat} {u4 u4v : Nat} {y5 : Int32} (hS : SM S V) (hx : Ex S0 S) (h_u1 : Ad S u1 u1v) (h_u2 : Ad S u2 u2v) (h_u3 : Ad S u3 u3v) (h_u4 : Ad S u4 u4v) (hQ : gd (eL_law_1090 n L xs k28v V u1v u2v u3v u4v y5) AT BT) : wL_law_1090 L xs k28 S u1 u2 u3 u4 y5 := by
  unfold wL_law_1090
  unfold eL_law_1090 at hQ
  refine st_gd (fun h => by exact gvp_in_of h) hQ (fun hQ => ?_)
  refine st_gd (fun h => by exact gvp_in_of h) hQ (fun hQ => ?_)
  refine sim_L_copyHealths n hS h_u1 rfl rfl h_u3 ?_
  refine gd_mono (gd_bd hQ) (fun r2 V1 hQ S1 hS1 xS => ?_) (fun E V9 hQ => (gd_none hQ).elim)
  have hx1 : Ex S0 S1 := Ex_tr hx xS
  have h1_u1 := xS _ _ h_u1
  have h1_u2 := xS _ _ h_u2
  have h1_u3 := xS _ _ h_u3
  have h1_u4 := xS _ _ h_u4
  refine st_gd (fun h => by exact gvp_in_of h) hQ (fun hQ => ?_)
  refine st_gd (fun h => by exact gvp_in_of h) hQ (fun hQ => ?_)
  refine sim_X9_copyHealths n hS1 h1_u2 rfl rfl ?_
  refine gd_mono (gd_bd hQ) (fun r4 V3 hQ S3 hS3 xS => ?_) (fun E V9 hQ => (gd_none hQ).elim)
  have hx3 : Ex S0 S3 := Ex_tr hx1 xS
  have h3_u1 := xS _ _ h1_u1
  have h3_u2 := xS _ _ h1_u2
  have h3_u3 := xS _ _ h1_u3
  have h3_u4 := xS _ _ h1_u4
  exact sL_law_1227 n L xs hk28 hS3 hx3 h3_u1 h3_u2 h3_u3 h3_u4 hQ
def eL_law_1130 (n : Nat) (L : Nat) (xs : Nat → Int32) (k28v : VS → Nat → Nat → Nat → Nat → Int32 → Rs Unit) (V : VS) (u1v : Nat) (u2v : Nat) (u3v : Nat) (u4v : Nat) (y5 : Int32) : Rs Unit := (if gvp_in (y5 + 1) L = true then (if gvp_in (y5 + 2) L = true then bd (ev_L_storedBits n V u1v (xs ((y5 + 1) : Int32).toNatClampNeg) (xs ((y5 + 2) : Int32).toNatClampNeg) u3v) (fun r2 V1 => (if gvp_in (y5 + 1) L = true then (if gvp_in (y5 + 2) L = true then bd (ev_X9_storedBits n V1 u2v (xs ((y5 + 1) : Int32).toNatClampNeg) (xs ((y5 + 2) : Int32).toNatClampNeg)) (fun r4 V3 => eL_law_1227 n L xs k28v V3 u1v u2v u3v u4v y5) (fun _ _ => none) else none) else none)) (fun _ _ => none) else none) else none)
set_option maxHeartbeats 4000000 in
set_option maxRecDepth 100000 in
theorem sL_law_1130 (n : Nat) (L : Nat) (xs : Nat → Int32) {S0 : MS} {k28 : MS → Nat → Nat → Nat → Nat → Int32 → Prop} {k28v : VS → Nat → Nat → Nat → Nat → Int32 → Rs Unit} (hk28 : ∀ (S : MS) (V : VS) (p0 p0v : Nat) (p1 p1v : Nat) (p2 p2v : Nat) (p3 p3v : Nat) (p4 : Int32), SM S V → Ex S0 S → Ad S p0 p0v → Ad S p1 p1v → Ad S p2 p2v → Ad S p3 p3v → gd (k28v V p0v p1v p2v p3v p4) AT BT → k28 S p0 p1 p2 p3 p4) {S : MS} {V : VS} {u1 u1v : Nat} {u2 u2v : Nat} {u3 u3v : Nat} {u4 u4v : Nat} {y5 : Int32} (hS : SM S V) (hx : Ex S0 S) (h_u1 : Ad S u1 u1v) (h_u2 : Ad S u2 u2v) (h_u3 : Ad S u3 u3v) (h_u4 : Ad S u4 u4v) (hQ : gd (eL_law_1130 n L xs k28v V u1v u2v u3v u4v y5) AT BT) : wL_law_1130 L xs k28 S u1 u2 u3 u4 y5 := by
  unfold wL_law_1130
  unfold eL_law_1130 at hQ
  refine st_gd (fun h => by exact gvp_in_of h) hQ (fun hQ => ?_)
  refine st_gd (fun h => by exact gvp_in_of h) hQ (fun hQ => ?_)
  refine sim_L_storedBits n hS h_u1 rfl rfl h_u3 ?_
  refine gd_mono (gd_bd hQ) (fun r2 V1 hQ S1 hS1 xS => ?_) (fun E V9 hQ => (gd_none hQ).elim)
  have hx1 : Ex S0 S1 := Ex_tr hx xS
  have h1_u1 := xS _ _ h_u1
  have h1_u2 := xS _ _ h_u2
  have h1_u3 := xS _ _ h_u3
  have h1_u4 := xS _ _ h_u4
  refine st_gd (fun h => by exact gvp_in_of h) hQ (fun hQ => ?_)
  refine st_gd (fun h => by exact gvp_in_of h) hQ (fun hQ => ?_)
  refine sim_X9_storedBits n hS1 h1_u2 rfl rfl ?_
  refine gd_mono (gd_bd hQ) (fun r4 V3 hQ S3 hS3 xS => ?_) (fun E V9 hQ => (gd_none hQ).elim)
  have hx3 : Ex S0 S3 := Ex_tr hx1 xS
  have h3_u1 := xS _ _ h1_u1
  have h3_u2 := xS _ _ h1_u2
  have h3_u3 := xS _ _ h1_u3
  have h3_u4 := xS _ _ h1_u4
  exact sL_law_1227 n L xs hk28 hS3 hx3 h3_u1 h3_u2 h3_u3 h3_u4 hQ
def eL_law_1170 (n : Nat) (L : Nat) (xs : Nat → Int32) (k28v : VS → Nat → Nat → Nat → Nat → Int32 → Rs Unit) (V : VS) (u1v : Nat) (u2v : Nat) (u3v : Nat) (u4v : Nat) (y5 : Int32) : Rs Unit := bd (ev_X8_snapshot n V u1v) (fun r2 V1 => bd (ev_X9_snapshot n V1 u2v) (fun r4 V3 => eL_law_1227 n L xs k28v V3 u1v u2v u3v u4v y5) (fun _ _ => none)) (fun _ _ => none)
set_option maxHeartbeats 4000000 in
set_option maxRecDepth 100000 in
theorem sL_law_1170 (n : Nat) (L : Nat) (xs : Nat → Int32) {S0 : MS} {k28 : MS → Nat → Nat → Nat → Nat → Int32 → Prop} {k28v : VS → Nat → Nat → Nat → Nat → Int32 → Rs Unit} (hk28 : ∀ (S : MS) (V : VS) (p0 p0v : Nat) (p1 p1v : Nat) (p2 p2v : Nat) (p3 p3v : Nat) (p4 : Int32), SM S V → Ex S0 S → Ad S p0 p0v → Ad S p1 p1v → Ad S p2 p2v → Ad S p3 p3v → gd (k28v V p0v p1v p2v p3v p4) AT BT → k28 S p0 p1 p2 p3 p4) {S : MS} {V : VS} {u1 u1v : Nat} {u2 u2v : Nat} {u3 u3v : Nat} {u4 u4v : Nat} {y5 : Int32} (hS : SM S V) (hx : Ex S0 S) (h_u1 : Ad S u1 u1v) (h_u2 : Ad S u2 u2v) (h_u3 : Ad S u3 u3v) (h_u4 : Ad S u4 u4v) (hQ : gd (eL_law_1170 n L xs k28v V u1v u2v u3v u4v y5) AT BT) : wL_law_1170 L xs k28 S u1 u2 u3 u4 y5 := by
  unfold wL_law_1170
  unfold eL_law_1170 at hQ
  refine sim_X8_snapshot n hS h_u1 ?_
  refine gd_mono (gd_bd hQ) (fun r2 V1 hQ S1 hS1 xS => ?_) (fun E V9 hQ => (gd_none hQ).elim)
  have hx1 : Ex S0 S1 := Ex_tr hx xS
  have h1_u1 := xS _ _ h_u1
  have h1_u2 := xS _ _ h_u2
  have h1_u3 := xS _ _ h_u3
  have h1_u4 := xS _ _ h_u4
  refine sim_X9_snapshot n hS1 h1_u2 ?_
  refine gd_mono (gd_bd hQ) (fun r4 V3 hQ S3 hS3 xS => ?_) (fun E V9 hQ => (gd_none hQ).elim)
  have hx3 : Ex S0 S3 := Ex_tr hx1 xS
  have h3_u1 := xS _ _ h1_u1
  have h3_u2 := xS _ _ h1_u2
  have h3_u3 := xS _ _ h1_u3
  have h3_u4 := xS _ _ h1_u4
  exact sL_law_1227 n L xs hk28 hS3 hx3 h3_u1 h3_u2 h3_u3 h3_u4 hQ
def eL_law_1183 (n : Nat) (L : Nat) (xs : Nat → Int32) (k28v : VS → Nat → Nat → Nat → Nat → Int32 → Rs Unit) (V : VS) (u1v : Nat) (u2v : Nat) (u3v : Nat) (u4v : Nat) (y5 : Int32) : Rs Unit := bd (ev_L_restore n V u1v u3v) (fun r2 V1 => bd (ev_X9_restore n V1 u2v) (fun r4 V3 => bd (ev_X9_thrown n V3 u2v) (fun r6 V5 => (if r6 = r2 then (if r2 = 0 then (if gvp_in 0 (vN V5 u3v) = true then (if (lg_cmp (vJ V5 u3v (0 : Int32).toNatClampNeg) ((r4 : Int32).toInt64)) = 0 then eL_law_1227 n L xs k28v V5 u1v u2v u3v u4v y5 else none) else none) else eL_law_1227 n L xs k28v V5 u1v u2v u3v u4v y5) else none)) (fun _ _ => none)) (fun _ _ => none)) (fun _ _ => none)
set_option maxHeartbeats 4000000 in
set_option maxRecDepth 100000 in
theorem sL_law_1183 (n : Nat) (L : Nat) (xs : Nat → Int32) {S0 : MS} {k28 : MS → Nat → Nat → Nat → Nat → Int32 → Prop} {k28v : VS → Nat → Nat → Nat → Nat → Int32 → Rs Unit} (hk28 : ∀ (S : MS) (V : VS) (p0 p0v : Nat) (p1 p1v : Nat) (p2 p2v : Nat) (p3 p3v : Nat) (p4 : Int32), SM S V → Ex S0 S → Ad S p0 p0v → Ad S p1 p1v → Ad S p2 p2v → Ad S p3 p3v → gd (k28v V p0v p1v p2v p3v p4) AT BT → k28 S p0 p1 p2 p3 p4) {S : MS} {V : VS} {u1 u1v : Nat} {u2 u2v : Nat} {u3 u3v : Nat} {u4 u4v : Nat} {y5 : Int32} (hS : SM S V) (hx : Ex S0 S) (h_u1 : Ad S u1 u1v) (h_u2 : Ad S u2 u2v) (h_u3 : Ad S u3 u3v) (h_u4 : Ad S u4 u4v) (hQ : gd (eL_law_1183 n L xs k28v V u1v u2v u3v u4v y5) AT BT) : wL_law_1183 L xs k28 S u1 u2 u3 u4 y5 := by
  unfold wL_law_1183
  unfold eL_law_1183 at hQ
  refine sim_L_restore n hS h_u1 h_u3 ?_
  refine gd_mono (gd_bd hQ) (fun r2 V1 hQ S1 hS1 xS => ?_) (fun E V9 hQ => (gd_none hQ).elim)
  have hx1 : Ex S0 S1 := Ex_tr hx xS
  have h1_u1 := xS _ _ h_u1
  have h1_u2 := xS _ _ h_u2
  have h1_u3 := xS _ _ h_u3
  have h1_u4 := xS _ _ h_u4
  refine sim_X9_restore n hS1 h1_u2 ?_
  refine gd_mono (gd_bd hQ) (fun r4 V3 hQ S3 hS3 xS => ?_) (fun E V9 hQ => (gd_none hQ).elim)
  have hx3 : Ex S0 S3 := Ex_tr hx1 xS
  have h3_u1 := xS _ _ h1_u1
  have h3_u2 := xS _ _ h1_u2
  have h3_u3 := xS _ _ h1_u3
  have h3_u4 := xS _ _ h1_u4
  refine sim_X9_thrown n hS3 h3_u2 ?_
  refine gd_mono (gd_bd hQ) (fun r6 V5 hQ S5 hS5 xS => ?_) (fun E V9 hQ => (gd_none hQ).elim)
  have hx5 : Ex S0 S5 := Ex_tr hx3 xS
  have h5_u1 := xS _ _ h3_u1
  have h5_u2 := xS _ _ h3_u2
  have h5_u3 := xS _ _ h3_u3
  have h5_u4 := xS _ _ h3_u4
  refine st_if rfl hQ (fun hQ => ?_) (fun hQ => ?_)
  · refine st_ifn rfl hQ (fun hQ => ?_) (fun hQ => ?_)
    · exact sL_law_1227 n L xs hk28 hS5 hx5 h5_u1 h5_u2 h5_u3 h5_u4 hQ
    · refine st_gd (fun h => by simp only [SM_N hS5 h5_u3]; exact gvp_in_of h) hQ (fun hQ => ?_)
      refine st_if (show ((lg_cmp (mJ S5 u3 (0 : Int32).toNatClampNeg) ((r4 : Int32).toInt64)) = 0) = ((lg_cmp (vJ V5 u3v (0 : Int32).toNatClampNeg) ((r4 : Int32).toInt64)) = 0) from by simp only [SM_J hS5 h5_u3]) hQ (fun hQ => ?_) (fun hQ => ?_)
      · exact sL_law_1227 n L xs hk28 hS5 hx5 h5_u1 h5_u2 h5_u3 h5_u4 hQ
      · exact (gd_none hQ).elim
  · exact (gd_none hQ).elim
def eL_law_28 (n : Nat) (L : Nat) (xs : Nat → Int32) (k28v : VS → Nat → Nat → Nat → Nat → Int32 → Rs Unit) (V : VS) (u1v : Nat) (u2v : Nat) (u3v : Nat) (u4v : Nat) (y5 : Int32) : Rs Unit := (if ((Int32.ofNat L) - 4) < y5 then rt () V else (if gvp_in y5 L = true then (if (((xs (y5 : Int32).toNatClampNeg) &&& 63) : Int32).toInt < 0 ∨ 36 < (((xs (y5 : Int32).toNatClampNeg) &&& 63) : Int32).toInt then eL_law_1227 n L xs k28v V u1v u2v u3v u4v y5 else (if (((xs (y5 : Int32).toNatClampNeg) &&& 63) : Int32).toInt = 0 then eL_law_208 n L xs k28v V u1v u2v u3v u4v y5 else (if (((xs (y5 : Int32).toNatClampNeg) &&& 63) : Int32).toInt = 1 then eL_law_238 n L xs k28v V u1v u2v u3v u4v y5 else (if (((xs (y5 : Int32).toNatClampNeg) &&& 63) : Int32).toInt = 2 then eL_law_266 n L xs k28v V u1v u2v u3v u4v y5 else (if (((xs (y5 : Int32).toNatClampNeg) &&& 63) : Int32).toInt = 3 then eL_law_282 n L xs k28v V u1v u2v u3v u4v y5 else (if (((xs (y5 : Int32).toNatClampNeg) &&& 63) : Int32).toInt = 4 then eL_law_322 n L xs k28v V u1v u2v u3v u4v y5 else (if (((xs (y5 : Int32).toNatClampNeg) &&& 63) : Int32).toInt = 5 then eL_law_362 n L xs k28v V u1v u2v u3v u4v y5 else (if (((xs (y5 : Int32).toNatClampNeg) &&& 63) : Int32).toInt = 6 then eL_law_402 n L xs k28v V u1v u2v u3v u4v y5 else (if (((xs (y5 : Int32).toNatClampNeg) &&& 63) : Int32).toInt = 7 then eL_law_454 n L xs k28v V u1v u2v u3v u4v y5 else (if (((xs (y5 : Int32).toNatClampNeg) &&& 63) : Int32).toInt = 8 then eL_law_467 n L xs k28v V u1v u2v u3v u4v y5 else (if (((xs (y5 : Int32).toNatClampNeg) &&& 63) : Int32).toInt = 9 then eL_law_507 n L xs k28v V u1v u2v u3v u4v y5 else (if (((xs (y5 : Int32).toNatClampNeg) &&& 63) : Int32).toInt = 10 then eL_law_523 n L xs k28v V u1v u2v u3v u4v y5 else (if (((xs (y5 : Int32).toNatClampNeg) &&& 63) : Int32).toInt = 11 then eL_law_536 n L xs k28v V u1v u2v u3v u4v y5 else (if (((xs (y5 : Int32).toNatClampNeg) &&& 63) : Int32).toInt = 12 then eL_law_549 n L xs k28v V u1v u2v u3v u4v y5 else (if (((xs (y5 : Int32).toNatClampNeg) &&& 63) : Int32).toInt = 13 then eL_law_565 n L xs k28v V u1v u2v u3v u4v y5 else (if (((xs (y5 : Int32).toNatClampNeg) &&& 63) : Int32).toInt = 14 then eL_law_593 n L xs k28v V u1v u2v u3v u4v y5 else (if (((xs (y5 : Int32).toNatClampNeg) &&& 63) : Int32).toInt = 15 then eL_law_621 n L xs k28v V u1v u2v u3v u4v y5 else (if (((xs (y5 : Int32).toNatClampNeg) &&& 63) : Int32).toInt = 16 then eL_law_661 n L xs k28v V u1v u2v u3v u4v y5 else (if (((xs (y5 : Int32).toNatClampNeg) &&& 63) : Int32).toInt = 17 then eL_law_702 n L xs k28v V u1v u2v u3v u4v y5 else (if (((xs (y5 : Int32).toNatClampNeg) &&& 63) : Int32).toInt = 18 then eL_law_743 n L xs k28v V u1v u2v u3v u4v y5 else (if (((xs (y5 : Int32).toNatClampNeg) &&& 63) : Int32).toInt = 19 then eL_law_759 n L xs k28v V u1v u2v u3v u4v y5 else (if (((xs (y5 : Int32).toNatClampNeg) &&& 63) : Int32).toInt = 20 then eL_law_787 n L xs k28v V u1v u2v u3v u4v y5 else (if (((xs (y5 : Int32).toNatClampNeg) &&& 63) : Int32).toInt = 21 then eL_law_815 n L xs k28v V u1v u2v u3v u4v y5 else (if (((xs (y5 : Int32).toNatClampNeg) &&& 63) : Int32).toInt = 22 then eL_law_843 n L xs k28v V u1v u2v u3v u4v y5 else (if (((xs (y5 : Int32).toNatClampNeg) &&& 63) : Int32).toInt = 23 then eL_law_859 n L xs k28v V u1v u2v u3v u4v y5 else (if (((xs (y5 : Int32).toNatClampNeg) &&& 63) : Int32).toInt = 24 then eL_law_875 n L xs k28v V u1v u2v u3v u4v y5 else (if (((xs (y5 : Int32).toNatClampNeg) &&& 63) : Int32).toInt = 25 then eL_law_891 n L xs k28v V u1v u2v u3v u4v y5 else (if (((xs (y5 : Int32).toNatClampNeg) &&& 63) : Int32).toInt = 26 then eL_law_907 n L xs k28v V u1v u2v u3v u4v y5 else (if (((xs (y5 : Int32).toNatClampNeg) &&& 63) : Int32).toInt = 27 then eL_law_920 n L xs k28v V u1v u2v u3v u4v y5 else (if (((xs (y5 : Int32).toNatClampNeg) &&& 63) : Int32).toInt = 28 then eL_law_960 n L xs k28v V u1v u2v u3v u4v y5 else (if (((xs (y5 : Int32).toNatClampNeg) &&& 63) : Int32).toInt = 29 then eL_law_973 n L xs k28v V u1v u2v u3v u4v y5 else (if (((xs (y5 : Int32).toNatClampNeg) &&& 63) : Int32).toInt = 30 then eL_law_989 n L xs k28v V u1v u2v u3v u4v y5 else (if (((xs (y5 : Int32).toNatClampNeg) &&& 63) : Int32).toInt = 31 then eL_law_1005 n L xs k28v V u1v u2v u3v u4v y5 else (if (((xs (y5 : Int32).toNatClampNeg) &&& 63) : Int32).toInt = 32 then eL_law_1034 n L xs k28v V u1v u2v u3v u4v y5 else (if (((xs (y5 : Int32).toNatClampNeg) &&& 63) : Int32).toInt = 33 then eL_law_1090 n L xs k28v V u1v u2v u3v u4v y5 else (if (((xs (y5 : Int32).toNatClampNeg) &&& 63) : Int32).toInt = 34 then eL_law_1130 n L xs k28v V u1v u2v u3v u4v y5 else (if (((xs (y5 : Int32).toNatClampNeg) &&& 63) : Int32).toInt = 35 then eL_law_1170 n L xs k28v V u1v u2v u3v u4v y5 else (if (((xs (y5 : Int32).toNatClampNeg) &&& 63) : Int32).toInt = 36 then eL_law_1183 n L xs k28v V u1v u2v u3v u4v y5 else none)))))))))))))))))))))))))))))))))))))) else none))
set_option maxHeartbeats 4000000 in
set_option maxRecDepth 100000 in
theorem sL_law_28 (n : Nat) (L : Nat) (xs : Nat → Int32) {S0 : MS} {k28 : MS → Nat → Nat → Nat → Nat → Int32 → Prop} {k28v : VS → Nat → Nat → Nat → Nat → Int32 → Rs Unit} (hk28 : ∀ (S : MS) (V : VS) (p0 p0v : Nat) (p1 p1v : Nat) (p2 p2v : Nat) (p3 p3v : Nat) (p4 : Int32), SM S V → Ex S0 S → Ad S p0 p0v → Ad S p1 p1v → Ad S p2 p2v → Ad S p3 p3v → gd (k28v V p0v p1v p2v p3v p4) AT BT → k28 S p0 p1 p2 p3 p4) {S : MS} {V : VS} {u1 u1v : Nat} {u2 u2v : Nat} {u3 u3v : Nat} {u4 u4v : Nat} {y5 : Int32} (hS : SM S V) (hx : Ex S0 S) (h_u1 : Ad S u1 u1v) (h_u2 : Ad S u2 u2v) (h_u3 : Ad S u3 u3v) (h_u4 : Ad S u4 u4v) (hQ : gd (eL_law_28 n L xs k28v V u1v u2v u3v u4v y5) AT BT) : wL_law_28 L xs k28 S u1 u2 u3 u4 y5 := by
  unfold wL_law_28
  unfold eL_law_28 at hQ
  refine st_if rfl hQ (fun hQ => ?_) (fun hQ => ?_)
  · trivial
  · refine st_gd (fun h => by exact gvp_in_of h) hQ (fun hQ => ?_)
    refine ⟨fun hc => ?_, fun hc => ?_, fun hc => ?_, fun hc => ?_, fun hc => ?_, fun hc => ?_, fun hc => ?_, fun hc => ?_, fun hc => ?_, fun hc => ?_, fun hc => ?_, fun hc => ?_, fun hc => ?_, fun hc => ?_, fun hc => ?_, fun hc => ?_, fun hc => ?_, fun hc => ?_, fun hc => ?_, fun hc => ?_, fun hc => ?_, fun hc => ?_, fun hc => ?_, fun hc => ?_, fun hc => ?_, fun hc => ?_, fun hc => ?_, fun hc => ?_, fun hc => ?_, fun hc => ?_, fun hc => ?_, fun hc => ?_, fun hc => ?_, fun hc => ?_, fun hc => ?_, fun hc => ?_, fun hc => ?_, fun hc => ?_⟩
    · have hQ := gd_yes hQ hc
      exact sL_law_1227 n L xs hk28 hS hx h_u1 h_u2 h_u3 h_u4 hQ
    · have hQ := gd_no hQ (by omega)
      have hQ := gd_yes hQ hc
      exact sL_law_208 n L xs hk28 hS hx h_u1 h_u2 h_u3 h_u4 hQ
    · have hQ := gd_no hQ (by omega)
      have hQ := gd_no hQ (by omega)
      have hQ := gd_yes hQ hc
      exact sL_law_238 n L xs hk28 hS hx h_u1 h_u2 h_u3 h_u4 hQ
    · have hQ := gd_no hQ (by omega)
      have hQ := gd_no hQ (by omega)
      have hQ := gd_no hQ (by omega)
      have hQ := gd_yes hQ hc
      exact sL_law_266 n L xs hk28 hS hx h_u1 h_u2 h_u3 h_u4 hQ
    · have hQ := gd_no hQ (by omega)
      have hQ := gd_no hQ (by omega)
      have hQ := gd_no hQ (by omega)
      have hQ := gd_no hQ (by omega)
      have hQ := gd_yes hQ hc
      exact sL_law_282 n L xs hk28 hS hx h_u1 h_u2 h_u3 h_u4 hQ
    · have hQ := gd_no hQ (by omega)
      have hQ := gd_no hQ (by omega)
      have hQ := gd_no hQ (by omega)
      have hQ := gd_no hQ (by omega)
      have hQ := gd_no hQ (by omega)
      have hQ := gd_yes hQ hc
      exact sL_law_322 n L xs hk28 hS hx h_u1 h_u2 h_u3 h_u4 hQ
    · have hQ := gd_no hQ (by omega)
      have hQ := gd_no hQ (by omega)
      have hQ := gd_no hQ (by omega)
      have hQ := gd_no hQ (by omega)
      have hQ := gd_no hQ (by omega)
      have hQ := gd_no hQ (by omega)
      have hQ := gd_yes hQ hc
      exact sL_law_362 n L xs hk28 hS hx h_u1 h_u2 h_u3 h_u4 hQ
    · have hQ := gd_no hQ (by omega)
      have hQ := gd_no hQ (by omega)
      have hQ := gd_no hQ (by omega)
      have hQ := gd_no hQ (by omega)
      have hQ := gd_no hQ (by omega)
      have hQ := gd_no hQ (by omega)
      have hQ := gd_no hQ (by omega)
      have hQ := gd_yes hQ hc
      exact sL_law_402 n L xs hk28 hS hx h_u1 h_u2 h_u3 h_u4 hQ
    · have hQ := gd_no hQ (by omega)
      have hQ := gd_no hQ (by omega)
      have hQ := gd_no hQ (by omega)
      have hQ := gd_no hQ (by omega)
      have hQ := gd_no hQ (by omega)
      have hQ := gd_no hQ (by omega)
      have hQ := gd_no hQ (by omega)
      have hQ := gd_no hQ (by omega)
      have hQ := gd_yes hQ hc
      exact sL_law_454 n L xs hk28 hS hx h_u1 h_u2 h_u3 h_u4 hQ
    · have hQ := gd_no hQ (by omega)
      have hQ := gd_no hQ (by omega)
      have hQ := gd_no hQ (by omega)
      have hQ := gd_no hQ (by omega)
      have hQ := gd_no hQ (by omega)
      have hQ := gd_no hQ (by omega)
      have hQ := gd_no hQ (by omega)
      have hQ := gd_no hQ (by omega)
      have hQ := gd_no hQ (by omega)
      have hQ := gd_yes hQ hc
      exact sL_law_467 n L xs hk28 hS hx h_u1 h_u2 h_u3 h_u4 hQ
    · have hQ := gd_no hQ (by omega)
      have hQ := gd_no hQ (by omega)
      have hQ := gd_no hQ (by omega)
      have hQ := gd_no hQ (by omega)
      have hQ := gd_no hQ (by omega)
      have hQ := gd_no hQ (by omega)
      have hQ := gd_no hQ (by omega)
      have hQ := gd_no hQ (by omega)
      have hQ := gd_no hQ (by omega)
      have hQ := gd_no hQ (by omega)
      have hQ := gd_yes hQ hc
      exact sL_law_507 n L xs hk28 hS hx h_u1 h_u2 h_u3 h_u4 hQ
    · have hQ := gd_no hQ (by omega)
      have hQ := gd_no hQ (by omega)
      have hQ := gd_no hQ (by omega)
      have hQ := gd_no hQ (by omega)
      have hQ := gd_no hQ (by omega)
      have hQ := gd_no hQ (by omega)
      have hQ := gd_no hQ (by omega)
      have hQ := gd_no hQ (by omega)
      have hQ := gd_no hQ (by omega)
      have hQ := gd_no hQ (by omega)
      have hQ := gd_no hQ (by omega)
      have hQ := gd_yes hQ hc
      exact sL_law_523 n L xs hk28 hS hx h_u1 h_u2 h_u3 h_u4 hQ
    · have hQ := gd_no hQ (by omega)
      have hQ := gd_no hQ (by omega)
      have hQ := gd_no hQ (by omega)
      have hQ := gd_no hQ (by omega)
      have hQ := gd_no hQ (by omega)
      have hQ := gd_no hQ (by omega)
      have hQ := gd_no hQ (by omega)
      have hQ := gd_no hQ (by omega)
      have hQ := gd_no hQ (by omega)
      have hQ := gd_no hQ (by omega)
      have hQ := gd_no hQ (by omega)
      have hQ := gd_no hQ (by omega)
      have hQ := gd_yes hQ hc
      exact sL_law_536 n L xs hk28 hS hx h_u1 h_u2 h_u3 h_u4 hQ
    · have hQ := gd_no hQ (by omega)
      have hQ := gd_no hQ (by omega)
      have hQ := gd_no hQ (by omega)
      have hQ := gd_no hQ (by omega)
      have hQ := gd_no hQ (by omega)
      have hQ := gd_no hQ (by omega)
      have hQ := gd_no hQ (by omega)
      have hQ := gd_no hQ (by omega)
      have hQ := gd_no hQ (by omega)
      have hQ := gd_no hQ (by omega)
      have hQ := gd_no hQ (by omega)
      have hQ := gd_no hQ (by omega)
      have hQ := gd_no hQ (by omega)
      have hQ := gd_yes hQ hc
      exact sL_law_549 n L xs hk28 hS hx h_u1 h_u2 h_u3 h_u4 hQ
    · have hQ := gd_no hQ (by omega)
      have hQ := gd_no hQ (by omega)
      have hQ := gd_no hQ (by omega)
      have hQ := gd_no hQ (by omega)
      have hQ := gd_no hQ (by omega)
      have hQ := gd_no hQ (by omega)
      have hQ := gd_no hQ (by omega)
      have hQ := gd_no hQ (by omega)
      have hQ := gd_no hQ (by omega)
      have hQ := gd_no hQ (by omega)
      have hQ := gd_no hQ (by omega)
      have hQ := gd_no hQ (by omega)
      have hQ := gd_no hQ (by omega)
      have hQ := gd_no hQ (by omega)
      have hQ := gd_yes hQ hc
      exact sL_law_565 n L xs hk28 hS hx h_u1 h_u2 h_u3 h_u4 hQ
    · have hQ := gd_no hQ (by omega)
      have hQ := gd_no hQ (by omega)
      have hQ := gd_no hQ (by omega)
      have hQ := gd_no hQ (by omega)
      have hQ := gd_no hQ (by omega)
      have hQ := gd_no hQ (by omega)
      have hQ := gd_no hQ (by omega)
      have hQ := gd_no hQ (by omega)
      have hQ := gd_no hQ (by omega)
      have hQ := gd_no hQ (by omega)
      have hQ := gd_no hQ (by omega)
      have hQ := gd_no hQ (by omega)
      have hQ := gd_no hQ (by omega)
      have hQ := gd_no hQ (by omega)
      have hQ := gd_no hQ (by omega)
      have hQ := gd_yes hQ hc
      exact sL_law_593 n L xs hk28 hS hx h_u1 h_u2 h_u3 h_u4 hQ
    · have hQ := gd_no hQ (by omega)
      have hQ := gd_no hQ (by omega)
      have hQ := gd_no hQ (by omega)
      have hQ := gd_no hQ (by omega)
      have hQ := gd_no hQ (by omega)
      have hQ := gd_no hQ (by omega)
      have hQ := gd_no hQ (by omega)
      have hQ := gd_no hQ (by omega)
      have hQ := gd_no hQ (by omega)
      have hQ := gd_no hQ (by omega)
      have hQ := gd_no hQ (by omega)
      have hQ := gd_no hQ (by omega)
      have hQ := gd_no hQ (by omega)
      have hQ := gd_no hQ (by omega)
      have hQ := gd_no hQ (by omega)
      have hQ := gd_no hQ (by omega)
      have hQ := gd_yes hQ hc
      exact sL_law_621 n L xs hk28 hS hx h_u1 h_u2 h_u3 h_u4 hQ
    · have hQ := gd_no hQ (by omega)
      have hQ := gd_no hQ (by omega)
      have hQ := gd_no hQ (by omega)
      have hQ := gd_no hQ (by omega)
      have hQ := gd_no hQ (by omega)
      have hQ := gd_no hQ (by omega)
      have hQ := gd_no hQ (by omega)
      have hQ := gd_no hQ (by omega)
      have hQ := gd_no hQ (by omega)
      have hQ := gd_no hQ (by omega)
      have hQ := gd_no hQ (by omega)
      have hQ := gd_no hQ (by omega)
      have hQ := gd_no hQ (by omega)
      have hQ := gd_no hQ (by omega)
      have hQ := gd_no hQ (by omega)
      have hQ := gd_no hQ (by omega)
      have hQ := gd_no hQ (by omega)
      have hQ := gd_yes hQ hc
      exact sL_law_661 n L xs hk28 hS hx h_u1 h_u2 h_u3 h_u4 hQ
    · have hQ := gd_no hQ (by omega)
      have hQ := gd_no hQ (by omega)
      have hQ := gd_no hQ (by omega)
      have hQ := gd_no hQ (by omega)
      have hQ := gd_no hQ (by omega)
      have hQ := gd_no hQ (by omega)
      have hQ := gd_no hQ (by omega)
      have hQ := gd_no hQ (by omega)
      have hQ := gd_no hQ (by omega)
      have hQ := gd_no hQ (by omega)
      have hQ := gd_no hQ (by omega)
      have hQ := gd_no hQ (by omega)
      have hQ := gd_no hQ (by omega)
      have hQ := gd_no hQ (by omega)
      have hQ := gd_no hQ (by omega)
      have hQ := gd_no hQ (by omega)
      have hQ := gd_no hQ (by omega)
      have hQ := gd_no hQ (by omega)
      have hQ := gd_yes hQ hc
      exact sL_law_702 n L xs hk28 hS hx h_u1 h_u2 h_u3 h_u4 hQ
    · have hQ := gd_no hQ (by omega)
      have hQ := gd_no hQ (by omega)
      have hQ := gd_no hQ (by omega)
      have hQ := gd_no hQ (by omega)
      have hQ := gd_no hQ (by omega)
      have hQ := gd_no hQ (by omega)
      have hQ := gd_no hQ (by omega)
      have hQ := gd_no hQ (by omega)
      have hQ := gd_no hQ (by omega)
      have hQ := gd_no hQ (by omega)
      have hQ := gd_no hQ (by omega)
      have hQ := gd_no hQ (by omega)
      have hQ := gd_no hQ (by omega)
      have hQ := gd_no hQ (by omega)
      have hQ := gd_no hQ (by omega)
      have hQ := gd_no hQ (by omega)
      have hQ := gd_no hQ (by omega)
      have hQ := gd_no hQ (by omega)
      have hQ := gd_no hQ (by omega)
      have hQ := gd_yes hQ hc
      exact sL_law_743 n L xs hk28 hS hx h_u1 h_u2 h_u3 h_u4 hQ
    · have hQ := gd_no hQ (by omega)
      have hQ := gd_no hQ (by omega)
      have hQ := gd_no hQ (by omega)
      have hQ := gd_no hQ (by omega)
      have hQ := gd_no hQ (by omega)
      have hQ := gd_no hQ (by omega)
      have hQ := gd_no hQ (by omega)
      have hQ := gd_no hQ (by omega)
      have hQ := gd_no hQ (by omega)
      have hQ := gd_no hQ (by omega)
      have hQ := gd_no hQ (by omega)
      have hQ := gd_no hQ (by omega)
      have hQ := gd_no hQ (by omega)
      have hQ := gd_no hQ (by omega)
      have hQ := gd_no hQ (by omega)
      have hQ := gd_no hQ (by omega)
      have hQ := gd_no hQ (by omega)
      have hQ := gd_no hQ (by omega)
      have hQ := gd_no hQ (by omega)
      have hQ := gd_no hQ (by omega)
      have hQ := gd_yes hQ hc
      exact sL_law_759 n L xs hk28 hS hx h_u1 h_u2 h_u3 h_u4 hQ
    · have hQ := gd_no hQ (by omega)
      have hQ := gd_no hQ (by omega)
      have hQ := gd_no hQ (by omega)
      have hQ := gd_no hQ (by omega)
      have hQ := gd_no hQ (by omega)
      have hQ := gd_no hQ (by omega)
      have hQ := gd_no hQ (by omega)
      have hQ := gd_no hQ (by omega)
      have hQ := gd_no hQ (by omega)
      have hQ := gd_no hQ (by omega)
      have hQ := gd_no hQ (by omega)
      have hQ := gd_no hQ (by omega)
      have hQ := gd_no hQ (by omega)
      have hQ := gd_no hQ (by omega)
      have hQ := gd_no hQ (by omega)
      have hQ := gd_no hQ (by omega)
      have hQ := gd_no hQ (by omega)
      have hQ := gd_no hQ (by omega)
      have hQ := gd_no hQ (by omega)
      have hQ := gd_no hQ (by omega)
      have hQ := gd_no hQ (by omega)
      have hQ := gd_yes hQ hc
      exact sL_law_787 n L xs hk28 hS hx h_u1 h_u2 h_u3 h_u4 hQ
    · have hQ := gd_no hQ (by omega)
      have hQ := gd_no hQ (by omega)
      have hQ := gd_no hQ (by omega)
      have hQ := gd_no hQ (by omega)
      have hQ := gd_no hQ (by omega)
      have hQ := gd_no hQ (by omega)
      have hQ := gd_no hQ (by omega)
      have hQ := gd_no hQ (by omega)
      have hQ := gd_no hQ (by omega)
      have hQ := gd_no hQ (by omega)
      have hQ := gd_no hQ (by omega)
      have hQ := gd_no hQ (by omega)
      have hQ := gd_no hQ (by omega)
      have hQ := gd_no hQ (by omega)
      have hQ := gd_no hQ (by omega)
      have hQ := gd_no hQ (by omega)
      have hQ := gd_no hQ (by omega)
      have hQ := gd_no hQ (by omega)
      have hQ := gd_no hQ (by omega)
      have hQ := gd_no hQ (by omega)
      have hQ := gd_no hQ (by omega)
      have hQ := gd_no hQ (by omega)
      have hQ := gd_yes hQ hc
      exact sL_law_815 n L xs hk28 hS hx h_u1 h_u2 h_u3 h_u4 hQ
    · have hQ := gd_no hQ (by omega)
      have hQ := gd_no hQ (by omega)
      have hQ := gd_no hQ (by omega)
      have hQ := gd_no hQ (by omega)
      have hQ := gd_no hQ (by omega)
      have hQ := gd_no hQ (by omega)
      have hQ := gd_no hQ (by omega)
      have hQ := gd_no hQ (by omega)
      have hQ := gd_no hQ (by omega)
      have hQ := gd_no hQ (by omega)
      have hQ := gd_no hQ (by omega)
      have hQ := gd_no hQ (by omega)
      have hQ := gd_no hQ (by omega)
      have hQ := gd_no hQ (by omega)
      have hQ := gd_no hQ (by omega)
      have hQ := gd_no hQ (by omega)
      have hQ := gd_no hQ (by omega)
      have hQ := gd_no hQ (by omega)
      have hQ := gd_no hQ (by omega)
      have hQ := gd_no hQ (by omega)
      have hQ := gd_no hQ (by omega)
      have hQ := gd_no hQ (by omega)
      have hQ := gd_no hQ (by omega)
      have hQ := gd_yes hQ hc
      exact sL_law_843 n L xs hk28 hS hx h_u1 h_u2 h_u3 h_u4 hQ
    · have hQ := gd_no hQ (by omega)
      have hQ := gd_no hQ (by omega)
      have hQ := gd_no hQ (by omega)
      have hQ := gd_no hQ (by omega)
      have hQ := gd_no hQ (by omega)
      have hQ := gd_no hQ (by omega)
      have hQ := gd_no hQ (by omega)
      have hQ := gd_no hQ (by omega)
      have hQ := gd_no hQ (by omega)
      have hQ := gd_no hQ (by omega)
      have hQ := gd_no hQ (by omega)
      have hQ := gd_no hQ (by omega)
      have hQ := gd_no hQ (by omega)
      have hQ := gd_no hQ (by omega)
      have hQ := gd_no hQ (by omega)
      have hQ := gd_no hQ (by omega)
      have hQ := gd_no hQ (by omega)
      have hQ := gd_no hQ (by omega)
      have hQ := gd_no hQ (by omega)
      have hQ := gd_no hQ (by omega)
      have hQ := gd_no hQ (by omega)
      have hQ := gd_no hQ (by omega)
      have hQ := gd_no hQ (by omega)
      have hQ := gd_no hQ (by omega)
      have hQ := gd_yes hQ hc
      exact sL_law_859 n L xs hk28 hS hx h_u1 h_u2 h_u3 h_u4 hQ
    · have hQ := gd_no hQ (by omega)
      have hQ := gd_no hQ (by omega)
      have hQ := gd_no hQ (by omega)
      have hQ := gd_no hQ (by omega)
      have hQ := gd_no hQ (by omega)
      have hQ := gd_no hQ (by omega)
      have hQ := gd_no hQ (by omega)
      have hQ := gd_no hQ (by omega)
      have hQ := gd_no hQ (by omega)
      have hQ := gd_no hQ (by omega)
      have hQ := gd_no hQ (by omega)
      have hQ := gd_no hQ (by omega)
      have hQ := gd_no hQ (by omega)
      have hQ := gd_no hQ (by omega)
      have hQ := gd_no hQ (by omega)
      have hQ := gd_no hQ (by omega)
      have hQ := gd_no hQ (by omega)
      have hQ := gd_no hQ (by omega)
      have hQ := gd_no hQ (by omega)
      have hQ := gd_no hQ (by omega)
      have hQ := gd_no hQ (by omega)
      have hQ := gd_no hQ (by omega)
      have hQ := gd_no hQ (by omega)
      have hQ := gd_no hQ (by omega)
      have hQ := gd_no hQ (by omega)
      have hQ := gd_yes hQ hc
      exact sL_law_875 n L xs hk28 hS hx h_u1 h_u2 h_u3 h_u4 hQ
    · have hQ := gd_no hQ (by omega)
      have hQ := gd_no hQ (by omega)
      have hQ := gd_no hQ (by omega)
      have hQ := gd_no hQ (by omega)
      have hQ := gd_no hQ (by omega)
      have hQ := gd_no hQ (by omega)
      have hQ := gd_no hQ (by omega)
      have hQ := gd_no hQ (by omega)
      have hQ := gd_no hQ (by omega)
      have hQ := gd_no hQ (by omega)
      have hQ := gd_no hQ (by omega)
      have hQ := gd_no hQ (by omega)
      have hQ := gd_no hQ (by omega)
      have hQ := gd_no hQ (by omega)
      have hQ := gd_no hQ (by omega)
      have hQ := gd_no hQ (by omega)
      have hQ := gd_no hQ (by omega)
      have hQ := gd_no hQ (by omega)
      have hQ := gd_no hQ (by omega)
      have hQ := gd_no hQ (by omega)
      have hQ := gd_no hQ (by omega)
      have hQ := gd_no hQ (by omega)
      have hQ := gd_no hQ (by omega)
      have hQ := gd_no hQ (by omega)
      have hQ := gd_no hQ (by omega)
      have hQ := gd_no hQ (by omega)
      have hQ := gd_yes hQ hc
      exact sL_law_891 n L xs hk28 hS hx h_u1 h_u2 h_u3 h_u4 hQ
    · have hQ := gd_no hQ (by omega)
      have hQ := gd_no hQ (by omega)
      have hQ := gd_no hQ (by omega)
      have hQ := gd_no hQ (by omega)
      have hQ := gd_no hQ (by omega)
      have hQ := gd_no hQ (by omega)
      have hQ := gd_no hQ (by omega)
      have hQ := gd_no hQ (by omega)
      have hQ := gd_no hQ (by omega)
      have hQ := gd_no hQ (by omega)
      have hQ := gd_no hQ (by omega)
      have hQ := gd_no hQ (by omega)
      have hQ := gd_no hQ (by omega)
      have hQ := gd_no hQ (by omega)
      have hQ := gd_no hQ (by omega)
      have hQ := gd_no hQ (by omega)
      have hQ := gd_no hQ (by omega)
      have hQ := gd_no hQ (by omega)
      have hQ := gd_no hQ (by omega)
      have hQ := gd_no hQ (by omega)
      have hQ := gd_no hQ (by omega)
      have hQ := gd_no hQ (by omega)
      have hQ := gd_no hQ (by omega)
      have hQ := gd_no hQ (by omega)
      have hQ := gd_no hQ (by omega)
      have hQ := gd_no hQ (by omega)
      have hQ := gd_no hQ (by omega)
      have hQ := gd_yes hQ hc
      exact sL_law_907 n L xs hk28 hS hx h_u1 h_u2 h_u3 h_u4 hQ
    · have hQ := gd_no hQ (by omega)
      have hQ := gd_no hQ (by omega)
      have hQ := gd_no hQ (by omega)
      have hQ := gd_no hQ (by omega)
      have hQ := gd_no hQ (by omega)
      have hQ := gd_no hQ (by omega)
      have hQ := gd_no hQ (by omega)
      have hQ := gd_no hQ (by omega)
      have hQ := gd_no hQ (by omega)
      have hQ := gd_no hQ (by omega)
      have hQ := gd_no hQ (by omega)
      have hQ := gd_no hQ (by omega)
      have hQ := gd_no hQ (by omega)
      have hQ := gd_no hQ (by omega)
      have hQ := gd_no hQ (by omega)
      have hQ := gd_no hQ (by omega)
      have hQ := gd_no hQ (by omega)
      have hQ := gd_no hQ (by omega)
      have hQ := gd_no hQ (by omega)
      have hQ := gd_no hQ (by omega)
      have hQ := gd_no hQ (by omega)
      have hQ := gd_no hQ (by omega)
      have hQ := gd_no hQ (by omega)
      have hQ := gd_no hQ (by omega)
      have hQ := gd_no hQ (by omega)
      have hQ := gd_no hQ (by omega)
      have hQ := gd_no hQ (by omega)
      have hQ := gd_no hQ (by omega)
      have hQ := gd_yes hQ hc
      exact sL_law_920 n L xs hk28 hS hx h_u1 h_u2 h_u3 h_u4 hQ
    · have hQ := gd_no hQ (by omega)
      have hQ := gd_no hQ (by omega)
      have hQ := gd_no hQ (by omega)
      have hQ := gd_no hQ (by omega)
      have hQ := gd_no hQ (by omega)
      have hQ := gd_no hQ (by omega)
      have hQ := gd_no hQ (by omega)
      have hQ := gd_no hQ (by omega)
      have hQ := gd_no hQ (by omega)
      have hQ := gd_no hQ (by omega)
      have hQ := gd_no hQ (by omega)
      have hQ := gd_no hQ (by omega)
      have hQ := gd_no hQ (by omega)
      have hQ := gd_no hQ (by omega)
      have hQ := gd_no hQ (by omega)
      have hQ := gd_no hQ (by omega)
      have hQ := gd_no hQ (by omega)
      have hQ := gd_no hQ (by omega)
      have hQ := gd_no hQ (by omega)
      have hQ := gd_no hQ (by omega)
      have hQ := gd_no hQ (by omega)
      have hQ := gd_no hQ (by omega)
      have hQ := gd_no hQ (by omega)
      have hQ := gd_no hQ (by omega)
      have hQ := gd_no hQ (by omega)
      have hQ := gd_no hQ (by omega)
      have hQ := gd_no hQ (by omega)
      have hQ := gd_no hQ (by omega)
      have hQ := gd_no hQ (by omega)
      have hQ := gd_yes hQ hc
      exact sL_law_960 n L xs hk28 hS hx h_u1 h_u2 h_u3 h_u4 hQ
    · have hQ := gd_no hQ (by omega)
      have hQ := gd_no hQ (by omega)
      have hQ := gd_no hQ (by omega)
      have hQ := gd_no hQ (by omega)
      have hQ := gd_no hQ (by omega)
      have hQ := gd_no hQ (by omega)
      have hQ := gd_no hQ (by omega)
      have hQ := gd_no hQ (by omega)
      have hQ := gd_no hQ (by omega)
      have hQ := gd_no hQ (by omega)
      have hQ := gd_no hQ (by omega)
      have hQ := gd_no hQ (by omega)
      have hQ := gd_no hQ (by omega)
      have hQ := gd_no hQ (by omega)
      have hQ := gd_no hQ (by omega)
      have hQ := gd_no hQ (by omega)
      have hQ := gd_no hQ (by omega)
      have hQ := gd_no hQ (by omega)
      have hQ := gd_no hQ (by omega)
      have hQ := gd_no hQ (by omega)
      have hQ := gd_no hQ (by omega)
      have hQ := gd_no hQ (by omega)
      have hQ := gd_no hQ (by omega)
      have hQ := gd_no hQ (by omega)
      have hQ := gd_no hQ (by omega)
      have hQ := gd_no hQ (by omega)
      have hQ := gd_no hQ (by omega)
      have hQ := gd_no hQ (by omega)
      have hQ := gd_no hQ (by omega)
      have hQ := gd_no hQ (by omega)
      have hQ := gd_yes hQ hc
      exact sL_law_973 n L xs hk28 hS hx h_u1 h_u2 h_u3 h_u4 hQ
    · have hQ := gd_no hQ (by omega)
      have hQ := gd_no hQ (by omega)
      have hQ := gd_no hQ (by omega)
      have hQ := gd_no hQ (by omega)
      have hQ := gd_no hQ (by omega)
      have hQ := gd_no hQ (by omega)
      have hQ := gd_no hQ (by omega)
      have hQ := gd_no hQ (by omega)
      have hQ := gd_no hQ (by omega)
      have hQ := gd_no hQ (by omega)
      have hQ := gd_no hQ (by omega)
      have hQ := gd_no hQ (by omega)
      have hQ := gd_no hQ (by omega)
      have hQ := gd_no hQ (by omega)
      have hQ := gd_no hQ (by omega)
      have hQ := gd_no hQ (by omega)
      have hQ := gd_no hQ (by omega)
      have hQ := gd_no hQ (by omega)
      have hQ := gd_no hQ (by omega)
      have hQ := gd_no hQ (by omega)
      have hQ := gd_no hQ (by omega)
      have hQ := gd_no hQ (by omega)
      have hQ := gd_no hQ (by omega)
      have hQ := gd_no hQ (by omega)
      have hQ := gd_no hQ (by omega)
      have hQ := gd_no hQ (by omega)
      have hQ := gd_no hQ (by omega)
      have hQ := gd_no hQ (by omega)
      have hQ := gd_no hQ (by omega)
      have hQ := gd_no hQ (by omega)
      have hQ := gd_no hQ (by omega)
      have hQ := gd_yes hQ hc
      exact sL_law_989 n L xs hk28 hS hx h_u1 h_u2 h_u3 h_u4 hQ
    · have hQ := gd_no hQ (by omega)
      have hQ := gd_no hQ (by omega)
      have hQ := gd_no hQ (by omega)
      have hQ := gd_no hQ (by omega)
      have hQ := gd_no hQ (by omega)
      have hQ := gd_no hQ (by omega)
      have hQ := gd_no hQ (by omega)
      have hQ := gd_no hQ (by omega)
      have hQ := gd_no hQ (by omega)
      have hQ := gd_no hQ (by omega)
      have hQ := gd_no hQ (by omega)
      have hQ := gd_no hQ (by omega)
      have hQ := gd_no hQ (by omega)
      have hQ := gd_no hQ (by omega)
      have hQ := gd_no hQ (by omega)
      have hQ := gd_no hQ (by omega)
      have hQ := gd_no hQ (by omega)
      have hQ := gd_no hQ (by omega)
      have hQ := gd_no hQ (by omega)
      have hQ := gd_no hQ (by omega)
      have hQ := gd_no hQ (by omega)
      have hQ := gd_no hQ (by omega)
      have hQ := gd_no hQ (by omega)
      have hQ := gd_no hQ (by omega)
      have hQ := gd_no hQ (by omega)
      have hQ := gd_no hQ (by omega)
      have hQ := gd_no hQ (by omega)
      have hQ := gd_no hQ (by omega)
      have hQ := gd_no hQ (by omega)
      have hQ := gd_no hQ (by omega)
      have hQ := gd_no hQ (by omega)
      have hQ := gd_no hQ (by omega)
      have hQ := gd_yes hQ hc
      exact sL_law_1005 n L xs hk28 hS hx h_u1 h_u2 h_u3 h_u4 hQ
    · have hQ := gd_no hQ (by omega)
      have hQ := gd_no hQ (by omega)
      have hQ := gd_no hQ (by omega)
      have hQ := gd_no hQ (by omega)
      have hQ := gd_no hQ (by omega)
      have hQ := gd_no hQ (by omega)
      have hQ := gd_no hQ (by omega)
      have hQ := gd_no hQ (by omega)
      have hQ := gd_no hQ (by omega)
      have hQ := gd_no hQ (by omega)
      have hQ := gd_no hQ (by omega)
      have hQ := gd_no hQ (by omega)
      have hQ := gd_no hQ (by omega)
      have hQ := gd_no hQ (by omega)
      have hQ := gd_no hQ (by omega)
      have hQ := gd_no hQ (by omega)
      have hQ := gd_no hQ (by omega)
      have hQ := gd_no hQ (by omega)
      have hQ := gd_no hQ (by omega)
      have hQ := gd_no hQ (by omega)
      have hQ := gd_no hQ (by omega)
      have hQ := gd_no hQ (by omega)
      have hQ := gd_no hQ (by omega)
      have hQ := gd_no hQ (by omega)
      have hQ := gd_no hQ (by omega)
      have hQ := gd_no hQ (by omega)
      have hQ := gd_no hQ (by omega)
      have hQ := gd_no hQ (by omega)
      have hQ := gd_no hQ (by omega)
      have hQ := gd_no hQ (by omega)
      have hQ := gd_no hQ (by omega)
      have hQ := gd_no hQ (by omega)
      have hQ := gd_no hQ (by omega)
      have hQ := gd_yes hQ hc
      exact sL_law_1034 n L xs hk28 hS hx h_u1 h_u2 h_u3 h_u4 hQ
    · have hQ := gd_no hQ (by omega)
      have hQ := gd_no hQ (by omega)
      have hQ := gd_no hQ (by omega)
      have hQ := gd_no hQ (by omega)
      have hQ := gd_no hQ (by omega)
      have hQ := gd_no hQ (by omega)
      have hQ := gd_no hQ (by omega)
      have hQ := gd_no hQ (by omega)
      have hQ := gd_no hQ (by omega)
      have hQ := gd_no hQ (by omega)
      have hQ := gd_no hQ (by omega)
      have hQ := gd_no hQ (by omega)
      have hQ := gd_no hQ (by omega)
      have hQ := gd_no hQ (by omega)
      have hQ := gd_no hQ (by omega)
      have hQ := gd_no hQ (by omega)
      have hQ := gd_no hQ (by omega)
      have hQ := gd_no hQ (by omega)
      have hQ := gd_no hQ (by omega)
      have hQ := gd_no hQ (by omega)
      have hQ := gd_no hQ (by omega)
      have hQ := gd_no hQ (by omega)
      have hQ := gd_no hQ (by omega)
      have hQ := gd_no hQ (by omega)
      have hQ := gd_no hQ (by omega)
      have hQ := gd_no hQ (by omega)
      have hQ := gd_no hQ (by omega)
      have hQ := gd_no hQ (by omega)
      have hQ := gd_no hQ (by omega)
      have hQ := gd_no hQ (by omega)
      have hQ := gd_no hQ (by omega)
      have hQ := gd_no hQ (by omega)
      have hQ := gd_no hQ (by omega)
      have hQ := gd_no hQ (by omega)
      have hQ := gd_yes hQ hc
      exact sL_law_1090 n L xs hk28 hS hx h_u1 h_u2 h_u3 h_u4 hQ
    · have hQ := gd_no hQ (by omega)
      have hQ := gd_no hQ (by omega)
      have hQ := gd_no hQ (by omega)
      have hQ := gd_no hQ (by omega)
      have hQ := gd_no hQ (by omega)
      have hQ := gd_no hQ (by omega)
      have hQ := gd_no hQ (by omega)
      have hQ := gd_no hQ (by omega)
      have hQ := gd_no hQ (by omega)
      have hQ := gd_no hQ (by omega)
      have hQ := gd_no hQ (by omega)
      have hQ := gd_no hQ (by omega)
      have hQ := gd_no hQ (by omega)
      have hQ := gd_no hQ (by omega)
      have hQ := gd_no hQ (by omega)
      have hQ := gd_no hQ (by omega)
      have hQ := gd_no hQ (by omega)
      have hQ := gd_no hQ (by omega)
      have hQ := gd_no hQ (by omega)
      have hQ := gd_no hQ (by omega)
      have hQ := gd_no hQ (by omega)
      have hQ := gd_no hQ (by omega)
      have hQ := gd_no hQ (by omega)
      have hQ := gd_no hQ (by omega)
      have hQ := gd_no hQ (by omega)
      have hQ := gd_no hQ (by omega)
      have hQ := gd_no hQ (by omega)
      have hQ := gd_no hQ (by omega)
      have hQ := gd_no hQ (by omega)
      have hQ := gd_no hQ (by omega)
      have hQ := gd_no hQ (by omega)
      have hQ := gd_no hQ (by omega)
      have hQ := gd_no hQ (by omega)
      have hQ := gd_no hQ (by omega)
      have hQ := gd_no hQ (by omega)
      have hQ := gd_yes hQ hc
      exact sL_law_1130 n L xs hk28 hS hx h_u1 h_u2 h_u3 h_u4 hQ
    · have hQ := gd_no hQ (by omega)
      have hQ := gd_no hQ (by omega)
      have hQ := gd_no hQ (by omega)
      have hQ := gd_no hQ (by omega)
      have hQ := gd_no hQ (by omega)
      have hQ := gd_no hQ (by omega)
      have hQ := gd_no hQ (by omega)
      have hQ := gd_no hQ (by omega)
      have hQ := gd_no hQ (by omega)
      have hQ := gd_no hQ (by omega)
      have hQ := gd_no hQ (by omega)
      have hQ := gd_no hQ (by omega)
      have hQ := gd_no hQ (by omega)
      have hQ := gd_no hQ (by omega)
      have hQ := gd_no hQ (by omega)
      have hQ := gd_no hQ (by omega)
      have hQ := gd_no hQ (by omega)
      have hQ := gd_no hQ (by omega)
      have hQ := gd_no hQ (by omega)
      have hQ := gd_no hQ (by omega)
      have hQ := gd_no hQ (by omega)
      have hQ := gd_no hQ (by omega)
      have hQ := gd_no hQ (by omega)
      have hQ := gd_no hQ (by omega)
      have hQ := gd_no hQ (by omega)
      have hQ := gd_no hQ (by omega)
      have hQ := gd_no hQ (by omega)
      have hQ := gd_no hQ (by omega)
      have hQ := gd_no hQ (by omega)
      have hQ := gd_no hQ (by omega)
      have hQ := gd_no hQ (by omega)
      have hQ := gd_no hQ (by omega)
      have hQ := gd_no hQ (by omega)
      have hQ := gd_no hQ (by omega)
      have hQ := gd_no hQ (by omega)
      have hQ := gd_no hQ (by omega)
      have hQ := gd_yes hQ hc
      exact sL_law_1170 n L xs hk28 hS hx h_u1 h_u2 h_u3 h_u4 hQ
    · have hQ := gd_no hQ (by omega)
      have hQ := gd_no hQ (by omega)
      have hQ := gd_no hQ (by omega)
      have hQ := gd_no hQ (by omega)
      have hQ := gd_no hQ (by omega)
      have hQ := gd_no hQ (by omega)
      have hQ := gd_no hQ (by omega)
      have hQ := gd_no hQ (by omega)
      have hQ := gd_no hQ (by omega)
      have hQ := gd_no hQ (by omega)
      have hQ := gd_no hQ (by omega)
      have hQ := gd_no hQ (by omega)
      have hQ := gd_no hQ (by omega)
      have hQ := gd_no hQ (by omega)
      have hQ := gd_no hQ (by omega)
      have hQ := gd_no hQ (by omega)
      have hQ := gd_no hQ (by omega)
      have hQ := gd_no hQ (by omega)
      have hQ := gd_no hQ (by omega)
      have hQ := gd_no hQ (by omega)
      have hQ := gd_no hQ (by omega)
      have hQ := gd_no hQ (by omega)
      have hQ := gd_no hQ (by omega)
      have hQ := gd_no hQ (by omega)
      have hQ := gd_no hQ (by omega)
      have hQ := gd_no hQ (by omega)
      have hQ := gd_no hQ (by omega)
      have hQ := gd_no hQ (by omega)
      have hQ := gd_no hQ (by omega)
      have hQ := gd_no hQ (by omega)
      have hQ := gd_no hQ (by omega)
      have hQ := gd_no hQ (by omega)
      have hQ := gd_no hQ (by omega)
      have hQ := gd_no hQ (by omega)
      have hQ := gd_no hQ (by omega)
      have hQ := gd_no hQ (by omega)
      have hQ := gd_no hQ (by omega)
      have hQ := gd_yes hQ hc
      exact sL_law_1183 n L xs hk28 hS hx h_u1 h_u2 h_u3 h_u4 hQ
def elL_law_28 (n : Nat) (L : Nat) (xs : Nat → Int32) : Nat → VS → Nat → Nat → Nat → Nat → Int32 → Rs Unit
  | 0 => fun _ _ _ _ _ _ => none
  | m + 1 => fun V u1v u2v u3v u4v y5 => eL_law_28 n L xs (elL_law_28 n L xs m) V u1v u2v u3v u4v y5
theorem selL_law_28 (n : Nat) (L : Nat) (xs : Nat → Int32) {S0 : MS} : ∀ (m : Nat), ∀ (S : MS) (V : VS) (p0 p0v : Nat) (p1 p1v : Nat) (p2 p2v : Nat) (p3 p3v : Nat) (p4 : Int32), SM S V → Ex S0 S → Ad S p0 p0v → Ad S p1 p1v → Ad S p2 p2v → Ad S p3 p3v → gd (elL_law_28 n L xs m V p0v p1v p2v p3v p4) AT BT → lL_law_28 L xs m S p0 p1 p2 p3 p4 := by
  intro m
  induction m with
  | zero => intro S V p0 p0v p1 p1v p2 p2v p3 p3v p4 hS hx q0 q1 q2 q3 hQ; exact (gd_none hQ).elim
  | succ m ih => intro S V p0 p0v p1 p1v p2 p2v p3 p3v p4 hS hx q0 q1 q2 q3 hQ; exact sL_law_28 n L xs ih hS hx q0 q1 q2 q3 hQ
