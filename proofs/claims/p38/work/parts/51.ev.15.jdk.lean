def eJ0_coder_7d493_0 (n : Nat) (V : VS) : Rs Int32 := rt 0 V
set_option maxHeartbeats 4000000 in
set_option maxRecDepth 100000 in
theorem sJ0_coder_7d493_0 (n : Nat) {S0 : MS} {Q : Int32 → MS → Prop} {QX : String → MS → Prop} {S : MS} {V : VS} (hS : SM S V) (hx : Ex S0 S) (hQ : gd (eJ0_coder_7d493_0 n V) (SQ Q S0) (SX QX S0)) : wJ0_coder_7d493_0 Q QX S := by
  unfold wJ0_coder_7d493_0
  unfold eJ0_coder_7d493_0 at hQ
  exact gd_rt hQ _ hS hx
def ev_J0_coder_7d493 (n : Nat) (V : VS) : Rs Int32 := eJ0_coder_7d493_0 n V
theorem sim_J0_coder_7d493 (n : Nat) {Q : Int32 → MS → Prop} {QX : String → MS → Prop} {S : MS} {V : VS} (hS : SM S V) (hQ : gd (ev_J0_coder_7d493 n V) (SQ Q S) (SX QX S)) : wp_J0_coder_7d493 Q QX S := by
  exact sJ0_coder_7d493_0 n hS Ex_rf hQ
def eJ0_length_8abf5_0 (n : Nat) (V : VS) : Rs Int32 := bd (ev_J0_coder_7d493 n V) (fun r2 V1 => rt (5 >>> (r2 &&& 31)) V1) th
set_option maxHeartbeats 4000000 in
set_option maxRecDepth 100000 in
theorem sJ0_length_8abf5_0 (n : Nat) {S0 : MS} {Q : Int32 → MS → Prop} {QX : String → MS → Prop} {S : MS} {V : VS} (hS : SM S V) (hx : Ex S0 S) (hQ : gd (eJ0_length_8abf5_0 n V) (SQ Q S0) (SX QX S0)) : wJ0_length_8abf5_0 Q QX S := by
  unfold wJ0_length_8abf5_0
  unfold eJ0_length_8abf5_0 at hQ
  refine sim_J0_coder_7d493 n hS ?_
  refine gd_mono (gd_bd hQ) (fun r2 V1 hQ S1 hS1 xS => ?_) (fun E V9 hQ S9 hS9 xS9 => gd_th hQ S9 hS9 (Ex_tr hx xS9))
  have hx1 : Ex S0 S1 := Ex_tr hx xS
  exact gd_rt hQ _ hS1 hx1
def ev_J0_length_8abf5 (n : Nat) (V : VS) : Rs Int32 := eJ0_length_8abf5_0 n V
theorem sim_J0_length_8abf5 (n : Nat) {Q : Int32 → MS → Prop} {QX : String → MS → Prop} {S : MS} {V : VS} (hS : SM S V) (hQ : gd (ev_J0_length_8abf5 n V) (SQ Q S) (SX QX S)) : wp_J0_length_8abf5 Q QX S := by
  exact sJ0_length_8abf5_0 n hS Ex_rf hQ
def eJ0_isLatin1_aae02_0 (n : Nat) (V : VS) : Rs Int32 := rt 1 V
set_option maxHeartbeats 4000000 in
set_option maxRecDepth 100000 in
theorem sJ0_isLatin1_aae02_0 (n : Nat) {S0 : MS} {Q : Int32 → MS → Prop} {QX : String → MS → Prop} {S : MS} {V : VS} (hS : SM S V) (hx : Ex S0 S) (hQ : gd (eJ0_isLatin1_aae02_0 n V) (SQ Q S0) (SX QX S0)) : wJ0_isLatin1_aae02_0 Q QX S := by
  unfold wJ0_isLatin1_aae02_0
  unfold eJ0_isLatin1_aae02_0 at hQ
  exact gd_rt hQ _ hS hx
def ev_J0_isLatin1_aae02 (n : Nat) (V : VS) : Rs Int32 := eJ0_isLatin1_aae02_0 n V
theorem sim_J0_isLatin1_aae02 (n : Nat) {Q : Int32 → MS → Prop} {QX : String → MS → Prop} {S : MS} {V : VS} (hS : SM S V) (hQ : gd (ev_J0_isLatin1_aae02 n V) (SQ Q S) (SX QX S)) : wp_J0_isLatin1_aae02 Q QX S := by
  exact sJ0_isLatin1_aae02_0 n hS Ex_rf hQ
def eJ3_checkIndex_8e157_9 (n : Nat) (V : VS) (y0 : Int32) (y1 : Int32) : Rs Int32 := none
set_option maxHeartbeats 4000000 in
set_option maxRecDepth 100000 in
theorem sJ3_checkIndex_8e157_9 (n : Nat) {S0 : MS} {Q : Int32 → MS → Prop} {QX : String → MS → Prop} {S : MS} {V : VS} {y0 : Int32} {y1 : Int32} (hS : SM S V) (hx : Ex S0 S) (hQ : gd (eJ3_checkIndex_8e157_9 n V y0 y1) (SQ Q S0) (SX QX S0)) : wJ3_checkIndex_8e157_9 Q QX S y0 y1 := by
  unfold wJ3_checkIndex_8e157_9
  unfold eJ3_checkIndex_8e157_9 at hQ
  exact (gd_none hQ).elim
def eJ3_checkIndex_8e157_0 (n : Nat) (V : VS) (x1 : Int32) (x2 : Int32) : Rs Int32 := (if x1 < 0 then eJ3_checkIndex_8e157_9 n V x1 x2 else (if x1 < x2 then rt x1 V else eJ3_checkIndex_8e157_9 n V x1 x2))
set_option maxHeartbeats 4000000 in
set_option maxRecDepth 100000 in
theorem sJ3_checkIndex_8e157_0 (n : Nat) {S0 : MS} {Q : Int32 → MS → Prop} {QX : String → MS → Prop} {S : MS} {V : VS} {x1 : Int32} {x2 : Int32} (hS : SM S V) (hx : Ex S0 S) (hQ : gd (eJ3_checkIndex_8e157_0 n V x1 x2) (SQ Q S0) (SX QX S0)) : wJ3_checkIndex_8e157_0 Q QX S x1 x2 := by
  unfold wJ3_checkIndex_8e157_0
  unfold eJ3_checkIndex_8e157_0 at hQ
  refine st_if rfl hQ (fun hQ => ?_) (fun hQ => ?_)
  · exact sJ3_checkIndex_8e157_9 n hS hx hQ
  · refine st_if rfl hQ (fun hQ => ?_) (fun hQ => ?_)
    · exact gd_rt hQ _ hS hx
    · exact sJ3_checkIndex_8e157_9 n hS hx hQ
def ev_J3_checkIndex_8e157 (n : Nat) (V : VS) (x1 : Int32) (x2 : Int32) : Rs Int32 := eJ3_checkIndex_8e157_0 n V x1 x2
theorem sim_J3_checkIndex_8e157 (n : Nat) {Q : Int32 → MS → Prop} {QX : String → MS → Prop} {S : MS} {V : VS} {x1 x1z : Int32} {x2 x2z : Int32} (hS : SM S V) (e_x1 : x1 = x1z) (e_x2 : x2 = x2z) (hQ : gd (ev_J3_checkIndex_8e157 n V x1z x2z) (SQ Q S) (SX QX S)) : wp_J3_checkIndex_8e157 Q QX S x1 x2 := by
  subst e_x1 e_x2
  exact sJ3_checkIndex_8e157_0 n hS Ex_rf hQ
def eJ0_checkIndex_df160_0 (n : Nat) (V : VS) (x1 : Int32) (x2 : Int32) : Rs Unit := bd (ev_J3_checkIndex_8e157 n V x1 x2) (fun r2 V1 => rt () V1) th
set_option maxHeartbeats 4000000 in
set_option maxRecDepth 100000 in
theorem sJ0_checkIndex_df160_0 (n : Nat) {S0 : MS} {Q : MS → Prop} {QX : String → MS → Prop} {S : MS} {V : VS} {x1 : Int32} {x2 : Int32} (hS : SM S V) (hx : Ex S0 S) (hQ : gd (eJ0_checkIndex_df160_0 n V x1 x2) (SU Q S0) (SX QX S0)) : wJ0_checkIndex_df160_0 Q QX S x1 x2 := by
  unfold wJ0_checkIndex_df160_0
  unfold eJ0_checkIndex_df160_0 at hQ
  refine sim_J3_checkIndex_8e157 n hS rfl rfl ?_
  refine gd_mono (gd_bd hQ) (fun r2 V1 hQ S1 hS1 xS => ?_) (fun E V9 hQ S9 hS9 xS9 => gd_th hQ S9 hS9 (Ex_tr hx xS9))
  have hx1 : Ex S0 S1 := Ex_tr hx xS
  exact gd_rt hQ _ hS1 hx1
def ev_J0_checkIndex_df160 (n : Nat) (V : VS) (x1 : Int32) (x2 : Int32) : Rs Unit := eJ0_checkIndex_df160_0 n V x1 x2
theorem sim_J0_checkIndex_df160 (n : Nat) {Q : MS → Prop} {QX : String → MS → Prop} {S : MS} {V : VS} {x1 x1z : Int32} {x2 x2z : Int32} (hS : SM S V) (e_x1 : x1 = x1z) (e_x2 : x2 = x2z) (hQ : gd (ev_J0_checkIndex_df160 n V x1z x2z) (SU Q S) (SX QX S)) : wp_J0_checkIndex_df160 Q QX S x1 x2 := by
  subst e_x1 e_x2
  exact sJ0_checkIndex_df160_0 n hS Ex_rf hQ
def eJ1_charAt_3b067_0 (n : Nat) (V : VS) (x2 : Int32) : Rs Int32 := bd (ev_J0_checkIndex_df160 n V x2 5) (fun _ V1 => (if gvp_in x2 5 = true then (if gisC (((((sgI x2) &&& 255) : Int32).toUInt32 % 65536).toInt32) = true then rt (((((sgI x2) &&& 255) : Int32).toUInt32 % 65536).toInt32) V1 else none) else none)) th
set_option maxHeartbeats 4000000 in
set_option maxRecDepth 100000 in
theorem sJ1_charAt_3b067_0 (n : Nat) {S0 : MS} {Q : Int32 → MS → Prop} {QX : String → MS → Prop} {S : MS} {V : VS} {x2 : Int32} (hS : SM S V) (hx : Ex S0 S) (hQ : gd (eJ1_charAt_3b067_0 n V x2) (SQ Q S0) (SX QX S0)) : wJ1_charAt_3b067_0 Q QX S x2 := by
  unfold wJ1_charAt_3b067_0
  unfold eJ1_charAt_3b067_0 at hQ
  refine sim_J0_checkIndex_df160 n hS rfl rfl ?_
  refine gd_mono (gd_bd hQ) (fun _ V1 hQ S1 hS1 xS => ?_) (fun E V9 hQ S9 hS9 xS9 => gd_th hQ S9 hS9 (Ex_tr hx xS9))
  have hx1 : Ex S0 S1 := Ex_tr hx xS
  refine st_gd (fun h => by exact gvp_in_of h) hQ (fun hQ => ?_)
  refine st_gd (fun h => by exact gisC_of h) hQ (fun hQ => ?_)
  exact gd_rt hQ _ hS1 hx1
def ev_J1_charAt_3b067 (n : Nat) (V : VS) (x2 : Int32) : Rs Int32 := eJ1_charAt_3b067_0 n V x2
theorem sim_J1_charAt_3b067 (n : Nat) {Q : Int32 → MS → Prop} {QX : String → MS → Prop} {S : MS} {V : VS} {x2 x2z : Int32} (hS : SM S V) (e_x2 : x2 = x2z) (hQ : gd (ev_J1_charAt_3b067 n V x2z) (SQ Q S) (SX QX S)) : wp_J1_charAt_3b067 Q QX S x2 := by
  subst e_x2
  exact sJ1_charAt_3b067_0 n hS Ex_rf hQ
def eJ0_charAt_5068e_0 (n : Nat) (V : VS) (x1 : Int32) : Rs Int32 := bd (ev_J0_isLatin1_aae02 n V) (fun r2 V1 => (if r2 = 0 then none else bd (ev_J1_charAt_3b067 n V1 x1) (fun r4 V3 => (if gisC r4 = true then rt r4 V3 else none)) th)) th
set_option maxHeartbeats 4000000 in
set_option maxRecDepth 100000 in
theorem sJ0_charAt_5068e_0 (n : Nat) {S0 : MS} {Q : Int32 → MS → Prop} {QX : String → MS → Prop} {S : MS} {V : VS} {x1 : Int32} (hS : SM S V) (hx : Ex S0 S) (hQ : gd (eJ0_charAt_5068e_0 n V x1) (SQ Q S0) (SX QX S0)) : wJ0_charAt_5068e_0 Q QX S x1 := by
  unfold wJ0_charAt_5068e_0
  unfold eJ0_charAt_5068e_0 at hQ
  refine sim_J0_isLatin1_aae02 n hS ?_
  refine gd_mono (gd_bd hQ) (fun r2 V1 hQ S1 hS1 xS => ?_) (fun E V9 hQ S9 hS9 xS9 => gd_th hQ S9 hS9 (Ex_tr hx xS9))
  have hx1 : Ex S0 S1 := Ex_tr hx xS
  refine st_if rfl hQ (fun hQ => ?_) (fun hQ => ?_)
  · exact (gd_none hQ).elim
  · refine sim_J1_charAt_3b067 n hS1 rfl ?_
    refine gd_mono (gd_bd hQ) (fun r4 V3 hQ S3 hS3 xS => ?_) (fun E V9 hQ S9 hS9 xS9 => gd_th hQ S9 hS9 (Ex_tr hx1 xS9))
    have hx3 : Ex S0 S3 := Ex_tr hx1 xS
    refine st_gd (fun h => by exact gisC_of h) hQ (fun hQ => ?_)
    exact gd_rt hQ _ hS3 hx3
def ev_J0_charAt_5068e (n : Nat) (V : VS) (x1 : Int32) : Rs Int32 := eJ0_charAt_5068e_0 n V x1
theorem sim_J0_charAt_5068e (n : Nat) {Q : Int32 → MS → Prop} {QX : String → MS → Prop} {S : MS} {V : VS} {x1 x1z : Int32} (hS : SM S V) (e_x1 : x1 = x1z) (hQ : gd (ev_J0_charAt_5068e n V x1z) (SQ Q S) (SX QX S)) : wp_J0_charAt_5068e Q QX S x1 := by
  subst e_x1
  exact sJ0_charAt_5068e_0 n hS Ex_rf hQ
def eJ1_canEncode_9a6ad_0 (n : Nat) (V : VS) (x1 : Int32) : Rs Int32 := (if x1 < 0 then rt 0 V else (if 255 < x1 then rt 0 V else rt 1 V))
set_option maxHeartbeats 4000000 in
set_option maxRecDepth 100000 in
theorem sJ1_canEncode_9a6ad_0 (n : Nat) {S0 : MS} {Q : Int32 → MS → Prop} {QX : String → MS → Prop} {S : MS} {V : VS} {x1 : Int32} (hS : SM S V) (hx : Ex S0 S) (hQ : gd (eJ1_canEncode_9a6ad_0 n V x1) (SQ Q S0) (SX QX S0)) : wJ1_canEncode_9a6ad_0 Q QX S x1 := by
  unfold wJ1_canEncode_9a6ad_0
  unfold eJ1_canEncode_9a6ad_0 at hQ
  refine st_if rfl hQ (fun hQ => ?_) (fun hQ => ?_)
  · exact gd_rt hQ _ hS hx
  · refine st_if rfl hQ (fun hQ => ?_) (fun hQ => ?_)
    · exact gd_rt hQ _ hS hx
    · exact gd_rt hQ _ hS hx
def ev_J1_canEncode_9a6ad (n : Nat) (V : VS) (x1 : Int32) : Rs Int32 := eJ1_canEncode_9a6ad_0 n V x1
theorem sim_J1_canEncode_9a6ad (n : Nat) {Q : Int32 → MS → Prop} {QX : String → MS → Prop} {S : MS} {V : VS} {x1 x1z : Int32} (hS : SM S V) (e_x1 : x1 = x1z) (hQ : gd (ev_J1_canEncode_9a6ad n V x1z) (SQ Q S) (SX QX S)) : wp_J1_canEncode_9a6ad Q QX S x1 := by
  subst e_x1
  exact sJ1_canEncode_9a6ad_0 n hS Ex_rf hQ
def eJ1_indexOfChar_4cfef_7 (n : Nat) (k7v : VS → Int32 → Int32 → Int32 → Rs Int32) (V : VS) (y3 : Int32) (y4 : Int32) (y5 : Int32) : Rs Int32 := (if y3 ≤ y5 then rt (-1) V else (if gvp_in y5 5 = true then (if (sgI y5) = y4 then rt y5 V else k7v V y3 y4 (y5 + 1)) else none))
set_option maxHeartbeats 4000000 in
set_option maxRecDepth 100000 in
theorem sJ1_indexOfChar_4cfef_7 (n : Nat) {S0 : MS} {Q : Int32 → MS → Prop} {QX : String → MS → Prop} {k7 : MS → Int32 → Int32 → Int32 → Prop} {k7v : VS → Int32 → Int32 → Int32 → Rs Int32} (hk7 : ∀ (S : MS) (V : VS) (p0 : Int32) (p1 : Int32) (p2 : Int32), SM S V → Ex S0 S → gd (k7v V p0 p1 p2) (SQ Q S0) (SX QX S0) → k7 S p0 p1 p2) {S : MS} {V : VS} {y3 : Int32} {y4 : Int32} {y5 : Int32} (hS : SM S V) (hx : Ex S0 S) (hQ : gd (eJ1_indexOfChar_4cfef_7 n k7v V y3 y4 y5) (SQ Q S0) (SX QX S0)) : wJ1_indexOfChar_4cfef_7 Q QX k7 S y3 y4 y5 := by
  unfold wJ1_indexOfChar_4cfef_7
  unfold eJ1_indexOfChar_4cfef_7 at hQ
  refine st_if rfl hQ (fun hQ => ?_) (fun hQ => ?_)
  · exact gd_rt hQ _ hS hx
  · refine st_gd (fun h => by exact gvp_in_of h) hQ (fun hQ => ?_)
    refine st_ifn rfl hQ (fun hQ => ?_) (fun hQ => ?_)
    · exact hk7 _ _ _ _ _ hS hx hQ
    · exact gd_rt hQ _ hS hx
def elJ1_indexOfChar_4cfef_7 (n : Nat) : Nat → VS → Int32 → Int32 → Int32 → Rs Int32
  | 0 => fun _ _ _ _ => none
  | m + 1 => fun V y3 y4 y5 => eJ1_indexOfChar_4cfef_7 n (elJ1_indexOfChar_4cfef_7 n m) V y3 y4 y5
theorem selJ1_indexOfChar_4cfef_7 (n : Nat) {S0 : MS} {Q : Int32 → MS → Prop} {QX : String → MS → Prop} : ∀ (m : Nat), ∀ (S : MS) (V : VS) (p0 : Int32) (p1 : Int32) (p2 : Int32), SM S V → Ex S0 S → gd (elJ1_indexOfChar_4cfef_7 n m V p0 p1 p2) (SQ Q S0) (SX QX S0) → lJ1_indexOfChar_4cfef_7 Q QX m S p0 p1 p2 := by
  intro m
  induction m with
  | zero => intro S V p0 p1 p2 hS hx hQ; exact (gd_none hQ).elim
  | succ m ih => intro S V p0 p1 p2 hS hx hQ; exact sJ1_indexOfChar_4cfef_7 n ih hS hx hQ
def eJ1_indexOfChar_4cfef_0 (n : Nat) (V : VS) (x2 : Int32) (x3 : Int32) (x4 : Int32) : Rs Int32 := elJ1_indexOfChar_4cfef_7 n n V x4 ((x2 : Int32).toInt8.toInt32) x3
set_option maxHeartbeats 4000000 in
set_option maxRecDepth 100000 in
theorem sJ1_indexOfChar_4cfef_0 (n : Nat) {S0 : MS} {Q : Int32 → MS → Prop} {QX : String → MS → Prop} {S : MS} {V : VS} {x2 : Int32} {x3 : Int32} {x4 : Int32} (hS : SM S V) (hx : Ex S0 S) (hQ : gd (eJ1_indexOfChar_4cfef_0 n V x2 x3 x4) (SQ Q S0) (SX QX S0)) : wJ1_indexOfChar_4cfef_0 Q QX S x2 x3 x4 := by
  unfold wJ1_indexOfChar_4cfef_0
  unfold eJ1_indexOfChar_4cfef_0 at hQ
  refine ⟨n, ?_⟩
  exact selJ1_indexOfChar_4cfef_7 n n _ _ _ _ _ hS hx hQ
def ev_J1_indexOfChar_4cfef (n : Nat) (V : VS) (x2 : Int32) (x3 : Int32) (x4 : Int32) : Rs Int32 := eJ1_indexOfChar_4cfef_0 n V x2 x3 x4
theorem sim_J1_indexOfChar_4cfef (n : Nat) {Q : Int32 → MS → Prop} {QX : String → MS → Prop} {S : MS} {V : VS} {x2 x2z : Int32} {x3 x3z : Int32} {x4 x4z : Int32} (hS : SM S V) (e_x2 : x2 = x2z) (e_x3 : x3 = x3z) (e_x4 : x4 = x4z) (hQ : gd (ev_J1_indexOfChar_4cfef n V x2z x3z x4z) (SQ Q S) (SX QX S)) : wp_J1_indexOfChar_4cfef Q QX S x2 x3 x4 := by
  subst e_x2 e_x3 e_x4
  exact sJ1_indexOfChar_4cfef_0 n hS Ex_rf hQ
def eJ1_indexOf_4cfef_0 (n : Nat) (V : VS) (x2 : Int32) (x3 : Int32) (x4 : Int32) : Rs Int32 := bd (ev_J1_canEncode_9a6ad n V x2) (fun r2 V1 => (if r2 = 0 then rt (-1) V1 else (if (if x3 < 0 then 0 else x3) < (if 5 < x4 then 5 else x4) then bd (ev_J1_indexOfChar_4cfef n V1 x2 (if x3 < 0 then 0 else x3) (if 5 < x4 then 5 else x4)) (fun r4 V3 => rt r4 V3) th else rt (-1) V1))) th
set_option maxHeartbeats 4000000 in
set_option maxRecDepth 100000 in
theorem sJ1_indexOf_4cfef_0 (n : Nat) {S0 : MS} {Q : Int32 → MS → Prop} {QX : String → MS → Prop} {S : MS} {V : VS} {x2 : Int32} {x3 : Int32} {x4 : Int32} (hS : SM S V) (hx : Ex S0 S) (hQ : gd (eJ1_indexOf_4cfef_0 n V x2 x3 x4) (SQ Q S0) (SX QX S0)) : wJ1_indexOf_4cfef_0 Q QX S x2 x3 x4 := by
  unfold wJ1_indexOf_4cfef_0
  unfold eJ1_indexOf_4cfef_0 at hQ
  refine sim_J1_canEncode_9a6ad n hS rfl ?_
  refine gd_mono (gd_bd hQ) (fun r2 V1 hQ S1 hS1 xS => ?_) (fun E V9 hQ S9 hS9 xS9 => gd_th hQ S9 hS9 (Ex_tr hx xS9))
  have hx1 : Ex S0 S1 := Ex_tr hx xS
  refine st_ifn rfl hQ (fun hQ => ?_) (fun hQ => ?_)
  · refine st_if rfl hQ (fun hQ => ?_) (fun hQ => ?_)
    · refine sim_J1_indexOfChar_4cfef n hS1 rfl rfl rfl ?_
      refine gd_mono (gd_bd hQ) (fun r4 V3 hQ S3 hS3 xS => ?_) (fun E V9 hQ S9 hS9 xS9 => gd_th hQ S9 hS9 (Ex_tr hx1 xS9))
      have hx3 : Ex S0 S3 := Ex_tr hx1 xS
      exact gd_rt hQ _ hS3 hx3
    · exact gd_rt hQ _ hS1 hx1
  · exact gd_rt hQ _ hS1 hx1
def ev_J1_indexOf_4cfef (n : Nat) (V : VS) (x2 : Int32) (x3 : Int32) (x4 : Int32) : Rs Int32 := eJ1_indexOf_4cfef_0 n V x2 x3 x4
theorem sim_J1_indexOf_4cfef (n : Nat) {Q : Int32 → MS → Prop} {QX : String → MS → Prop} {S : MS} {V : VS} {x2 x2z : Int32} {x3 x3z : Int32} {x4 x4z : Int32} (hS : SM S V) (e_x2 : x2 = x2z) (e_x3 : x3 = x3z) (e_x4 : x4 = x4z) (hQ : gd (ev_J1_indexOf_4cfef n V x2z x3z x4z) (SQ Q S) (SX QX S)) : wp_J1_indexOf_4cfef Q QX S x2 x3 x4 := by
  subst e_x2 e_x3 e_x4
  exact sJ1_indexOf_4cfef_0 n hS Ex_rf hQ
def eJ0_indexOf_7cf53_0 (n : Nat) (V : VS) (x1 : Int32) (x2 : Int32) : Rs Int32 := bd (ev_J0_isLatin1_aae02 n V) (fun r2 V1 => (if r2 = 0 then bd (ev_J0_length_8abf5 n V1) (fun r4 V3 => none) th else bd (ev_J0_length_8abf5 n V1) (fun r6 V5 => bd (ev_J1_indexOf_4cfef n V5 x1 x2 r6) (fun r8 V7 => rt r8 V7) th) th)) th
set_option maxHeartbeats 4000000 in
set_option maxRecDepth 100000 in
theorem sJ0_indexOf_7cf53_0 (n : Nat) {S0 : MS} {Q : Int32 → MS → Prop} {QX : String → MS → Prop} {S : MS} {V : VS} {x1 : Int32} {x2 : Int32} (hS : SM S V) (hx : Ex S0 S) (hQ : gd (eJ0_indexOf_7cf53_0 n V x1 x2) (SQ Q S0) (SX QX S0)) : wJ0_indexOf_7cf53_0 Q QX S x1 x2 := by
  unfold wJ0_indexOf_7cf53_0
  unfold eJ0_indexOf_7cf53_0 at hQ
  refine sim_J0_isLatin1_aae02 n hS ?_
  refine gd_mono (gd_bd hQ) (fun r2 V1 hQ S1 hS1 xS => ?_) (fun E V9 hQ S9 hS9 xS9 => gd_th hQ S9 hS9 (Ex_tr hx xS9))
  have hx1 : Ex S0 S1 := Ex_tr hx xS
  refine st_if rfl hQ (fun hQ => ?_) (fun hQ => ?_)
  · refine sim_J0_length_8abf5 n hS1 ?_
    refine gd_mono (gd_bd hQ) (fun r4 V3 hQ S3 hS3 xS => ?_) (fun E V9 hQ S9 hS9 xS9 => gd_th hQ S9 hS9 (Ex_tr hx1 xS9))
    have hx3 : Ex S0 S3 := Ex_tr hx1 xS
    exact (gd_none hQ).elim
  · refine sim_J0_length_8abf5 n hS1 ?_
    refine gd_mono (gd_bd hQ) (fun r6 V5 hQ S5 hS5 xS => ?_) (fun E V9 hQ S9 hS9 xS9 => gd_th hQ S9 hS9 (Ex_tr hx1 xS9))
    have hx5 : Ex S0 S5 := Ex_tr hx1 xS
    refine sim_J1_indexOf_4cfef n hS5 rfl rfl rfl ?_
    refine gd_mono (gd_bd hQ) (fun r8 V7 hQ S7 hS7 xS => ?_) (fun E V9 hQ S9 hS9 xS9 => gd_th hQ S9 hS9 (Ex_tr hx5 xS9))
    have hx7 : Ex S0 S7 := Ex_tr hx5 xS
    exact gd_rt hQ _ hS7 hx7
def ev_J0_indexOf_7cf53 (n : Nat) (V : VS) (x1 : Int32) (x2 : Int32) : Rs Int32 := eJ0_indexOf_7cf53_0 n V x1 x2
theorem sim_J0_indexOf_7cf53 (n : Nat) {Q : Int32 → MS → Prop} {QX : String → MS → Prop} {S : MS} {V : VS} {x1 x1z : Int32} {x2 x2z : Int32} (hS : SM S V) (e_x1 : x1 = x1z) (e_x2 : x2 = x2z) (hQ : gd (ev_J0_indexOf_7cf53 n V x1z x2z) (SQ Q S) (SX QX S)) : wp_J0_indexOf_7cf53 Q QX S x1 x2 := by
  subst e_x1 e_x2
  exact sJ0_indexOf_7cf53_0 n hS Ex_rf hQ
def eJ0_indexOf_0f7a4_0 (n : Nat) (V : VS) (x1 : Int32) : Rs Int32 := bd (ev_J0_indexOf_7cf53 n V x1 0) (fun r2 V1 => rt r2 V1) th
set_option maxHeartbeats 4000000 in
set_option maxRecDepth 100000 in
theorem sJ0_indexOf_0f7a4_0 (n : Nat) {S0 : MS} {Q : Int32 → MS → Prop} {QX : String → MS → Prop} {S : MS} {V : VS} {x1 : Int32} (hS : SM S V) (hx : Ex S0 S) (hQ : gd (eJ0_indexOf_0f7a4_0 n V x1) (SQ Q S0) (SX QX S0)) : wJ0_indexOf_0f7a4_0 Q QX S x1 := by
  unfold wJ0_indexOf_0f7a4_0
  unfold eJ0_indexOf_0f7a4_0 at hQ
  refine sim_J0_indexOf_7cf53 n hS rfl rfl ?_
  refine gd_mono (gd_bd hQ) (fun r2 V1 hQ S1 hS1 xS => ?_) (fun E V9 hQ S9 hS9 xS9 => gd_th hQ S9 hS9 (Ex_tr hx xS9))
  have hx1 : Ex S0 S1 := Ex_tr hx xS
  exact gd_rt hQ _ hS1 hx1
def ev_J0_indexOf_0f7a4 (n : Nat) (V : VS) (x1 : Int32) : Rs Int32 := eJ0_indexOf_0f7a4_0 n V x1
theorem sim_J0_indexOf_0f7a4 (n : Nat) {Q : Int32 → MS → Prop} {QX : String → MS → Prop} {S : MS} {V : VS} {x1 x1z : Int32} (hS : SM S V) (e_x1 : x1 = x1z) (hQ : gd (ev_J0_indexOf_0f7a4 n V x1z) (SQ Q S) (SX QX S)) : wp_J0_indexOf_0f7a4 Q QX S x1 := by
  subst e_x1
  exact sJ0_indexOf_0f7a4_0 n hS Ex_rf hQ
def eJxf58ca_isNaN_12338_0 (n : Nat) (V : VS) (x1 : UInt32) : Rs Int32 := (if (Op.cmpValue (FP.fcmp x1 x1) CmpOp.l) = 0 then rt 0 V else rt 1 V)
set_option maxHeartbeats 4000000 in
set_option maxRecDepth 100000 in
theorem sJxf58ca_isNaN_12338_0 (n : Nat) {S0 : MS} {Q : Int32 → MS → Prop} {QX : String → MS → Prop} {S : MS} {V : VS} {x1 : UInt32} (hS : SM S V) (hx : Ex S0 S) (hQ : gd (eJxf58ca_isNaN_12338_0 n V x1) (SQ Q S0) (SX QX S0)) : wJxf58ca_isNaN_12338_0 Q QX S x1 := by
  unfold wJxf58ca_isNaN_12338_0
  unfold eJxf58ca_isNaN_12338_0 at hQ
  refine st_if rfl hQ (fun hQ => ?_) (fun hQ => ?_)
  · exact gd_rt hQ _ hS hx
  · exact gd_rt hQ _ hS hx
def ev_Jxf58ca_isNaN_12338 (n : Nat) (V : VS) (x1 : UInt32) : Rs Int32 := eJxf58ca_isNaN_12338_0 n V x1
theorem sim_Jxf58ca_isNaN_12338 (n : Nat) {Q : Int32 → MS → Prop} {QX : String → MS → Prop} {S : MS} {V : VS} {x1 x1z : UInt32} (hS : SM S V) (e_x1 : x1 = x1z) (hQ : gd (ev_Jxf58ca_isNaN_12338 n V x1z) (SQ Q S) (SX QX S)) : wp_Jxf58ca_isNaN_12338 Q QX S x1 := by
  subst e_x1
  exact sJxf58ca_isNaN_12338_0 n hS Ex_rf hQ
def eJxf58ca_floatToIntBits_5c35a_0 (n : Nat) (V : VS) (x1 : UInt32) : Rs Int32 := bd (ev_Jxf58ca_isNaN_12338 n V x1) (fun r2 V1 => (if r2 = 0 then rt ((x1 : UInt32).toInt32) V1 else rt 2143289344 V1)) th
set_option maxHeartbeats 4000000 in
set_option maxRecDepth 100000 in
theorem sJxf58ca_floatToIntBits_5c35a_0 (n : Nat) {S0 : MS} {Q : Int32 → MS → Prop} {QX : String → MS → Prop} {S : MS} {V : VS} {x1 : UInt32} (hS : SM S V) (hx : Ex S0 S) (hQ : gd (eJxf58ca_floatToIntBits_5c35a_0 n V x1) (SQ Q S0) (SX QX S0)) : wJxf58ca_floatToIntBits_5c35a_0 Q QX S x1 := by
  unfold wJxf58ca_floatToIntBits_5c35a_0
  unfold eJxf58ca_floatToIntBits_5c35a_0 at hQ
  refine sim_Jxf58ca_isNaN_12338 n hS rfl ?_
  refine gd_mono (gd_bd hQ) (fun r2 V1 hQ S1 hS1 xS => ?_) (fun E V9 hQ S9 hS9 xS9 => gd_th hQ S9 hS9 (Ex_tr hx xS9))
  have hx1 : Ex S0 S1 := Ex_tr hx xS
  refine st_ifn rfl hQ (fun hQ => ?_) (fun hQ => ?_)
  · exact gd_rt hQ _ hS1 hx1
  · exact gd_rt hQ _ hS1 hx1
def ev_Jxf58ca_floatToIntBits_5c35a (n : Nat) (V : VS) (x1 : UInt32) : Rs Int32 := eJxf58ca_floatToIntBits_5c35a_0 n V x1
theorem sim_Jxf58ca_floatToIntBits_5c35a (n : Nat) {Q : Int32 → MS → Prop} {QX : String → MS → Prop} {S : MS} {V : VS} {x1 x1z : UInt32} (hS : SM S V) (e_x1 : x1 = x1z) (hQ : gd (ev_Jxf58ca_floatToIntBits_5c35a n V x1z) (SQ Q S) (SX QX S)) : wp_Jxf58ca_floatToIntBits_5c35a Q QX S x1 := by
  subst e_x1
  exact sJxf58ca_floatToIntBits_5c35a_0 n hS Ex_rf hQ
