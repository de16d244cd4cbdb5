def eL_law_0 (n : Nat) (L : Nat) (xs : Nat → Int32) (V : VS) : Rs Unit := nwV V 0 (fun V2 a1v => bd (ev_X8_init n V2 a1v) (fun _ V3 => nwV V3 0 (fun V5 a4v => bd (ev_X9_init n V5 a4v) (fun _ V6 => nwV V6 1 (fun V8 a7v => nwV V8 1 (fun V10 a9v => elL_law_28 n L xs 513 V10 a1v a4v a7v a9v 0))) (fun _ _ => none))) (fun _ _ => none))
set_option maxHeartbeats 4000000 in
set_option maxRecDepth 100000 in
theorem sL_law_0 (n : Nat) (L : Nat) (xs : Nat → Int32) {S0 : MS} {S : MS} {V : VS} (hS : SM S V) (hx : Ex S0 S) (hQ : gd (eL_law_0 n L xs V) AT BT) : wL_law_0 L xs S := by
  unfold wL_law_0
  unfold eL_law_0 at hQ
  intro a1 q_a1 S2 eS
  obtain ⟨V2, a1v, hS2, xS, h2_a1, hQ⟩ := st_nw hS q_a1 eS rfl hQ
  have hx2 : Ex S0 S2 := Ex_tr hx xS
  refine sim_X8_init n hS2 h2_a1 ?_
  refine gd_mono (gd_bd hQ) (fun _ V3 hQ S3 hS3 xS => ?_) (fun E V9 hQ => (gd_none hQ).elim)
  have hx3 : Ex S0 S3 := Ex_tr hx2 xS
  have h3_a1 := xS _ _ h2_a1
  intro a4 q_a4 S5 eS
  obtain ⟨V5, a4v, hS5, xS, h5_a4, hQ⟩ := st_nw hS3 q_a4 eS rfl hQ
  have hx5 : Ex S0 S5 := Ex_tr hx3 xS
  have h5_a1 := xS _ _ h3_a1
  refine sim_X9_init n hS5 h5_a4 ?_
  refine gd_mono (gd_bd hQ) (fun _ V6 hQ S6 hS6 xS => ?_) (fun E V9 hQ => (gd_none hQ).elim)
  have hx6 : Ex S0 S6 := Ex_tr hx5 xS
  have h6_a1 := xS _ _ h5_a1
  have h6_a4 := xS _ _ h5_a4
  intro a7 q_a7 S8 eS
  obtain ⟨V8, a7v, hS8, xS, h8_a7, hQ⟩ := st_nw hS6 q_a7 eS rfl hQ
  have hx8 : Ex S0 S8 := Ex_tr hx6 xS
  have h8_a1 := xS _ _ h6_a1
  have h8_a4 := xS _ _ h6_a4
  intro a9 q_a9 S10 eS
  obtain ⟨V10, a9v, hS10, xS, h10_a9, hQ⟩ := st_nw hS8 q_a9 eS rfl hQ
  have hx10 : Ex S0 S10 := Ex_tr hx8 xS
  have h10_a1 := xS _ _ h8_a1
  have h10_a4 := xS _ _ h8_a4
  have h10_a7 := xS _ _ h8_a7
  exact selL_law_28 n L xs 513 _ _ _ _ _ _ _ _ _ _ _ hS10 hx10 h10_a1 h10_a4 h10_a7 h10_a9 hQ
