def wL_law_0 (L : Nat) (xs : Nat → Int32) (S : MS) : Prop := (∀ a1, a1 ∉ mL S → (∀ S2, S2 = (nw S a1 8 0) → wp_X8_init (fun S3 => (∀ a4, a4 ∉ mL S3 → (∀ S5, S5 = (nw S3 a4 9 0) → wp_X9_init (fun S6 => (∀ a7, a7 ∉ mL S6 → (∀ S8, S8 = (nw S6 a7 16 1) → (∀ a9, a9 ∉ mL S8 → (∀ S10, S10 = (nw S8 a9 17 1) → lL_law_28 L xs 513 S10 a1 a4 a7 a9 0))))) (fun _ _ => False) S5 a4))) (fun _ _ => False) S2 a1))
set_option maxHeartbeats 8000000 in
set_option maxRecDepth 100000 in
theorem tL_law_0 {p : Program} {l : Launch} {e : Env} {s : State} {m : MethodId} {below : List Frame} {meth : Method} {c : Code} {H : Heap} {locs : List Loc} {cells slots : Nat} {G : GP} {S0 : MS} {ls : Array Slot} {b L : Nat} {xs : Nat → Int32} (C : CF p l s m #[Value.ref b] meth c "SkirmishGridLaw" code 9 G (fun q => s.heap.size ≤ q)) (hr : meth.sig.returnType = ret) (hX : va_X b L xs s s.heap) (hbl : b < s.heap.size) (S : MS) (P : PW G (fun q => s.heap.size ≤ q) s H locs S0 S) (hl : lv_has ls 9 [(0, .ref b)]) (hcc : cells ≤ 0) (hss : slots ≤ 0) (hw : wL_law_0 L xs S) : W p l e room_1 s m #[Value.ref b] below meth c H locs cells slots (lw_Z below #[Value.ref b] s) (F0 m 0 ls []) := by
  have hx := CF_x C
  have hb := CF_b C
  unfold wL_law_0 at hw
  refine no_8 C P q_30 q_31 q_1 (by show cells + 1 ≤ 603072; omega) (by show slots + 13 ≤ 7202922; omega) dL_law_0 (fun a1 H hq P => ?_)
  have hw := hw a1 hq
  obtain ⟨S2, hS⟩ : ∃ z, z = (nw S a1 8 0) := ⟨_, rfl⟩
  have P : PW G (fun q => s.heap.size ≤ q) s H locs S0 S2 := by rw [hS]; exact P
  have hw := hw S2 hS
  have p_a1 : pI S2 8 a1 := by rw [hS]; exact pI_nw
  refine lv_dup hx hb dL_law_3 rfl ?_
  refine cl_v C P (run_I C P hl.1 (met_X8_init (CF_n C) G H.size _ _ S2 a1 p_a1 hw) q_32 q_33 q_1 q_34 rfl cd_X8_init.2 ⟨(Nat.le_of_ble_eq_true rfl), (Nat.le_of_ble_eq_true rfl)⟩ rfl rfl (As := []) (rest := [.ref a1]) rfl rfl (Nat.le_of_ble_eq_true rfl) dL_law_4 ⟨by show cells + 1 + 206 ≤ 603072; omega, by show slots + 13 + 5927 ≤ 7202922; omega⟩) kx_no (fun S3 H locs P hE hw => ?_)
  have p_a1 : pI S3 8 a1 := pI_x hE p_a1
  refine lv_astore_n (lv' := [(1, .ref a1), (0, .ref b)]) hx hb dL_law_7 rfl hl (by decide) rfl (fun ls hl => ?_)
  refine no_9 C P q_1299 q_1300 q_10 (by show cells + 1 + 206 + 1 ≤ 603072; omega) (by show slots + 13 + 5927 + 23 ≤ 7202922; omega) dL_law_8 (fun a4 H hq P => ?_)
  have hw := hw a4 hq
  obtain ⟨S5, hS⟩ : ∃ z, z = (nw S3 a4 9 0) := ⟨_, rfl⟩
  have P : PW G (fun q => s.heap.size ≤ q) s H locs S0 S5 := by rw [hS]; exact P
  have p_a1 : pI S5 8 a1 := by rw [hS]; exact pI_x (ext_nw hq) p_a1
  have hw := hw S5 hS
  have p_a4 : pI S5 9 a4 := by rw [hS]; exact pI_nw
  refine lv_dup hx hb dL_law_11 rfl ?_
  refine cl_v C P (run_I C P hl.1 (met_X9_init (CF_n C) G H.size _ _ S5 a4 p_a4 hw) q_1301 q_1302 q_10 q_1303 rfl cd_X9_init.2 ⟨(Nat.le_of_ble_eq_true rfl), (Nat.le_of_ble_eq_true rfl)⟩ rfl rfl (As := []) (rest := [.ref a4]) rfl rfl (Nat.le_of_ble_eq_true rfl) dL_law_12 ⟨by show cells + 1 + 206 + 1 + 14 ≤ 603072; omega, by show slots + 13 + 5927 + 23 + 15941 ≤ 7202922; omega⟩) kx_no (fun S6 H locs P hE hw => ?_)
  have p_a1 : pI S6 8 a1 := pI_x hE p_a1
  have p_a4 : pI S6 9 a4 := pI_x hE p_a4
  refine lv_astore_n (lv' := [(2, .ref a4), (1, .ref a1), (0, .ref b)]) hx hb dL_law_15 rfl hl (by decide) rfl (fun ls hl => ?_)
  refine lv_iconst (v := 1) hx hb dL_law_16 (by decide) ?_
  refine rn_a (atype := .long) C P 6 (N' := 1) (1, .inr (.inl (fun _ => 0))) rfl (fun _ h => by cases h) q_1752 rfl (fun _ => rfl) (fun S q => aE_nw (d := 6)) (by decide) (by decide) (by decide) (by show cells + 1 + 206 + 1 + 14 + 1 ≤ 603072; omega) (by show slots + 13 + 5927 + 23 + 15941 + 1 ≤ 7202922; omega) dL_law_17 (fun a7 H hq P => ?_)
  have hw := hw a7 hq
  obtain ⟨S8, hS⟩ : ∃ z, z = (nw S6 a7 16 1) := ⟨_, rfl⟩
  have P : PW G (fun q => s.heap.size ≤ q) s H locs S0 S8 := by rw [hS]; exact P
  have p_a1 : pI S8 8 a1 := by rw [hS]; exact pI_x (ext_nw hq) p_a1
  have p_a4 : pI S8 9 a4 := by rw [hS]; exact pI_x (ext_nw hq) p_a4
  have hw := hw S8 hS
  have p_a7 : pI S8 16 a7 := by rw [hS]; exact pI_nw
  refine lv_astore_n (lv' := [(3, .ref a7), (2, .ref a4), (1, .ref a1), (0, .ref b)]) hx hb dL_law_19 rfl hl (by decide) rfl (fun ls hl => ?_)
  refine lv_iconst (v := 1) hx hb dL_law_20 (by decide) ?_
  refine rn_a (atype := .double) C P 7 (N' := 1) (1, .inr (.inr (.inr (.inl (fun _ => 0))))) rfl (fun _ h => by cases h) q_1753 rfl (fun _ => rfl) (fun S q => aE_nw (d := 7)) (by decide) (by decide) (by decide) (by show cells + 1 + 206 + 1 + 14 + 1 + 1 ≤ 603072; omega) (by show slots + 13 + 5927 + 23 + 15941 + 1 + 1 ≤ 7202922; omega) dL_law_21 (fun a9 H hq P => ?_)
  have hw := hw a9 hq
  obtain ⟨S10, hS⟩ : ∃ z, z = (nw S8 a9 17 1) := ⟨_, rfl⟩
  have P : PW G (fun q => s.heap.size ≤ q) s H locs S0 S10 := by rw [hS]; exact P
  have p_a1 : pI S10 8 a1 := by rw [hS]; exact pI_x (ext_nw hq) p_a1
  have p_a4 : pI S10 9 a4 := by rw [hS]; exact pI_x (ext_nw hq) p_a4
  have p_a7 : pI S10 16 a7 := by rw [hS]; exact pI_x (ext_nw hq) p_a7
  have hw := hw S10 hS
  have p_a9 : pI S10 17 a9 := by rw [hS]; exact pI_nw
  refine lv_astore (lv' := [(4, .ref a9), (3, .ref a7), (2, .ref a4), (1, .ref a1), (0, .ref b)]) hx hb dL_law_23 hl (by decide) rfl (fun ls hl => ?_)
  refine lv_iconst (v := 0) hx hb dL_law_25 (by decide) ?_
  refine lv_istore (lv' := [(5, .int 0), (4, .ref a9), (3, .ref a7), (2, .ref a4), (1, .ref a1), (0, .ref b)]) hx hb dL_law_26 hl (by decide) rfl (fun ls hl => ?_)
  exact tlL_law_28 C hr hX hbl 513 S10 a1 a4 a7 a9 0 _ _ _ _ _ p_a1 p_a4 p_a7 p_a9 P (lv_sub hl [5, 4, 3, 2, 1, 0] rfl) (by omega) (by omega) hw
