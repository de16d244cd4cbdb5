/-! p1: put together -/
theorem sm0 : SM S_0 [] := ⟨rfl, List.nodup_nil, fun i a h => by simp [Ad, S_0, mL] at h⟩
theorem law_K (xs : Nat → Int32) : ∀ V a b c d, gd (elL_law_28 400 4 xs 1 V a b c d 4) AT BT := fun V a b c d => by
  show gd (eL_law_28 400 4 xs (elL_law_28 400 4 xs 0) V a b c d 4) AT BT
  unfold eL_law_28
  rw [if_pos (by decide +kernel)]
  exact gd_1 trivial
theorem law_4 (xs : Nat → Int32) : gd (eL_law_28 400 4 xs (elL_law_28 400 4 xs 1) W0 0 207 222 223 0) AT BT := by
  have hK := law_K xs
  unfold eL_law_28
  rw [if_neg (by decide +kernel), if_pos (by decide +kernel)]
  generalize (((xs (0 : Int32).toNatClampNeg) &&& 63) : Int32).toInt = t
  refine gi_if (fun _ => ?_) (fun hn => ?_)
  · exact (show (0 : Int32) + 4 = 4 from by decide +kernel) ▸ hK W0 0 207 222 223
  refine gi_if (fun _ => nt_208 hK (ok_208 xs)) (fun n0 => ?_)
  refine gi_if (fun _ => nt_266 hK (ok_266 xs)) (fun n1 => ?_)
  refine gi_if (fun _ => nt_322 hK (ok_322 xs)) (fun n2 => ?_)
  refine gi_if (fun _ => nt_366 hK (ok_366 xs)) (fun n3 => ?_)
  refine gi_if (fun _ => nt_434 hK (ok_434 xs)) (fun n4 => ?_)
  refine gi_if (fun _ => nt_509 hK (ok_509 xs)) (fun n5 => ?_)
  refine gi_if (fun _ => nt_577 hK (ok_577 xs)) (fun n6 => ?_)
  refine gi_if (fun _ => nt_657 hK (ok_657 xs)) (fun n7 => ?_)
  refine gi_if (fun _ => nt_670 hK (ok_670 xs)) (fun n8 => ?_)
  refine gi_if (fun _ => nt_738 hK (ok_738 xs)) (fun n9 => ?_)
  refine gi_if (fun _ => nt_782 hK (ok_782 xs)) (fun n10 => ?_)
  refine gi_if (fun _ => nt_795 hK (ok_795 xs)) (fun n11 => ?_)
  refine gi_if (fun _ => nt_808 hK (ok_808 xs)) (fun n12 => ?_)
  refine gi_if (fun _ => nt_852 hK (ok_852 xs)) (fun n13 => ?_)
  refine gi_if (fun _ => nt_908 hK (ok_908 xs)) (fun n14 => ?_)
  refine gi_if (fun _ => nt_964 hK (ok_964 xs)) (fun n15 => ?_)
  refine gi_if (fun _ => nt_1032 hK (ok_1032 xs)) (fun n16 => ?_)
  refine gi_if (fun _ => nt_1121 hK (ok_1121 xs)) (fun n17 => ?_)
  refine gi_if (fun _ => nt_1210 hK (ok_1210 xs)) (fun n18 => ?_)
  refine gi_if (fun _ => nt_1254 hK (ok_1254 xs)) (fun n19 => ?_)
  refine gi_if (fun _ => nt_1310 hK (ok_1310 xs)) (fun n20 => ?_)
  refine gi_if (fun _ => nt_1366 hK (ok_1366 xs)) (fun n21 => ?_)
  refine gi_if (fun _ => nt_1422 hK (ok_1422 xs)) (fun n22 => ?_)
  refine gi_if (fun _ => nt_1466 hK (ok_1466 xs)) (fun n23 => ?_)
  refine gi_if (fun _ => nt_1510 hK (ok_1510 xs)) (fun n24 => ?_)
  refine gi_if (fun _ => nt_1554 hK (ok_1554 xs)) (fun n25 => ?_)
  refine gi_if (fun _ => nt_1598 hK (ok_1598 xs)) (fun n26 => ?_)
  refine gi_if (fun _ => nt_1611 hK (ok_1611 xs)) (fun n27 => ?_)
  refine gi_if (fun _ => nt_1679 hK (ok_1679 xs)) (fun n28 => ?_)
  refine gi_if (fun _ => nt_1692 hK (ok_1692 xs)) (fun n29 => ?_)
  refine gi_if (fun _ => nt_1736 hK (ok_1736 xs)) (fun n30 => ?_)
  refine gi_if (fun _ => nt_1787 hK (ok_1787 xs)) (fun n31 => ?_)
  refine gi_if (fun _ => nt_1865 hK (ok_1865 xs)) (fun n32 => ?_)
  refine gi_if (fun _ => nt_1949 hK (ok_1949 xs)) (fun n33 => ?_)
  refine gi_if (fun _ => nt_2024 hK (ok_2024 xs)) (fun n34 => ?_)
  refine gi_if (fun _ => nt_2092 hK (ok_2092 xs)) (fun n35 => ?_)
  refine gi_if (fun _ => nt_2105 hK (ok_2105 xs)) (fun n36 => ?_)
  exfalso; omega
theorem law_e (L : Nat) (xs : Nat → Int32) (hL : L ≤ 4) : gd (eL_law_0 400 L xs []) AT BT := by
  rw [e0_ok]
  show gd (eL_law_28 400 L xs (elL_law_28 400 L xs 1) W0 0 207 222 223 0) AT BT
  by_cases h4 : L = 4
  · subst h4; exact law_4 xs
  · have : L = 0 ∨ L = 1 ∨ L = 2 ∨ L = 3 := by omega
    unfold eL_law_28
    rcases this with rfl | rfl | rfl | rfl <;> (rw [if_pos (by decide +kernel)]; exact gd_1 trivial)
theorem law_wp (L : Nat) (xs : Nat → Int32) (hL : L ≤ 4) : wL_law_0 L xs S_0 := sL_law_0 400 L xs sm0 Ex_rf (law_e L xs hL)
