def okR (r : Rs Unit) : Bool := match r with
  | some (.inl _) => true
  | _ => false
theorem gd_ok {r : Rs Unit} (h : okR r = true) : gd r AT BT := by
  refine gd_1 ?_
  rcases r with _ | a | a
  · cases h
  · trivial
  · cases h
set_option maxRecDepth 100000 in
theorem ok_322 (xs : Nat → Int32) : gd (eL_law_322 400 4 xs KR W0 0 207 222 223 0) AT BT := by
  unfold eL_law_322
  exact gd_ok (by decide +kernel)
set_option maxRecDepth 100000 in
theorem ok_657 (xs : Nat → Int32) : gd (eL_law_657 400 4 xs KR W0 0 207 222 223 0) AT BT := by
  unfold eL_law_657
  exact gd_ok (by decide +kernel)
set_option maxRecDepth 100000 in
theorem ok_738 (xs : Nat → Int32) : gd (eL_law_738 400 4 xs KR W0 0 207 222 223 0) AT BT := by
  unfold eL_law_738
  exact gd_ok (by decide +kernel)
set_option maxRecDepth 100000 in
theorem ok_782 (xs : Nat → Int32) : gd (eL_law_782 400 4 xs KR W0 0 207 222 223 0) AT BT := by
  unfold eL_law_782
  exact gd_ok (by decide +kernel)
set_option maxRecDepth 100000 in
theorem ok_795 (xs : Nat → Int32) : gd (eL_law_795 400 4 xs KR W0 0 207 222 223 0) AT BT := by
  unfold eL_law_795
  exact gd_ok (by decide +kernel)
set_option maxRecDepth 100000 in
theorem ok_808 (xs : Nat → Int32) : gd (eL_law_808 400 4 xs KR W0 0 207 222 223 0) AT BT := by
  unfold eL_law_808
  exact gd_ok (by decide +kernel)
set_option maxRecDepth 100000 in
theorem ok_1210 (xs : Nat → Int32) : gd (eL_law_1210 400 4 xs KR W0 0 207 222 223 0) AT BT := by
  unfold eL_law_1210
  exact gd_ok (by decide +kernel)
set_option maxRecDepth 100000 in
theorem ok_1422 (xs : Nat → Int32) : gd (eL_law_1422 400 4 xs KR W0 0 207 222 223 0) AT BT := by
  unfold eL_law_1422
  exact gd_ok (by decide +kernel)
set_option maxRecDepth 100000 in
theorem ok_1466 (xs : Nat → Int32) : gd (eL_law_1466 400 4 xs KR W0 0 207 222 223 0) AT BT := by
  unfold eL_law_1466
  exact gd_ok (by decide +kernel)
set_option maxRecDepth 100000 in
theorem ok_1510 (xs : Nat → Int32) : gd (eL_law_1510 400 4 xs KR W0 0 207 222 223 0) AT BT := by
  unfold eL_law_1510
  exact gd_ok (by decide +kernel)
set_option maxRecDepth 100000 in
theorem ok_1554 (xs : Nat → Int32) : gd (eL_law_1554 400 4 xs KR W0 0 207 222 223 0) AT BT := by
  unfold eL_law_1554
  exact gd_ok (by decide +kernel)
set_option maxRecDepth 100000 in
theorem ok_1598 (xs : Nat → Int32) : gd (eL_law_1598 400 4 xs KR W0 0 207 222 223 0) AT BT := by
  unfold eL_law_1598
  exact gd_ok (by decide +kernel)
set_option maxRecDepth 100000 in
theorem ok_1679 (xs : Nat → Int32) : gd (eL_law_1679 400 4 xs KR W0 0 207 222 223 0) AT BT := by
  unfold eL_law_1679
  exact gd_ok (by decide +kernel)
set_option maxRecDepth 100000 in
theorem ok_1692 (xs : Nat → Int32) : gd (eL_law_1692 400 4 xs KR W0 0 207 222 223 0) AT BT := by
  unfold eL_law_1692
  exact gd_ok (by decide +kernel)
set_option maxRecDepth 100000 in
theorem ok_1736 (xs : Nat → Int32) : gd (eL_law_1736 400 4 xs KR W0 0 207 222 223 0) AT BT := by
  unfold eL_law_1736 eL_law_1778
  exact gd_ok (by decide +kernel)
set_option maxRecDepth 100000 in
theorem ok_2092 (xs : Nat → Int32) : gd (eL_law_2092 400 4 xs KR W0 0 207 222 223 0) AT BT := by
  unfold eL_law_2092
  exact gd_ok (by decide +kernel)
set_option maxRecDepth 100000 in
theorem ok_2105 (xs : Nat → Int32) : gd (eL_law_2105 400 4 xs KR W0 0 207 222 223 0) AT BT := by
  unfold eL_law_2105
  exact gd_ok (by decide +kernel)
