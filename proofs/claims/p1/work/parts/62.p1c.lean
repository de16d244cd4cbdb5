theorem nt_2015 {n : Nat} {xs : Nat → Int32} {K : VS → Nat → Nat → Nat → Nat → Int32 → Rs Unit} (hK : ∀ V a b c d, gd (K V a b c d 4) AT BT) {V : VS} {a b c d : Nat} {z0 : Int64} {z1 : Int64} : gd (eL_law_2015 n 4 xs KR V a b c d 0 z0 z1) AT BT → gd (eL_law_2015 n 4 xs K V a b c d 0 z0 z1) AT BT := by
  unfold eL_law_2015
  repeat' first
    | with_reducible refine nt_if ?_ ?_
    | with_reducible refine nt_bd (fun _ _ => ?_)
    | with_reducible refine nt_sq (fun _ => ?_)
    | with_reducible refine nt_rd (fun _ => ?_)
    | with_reducible exact nt_none
    | with_reducible exact nt_k hK (by decide)
theorem nt_1913 {n : Nat} {xs : Nat → Int32} {K : VS → Nat → Nat → Nat → Nat → Int32 → Rs Unit} (hK : ∀ V a b c d, gd (K V a b c d 4) AT BT) {V : VS} {a b c d : Nat} {y6 : Int32} {z0 : Int32} {z1 : Int32} {w2v : Nat} : gd (eL_law_1913 n 4 xs KR V a b c d 0 y6 z0 z1 w2v) AT BT → gd (eL_law_1913 n 4 xs K V a b c d 0 y6 z0 z1 w2v) AT BT := by
  unfold eL_law_1913
  repeat' first
    | with_reducible refine nt_if ?_ ?_
    | with_reducible refine nt_bd (fun _ _ => ?_)
    | with_reducible refine nt_sq (fun _ => ?_)
    | with_reducible refine nt_rd (fun _ => ?_)
    | with_reducible exact nt_none
    | with_reducible exact nt_k hK (by decide)
    | with_reducible exact nt_2015 hK
theorem nt_1886 {n : Nat} {xs : Nat → Int32} {K : VS → Nat → Nat → Nat → Nat → Int32 → Rs Unit} (hK : ∀ V a b c d, gd (K V a b c d 4) AT BT) {V : VS} {a b c d : Nat} {z0 : Int32} {z1 : Int32} {w2v : Nat} : gd (eL_law_1886 n 4 xs KR V a b c d 0 z0 z1 w2v) AT BT → gd (eL_law_1886 n 4 xs K V a b c d 0 z0 z1 w2v) AT BT := by
  unfold eL_law_1886
  repeat' first
    | with_reducible refine nt_if ?_ ?_
    | with_reducible refine nt_bd (fun _ _ => ?_)
    | with_reducible refine nt_sq (fun _ => ?_)
    | with_reducible refine nt_rd (fun _ => ?_)
    | with_reducible exact nt_none
    | with_reducible exact nt_k hK (by decide)
    | with_reducible exact nt_2015 hK
    | with_reducible exact nt_1913 hK
theorem nt_1778 {n : Nat} {xs : Nat → Int32} {K : VS → Nat → Nat → Nat → Nat → Int32 → Rs Unit} (hK : ∀ V a b c d, gd (K V a b c d 4) AT BT) {V : VS} {a b c d : Nat} {z0 : Int64} {z1 : Int64} : gd (eL_law_1778 n 4 xs KR V a b c d 0 z0 z1) AT BT → gd (eL_law_1778 n 4 xs K V a b c d 0 z0 z1) AT BT := by
  unfold eL_law_1778
  repeat' first
    | with_reducible refine nt_if ?_ ?_
    | with_reducible refine nt_bd (fun _ _ => ?_)
    | with_reducible refine nt_sq (fun _ => ?_)
    | with_reducible refine nt_rd (fun _ => ?_)
    | with_reducible exact nt_none
    | with_reducible exact nt_k hK (by decide)
    | with_reducible exact nt_2015 hK
    | with_reducible exact nt_1913 hK
    | with_reducible exact nt_1886 hK
theorem nt_500 {n : Nat} {xs : Nat → Int32} {K : VS → Nat → Nat → Nat → Nat → Int32 → Rs Unit} (hK : ∀ V a b c d, gd (K V a b c d 4) AT BT) {V : VS} {a b c d : Nat} {z0 : Int64} {z1 : Int64} : gd (eL_law_500 n 4 xs KR V a b c d 0 z0 z1) AT BT → gd (eL_law_500 n 4 xs K V a b c d 0 z0 z1) AT BT := by
  unfold eL_law_500
  repeat' first
    | with_reducible refine nt_if ?_ ?_
    | with_reducible refine nt_bd (fun _ _ => ?_)
    | with_reducible refine nt_sq (fun _ => ?_)
    | with_reducible refine nt_rd (fun _ => ?_)
    | with_reducible exact nt_none
    | with_reducible exact nt_k hK (by decide)
    | with_reducible exact nt_2015 hK
    | with_reducible exact nt_1913 hK
    | with_reducible exact nt_1886 hK
    | with_reducible exact nt_1778 hK
theorem nt_266 {n : Nat} {xs : Nat → Int32} {K : VS → Nat → Nat → Nat → Nat → Int32 → Rs Unit} (hK : ∀ V a b c d, gd (K V a b c d 4) AT BT) {V : VS} {a b c d : Nat} : gd (eL_law_266 n 4 xs KR V a b c d 0) AT BT → gd (eL_law_266 n 4 xs K V a b c d 0) AT BT := by
  unfold eL_law_266
  repeat' first
    | with_reducible refine nt_if ?_ ?_
    | with_reducible refine nt_bd (fun _ _ => ?_)
    | with_reducible refine nt_sq (fun _ => ?_)
    | with_reducible refine nt_rd (fun _ => ?_)
    | with_reducible exact nt_none
    | with_reducible exact nt_k hK (by decide)
    | with_reducible exact nt_2015 hK
    | with_reducible exact nt_1913 hK
    | with_reducible exact nt_1886 hK
    | with_reducible exact nt_1778 hK
    | with_reducible exact nt_500 hK
theorem nt_322 {n : Nat} {xs : Nat → Int32} {K : VS → Nat → Nat → Nat → Nat → Int32 → Rs Unit} (hK : ∀ V a b c d, gd (K V a b c d 4) AT BT) {V : VS} {a b c d : Nat} : gd (eL_law_322 n 4 xs KR V a b c d 0) AT BT → gd (eL_law_322 n 4 xs K V a b c d 0) AT BT := by
  unfold eL_law_322
  repeat' first
    | with_reducible refine nt_if ?_ ?_
    | with_reducible refine nt_bd (fun _ _ => ?_)
    | with_reducible refine nt_sq (fun _ => ?_)
    | with_reducible refine nt_rd (fun _ => ?_)
    | with_reducible exact nt_none
    | with_reducible exact nt_k hK (by decide)
    | with_reducible exact nt_2015 hK
    | with_reducible exact nt_1913 hK
    | with_reducible exact nt_1886 hK
    | with_reducible exact nt_1778 hK
    | with_reducible exact nt_500 hK
theorem nt_366 {n : Nat} {xs : Nat → Int32} {K : VS → Nat → Nat → Nat → Nat → Int32 → Rs Unit} (hK : ∀ V a b c d, gd (K V a b c d 4) AT BT) {V : VS} {a b c d : Nat} : gd (eL_law_366 n 4 xs KR V a b c d 0) AT BT → gd (eL_law_366 n 4 xs K V a b c d 0) AT BT := by
  unfold eL_law_366
  repeat' first
    | with_reducible refine nt_if ?_ ?_
    | with_reducible refine nt_bd (fun _ _ => ?_)
    | with_reducible refine nt_sq (fun _ => ?_)
    | with_reducible refine nt_rd (fun _ => ?_)
    | with_reducible exact nt_none
    | with_reducible exact nt_k hK (by decide)
    | with_reducible exact nt_2015 hK
    | with_reducible exact nt_1913 hK
    | with_reducible exact nt_1886 hK
    | with_reducible exact nt_1778 hK
    | with_reducible exact nt_500 hK
theorem nt_434 {n : Nat} {xs : Nat → Int32} {K : VS → Nat → Nat → Nat → Nat → Int32 → Rs Unit} (hK : ∀ V a b c d, gd (K V a b c d 4) AT BT) {V : VS} {a b c d : Nat} : gd (eL_law_434 n 4 xs KR V a b c d 0) AT BT → gd (eL_law_434 n 4 xs K V a b c d 0) AT BT := by
  unfold eL_law_434
  repeat' first
    | with_reducible refine nt_if ?_ ?_
    | with_reducible refine nt_bd (fun _ _ => ?_)
    | with_reducible refine nt_sq (fun _ => ?_)
    | with_reducible refine nt_rd (fun _ => ?_)
    | with_reducible exact nt_none
    | with_reducible exact nt_k hK (by decide)
    | with_reducible exact nt_2015 hK
    | with_reducible exact nt_1913 hK
    | with_reducible exact nt_1886 hK
    | with_reducible exact nt_1778 hK
    | with_reducible exact nt_500 hK
theorem nt_509 {n : Nat} {xs : Nat → Int32} {K : VS → Nat → Nat → Nat → Nat → Int32 → Rs Unit} (hK : ∀ V a b c d, gd (K V a b c d 4) AT BT) {V : VS} {a b c d : Nat} : gd (eL_law_509 n 4 xs KR V a b c d 0) AT BT → gd (eL_law_509 n 4 xs K V a b c d 0) AT BT := by
  unfold eL_law_509
  repeat' first
    | with_reducible refine nt_if ?_ ?_
    | with_reducible refine nt_bd (fun _ _ => ?_)
    | with_reducible refine nt_sq (fun _ => ?_)
    | with_reducible refine nt_rd (fun _ => ?_)
    | with_reducible exact nt_none
    | with_reducible exact nt_k hK (by decide)
    | with_reducible exact nt_2015 hK
    | with_reducible exact nt_1913 hK
    | with_reducible exact nt_1886 hK
    | with_reducible exact nt_1778 hK
    | with_reducible exact nt_500 hK
theorem nt_577 {n : Nat} {xs : Nat → Int32} {K : VS → Nat → Nat → Nat → Nat → Int32 → Rs Unit} (hK : ∀ V a b c d, gd (K V a b c d 4) AT BT) {V : VS} {a b c d : Nat} : gd (eL_law_577 n 4 xs KR V a b c d 0) AT BT → gd (eL_law_577 n 4 xs K V a b c d 0) AT BT := by
  unfold eL_law_577
  repeat' first
    | with_reducible refine nt_if ?_ ?_
    | with_reducible refine nt_bd (fun _ _ => ?_)
    | with_reducible refine nt_sq (fun _ => ?_)
    | with_reducible refine nt_rd (fun _ => ?_)
    | with_reducible exact nt_none
    | with_reducible exact nt_k hK (by decide)
    | with_reducible exact nt_2015 hK
    | with_reducible exact nt_1913 hK
    | with_reducible exact nt_1886 hK
    | with_reducible exact nt_1778 hK
    | with_reducible exact nt_500 hK
theorem nt_657 {n : Nat} {xs : Nat → Int32} {K : VS → Nat → Nat → Nat → Nat → Int32 → Rs Unit} (hK : ∀ V a b c d, gd (K V a b c d 4) AT BT) {V : VS} {a b c d : Nat} : gd (eL_law_657 n 4 xs KR V a b c d 0) AT BT → gd (eL_law_657 n 4 xs K V a b c d 0) AT BT := by
  unfold eL_law_657
  repeat' first
    | with_reducible refine nt_if ?_ ?_
    | with_reducible refine nt_bd (fun _ _ => ?_)
    | with_reducible refine nt_sq (fun _ => ?_)
    | with_reducible refine nt_rd (fun _ => ?_)
    | with_reducible exact nt_none
    | with_reducible exact nt_k hK (by decide)
    | with_reducible exact nt_2015 hK
    | with_reducible exact nt_1913 hK
    | with_reducible exact nt_1886 hK
    | with_reducible exact nt_1778 hK
    | with_reducible exact nt_500 hK
theorem nt_670 {n : Nat} {xs : Nat → Int32} {K : VS → Nat → Nat → Nat → Nat → Int32 → Rs Unit} (hK : ∀ V a b c d, gd (K V a b c d 4) AT BT) {V : VS} {a b c d : Nat} : gd (eL_law_670 n 4 xs KR V a b c d 0) AT BT → gd (eL_law_670 n 4 xs K V a b c d 0) AT BT := by
  unfold eL_law_670
  repeat' first
    | with_reducible refine nt_if ?_ ?_
    | with_reducible refine nt_bd (fun _ _ => ?_)
    | with_reducible refine nt_sq (fun _ => ?_)
    | with_reducible refine nt_rd (fun _ => ?_)
    | with_reducible exact nt_none
    | with_reducible exact nt_k hK (by decide)
    | with_reducible exact nt_2015 hK
    | with_reducible exact nt_1913 hK
    | with_reducible exact nt_1886 hK
    | with_reducible exact nt_1778 hK
    | with_reducible exact nt_500 hK
theorem nt_738 {n : Nat} {xs : Nat → Int32} {K : VS → Nat → Nat → Nat → Nat → Int32 → Rs Unit} (hK : ∀ V a b c d, gd (K V a b c d 4) AT BT) {V : VS} {a b c d : Nat} : gd (eL_law_738 n 4 xs KR V a b c d 0) AT BT → gd (eL_law_738 n 4 xs K V a b c d 0) AT BT := by
  unfold eL_law_738
  repeat' first
    | with_reducible refine nt_if ?_ ?_
    | with_reducible refine nt_bd (fun _ _ => ?_)
    | with_reducible refine nt_sq (fun _ => ?_)
    | with_reducible refine nt_rd (fun _ => ?_)
    | with_reducible exact nt_none
    | with_reducible exact nt_k hK (by decide)
    | with_reducible exact nt_2015 hK
    | with_reducible exact nt_1913 hK
    | with_reducible exact nt_1886 hK
    | with_reducible exact nt_1778 hK
    | with_reducible exact nt_500 hK
theorem nt_782 {n : Nat} {xs : Nat → Int32} {K : VS → Nat → Nat → Nat → Nat → Int32 → Rs Unit} (hK : ∀ V a b c d, gd (K V a b c d 4) AT BT) {V : VS} {a b c d : Nat} : gd (eL_law_782 n 4 xs KR V a b c d 0) AT BT → gd (eL_law_782 n 4 xs K V a b c d 0) AT BT := by
  unfold eL_law_782
  repeat' first
    | with_reducible refine nt_if ?_ ?_
    | with_reducible refine nt_bd (fun _ _ => ?_)
    | with_reducible refine nt_sq (fun _ => ?_)
    | with_reducible refine nt_rd (fun _ => ?_)
    | with_reducible exact nt_none
    | with_reducible exact nt_k hK (by decide)
    | with_reducible exact nt_2015 hK
    | with_reducible exact nt_1913 hK
    | with_reducible exact nt_1886 hK
    | with_reducible exact nt_1778 hK
    | with_reducible exact nt_500 hK
theorem nt_795 {n : Nat} {xs : Nat → Int32} {K : VS → Nat → Nat → Nat → Nat → Int32 → Rs Unit} (hK : ∀ V a b c d, gd (K V a b c d 4) AT BT) {V : VS} {a b c d : Nat} : gd (eL_law_795 n 4 xs KR V a b c d 0) AT BT → gd (eL_law_795 n 4 xs K V a b c d 0) AT BT := by
  unfold eL_law_795
  repeat' first
    | with_reducible refine nt_if ?_ ?_
    | with_reducible refine nt_bd (fun _ _ => ?_)
    | with_reducible refine nt_sq (fun _ => ?_)
    | with_reducible refine nt_rd (fun _ => ?_)
    | with_reducible exact nt_none
    | with_reducible exact nt_k hK (by decide)
    | with_reducible exact nt_2015 hK
    | with_reducible exact nt_1913 hK
    | with_reducible exact nt_1886 hK
    | with_reducible exact nt_1778 hK
    | with_reducible exact nt_500 hK
theorem nt_808 {n : Nat} {xs : Nat → Int32} {K : VS → Nat → Nat → Nat → Nat → Int32 → Rs Unit} (hK : ∀ V a b c d, gd (K V a b c d 4) AT BT) {V : VS} {a b c d : Nat} : gd (eL_law_808 n 4 xs KR V a b c d 0) AT BT → gd (eL_law_808 n 4 xs K V a b c d 0) AT BT := by
  unfold eL_law_808
  repeat' first
    | with_reducible refine nt_if ?_ ?_
    | with_reducible refine nt_bd (fun _ _ => ?_)
    | with_reducible refine nt_sq (fun _ => ?_)
    | with_reducible refine nt_rd (fun _ => ?_)
    | with_reducible exact nt_none
    | with_reducible exact nt_k hK (by decide)
    | with_reducible exact nt_2015 hK
    | with_reducible exact nt_1913 hK
    | with_reducible exact nt_1886 hK
    | with_reducible exact nt_1778 hK
    | with_reducible exact nt_500 hK
theorem nt_852 {n : Nat} {xs : Nat → Int32} {K : VS → Nat → Nat → Nat → Nat → Int32 → Rs Unit} (hK : ∀ V a b c d, gd (K V a b c d 4) AT BT) {V : VS} {a b c d : Nat} : gd (eL_law_852 n 4 xs KR V a b c d 0) AT BT → gd (eL_law_852 n 4 xs K V a b c d 0) AT BT := by
  unfold eL_law_852
  repeat' first
    | with_reducible refine nt_if ?_ ?_
    | with_reducible refine nt_bd (fun _ _ => ?_)
    | with_reducible refine nt_sq (fun _ => ?_)
    | with_reducible refine nt_rd (fun _ => ?_)
    | with_reducible exact nt_none
    | with_reducible exact nt_k hK (by decide)
    | with_reducible exact nt_2015 hK
    | with_reducible exact nt_1913 hK
    | with_reducible exact nt_1886 hK
    | with_reducible exact nt_1778 hK
    | with_reducible exact nt_500 hK
theorem nt_908 {n : Nat} {xs : Nat → Int32} {K : VS → Nat → Nat → Nat → Nat → Int32 → Rs Unit} (hK : ∀ V a b c d, gd (K V a b c d 4) AT BT) {V : VS} {a b c d : Nat} : gd (eL_law_908 n 4 xs KR V a b c d 0) AT BT → gd (eL_law_908 n 4 xs K V a b c d 0) AT BT := by
  unfold eL_law_908
  repeat' first
    | with_reducible refine nt_if ?_ ?_
    | with_reducible refine nt_bd (fun _ _ => ?_)
    | with_reducible refine nt_sq (fun _ => ?_)
    | with_reducible refine nt_rd (fun _ => ?_)
    | with_reducible exact nt_none
    | with_reducible exact nt_k hK (by decide)
    | with_reducible exact nt_2015 hK
    | with_reducible exact nt_1913 hK
    | with_reducible exact nt_1886 hK
    | with_reducible exact nt_1778 hK
    | with_reducible exact nt_500 hK
theorem nt_964 {n : Nat} {xs : Nat → Int32} {K : VS → Nat → Nat → Nat → Nat → Int32 → Rs Unit} (hK : ∀ V a b c d, gd (K V a b c d 4) AT BT) {V : VS} {a b c d : Nat} : gd (eL_law_964 n 4 xs KR V a b c d 0) AT BT → gd (eL_law_964 n 4 xs K V a b c d 0) AT BT := by
  unfold eL_law_964
  repeat' first
    | with_reducible refine nt_if ?_ ?_
    | with_reducible refine nt_bd (fun _ _ => ?_)
    | with_reducible refine nt_sq (fun _ => ?_)
    | with_reducible refine nt_rd (fun _ => ?_)
    | with_reducible exact nt_none
    | with_reducible exact nt_k hK (by decide)
    | with_reducible exact nt_2015 hK
    | with_reducible exact nt_1913 hK
    | with_reducible exact nt_1886 hK
    | with_reducible exact nt_1778 hK
    | with_reducible exact nt_500 hK
theorem nt_1032 {n : Nat} {xs : Nat → Int32} {K : VS → Nat → Nat → Nat → Nat → Int32 → Rs Unit} (hK : ∀ V a b c d, gd (K V a b c d 4) AT BT) {V : VS} {a b c d : Nat} : gd (eL_law_1032 n 4 xs KR V a b c d 0) AT BT → gd (eL_law_1032 n 4 xs K V a b c d 0) AT BT := by
  unfold eL_law_1032
  repeat' first
    | with_reducible refine nt_if ?_ ?_
    | with_reducible refine nt_bd (fun _ _ => ?_)
    | with_reducible refine nt_sq (fun _ => ?_)
    | with_reducible refine nt_rd (fun _ => ?_)
    | with_reducible exact nt_none
    | with_reducible exact nt_k hK (by decide)
    | with_reducible exact nt_2015 hK
    | with_reducible exact nt_1913 hK
    | with_reducible exact nt_1886 hK
    | with_reducible exact nt_1778 hK
    | with_reducible exact nt_500 hK
theorem nt_1121 {n : Nat} {xs : Nat → Int32} {K : VS → Nat → Nat → Nat → Nat → Int32 → Rs Unit} (hK : ∀ V a b c d, gd (K V a b c d 4) AT BT) {V : VS} {a b c d : Nat} : gd (eL_law_1121 n 4 xs KR V a b c d 0) AT BT → gd (eL_law_1121 n 4 xs K V a b c d 0) AT BT := by
  unfold eL_law_1121
  repeat' first
    | with_reducible refine nt_if ?_ ?_
    | with_reducible refine nt_bd (fun _ _ => ?_)
    | with_reducible refine nt_sq (fun _ => ?_)
    | with_reducible refine nt_rd (fun _ => ?_)
    | with_reducible exact nt_none
    | with_reducible exact nt_k hK (by decide)
    | with_reducible exact nt_2015 hK
    | with_reducible exact nt_1913 hK
    | with_reducible exact nt_1886 hK
    | with_reducible exact nt_1778 hK
    | with_reducible exact nt_500 hK
theorem nt_1210 {n : Nat} {xs : Nat → Int32} {K : VS → Nat → Nat → Nat → Nat → Int32 → Rs Unit} (hK : ∀ V a b c d, gd (K V a b c d 4) AT BT) {V : VS} {a b c d : Nat} : gd (eL_law_1210 n 4 xs KR V a b c d 0) AT BT → gd (eL_law_1210 n 4 xs K V a b c d 0) AT BT := by
  unfold eL_law_1210
  repeat' first
    | with_reducible refine nt_if ?_ ?_
    | with_reducible refine nt_bd (fun _ _ => ?_)
    | with_reducible refine nt_sq (fun _ => ?_)
    | with_reducible refine nt_rd (fun _ => ?_)
    | with_reducible exact nt_none
    | with_reducible exact nt_k hK (by decide)
    | with_reducible exact nt_2015 hK
    | with_reducible exact nt_1913 hK
    | with_reducible exact nt_1886 hK
    | with_reducible exact nt_1778 hK
    | with_reducible exact nt_500 hK
theorem nt_1254 {n : Nat} {xs : Nat → Int32} {K : VS → Nat → Nat → Nat → Nat → Int32 → Rs Unit} (hK : ∀ V a b c d, gd (K V a b c d 4) AT BT) {V : VS} {a b c d : Nat} : gd (eL_law_1254 n 4 xs KR V a b c d 0) AT BT → gd (eL_law_1254 n 4 xs K V a b c d 0) AT BT := by
  unfold eL_law_1254
  repeat' first
    | with_reducible refine nt_if ?_ ?_
    | with_reducible refine nt_bd (fun _ _ => ?_)
    | with_reducible refine nt_sq (fun _ => ?_)
    | with_reducible refine nt_rd (fun _ => ?_)
    | with_reducible exact nt_none
    | with_reducible exact nt_k hK (by decide)
    | with_reducible exact nt_2015 hK
    | with_reducible exact nt_1913 hK
    | with_reducible exact nt_1886 hK
    | with_reducible exact nt_1778 hK
    | with_reducible exact nt_500 hK
theorem nt_1310 {n : Nat} {xs : Nat → Int32} {K : VS → Nat → Nat → Nat → Nat → Int32 → Rs Unit} (hK : ∀ V a b c d, gd (K V a b c d 4) AT BT) {V : VS} {a b c d : Nat} : gd (eL_law_1310 n 4 xs KR V a b c d 0) AT BT → gd (eL_law_1310 n 4 xs K V a b c d 0) AT BT := by
  unfold eL_law_1310
  repeat' first
    | with_reducible refine nt_if ?_ ?_
    | with_reducible refine nt_bd (fun _ _ => ?_)
    | with_reducible refine nt_sq (fun _ => ?_)
    | with_reducible refine nt_rd (fun _ => ?_)
    | with_reducible exact nt_none
    | with_reducible exact nt_k hK (by decide)
    | with_reducible exact nt_2015 hK
    | with_reducible exact nt_1913 hK
    | with_reducible exact nt_1886 hK
    | with_reducible exact nt_1778 hK
    | with_reducible exact nt_500 hK
theorem nt_1366 {n : Nat} {xs : Nat → Int32} {K : VS → Nat → Nat → Nat → Nat → Int32 → Rs Unit} (hK : ∀ V a b c d, gd (K V a b c d 4) AT BT) {V : VS} {a b c d : Nat} : gd (eL_law_1366 n 4 xs KR V a b c d 0) AT BT → gd (eL_law_1366 n 4 xs K V a b c d 0) AT BT := by
  unfold eL_law_1366
  repeat' first
    | with_reducible refine nt_if ?_ ?_
    | with_reducible refine nt_bd (fun _ _ => ?_)
    | with_reducible refine nt_sq (fun _ => ?_)
    | with_reducible refine nt_rd (fun _ => ?_)
    | with_reducible exact nt_none
    | with_reducible exact nt_k hK (by decide)
    | with_reducible exact nt_2015 hK
    | with_reducible exact nt_1913 hK
    | with_reducible exact nt_1886 hK
    | with_reducible exact nt_1778 hK
    | with_reducible exact nt_500 hK
theorem nt_1422 {n : Nat} {xs : Nat → Int32} {K : VS → Nat → Nat → Nat → Nat → Int32 → Rs Unit} (hK : ∀ V a b c d, gd (K V a b c d 4) AT BT) {V : VS} {a b c d : Nat} : gd (eL_law_1422 n 4 xs KR V a b c d 0) AT BT → gd (eL_law_1422 n 4 xs K V a b c d 0) AT BT := by
  unfold eL_law_1422
  repeat' first
    | with_reducible refine nt_if ?_ ?_
    | with_reducible refine nt_bd (fun _ _ => ?_)
    | with_reducible refine nt_sq (fun _ => ?_)
    | with_reducible refine nt_rd (fun _ => ?_)
    | with_reducible exact nt_none
    | with_reducible exact nt_k hK (by decide)
    | with_reducible exact nt_2015 hK
    | with_reducible exact nt_1913 hK
    | with_reducible exact nt_1886 hK
    | with_reducible exact nt_1778 hK
    | with_reducible exact nt_500 hK
theorem nt_1466 {n : Nat} {xs : Nat → Int32} {K : VS → Nat → Nat → Nat → Nat → Int32 → Rs Unit} (hK : ∀ V a b c d, gd (K V a b c d 4) AT BT) {V : VS} {a b c d : Nat} : gd (eL_law_1466 n 4 xs KR V a b c d 0) AT BT → gd (eL_law_1466 n 4 xs K V a b c d 0) AT BT := by
  unfold eL_law_1466
  repeat' first
    | with_reducible refine nt_if ?_ ?_
    | with_reducible refine nt_bd (fun _ _ => ?_)
    | with_reducible refine nt_sq (fun _ => ?_)
    | with_reducible refine nt_rd (fun _ => ?_)
    | with_reducible exact nt_none
    | with_reducible exact nt_k hK (by decide)
    | with_reducible exact nt_2015 hK
    | with_reducible exact nt_1913 hK
    | with_reducible exact nt_1886 hK
    | with_reducible exact nt_1778 hK
    | with_reducible exact nt_500 hK
theorem nt_1510 {n : Nat} {xs : Nat → Int32} {K : VS → Nat → Nat → Nat → Nat → Int32 → Rs Unit} (hK : ∀ V a b c d, gd (K V a b c d 4) AT BT) {V : VS} {a b c d : Nat} : gd (eL_law_1510 n 4 xs KR V a b c d 0) AT BT → gd (eL_law_1510 n 4 xs K V a b c d 0) AT BT := by
  unfold eL_law_1510
  repeat' first
    | with_reducible refine nt_if ?_ ?_
    | with_reducible refine nt_bd (fun _ _ => ?_)
    | with_reducible refine nt_sq (fun _ => ?_)
    | with_reducible refine nt_rd (fun _ => ?_)
    | with_reducible exact nt_none
    | with_reducible exact nt_k hK (by decide)
    | with_reducible exact nt_2015 hK
    | with_reducible exact nt_1913 hK
    | with_reducible exact nt_1886 hK
    | with_reducible exact nt_1778 hK
    | with_reducible exact nt_500 hK
theorem nt_1554 {n : Nat} {xs : Nat → Int32} {K : VS → Nat → Nat → Nat → Nat → Int32 → Rs Unit} (hK : ∀ V a b c d, gd (K V a b c d 4) AT BT) {V : VS} {a b c d : Nat} : gd (eL_law_1554 n 4 xs KR V a b c d 0) AT BT → gd (eL_law_1554 n 4 xs K V a b c d 0) AT BT := by
  unfold eL_law_1554
  repeat' first
    | with_reducible refine nt_if ?_ ?_
    | with_reducible refine nt_bd (fun _ _ => ?_)
    | with_reducible refine nt_sq (fun _ => ?_)
    | with_reducible refine nt_rd (fun _ => ?_)
    | with_reducible exact nt_none
    | with_reducible exact nt_k hK (by decide)
    | with_reducible exact nt_2015 hK
    | with_reducible exact nt_1913 hK
    | with_reducible exact nt_1886 hK
    | with_reducible exact nt_1778 hK
    | with_reducible exact nt_500 hK
theorem nt_1598 {n : Nat} {xs : Nat → Int32} {K : VS → Nat → Nat → Nat → Nat → Int32 → Rs Unit} (hK : ∀ V a b c d, gd (K V a b c d 4) AT BT) {V : VS} {a b c d : Nat} : gd (eL_law_1598 n 4 xs KR V a b c d 0) AT BT → gd (eL_law_1598 n 4 xs K V a b c d 0) AT BT := by
  unfold eL_law_1598
  repeat' first
    | with_reducible refine nt_if ?_ ?_
    | with_reducible refine nt_bd (fun _ _ => ?_)
    | with_reducible refine nt_sq (fun _ => ?_)
    | with_reducible refine nt_rd (fun _ => ?_)
    | with_reducible exact nt_none
    | with_reducible exact nt_k hK (by decide)
    | with_reducible exact nt_2015 hK
    | with_reducible exact nt_1913 hK
    | with_reducible exact nt_1886 hK
    | with_reducible exact nt_1778 hK
    | with_reducible exact nt_500 hK
theorem nt_1611 {n : Nat} {xs : Nat → Int32} {K : VS → Nat → Nat → Nat → Nat → Int32 → Rs Unit} (hK : ∀ V a b c d, gd (K V a b c d 4) AT BT) {V : VS} {a b c d : Nat} : gd (eL_law_1611 n 4 xs KR V a b c d 0) AT BT → gd (eL_law_1611 n 4 xs K V a b c d 0) AT BT := by
  unfold eL_law_1611
  repeat' first
    | with_reducible refine nt_if ?_ ?_
    | with_reducible refine nt_bd (fun _ _ => ?_)
    | with_reducible refine nt_sq (fun _ => ?_)
    | with_reducible refine nt_rd (fun _ => ?_)
    | with_reducible exact nt_none
    | with_reducible exact nt_k hK (by decide)
    | with_reducible exact nt_2015 hK
    | with_reducible exact nt_1913 hK
    | with_reducible exact nt_1886 hK
    | with_reducible exact nt_1778 hK
    | with_reducible exact nt_500 hK
theorem nt_1679 {n : Nat} {xs : Nat → Int32} {K : VS → Nat → Nat → Nat → Nat → Int32 → Rs Unit} (hK : ∀ V a b c d, gd (K V a b c d 4) AT BT) {V : VS} {a b c d : Nat} : gd (eL_law_1679 n 4 xs KR V a b c d 0) AT BT → gd (eL_law_1679 n 4 xs K V a b c d 0) AT BT := by
  unfold eL_law_1679
  repeat' first
    | with_reducible refine nt_if ?_ ?_
    | with_reducible refine nt_bd (fun _ _ => ?_)
    | with_reducible refine nt_sq (fun _ => ?_)
    | with_reducible refine nt_rd (fun _ => ?_)
    | with_reducible exact nt_none
    | with_reducible exact nt_k hK (by decide)
    | with_reducible exact nt_2015 hK
    | with_reducible exact nt_1913 hK
    | with_reducible exact nt_1886 hK
    | with_reducible exact nt_1778 hK
    | with_reducible exact nt_500 hK
theorem nt_1692 {n : Nat} {xs : Nat → Int32} {K : VS → Nat → Nat → Nat → Nat → Int32 → Rs Unit} (hK : ∀ V a b c d, gd (K V a b c d 4) AT BT) {V : VS} {a b c d : Nat} : gd (eL_law_1692 n 4 xs KR V a b c d 0) AT BT → gd (eL_law_1692 n 4 xs K V a b c d 0) AT BT := by
  unfold eL_law_1692
  repeat' first
    | with_reducible refine nt_if ?_ ?_
    | with_reducible refine nt_bd (fun _ _ => ?_)
    | with_reducible refine nt_sq (fun _ => ?_)
    | with_reducible refine nt_rd (fun _ => ?_)
    | with_reducible exact nt_none
    | with_reducible exact nt_k hK (by decide)
    | with_reducible exact nt_2015 hK
    | with_reducible exact nt_1913 hK
    | with_reducible exact nt_1886 hK
    | with_reducible exact nt_1778 hK
    | with_reducible exact nt_500 hK
theorem nt_1736 {n : Nat} {xs : Nat → Int32} {K : VS → Nat → Nat → Nat → Nat → Int32 → Rs Unit} (hK : ∀ V a b c d, gd (K V a b c d 4) AT BT) {V : VS} {a b c d : Nat} : gd (eL_law_1736 n 4 xs KR V a b c d 0) AT BT → gd (eL_law_1736 n 4 xs K V a b c d 0) AT BT := by
  unfold eL_law_1736
  repeat' first
    | with_reducible refine nt_if ?_ ?_
    | with_reducible refine nt_bd (fun _ _ => ?_)
    | with_reducible refine nt_sq (fun _ => ?_)
    | with_reducible refine nt_rd (fun _ => ?_)
    | with_reducible exact nt_none
    | with_reducible exact nt_k hK (by decide)
    | with_reducible exact nt_2015 hK
    | with_reducible exact nt_1913 hK
    | with_reducible exact nt_1886 hK
    | with_reducible exact nt_1778 hK
    | with_reducible exact nt_500 hK
theorem nt_1787 {n : Nat} {xs : Nat → Int32} {K : VS → Nat → Nat → Nat → Nat → Int32 → Rs Unit} (hK : ∀ V a b c d, gd (K V a b c d 4) AT BT) {V : VS} {a b c d : Nat} : gd (eL_law_1787 n 4 xs KR V a b c d 0) AT BT → gd (eL_law_1787 n 4 xs K V a b c d 0) AT BT := by
  unfold eL_law_1787
  repeat' first
    | with_reducible refine nt_if ?_ ?_
    | with_reducible refine nt_bd (fun _ _ => ?_)
    | with_reducible refine nt_sq (fun _ => ?_)
    | with_reducible refine nt_rd (fun _ => ?_)
    | with_reducible exact nt_none
    | with_reducible exact nt_k hK (by decide)
    | with_reducible exact nt_2015 hK
    | with_reducible exact nt_1913 hK
    | with_reducible exact nt_1886 hK
    | with_reducible exact nt_1778 hK
    | with_reducible exact nt_500 hK
theorem nt_1865 {n : Nat} {xs : Nat → Int32} {K : VS → Nat → Nat → Nat → Nat → Int32 → Rs Unit} (hK : ∀ V a b c d, gd (K V a b c d 4) AT BT) {V : VS} {a b c d : Nat} : gd (eL_law_1865 n 4 xs KR V a b c d 0) AT BT → gd (eL_law_1865 n 4 xs K V a b c d 0) AT BT := by
  unfold eL_law_1865
  repeat' first
    | with_reducible refine nt_if ?_ ?_
    | with_reducible refine nt_bd (fun _ _ => ?_)
    | with_reducible refine nt_sq (fun _ => ?_)
    | with_reducible refine nt_rd (fun _ => ?_)
    | with_reducible exact nt_none
    | with_reducible exact nt_k hK (by decide)
    | with_reducible exact nt_2015 hK
    | with_reducible exact nt_1913 hK
    | with_reducible exact nt_1886 hK
    | with_reducible exact nt_1778 hK
    | with_reducible exact nt_500 hK
theorem nt_1949 {n : Nat} {xs : Nat → Int32} {K : VS → Nat → Nat → Nat → Nat → Int32 → Rs Unit} (hK : ∀ V a b c d, gd (K V a b c d 4) AT BT) {V : VS} {a b c d : Nat} : gd (eL_law_1949 n 4 xs KR V a b c d 0) AT BT → gd (eL_law_1949 n 4 xs K V a b c d 0) AT BT := by
  unfold eL_law_1949
  repeat' first
    | with_reducible refine nt_if ?_ ?_
    | with_reducible refine nt_bd (fun _ _ => ?_)
    | with_reducible refine nt_sq (fun _ => ?_)
    | with_reducible refine nt_rd (fun _ => ?_)
    | with_reducible exact nt_none
    | with_reducible exact nt_k hK (by decide)
    | with_reducible exact nt_2015 hK
    | with_reducible exact nt_1913 hK
    | with_reducible exact nt_1886 hK
    | with_reducible exact nt_1778 hK
    | with_reducible exact nt_500 hK
theorem nt_2024 {n : Nat} {xs : Nat → Int32} {K : VS → Nat → Nat → Nat → Nat → Int32 → Rs Unit} (hK : ∀ V a b c d, gd (K V a b c d 4) AT BT) {V : VS} {a b c d : Nat} : gd (eL_law_2024 n 4 xs KR V a b c d 0) AT BT → gd (eL_law_2024 n 4 xs K V a b c d 0) AT BT := by
  unfold eL_law_2024
  repeat' first
    | with_reducible refine nt_if ?_ ?_
    | with_reducible refine nt_bd (fun _ _ => ?_)
    | with_reducible refine nt_sq (fun _ => ?_)
    | with_reducible refine nt_rd (fun _ => ?_)
    | with_reducible exact nt_none
    | with_reducible exact nt_k hK (by decide)
    | with_reducible exact nt_2015 hK
    | with_reducible exact nt_1913 hK
    | with_reducible exact nt_1886 hK
    | with_reducible exact nt_1778 hK
    | with_reducible exact nt_500 hK
theorem nt_2092 {n : Nat} {xs : Nat → Int32} {K : VS → Nat → Nat → Nat → Nat → Int32 → Rs Unit} (hK : ∀ V a b c d, gd (K V a b c d 4) AT BT) {V : VS} {a b c d : Nat} : gd (eL_law_2092 n 4 xs KR V a b c d 0) AT BT → gd (eL_law_2092 n 4 xs K V a b c d 0) AT BT := by
  unfold eL_law_2092
  repeat' first
    | with_reducible refine nt_if ?_ ?_
    | with_reducible refine nt_bd (fun _ _ => ?_)
    | with_reducible refine nt_sq (fun _ => ?_)
    | with_reducible refine nt_rd (fun _ => ?_)
    | with_reducible exact nt_none
    | with_reducible exact nt_k hK (by decide)
    | with_reducible exact nt_2015 hK
    | with_reducible exact nt_1913 hK
    | with_reducible exact nt_1886 hK
    | with_reducible exact nt_1778 hK
    | with_reducible exact nt_500 hK
theorem nt_2105 {n : Nat} {xs : Nat → Int32} {K : VS → Nat → Nat → Nat → Nat → Int32 → Rs Unit} (hK : ∀ V a b c d, gd (K V a b c d 4) AT BT) {V : VS} {a b c d : Nat} : gd (eL_law_2105 n 4 xs KR V a b c d 0) AT BT → gd (eL_law_2105 n 4 xs K V a b c d 0) AT BT := by
  unfold eL_law_2105
  repeat' first
    | with_reducible refine nt_if ?_ ?_
    | with_reducible refine nt_bd (fun _ _ => ?_)
    | with_reducible refine nt_sq (fun _ => ?_)
    | with_reducible refine nt_rd (fun _ => ?_)
    | with_reducible exact nt_none
    | with_reducible exact nt_k hK (by decide)
    | with_reducible exact nt_2015 hK
    | with_reducible exact nt_1913 hK
    | with_reducible exact nt_1886 hK
    | with_reducible exact nt_1778 hK
    | with_reducible exact nt_500 hK
