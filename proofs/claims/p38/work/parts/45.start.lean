def S_0 : MS := ([], (fun _ => 0), (fun _ => 0), (fun _ _ => 0), (fun _ _ => none), (fun _ _ => 0), (fun _ _ => 0), (fun _ _ => 0))
theorem sa_0 {s : State} {b : Nat} (hts : ∀ w ∈ lw_tbl, w.before #[Value.ref b] s = true) (hs : ∀ c ∈ flatC (Jvm.Cond.and given_1 narrow_1), c.before #[Value.ref b] s = true) : SA 0 (fun q : Nat => s.heap.size ≤ q) s s.heap := by
  have hA : ∀ a : Nat, a < s.heap.size → ¬ (fun q : Nat => s.heap.size ≤ q) a := fun a h q => Nat.not_le.mpr h q
  obtain ⟨t, ht, hT⟩ := va_Tof (args := #[Value.ref b]) (s := s) (tm := (.static "SkirmishGrid" "HEALTH" "[I")) (ty := .int) (N := 4) (f := fun j => .int ((sTb 0).getD j 0)) (A := (fun q : Nat => s.heap.size ≤ q)) (by decide) (hs (.arrayOf (.static "SkirmishGrid" "HEALTH" "[I") .int) (by decide +kernel)) (va_eqt (hs (.eq (.length (.static "SkirmishGrid" "HEALTH" "[I")) (.int 4)) (by decide +kernel))) (by
    intro j hj
    rcases (show j = 0 ∨ j = 1 ∨ j = 2 ∨ j = 3 by omega) with rfl | rfl | rfl | rfl
    · exact va_eqt (hs (.eq (.elem (.static "SkirmishGrid" "HEALTH" "[I") (.int 0)) (.int 8)) (by decide +kernel))
    · exact va_eqt (hs (.eq (.elem (.static "SkirmishGrid" "HEALTH" "[I") (.int 1)) (.int 12)) (by decide +kernel))
    · exact va_eqt (hs (.eq (.elem (.static "SkirmishGrid" "HEALTH" "[I") (.int 2)) (.int 18)) (by decide +kernel))
    · exact va_eqt (hs (.eq (.elem (.static "SkirmishGrid" "HEALTH" "[I") (.int 3)) (.int 7)) (by decide +kernel))) hA
  exact ⟨t, va_Zref (hts _ (List.mem_append_right _ (List.mem_of_getElem? (i := 800) (by decide +kernel)) : Cond.laysStatic "SkirmishGrid" "HEALTH" "[I" ∈ lw_tbl)) (hts _ (List.mem_append_right _ (List.mem_of_getElem? (i := 1) (by decide +kernel)) : Cond.initialized "SkirmishGrid" ∈ lw_tbl)) ht hA, hT⟩
theorem sa_1 {s : State} {b : Nat} (hts : ∀ w ∈ lw_tbl, w.before #[Value.ref b] s = true) (hs : ∀ c ∈ flatC (Jvm.Cond.and given_1 narrow_1), c.before #[Value.ref b] s = true) : SA 1 (fun q : Nat => s.heap.size ≤ q) s s.heap := by
  have hA : ∀ a : Nat, a < s.heap.size → ¬ (fun q : Nat => s.heap.size ≤ q) a := fun a h q => Nat.not_le.mpr h q
  obtain ⟨t, ht, hT⟩ := va_Tof (args := #[Value.ref b]) (s := s) (tm := (.static "SkirmishGrid" "ARMOR" "[I")) (ty := .int) (N := 4) (f := fun j => .int ((sTb 1).getD j 0)) (A := (fun q : Nat => s.heap.size ≤ q)) (by decide) (hs (.arrayOf (.static "SkirmishGrid" "ARMOR" "[I") .int) (by decide +kernel)) (va_eqt (hs (.eq (.length (.static "SkirmishGrid" "ARMOR" "[I")) (.int 4)) (by decide +kernel))) (by
    intro j hj
    rcases (show j = 0 ∨ j = 1 ∨ j = 2 ∨ j = 3 by omega) with rfl | rfl | rfl | rfl
    · exact va_eqt (hs (.eq (.elem (.static "SkirmishGrid" "ARMOR" "[I") (.int 0)) (.int 0)) (by decide +kernel))
    · exact va_eqt (hs (.eq (.elem (.static "SkirmishGrid" "ARMOR" "[I") (.int 1)) (.int 1)) (by decide +kernel))
    · exact va_eqt (hs (.eq (.elem (.static "SkirmishGrid" "ARMOR" "[I") (.int 2)) (.int 3)) (by decide +kernel))
    · exact va_eqt (hs (.eq (.elem (.static "SkirmishGrid" "ARMOR" "[I") (.int 3)) (.int 0)) (by decide +kernel))) hA
  exact ⟨t, va_Zref (hts _ (List.mem_append_right _ (List.mem_of_getElem? (i := 1006) (by decide +kernel)) : Cond.laysStatic "SkirmishGrid" "ARMOR" "[I" ∈ lw_tbl)) (hts _ (List.mem_append_right _ (List.mem_of_getElem? (i := 1) (by decide +kernel)) : Cond.initialized "SkirmishGrid" ∈ lw_tbl)) ht hA, hT⟩
theorem sa_2 {s : State} {b : Nat} (hts : ∀ w ∈ lw_tbl, w.before #[Value.ref b] s = true) (hs : ∀ c ∈ flatC (Jvm.Cond.and given_1 narrow_1), c.before #[Value.ref b] s = true) : SA 2 (fun q : Nat => s.heap.size ≤ q) s s.heap := by
  have hA : ∀ a : Nat, a < s.heap.size → ¬ (fun q : Nat => s.heap.size ≤ q) a := fun a h q => Nat.not_le.mpr h q
  obtain ⟨t, ht, hT⟩ := va_Tof (args := #[Value.ref b]) (s := s) (tm := (.static "SkirmishGrid" "AIM" "[I")) (ty := .int) (N := 4) (f := fun j => .int ((sTb 2).getD j 0)) (A := (fun q : Nat => s.heap.size ≤ q)) (by decide) (hs (.arrayOf (.static "SkirmishGrid" "AIM" "[I") .int) (by decide +kernel)) (va_eqt (hs (.eq (.length (.static "SkirmishGrid" "AIM" "[I")) (.int 4)) (by decide +kernel))) (by
    intro j hj
    rcases (show j = 0 ∨ j = 1 ∨ j = 2 ∨ j = 3 by omega) with rfl | rfl | rfl | rfl
    · exact va_eqt (hs (.eq (.elem (.static "SkirmishGrid" "AIM" "[I") (.int 0)) (.int 4)) (by decide +kernel))
    · exact va_eqt (hs (.eq (.elem (.static "SkirmishGrid" "AIM" "[I") (.int 1)) (.int 5)) (by decide +kernel))
    · exact va_eqt (hs (.eq (.elem (.static "SkirmishGrid" "AIM" "[I") (.int 2)) (.int 3)) (by decide +kernel))
    · exact va_eqt (hs (.eq (.elem (.static "SkirmishGrid" "AIM" "[I") (.int 3)) (.int 9)) (by decide +kernel))) hA
  exact ⟨t, va_Zref (hts _ (List.mem_append_right _ (List.mem_of_getElem? (i := 984) (by decide +kernel)) : Cond.laysStatic "SkirmishGrid" "AIM" "[I" ∈ lw_tbl)) (hts _ (List.mem_append_right _ (List.mem_of_getElem? (i := 1) (by decide +kernel)) : Cond.initialized "SkirmishGrid" ∈ lw_tbl)) ht hA, hT⟩
theorem sa_3 {s : State} {b : Nat} (hts : ∀ w ∈ lw_tbl, w.before #[Value.ref b] s = true) (hs : ∀ c ∈ flatC (Jvm.Cond.and given_1 narrow_1), c.before #[Value.ref b] s = true) : SA 3 (fun q : Nat => s.heap.size ≤ q) s s.heap := by
  have hA : ∀ a : Nat, a < s.heap.size → ¬ (fun q : Nat => s.heap.size ≤ q) a := fun a h q => Nat.not_le.mpr h q
  obtain ⟨t, ht, hT⟩ := va_Tof (args := #[Value.ref b]) (s := s) (tm := (.static "SkirmishGrid" "RANGE" "[I")) (ty := .int) (N := 4) (f := fun j => .int ((sTb 3).getD j 0)) (A := (fun q : Nat => s.heap.size ≤ q)) (by decide) (hs (.arrayOf (.static "SkirmishGrid" "RANGE" "[I") .int) (by decide +kernel)) (va_eqt (hs (.eq (.length (.static "SkirmishGrid" "RANGE" "[I")) (.int 4)) (by decide +kernel))) (by
    intro j hj
    rcases (show j = 0 ∨ j = 1 ∨ j = 2 ∨ j = 3 by omega) with rfl | rfl | rfl | rfl
    · exact va_eqt (hs (.eq (.elem (.static "SkirmishGrid" "RANGE" "[I") (.int 0)) (.int 5)) (by decide +kernel))
    · exact va_eqt (hs (.eq (.elem (.static "SkirmishGrid" "RANGE" "[I") (.int 1)) (.int 6)) (by decide +kernel))
    · exact va_eqt (hs (.eq (.elem (.static "SkirmishGrid" "RANGE" "[I") (.int 2)) (.int 4)) (by decide +kernel))
    · exact va_eqt (hs (.eq (.elem (.static "SkirmishGrid" "RANGE" "[I") (.int 3)) (.int 8)) (by decide +kernel))) hA
  exact ⟨t, va_Zref (hts _ (List.mem_append_right _ (List.mem_of_getElem? (i := 971) (by decide +kernel)) : Cond.laysStatic "SkirmishGrid" "RANGE" "[I" ∈ lw_tbl)) (hts _ (List.mem_append_right _ (List.mem_of_getElem? (i := 1) (by decide +kernel)) : Cond.initialized "SkirmishGrid" ∈ lw_tbl)) ht hA, hT⟩
theorem sa_4 {s : State} {b : Nat} (hts : ∀ w ∈ lw_tbl, w.before #[Value.ref b] s = true) (hs : ∀ c ∈ flatC (Jvm.Cond.and given_1 narrow_1), c.before #[Value.ref b] s = true) : SA 4 (fun q : Nat => s.heap.size ≤ q) s s.heap := by
  have hA : ∀ a : Nat, a < s.heap.size → ¬ (fun q : Nat => s.heap.size ≤ q) a := fun a h q => Nat.not_le.mpr h q
  obtain ⟨t, ht, hT⟩ := va_Tof (args := #[Value.ref b]) (s := s) (tm := (.static "SkirmishGrid" "SPEED" "[I")) (ty := .int) (N := 4) (f := fun j => .int ((sTb 4).getD j 0)) (A := (fun q : Nat => s.heap.size ≤ q)) (by decide) (hs (.arrayOf (.static "SkirmishGrid" "SPEED" "[I") .int) (by decide +kernel)) (va_eqt (hs (.eq (.length (.static "SkirmishGrid" "SPEED" "[I")) (.int 4)) (by decide +kernel))) (by
    intro j hj
    rcases (show j = 0 ∨ j = 1 ∨ j = 2 ∨ j = 3 by omega) with rfl | rfl | rfl | rfl
    · exact va_eqt (hs (.eq (.elem (.static "SkirmishGrid" "SPEED" "[I") (.int 0)) (.int 6)) (by decide +kernel))
    · exact va_eqt (hs (.eq (.elem (.static "SkirmishGrid" "SPEED" "[I") (.int 1)) (.int 4)) (by decide +kernel))
    · exact va_eqt (hs (.eq (.elem (.static "SkirmishGrid" "SPEED" "[I") (.int 2)) (.int 3)) (by decide +kernel))
    · exact va_eqt (hs (.eq (.elem (.static "SkirmishGrid" "SPEED" "[I") (.int 3)) (.int 3)) (by decide +kernel))) hA
  exact ⟨t, va_Zref (hts _ (List.mem_append_right _ (List.mem_of_getElem? (i := 1036) (by decide +kernel)) : Cond.laysStatic "SkirmishGrid" "SPEED" "[I" ∈ lw_tbl)) (hts _ (List.mem_append_right _ (List.mem_of_getElem? (i := 1) (by decide +kernel)) : Cond.initialized "SkirmishGrid" ∈ lw_tbl)) ht hA, hT⟩
theorem sa_5 {s : State} {b : Nat} (hts : ∀ w ∈ lw_tbl, w.before #[Value.ref b] s = true) (hs : ∀ c ∈ flatC (Jvm.Cond.and given_1 narrow_1), c.before #[Value.ref b] s = true) : SA 5 (fun q : Nat => s.heap.size ≤ q) s s.heap := by
  have hA : ∀ a : Nat, a < s.heap.size → ¬ (fun q : Nat => s.heap.size ≤ q) a := fun a h q => Nat.not_le.mpr h q
  obtain ⟨t, ht, hT⟩ := va_Tof (args := #[Value.ref b]) (s := s) (tm := (.static "SkirmishGrid" "INITIATIVE" "[I")) (ty := .int) (N := 4) (f := fun j => .int ((sTb 5).getD j 0)) (A := (fun q : Nat => s.heap.size ≤ q)) (by decide) (hs (.arrayOf (.static "SkirmishGrid" "INITIATIVE" "[I") .int) (by decide +kernel)) (va_eqt (hs (.eq (.length (.static "SkirmishGrid" "INITIATIVE" "[I")) (.int 4)) (by decide +kernel))) (by
    intro j hj
    rcases (show j = 0 ∨ j = 1 ∨ j = 2 ∨ j = 3 by omega) with rfl | rfl | rfl | rfl
    · exact va_eqt (hs (.eq (.elem (.static "SkirmishGrid" "INITIATIVE" "[I") (.int 0)) (.int 8)) (by decide +kernel))
    · exact va_eqt (hs (.eq (.elem (.static "SkirmishGrid" "INITIATIVE" "[I") (.int 1)) (.int 5)) (by decide +kernel))
    · exact va_eqt (hs (.eq (.elem (.static "SkirmishGrid" "INITIATIVE" "[I") (.int 2)) (.int 2)) (by decide +kernel))
    · exact va_eqt (hs (.eq (.elem (.static "SkirmishGrid" "INITIATIVE" "[I") (.int 3)) (.int 6)) (by decide +kernel))) hA
  exact ⟨t, va_Zref (hts _ (List.mem_append_right _ (List.mem_of_getElem? (i := 853) (by decide +kernel)) : Cond.laysStatic "SkirmishGrid" "INITIATIVE" "[I" ∈ lw_tbl)) (hts _ (List.mem_append_right _ (List.mem_of_getElem? (i := 1) (by decide +kernel)) : Cond.initialized "SkirmishGrid" ∈ lw_tbl)) ht hA, hT⟩
theorem sa_6 {s : State} {b : Nat} (hts : ∀ w ∈ lw_tbl, w.before #[Value.ref b] s = true) (hs : ∀ c ∈ flatC (Jvm.Cond.and given_1 narrow_1), c.before #[Value.ref b] s = true) : SA 6 (fun q : Nat => s.heap.size ≤ q) s s.heap := by
  have hA : ∀ a : Nat, a < s.heap.size → ¬ (fun q : Nat => s.heap.size ≤ q) a := fun a h q => Nat.not_le.mpr h q
  obtain ⟨t, ht, hT⟩ := va_Tof (args := #[Value.ref b]) (s := s) (tm := (.static "SkirmishGrid" "POWER" "[I")) (ty := .int) (N := 4) (f := fun j => .int ((sTb 6).getD j 0)) (A := (fun q : Nat => s.heap.size ≤ q)) (by decide) (hs (.arrayOf (.static "SkirmishGrid" "POWER" "[I") .int) (by decide +kernel)) (va_eqt (hs (.eq (.length (.static "SkirmishGrid" "POWER" "[I")) (.int 4)) (by decide +kernel))) (by
    intro j hj
    rcases (show j = 0 ∨ j = 1 ∨ j = 2 ∨ j = 3 by omega) with rfl | rfl | rfl | rfl
    · exact va_eqt (hs (.eq (.elem (.static "SkirmishGrid" "POWER" "[I") (.int 0)) (.int 2)) (by decide +kernel))
    · exact va_eqt (hs (.eq (.elem (.static "SkirmishGrid" "POWER" "[I") (.int 1)) (.int 3)) (by decide +kernel))
    · exact va_eqt (hs (.eq (.elem (.static "SkirmishGrid" "POWER" "[I") (.int 2)) (.int 5)) (by decide +kernel))
    · exact va_eqt (hs (.eq (.elem (.static "SkirmishGrid" "POWER" "[I") (.int 3)) (.int 4)) (by decide +kernel))) hA
  exact ⟨t, va_Zref (hts _ (List.mem_append_right _ (List.mem_of_getElem? (i := 1004) (by decide +kernel)) : Cond.laysStatic "SkirmishGrid" "POWER" "[I" ∈ lw_tbl)) (hts _ (List.mem_append_right _ (List.mem_of_getElem? (i := 1) (by decide +kernel)) : Cond.initialized "SkirmishGrid" ∈ lw_tbl)) ht hA, hT⟩
theorem sa_7 {s : State} {b : Nat} (hts : ∀ w ∈ lw_tbl, w.before #[Value.ref b] s = true) (hs : ∀ c ∈ flatC (Jvm.Cond.and given_1 narrow_1), c.before #[Value.ref b] s = true) : SA 7 (fun q : Nat => s.heap.size ≤ q) s s.heap := by
  have hA : ∀ a : Nat, a < s.heap.size → ¬ (fun q : Nat => s.heap.size ≤ q) a := fun a h q => Nat.not_le.mpr h q
  obtain ⟨t, ht, hT⟩ := va_Tof (args := #[Value.ref b]) (s := s) (tm := (.static "SkirmishGrid" "AMMUNITION" "[I")) (ty := .int) (N := 4) (f := fun j => .int ((sTb 7).getD j 0)) (A := (fun q : Nat => s.heap.size ≤ q)) (by decide) (hs (.arrayOf (.static "SkirmishGrid" "AMMUNITION" "[I") .int) (by decide +kernel)) (va_eqt (hs (.eq (.length (.static "SkirmishGrid" "AMMUNITION" "[I")) (.int 4)) (by decide +kernel))) (by
    intro j hj
    rcases (show j = 0 ∨ j = 1 ∨ j = 2 ∨ j = 3 by omega) with rfl | rfl | rfl | rfl
    · exact va_eqt (hs (.eq (.elem (.static "SkirmishGrid" "AMMUNITION" "[I") (.int 0)) (.int 6)) (by decide +kernel))
    · exact va_eqt (hs (.eq (.elem (.static "SkirmishGrid" "AMMUNITION" "[I") (.int 1)) (.int 5)) (by decide +kernel))
    · exact va_eqt (hs (.eq (.elem (.static "SkirmishGrid" "AMMUNITION" "[I") (.int 2)) (.int 4)) (by decide +kernel))
    · exact va_eqt (hs (.eq (.elem (.static "SkirmishGrid" "AMMUNITION" "[I") (.int 3)) (.int 3)) (by decide +kernel))) hA
  exact ⟨t, va_Zref (hts _ (List.mem_append_right _ (List.mem_of_getElem? (i := 802) (by decide +kernel)) : Cond.laysStatic "SkirmishGrid" "AMMUNITION" "[I" ∈ lw_tbl)) (hts _ (List.mem_append_right _ (List.mem_of_getElem? (i := 1) (by decide +kernel)) : Cond.initialized "SkirmishGrid" ∈ lw_tbl)) ht hA, hT⟩
theorem sa_8 {s : State} {b : Nat} (hts : ∀ w ∈ lw_tbl, w.before #[Value.ref b] s = true) (hs : ∀ c ∈ flatC (Jvm.Cond.and given_1 narrow_1), c.before #[Value.ref b] s = true) : SA 8 (fun q : Nat => s.heap.size ≤ q) s s.heap := by
  have hA : ∀ a : Nat, a < s.heap.size → ¬ (fun q : Nat => s.heap.size ≤ q) a := fun a h q => Nat.not_le.mpr h q
  obtain ⟨t, ht, hT⟩ := va_Tof (args := #[Value.ref b]) (s := s) (tm := (.static "SkirmishGrid" "GRENADES" "[I")) (ty := .int) (N := 4) (f := fun j => .int ((sTb 8).getD j 0)) (A := (fun q : Nat => s.heap.size ≤ q)) (by decide) (hs (.arrayOf (.static "SkirmishGrid" "GRENADES" "[I") .int) (by decide +kernel)) (va_eqt (hs (.eq (.length (.static "SkirmishGrid" "GRENADES" "[I")) (.int 4)) (by decide +kernel))) (by
    intro j hj
    rcases (show j = 0 ∨ j = 1 ∨ j = 2 ∨ j = 3 by omega) with rfl | rfl | rfl | rfl
    · exact va_eqt (hs (.eq (.elem (.static "SkirmishGrid" "GRENADES" "[I") (.int 0)) (.int 1)) (by decide +kernel))
    · exact va_eqt (hs (.eq (.elem (.static "SkirmishGrid" "GRENADES" "[I") (.int 1)) (.int 1)) (by decide +kernel))
    · exact va_eqt (hs (.eq (.elem (.static "SkirmishGrid" "GRENADES" "[I") (.int 2)) (.int 1)) (by decide +kernel))
    · exact va_eqt (hs (.eq (.elem (.static "SkirmishGrid" "GRENADES" "[I") (.int 3)) (.int 0)) (by decide +kernel))) hA
  exact ⟨t, va_Zref (hts _ (List.mem_append_right _ (List.mem_of_getElem? (i := 804) (by decide +kernel)) : Cond.laysStatic "SkirmishGrid" "GRENADES" "[I" ∈ lw_tbl)) (hts _ (List.mem_append_right _ (List.mem_of_getElem? (i := 1) (by decide +kernel)) : Cond.initialized "SkirmishGrid" ∈ lw_tbl)) ht hA, hT⟩
theorem ss_66 {s : State} {b : Nat} (hts : ∀ w ∈ lw_tbl, w.before #[Value.ref b] s = true) (hs : ∀ c ∈ flatC (Jvm.Cond.and given_1 narrow_1), c.before #[Value.ref b] s = true) : ∃ a, vk_R "SkirmishGrid" 66 "no printable character" a s := by
  obtain ⟨a, c, cA, kA, q1, -⟩ := Cond.exactly_spec (args := #[Value.ref b]) (first := s) (o := none) (s := s) (idx := []) (t := .string "SkirmishGrid" 66) (cls := "java/lang/String") (hs (.exactly (.string "SkirmishGrid" 66) "java/lang/String") (by decide +kernel))
  exact ⟨a, vk_R.of (hts _ (List.mem_append_right _ (List.mem_of_getElem? (i := 455) (by decide +kernel)) : Cond.stringRef "SkirmishGrid" 66 "no printable character" ∈ lw_tbl)) q1⟩
theorem ss_76 {s : State} {b : Nat} (hts : ∀ w ∈ lw_tbl, w.before #[Value.ref b] s = true) (hs : ∀ c ∈ flatC (Jvm.Cond.and given_1 narrow_1), c.before #[Value.ref b] s = true) : ∃ a, vk_R "SkirmishGrid" 76 "the buffer is full" a s := by
  obtain ⟨a, c, cA, kA, q1, -⟩ := Cond.exactly_spec (args := #[Value.ref b]) (first := s) (o := none) (s := s) (idx := []) (t := .string "SkirmishGrid" 76) (cls := "java/lang/String") (hs (.exactly (.string "SkirmishGrid" 76) "java/lang/String") (by decide +kernel))
  exact ⟨a, vk_R.of (hts _ (List.mem_append_right _ (List.mem_of_getElem? (i := 491) (by decide +kernel)) : Cond.stringRef "SkirmishGrid" 76 "the buffer is full" ∈ lw_tbl)) q1⟩
theorem ss_83 {s : State} {b : Nat} (hts : ∀ w ∈ lw_tbl, w.before #[Value.ref b] s = true) (hs : ∀ c ∈ flatC (Jvm.Cond.and given_1 narrow_1), c.before #[Value.ref b] s = true) : ∃ a, vk_R "SkirmishGrid" 83 "malformed grid" a s := by
  obtain ⟨a, c, cA, kA, q1, -⟩ := Cond.exactly_spec (args := #[Value.ref b]) (first := s) (o := none) (s := s) (idx := []) (t := .string "SkirmishGrid" 83) (cls := "java/lang/String") (hs (.exactly (.string "SkirmishGrid" 83) "java/lang/String") (by decide +kernel))
  exact ⟨a, vk_R.of (hts _ (List.mem_append_right _ (List.mem_of_getElem? (i := 596) (by decide +kernel)) : Cond.stringRef "SkirmishGrid" 83 "malformed grid" ∈ lw_tbl)) q1⟩
theorem ss_94 {s : State} {b : Nat} (hts : ∀ w ∈ lw_tbl, w.before #[Value.ref b] s = true) (hs : ∀ c ∈ flatC (Jvm.Cond.and given_1 narrow_1), c.before #[Value.ref b] s = true) : ∃ a, vk_R "SkirmishGrid" 94 "too few or too many rows or columns" a s := by
  obtain ⟨a, c, cA, kA, q1, -⟩ := Cond.exactly_spec (args := #[Value.ref b]) (first := s) (o := none) (s := s) (idx := []) (t := .string "SkirmishGrid" 94) (cls := "java/lang/String") (hs (.exactly (.string "SkirmishGrid" 94) "java/lang/String") (by decide +kernel))
  exact ⟨a, vk_R.of (hts _ (List.mem_append_right _ (List.mem_of_getElem? (i := 612) (by decide +kernel)) : Cond.stringRef "SkirmishGrid" 94 "too few or too many rows or columns" ∈ lw_tbl)) q1⟩
theorem ss_119 {s : State} {b : Nat} (hts : ∀ w ∈ lw_tbl, w.before #[Value.ref b] s = true) (hs : ∀ c ∈ flatC (Jvm.Cond.and given_1 narrow_1), c.before #[Value.ref b] s = true) : ∃ a, vk_R "SkirmishGrid" 119 "no text was malformed" a s := by
  obtain ⟨a, c, cA, kA, q1, -⟩ := Cond.exactly_spec (args := #[Value.ref b]) (first := s) (o := none) (s := s) (idx := []) (t := .string "SkirmishGrid" 119) (cls := "java/lang/String") (hs (.exactly (.string "SkirmishGrid" 119) "java/lang/String") (by decide +kernel))
  exact ⟨a, vk_R.of (hts _ (List.mem_append_right _ (List.mem_of_getElem? (i := 650) (by decide +kernel)) : Cond.stringRef "SkirmishGrid" 119 "no text was malformed" ∈ lw_tbl)) q1⟩
theorem ss_130 {s : State} {b : Nat} (hts : ∀ w ∈ lw_tbl, w.before #[Value.ref b] s = true) (hs : ∀ c ∈ flatC (Jvm.Cond.and given_1 narrow_1), c.before #[Value.ref b] s = true) : ∃ a, vk_R "SkirmishGrid" 130 "no such cell" a s := by
  obtain ⟨a, c, cA, kA, q1, -⟩ := Cond.exactly_spec (args := #[Value.ref b]) (first := s) (o := none) (s := s) (idx := []) (t := .string "SkirmishGrid" 130) (cls := "java/lang/String") (hs (.exactly (.string "SkirmishGrid" 130) "java/lang/String") (by decide +kernel))
  exact ⟨a, vk_R.of (hts _ (List.mem_append_right _ (List.mem_of_getElem? (i := 697) (by decide +kernel)) : Cond.stringRef "SkirmishGrid" 130 "no such cell" ∈ lw_tbl)) q1⟩
theorem ss_163 {s : State} {b : Nat} (hts : ∀ w ∈ lw_tbl, w.before #[Value.ref b] s = true) (hs : ∀ c ∈ flatC (Jvm.Cond.and given_1 narrow_1), c.before #[Value.ref b] s = true) : ∃ a, vk_R "SkirmishGrid" 163 "no such kind" a s := by
  obtain ⟨a, c, cA, kA, q1, -⟩ := Cond.exactly_spec (args := #[Value.ref b]) (first := s) (o := none) (s := s) (idx := []) (t := .string "SkirmishGrid" 163) (cls := "java/lang/String") (hs (.exactly (.string "SkirmishGrid" 163) "java/lang/String") (by decide +kernel))
  exact ⟨a, vk_R.of (hts _ (List.mem_append_right _ (List.mem_of_getElem? (i := 784) (by decide +kernel)) : Cond.stringRef "SkirmishGrid" 163 "no such kind" ∈ lw_tbl)) q1⟩
theorem ss_168 {s : State} {b : Nat} (hts : ∀ w ∈ lw_tbl, w.before #[Value.ref b] s = true) (hs : ∀ c ∈ flatC (Jvm.Cond.and given_1 narrow_1), c.before #[Value.ref b] s = true) : ∃ a, vk_R "SkirmishGrid" 168 "the cell is a wall or has a unit" a s := by
  obtain ⟨a, c, cA, kA, q1, -⟩ := Cond.exactly_spec (args := #[Value.ref b]) (first := s) (o := none) (s := s) (idx := []) (t := .string "SkirmishGrid" 168) (cls := "java/lang/String") (hs (.exactly (.string "SkirmishGrid" 168) "java/lang/String") (by decide +kernel))
  exact ⟨a, vk_R.of (hts _ (List.mem_append_right _ (List.mem_of_getElem? (i := 789) (by decide +kernel)) : Cond.stringRef "SkirmishGrid" 168 "the cell is a wall or has a unit" ∈ lw_tbl)) q1⟩
theorem ss_177 {s : State} {b : Nat} (hts : ∀ w ∈ lw_tbl, w.before #[Value.ref b] s = true) (hs : ∀ c ∈ flatC (Jvm.Cond.and given_1 narrow_1), c.before #[Value.ref b] s = true) : ∃ a, vk_R "SkirmishGrid" 177 "no units can be added any more" a s := by
  obtain ⟨a, c, cA, kA, q1, -⟩ := Cond.exactly_spec (args := #[Value.ref b]) (first := s) (o := none) (s := s) (idx := []) (t := .string "SkirmishGrid" 177) (cls := "java/lang/String") (hs (.exactly (.string "SkirmishGrid" 177) "java/lang/String") (by decide +kernel))
  exact ⟨a, vk_R.of (hts _ (List.mem_append_right _ (List.mem_of_getElem? (i := 790) (by decide +kernel)) : Cond.stringRef "SkirmishGrid" 177 "no units can be added any more" ∈ lw_tbl)) q1⟩
theorem ss_229 {s : State} {b : Nat} (hts : ∀ w ∈ lw_tbl, w.before #[Value.ref b] s = true) (hs : ∀ c ∈ flatC (Jvm.Cond.and given_1 narrow_1), c.before #[Value.ref b] s = true) : ∃ a, vk_R "SkirmishGrid" 229 "no such property" a s := by
  obtain ⟨a, c, cA, kA, q1, -⟩ := Cond.exactly_spec (args := #[Value.ref b]) (first := s) (o := none) (s := s) (idx := []) (t := .string "SkirmishGrid" 229) (cls := "java/lang/String") (hs (.exactly (.string "SkirmishGrid" 229) "java/lang/String") (by decide +kernel))
  exact ⟨a, vk_R.of (hts _ (List.mem_append_right _ (List.mem_of_getElem? (i := 821) (by decide +kernel)) : Cond.stringRef "SkirmishGrid" 229 "no such property" ∈ lw_tbl)) q1⟩
theorem ss_234 {s : State} {b : Nat} (hts : ∀ w ∈ lw_tbl, w.before #[Value.ref b] s = true) (hs : ∀ c ∈ flatC (Jvm.Cond.and given_1 narrow_1), c.before #[Value.ref b] s = true) : ∃ a, vk_R "SkirmishGrid" 234 "the fight has begun, or a team has no units" a s := by
  obtain ⟨a, c, cA, kA, q1, -⟩ := Cond.exactly_spec (args := #[Value.ref b]) (first := s) (o := none) (s := s) (idx := []) (t := .string "SkirmishGrid" 234) (cls := "java/lang/String") (hs (.exactly (.string "SkirmishGrid" 234) "java/lang/String") (by decide +kernel))
  exact ⟨a, vk_R.of (hts _ (List.mem_append_right _ (List.mem_of_getElem? (i := 834) (by decide +kernel)) : Cond.stringRef "SkirmishGrid" 234 "the fight has begun, or a team has no units" ∈ lw_tbl)) q1⟩
theorem ss_249 {s : State} {b : Nat} (hts : ∀ w ∈ lw_tbl, w.before #[Value.ref b] s = true) (hs : ∀ c ∈ flatC (Jvm.Cond.and given_1 narrow_1), c.before #[Value.ref b] s = true) : ∃ a, vk_R "SkirmishGrid" 249 "the fight does not go on" a s := by
  obtain ⟨a, c, cA, kA, q1, -⟩ := Cond.exactly_spec (args := #[Value.ref b]) (first := s) (o := none) (s := s) (idx := []) (t := .string "SkirmishGrid" 249) (cls := "java/lang/String") (hs (.exactly (.string "SkirmishGrid" 249) "java/lang/String") (by decide +kernel))
  exact ⟨a, vk_R.of (hts _ (List.mem_append_right _ (List.mem_of_getElem? (i := 882) (by decide +kernel)) : Cond.stringRef "SkirmishGrid" 249 "the fight does not go on" ∈ lw_tbl)) q1⟩
theorem ss_254 {s : State} {b : Nat} (hts : ∀ w ∈ lw_tbl, w.before #[Value.ref b] s = true) (hs : ∀ c ∈ flatC (Jvm.Cond.and given_1 narrow_1), c.before #[Value.ref b] s = true) : ∃ a, vk_R "SkirmishGrid" 254 "the order has no such index" a s := by
  obtain ⟨a, c, cA, kA, q1, -⟩ := Cond.exactly_spec (args := #[Value.ref b]) (first := s) (o := none) (s := s) (idx := []) (t := .string "SkirmishGrid" 254) (cls := "java/lang/String") (hs (.exactly (.string "SkirmishGrid" 254) "java/lang/String") (by decide +kernel))
  exact ⟨a, vk_R.of (hts _ (List.mem_append_right _ (List.mem_of_getElem? (i := 890) (by decide +kernel)) : Cond.stringRef "SkirmishGrid" 254 "the order has no such index" ∈ lw_tbl)) q1⟩
theorem ss_271 {s : State} {b : Nat} (hts : ∀ w ∈ lw_tbl, w.before #[Value.ref b] s = true) (hs : ∀ c ∈ flatC (Jvm.Cond.and given_1 narrow_1), c.before #[Value.ref b] s = true) : ∃ a, vk_R "SkirmishGrid" 271 "the path has no such index" a s := by
  obtain ⟨a, c, cA, kA, q1, -⟩ := Cond.exactly_spec (args := #[Value.ref b]) (first := s) (o := none) (s := s) (idx := []) (t := .string "SkirmishGrid" 271) (cls := "java/lang/String") (hs (.exactly (.string "SkirmishGrid" 271) "java/lang/String") (by decide +kernel))
  exact ⟨a, vk_R.of (hts _ (List.mem_append_right _ (List.mem_of_getElem? (i := 949) (by decide +kernel)) : Cond.stringRef "SkirmishGrid" 271 "the path has no such index" ∈ lw_tbl)) q1⟩
theorem ss_292 {s : State} {b : Nat} (hts : ∀ w ∈ lw_tbl, w.before #[Value.ref b] s = true) (hs : ∀ c ∈ flatC (Jvm.Cond.and given_1 narrow_1), c.before #[Value.ref b] s = true) : ∃ a, vk_R "SkirmishGrid" 292 "no unit can be attacked" a s := by
  obtain ⟨a, c, cA, kA, q1, -⟩ := Cond.exactly_spec (args := #[Value.ref b]) (first := s) (o := none) (s := s) (idx := []) (t := .string "SkirmishGrid" 292) (cls := "java/lang/String") (hs (.exactly (.string "SkirmishGrid" 292) "java/lang/String") (by decide +kernel))
  exact ⟨a, vk_R.of (hts _ (List.mem_append_right _ (List.mem_of_getElem? (i := 1022) (by decide +kernel)) : Cond.stringRef "SkirmishGrid" 292 "no unit can be attacked" ∈ lw_tbl)) q1⟩
theorem ss_307 {s : State} {b : Nat} (hts : ∀ w ∈ lw_tbl, w.before #[Value.ref b] s = true) (hs : ∀ c ∈ flatC (Jvm.Cond.and given_1 narrow_1), c.before #[Value.ref b] s = true) : ∃ a, vk_R "SkirmishGrid" 307 "the unit cannot move to this cell" a s := by
  obtain ⟨a, c, cA, kA, q1, -⟩ := Cond.exactly_spec (args := #[Value.ref b]) (first := s) (o := none) (s := s) (idx := []) (t := .string "SkirmishGrid" 307) (cls := "java/lang/String") (hs (.exactly (.string "SkirmishGrid" 307) "java/lang/String") (by decide +kernel))
  exact ⟨a, vk_R.of (hts _ (List.mem_append_right _ (List.mem_of_getElem? (i := 1037) (by decide +kernel)) : Cond.stringRef "SkirmishGrid" 307 "the unit cannot move to this cell" ∈ lw_tbl)) q1⟩
theorem ss_324 {s : State} {b : Nat} (hts : ∀ w ∈ lw_tbl, w.before #[Value.ref b] s = true) (hs : ∀ c ∈ flatC (Jvm.Cond.and given_1 narrow_1), c.before #[Value.ref b] s = true) : ∃ a, vk_R "SkirmishGrid" 324 "no grenades" a s := by
  obtain ⟨a, c, cA, kA, q1, -⟩ := Cond.exactly_spec (args := #[Value.ref b]) (first := s) (o := none) (s := s) (idx := []) (t := .string "SkirmishGrid" 324) (cls := "java/lang/String") (hs (.exactly (.string "SkirmishGrid" 324) "java/lang/String") (by decide +kernel))
  exact ⟨a, vk_R.of (hts _ (List.mem_append_right _ (List.mem_of_getElem? (i := 1095) (by decide +kernel)) : Cond.stringRef "SkirmishGrid" 324 "no grenades" ∈ lw_tbl)) q1⟩
theorem ss_330 {s : State} {b : Nat} (hts : ∀ w ∈ lw_tbl, w.before #[Value.ref b] s = true) (hs : ∀ c ∈ flatC (Jvm.Cond.and given_1 narrow_1), c.before #[Value.ref b] s = true) : ∃ a, vk_R "SkirmishGrid" 330 "no grenade can be thrown at this cell" a s := by
  obtain ⟨a, c, cA, kA, q1, -⟩ := Cond.exactly_spec (args := #[Value.ref b]) (first := s) (o := none) (s := s) (idx := []) (t := .string "SkirmishGrid" 330) (cls := "java/lang/String") (hs (.exactly (.string "SkirmishGrid" 330) "java/lang/String") (by decide +kernel))
  exact ⟨a, vk_R.of (hts _ (List.mem_append_right _ (List.mem_of_getElem? (i := 1100) (by decide +kernel)) : Cond.stringRef "SkirmishGrid" 330 "no grenade can be thrown at this cell" ∈ lw_tbl)) q1⟩
theorem ss_335 {s : State} {b : Nat} (hts : ∀ w ∈ lw_tbl, w.before #[Value.ref b] s = true) (hs : ∀ c ∈ flatC (Jvm.Cond.and given_1 narrow_1), c.before #[Value.ref b] s = true) : ∃ a, vk_R "SkirmishGrid" 335 "the unit guards already" a s := by
  obtain ⟨a, c, cA, kA, q1, -⟩ := Cond.exactly_spec (args := #[Value.ref b]) (first := s) (o := none) (s := s) (idx := []) (t := .string "SkirmishGrid" 335) (cls := "java/lang/String") (hs (.exactly (.string "SkirmishGrid" 335) "java/lang/String") (by decide +kernel))
  exact ⟨a, vk_R.of (hts _ (List.mem_append_right _ (List.mem_of_getElem? (i := 1116) (by decide +kernel)) : Cond.stringRef "SkirmishGrid" 335 "the unit guards already" ∈ lw_tbl)) q1⟩
theorem ss_356 {s : State} {b : Nat} (hts : ∀ w ∈ lw_tbl, w.before #[Value.ref b] s = true) (hs : ∀ c ∈ flatC (Jvm.Cond.and given_1 narrow_1), c.before #[Value.ref b] s = true) : ∃ a, vk_R "SkirmishGrid" 356 "no such event or column" a s := by
  obtain ⟨a, c, cA, kA, q1, -⟩ := Cond.exactly_spec (args := #[Value.ref b]) (first := s) (o := none) (s := s) (idx := []) (t := .string "SkirmishGrid" 356) (cls := "java/lang/String") (hs (.exactly (.string "SkirmishGrid" 356) "java/lang/String") (by decide +kernel))
  exact ⟨a, vk_R.of (hts _ (List.mem_append_right _ (List.mem_of_getElem? (i := 1166) (by decide +kernel)) : Cond.stringRef "SkirmishGrid" 356 "no such event or column" ∈ lw_tbl)) q1⟩
theorem ss_362 {s : State} {b : Nat} (hts : ∀ w ∈ lw_tbl, w.before #[Value.ref b] s = true) (hs : ∀ c ∈ flatC (Jvm.Cond.and given_1 narrow_1), c.before #[Value.ref b] s = true) : ∃ a, vk_R "SkirmishGrid" 362 "no command can be undone" a s := by
  obtain ⟨a, c, cA, kA, q1, -⟩ := Cond.exactly_spec (args := #[Value.ref b]) (first := s) (o := none) (s := s) (idx := []) (t := .string "SkirmishGrid" 362) (cls := "java/lang/String") (hs (.exactly (.string "SkirmishGrid" 362) "java/lang/String") (by decide +kernel))
  exact ⟨a, vk_R.of (hts _ (List.mem_append_right _ (List.mem_of_getElem? (i := 1178) (by decide +kernel)) : Cond.stringRef "SkirmishGrid" 362 "no command can be undone" ∈ lw_tbl)) q1⟩
theorem ss_371 {s : State} {b : Nat} (hts : ∀ w ∈ lw_tbl, w.before #[Value.ref b] s = true) (hs : ∀ c ∈ flatC (Jvm.Cond.and given_1 narrow_1), c.before #[Value.ref b] s = true) : ∃ a, vk_R "SkirmishGrid" 371 "the fight has not begun" a s := by
  obtain ⟨a, c, cA, kA, q1, -⟩ := Cond.exactly_spec (args := #[Value.ref b]) (first := s) (o := none) (s := s) (idx := []) (t := .string "SkirmishGrid" 371) (cls := "java/lang/String") (hs (.exactly (.string "SkirmishGrid" 371) "java/lang/String") (by decide +kernel))
  exact ⟨a, vk_R.of (hts _ (List.mem_append_right _ (List.mem_of_getElem? (i := 1194) (by decide +kernel)) : Cond.stringRef "SkirmishGrid" 371 "the fight has not begun" ∈ lw_tbl)) q1⟩
theorem ss_396 {s : State} {b : Nat} (hts : ∀ w ∈ lw_tbl, w.before #[Value.ref b] s = true) (hs : ∀ c ∈ flatC (Jvm.Cond.and given_1 narrow_1), c.before #[Value.ref b] s = true) : ∃ a, vk_R "SkirmishGrid" 396 "the team has no units" a s := by
  obtain ⟨a, c, cA, kA, q1, -⟩ := Cond.exactly_spec (args := #[Value.ref b]) (first := s) (o := none) (s := s) (idx := []) (t := .string "SkirmishGrid" 396) (cls := "java/lang/String") (hs (.exactly (.string "SkirmishGrid" 396) "java/lang/String") (by decide +kernel))
  exact ⟨a, vk_R.of (hts _ (List.mem_append_right _ (List.mem_of_getElem? (i := 1246) (by decide +kernel)) : Cond.stringRef "SkirmishGrid" 396 "the team has no units" ∈ lw_tbl)) q1⟩
theorem ss_412 {s : State} {b : Nat} (hts : ∀ w ∈ lw_tbl, w.before #[Value.ref b] s = true) (hs : ∀ c ∈ flatC (Jvm.Cond.and given_1 narrow_1), c.before #[Value.ref b] s = true) : ∃ a, vk_R "SkirmishGrid" 412 "a row was not stored yet" a s := by
  obtain ⟨a, c, cA, kA, q1, -⟩ := Cond.exactly_spec (args := #[Value.ref b]) (first := s) (o := none) (s := s) (idx := []) (t := .string "SkirmishGrid" 412) (cls := "java/lang/String") (hs (.exactly (.string "SkirmishGrid" 412) "java/lang/String") (by decide +kernel))
  exact ⟨a, vk_R.of (hts _ (List.mem_append_right _ (List.mem_of_getElem? (i := 1272) (by decide +kernel)) : Cond.stringRef "SkirmishGrid" 412 "a row was not stored yet" ∈ lw_tbl)) q1⟩
theorem ss_417 {s : State} {b : Nat} (hts : ∀ w ∈ lw_tbl, w.before #[Value.ref b] s = true) (hs : ∀ c ∈ flatC (Jvm.Cond.and given_1 narrow_1), c.before #[Value.ref b] s = true) : ∃ a, vk_R "SkirmishGrid" 417 "the rows have different element types" a s := by
  obtain ⟨a, c, cA, kA, q1, -⟩ := Cond.exactly_spec (args := #[Value.ref b]) (first := s) (o := none) (s := s) (idx := []) (t := .string "SkirmishGrid" 417) (cls := "java/lang/String") (hs (.exactly (.string "SkirmishGrid" 417) "java/lang/String") (by decide +kernel))
  exact ⟨a, vk_R.of (hts _ (List.mem_append_right _ (List.mem_of_getElem? (i := 1273) (by decide +kernel)) : Cond.stringRef "SkirmishGrid" 417 "the rows have different element types" ∈ lw_tbl)) q1⟩
theorem ss_419 {s : State} {b : Nat} (hts : ∀ w ∈ lw_tbl, w.before #[Value.ref b] s = true) (hs : ∀ c ∈ flatC (Jvm.Cond.and given_1 narrow_1), c.before #[Value.ref b] s = true) : ∃ a, vk_R "SkirmishGrid" 419 "no such number of elements" a s := by
  obtain ⟨a, c, cA, kA, q1, -⟩ := Cond.exactly_spec (args := #[Value.ref b]) (first := s) (o := none) (s := s) (idx := []) (t := .string "SkirmishGrid" 419) (cls := "java/lang/String") (hs (.exactly (.string "SkirmishGrid" 419) "java/lang/String") (by decide +kernel))
  exact ⟨a, vk_R.of (hts _ (List.mem_append_right _ (List.mem_of_getElem? (i := 1274) (by decide +kernel)) : Cond.stringRef "SkirmishGrid" 419 "no such number of elements" ∈ lw_tbl)) q1⟩
theorem ss_425 {s : State} {b : Nat} (hts : ∀ w ∈ lw_tbl, w.before #[Value.ref b] s = true) (hs : ∀ c ∈ flatC (Jvm.Cond.and given_1 narrow_1), c.before #[Value.ref b] s = true) : ∃ a, vk_R "SkirmishGrid" 425 "the row has no such element" a s := by
  obtain ⟨a, c, cA, kA, q1, -⟩ := Cond.exactly_spec (args := #[Value.ref b]) (first := s) (o := none) (s := s) (idx := []) (t := .string "SkirmishGrid" 425) (cls := "java/lang/String") (hs (.exactly (.string "SkirmishGrid" 425) "java/lang/String") (by decide +kernel))
  exact ⟨a, vk_R.of (hts _ (List.mem_append_right _ (List.mem_of_getElem? (i := 1286) (by decide +kernel)) : Cond.stringRef "SkirmishGrid" 425 "the row has no such element" ∈ lw_tbl)) q1⟩
theorem ss_447 {s : State} {b : Nat} (hts : ∀ w ∈ lw_tbl, w.before #[Value.ref b] s = true) (hs : ∀ c ∈ flatC (Jvm.Cond.and given_1 narrow_1), c.before #[Value.ref b] s = true) : ∃ a, vk_R "SkirmishGrid" 447 "there is no snapshot" a s := by
  obtain ⟨a, c, cA, kA, q1, -⟩ := Cond.exactly_spec (args := #[Value.ref b]) (first := s) (o := none) (s := s) (idx := []) (t := .string "SkirmishGrid" 447) (cls := "java/lang/String") (hs (.exactly (.string "SkirmishGrid" 447) "java/lang/String") (by decide +kernel))
  exact ⟨a, vk_R.of (hts _ (List.mem_append_right _ (List.mem_of_getElem? (i := 1298) (by decide +kernel)) : Cond.stringRef "SkirmishGrid" 447 "there is no snapshot" ∈ lw_tbl)) q1⟩
theorem ss_452 {s : State} {b : Nat} (hts : ∀ w ∈ lw_tbl, w.before #[Value.ref b] s = true) (hs : ∀ c ∈ flatC (Jvm.Cond.and given_1 narrow_1), c.before #[Value.ref b] s = true) : ∃ a, vk_R "SkirmishGrid" 452 "no such team" a s := by
  obtain ⟨a, c, cA, kA, q1, -⟩ := Cond.exactly_spec (args := #[Value.ref b]) (first := s) (o := none) (s := s) (idx := []) (t := .string "SkirmishGrid" 452) (cls := "java/lang/String") (hs (.exactly (.string "SkirmishGrid" 452) "java/lang/String") (by decide +kernel))
  exact ⟨a, vk_R.of (hts _ (List.mem_append_right _ (List.mem_of_getElem? (i := 783) (by decide +kernel)) : Cond.stringRef "SkirmishGrid" 452 "no such team" ∈ lw_tbl)) q1⟩
theorem ss_457 {s : State} {b : Nat} (hts : ∀ w ∈ lw_tbl, w.before #[Value.ref b] s = true) (hs : ∀ c ∈ flatC (Jvm.Cond.and given_1 narrow_1), c.before #[Value.ref b] s = true) : ∃ a, vk_R "SkirmishGrid" 457 "no such unit" a s := by
  obtain ⟨a, c, cA, kA, q1, -⟩ := Cond.exactly_spec (args := #[Value.ref b]) (first := s) (o := none) (s := s) (idx := []) (t := .string "SkirmishGrid" 457) (cls := "java/lang/String") (hs (.exactly (.string "SkirmishGrid" 457) "java/lang/String") (by decide +kernel))
  exact ⟨a, vk_R.of (hts _ (List.mem_append_right _ (List.mem_of_getElem? (i := 820) (by decide +kernel)) : Cond.stringRef "SkirmishGrid" 457 "no such unit" ∈ lw_tbl)) q1⟩
theorem ss_459 {s : State} {b : Nat} (hts : ∀ w ∈ lw_tbl, w.before #[Value.ref b] s = true) (hs : ∀ c ∈ flatC (Jvm.Cond.and given_1 narrow_1), c.before #[Value.ref b] s = true) : ∃ a, vk_R "SkirmishGrid" 459 "no actions" a s := by
  obtain ⟨a, c, cA, kA, q1, -⟩ := Cond.exactly_spec (args := #[Value.ref b]) (first := s) (o := none) (s := s) (idx := []) (t := .string "SkirmishGrid" 459) (cls := "java/lang/String") (hs (.exactly (.string "SkirmishGrid" 459) "java/lang/String") (by decide +kernel))
  exact ⟨a, vk_R.of (hts _ (List.mem_append_right _ (List.mem_of_getElem? (i := 1034) (by decide +kernel)) : Cond.stringRef "SkirmishGrid" 459 "no actions" ∈ lw_tbl)) q1⟩
theorem ss_461 {s : State} {b : Nat} (hts : ∀ w ∈ lw_tbl, w.before #[Value.ref b] s = true) (hs : ∀ c ∈ flatC (Jvm.Cond.and given_1 narrow_1), c.before #[Value.ref b] s = true) : ∃ a, vk_R "SkirmishGrid" 461 "no ammunition" a s := by
  obtain ⟨a, c, cA, kA, q1, -⟩ := Cond.exactly_spec (args := #[Value.ref b]) (first := s) (o := none) (s := s) (idx := []) (t := .string "SkirmishGrid" 461) (cls := "java/lang/String") (hs (.exactly (.string "SkirmishGrid" 461) "java/lang/String") (by decide +kernel))
  exact ⟨a, vk_R.of (hts _ (List.mem_append_right _ (List.mem_of_getElem? (i := 1082) (by decide +kernel)) : Cond.stringRef "SkirmishGrid" 461 "no ammunition" ∈ lw_tbl)) q1⟩
theorem ss_467 {s : State} {b : Nat} (hts : ∀ w ∈ lw_tbl, w.before #[Value.ref b] s = true) (hs : ∀ c ∈ flatC (Jvm.Cond.and given_1 narrow_1), c.before #[Value.ref b] s = true) : ∃ a, vk_R "SkirmishGrid" 467 "the target cannot be attacked" a s := by
  obtain ⟨a, c, cA, kA, q1, -⟩ := Cond.exactly_spec (args := #[Value.ref b]) (first := s) (o := none) (s := s) (idx := []) (t := .string "SkirmishGrid" 467) (cls := "java/lang/String") (hs (.exactly (.string "SkirmishGrid" 467) "java/lang/String") (by decide +kernel))
  exact ⟨a, vk_R.of (hts _ (List.mem_append_right _ (List.mem_of_getElem? (i := 973) (by decide +kernel)) : Cond.stringRef "SkirmishGrid" 467 "the target cannot be attacked" ∈ lw_tbl)) q1⟩
theorem ss_470 {s : State} {b : Nat} (hts : ∀ w ∈ lw_tbl, w.before #[Value.ref b] s = true) (hs : ∀ c ∈ flatC (Jvm.Cond.and given_1 narrow_1), c.before #[Value.ref b] s = true) : ∃ a, vk_R "SkirmishGrid" 470 "there is no path" a s := by
  obtain ⟨a, c, cA, kA, q1, -⟩ := Cond.exactly_spec (args := #[Value.ref b]) (first := s) (o := none) (s := s) (idx := []) (t := .string "SkirmishGrid" 470) (cls := "java/lang/String") (hs (.exactly (.string "SkirmishGrid" 470) "java/lang/String") (by decide +kernel))
  exact ⟨a, vk_R.of (hts _ (List.mem_append_right _ (List.mem_of_getElem? (i := 936) (by decide +kernel)) : Cond.stringRef "SkirmishGrid" 470 "there is no path" ∈ lw_tbl)) q1⟩
theorem ss_472 {s : State} {b : Nat} (hts : ∀ w ∈ lw_tbl, w.before #[Value.ref b] s = true) (hs : ∀ c ∈ flatC (Jvm.Cond.and given_1 narrow_1), c.before #[Value.ref b] s = true) : ∃ a, vk_R "SkirmishGrid" 472 "no such row" a s := by
  obtain ⟨a, c, cA, kA, q1, -⟩ := Cond.exactly_spec (args := #[Value.ref b]) (first := s) (o := none) (s := s) (idx := []) (t := .string "SkirmishGrid" 472) (cls := "java/lang/String") (hs (.exactly (.string "SkirmishGrid" 472) "java/lang/String") (by decide +kernel))
  exact ⟨a, vk_R.of (hts _ (List.mem_append_right _ (List.mem_of_getElem? (i := 1259) (by decide +kernel)) : Cond.stringRef "SkirmishGrid" 472 "no such row" ∈ lw_tbl)) q1⟩
theorem sg_0 {s : State} {b : Nat} (hts : ∀ w ∈ lw_tbl, w.before #[Value.ref b] s = true) (hs : ∀ c ∈ flatC (Jvm.Cond.and given_1 narrow_1), c.before #[Value.ref b] s = true) : SG (fun q : Nat => s.heap.size ≤ q) s s.heap := by
  have hA : ∀ a : Nat, a < s.heap.size → ¬ (fun q : Nat => s.heap.size ≤ q) a := fun a h q => Nat.not_le.mpr h q
  obtain ⟨a, c, cA, kA, q1, q2, q3, q4, q5, q6, -⟩ := Cond.exactly_spec (args := #[Value.ref b]) (first := s) (o := none) (s := s) (idx := []) (t := (.string "SkirmishGrid" 137)) (cls := "java/lang/String") (hs (.exactly (.string "SkirmishGrid" 137) "java/lang/String") (by decide +kernel))
  obtain ⟨v, hv, hT⟩ := va_Tof (args := #[Value.ref b]) (s := s) (tm := (.field (.string "SkirmishGrid" 137) "java/lang/String" "value" "[B")) (ty := .byte) (N := 5) (f := fun j => .int (sgB.getD j 0)) (A := (fun q : Nat => s.heap.size ≤ q)) (by decide) (hs (.arrayOf (.field (.string "SkirmishGrid" 137) "java/lang/String" "value" "[B") .byte) (by decide +kernel)) (va_eqt (hs (.eq (.length (.field (.string "SkirmishGrid" 137) "java/lang/String" "value" "[B")) (.int 5)) (by decide +kernel))) (by
    intro j hj
    rcases (show j = 0 ∨ j = 1 ∨ j = 2 ∨ j = 3 ∨ j = 4 by omega) with rfl | rfl | rfl | rfl | rfl
    · exact va_eqt (hs (.eq (.elem (.field (.string "SkirmishGrid" 137) "java/lang/String" "value" "[B") (.int 0)) (.int 46)) (by decide +kernel))
    · exact va_eqt (hs (.eq (.elem (.field (.string "SkirmishGrid" 137) "java/lang/String" "value" "[B") (.int 1)) (.int 35)) (by decide +kernel))
    · exact va_eqt (hs (.eq (.elem (.field (.string "SkirmishGrid" 137) "java/lang/String" "value" "[B") (.int 2)) (.int 111)) (by decide +kernel))
    · exact va_eqt (hs (.eq (.elem (.field (.string "SkirmishGrid" 137) "java/lang/String" "value" "[B") (.int 3)) (.int 126)) (by decide +kernel))
    · exact va_eqt (hs (.eq (.elem (.field (.string "SkirmishGrid" 137) "java/lang/String" "value" "[B") (.int 4)) (.int 94)) (by decide +kernel))) hA
  have q28 : (Term.string "SkirmishGrid$Grid" 28).eval #[Value.ref b] s none [] s = some (.ref a) := va_eqR (hs (.eq (.string "SkirmishGrid" 137) (.string "SkirmishGrid$Grid" 28)) (by decide +kernel)) q1
  refine ⟨a, v, vk_R.of (hts _ (List.mem_append_right _ (List.mem_of_getElem? (i := 509) (by decide +kernel)) : Cond.stringRef "SkirmishGrid" 137 ".#o~^" ∈ lw_tbl)) q1, vk_R.of (hts _ (List.mem_append_right _ (List.mem_of_getElem? (i := 627) (by decide +kernel)) : Cond.stringRef "SkirmishGrid$Grid" 28 ".#o~^" ∈ lw_tbl)) q28, ⟨cA, q3, q5, by rw [q6]; exact q2, hA a (Array.getElem?_eq_some_iff.mp q3).1⟩, vk_OFof q1 (va_eqt (hs (.eq (.field (.string "SkirmishGrid" 137) "java/lang/String" "coder" "B") (.int 0)) (by decide +kernel))) hA, vk_OFof q1 hv hA, hT, ?_, ?_⟩
  · exact va_Zof (hts _ (List.mem_append_right _ (List.mem_of_getElem? (i := 523) (by decide +kernel)) : Cond.laysStatic "java/lang/String" "COMPACT_STRINGS" "Z" ∈ lw_tbl)) (hts _ (List.mem_append_right _ (List.mem_of_getElem? (i := 16) (by decide +kernel)) : Cond.initialized "java/lang/String" ∈ lw_tbl)) (va_eqi (hs (.eq (.static "java/lang/String" "COMPACT_STRINGS" "Z") (.int 1)) (by decide +kernel))) hA
  · exact va_Zqof (hts _ (List.mem_append_right _ (List.mem_of_getElem? (i := 566) (by decide +kernel)) : Cond.laysStatic "jdk/internal/util/Preconditions" "SIOOBE_FORMATTER" "Ljava/util/function/BiFunction;" ∈ lw_tbl)) (hts _ (List.mem_append_right _ (List.mem_of_getElem? (i := 20) (by decide +kernel)) : Cond.initialized "jdk/internal/util/Preconditions" ∈ lw_tbl)) (hs (.isRef (.static "jdk/internal/util/Preconditions" "SIOOBE_FORMATTER" "Ljava/util/function/BiFunction;")) (by decide +kernel)) hA
theorem s_SF {s : State} {b : Nat} (hts : ∀ w ∈ lw_tbl, w.before #[Value.ref b] s = true) (hs : ∀ c ∈ flatC (Jvm.Cond.and given_1 narrow_1), c.before #[Value.ref b] s = true) : SF (fun q : Nat => s.heap.size ≤ q) s s.heap := by
  have hA : ∀ a : Nat, a < s.heap.size → ¬ (fun q : Nat => s.heap.size ≤ q) a := fun a h q => Nat.not_le.mpr h q
  refine ⟨vx_Zqof (hts _ (List.mem_append_right _ (List.mem_of_getElem? (i := 437) (by decide +kernel)) : Cond.laysStatic "java/lang/Throwable" "UNASSIGNED_STACK" "[Ljava/lang/StackTraceElement;" ∈ lw_tbl)) (hts _ (List.mem_append_right _ (List.mem_of_getElem? (i := 11) (by decide +kernel)) : Cond.initialized "java/lang/Throwable" ∈ lw_tbl)) (hs (.isRef (.static "java/lang/Throwable" "UNASSIGNED_STACK" "[Ljava/lang/StackTraceElement;")) (by decide +kernel)) hA, vx_Zqof (hts _ (List.mem_append_right _ (List.mem_of_getElem? (i := 439) (by decide +kernel)) : Cond.laysStatic "java/lang/Throwable" "SUPPRESSED_SENTINEL" "Ljava/util/List;" ∈ lw_tbl)) (hts _ (List.mem_append_right _ (List.mem_of_getElem? (i := 11) (by decide +kernel)) : Cond.initialized "java/lang/Throwable" ∈ lw_tbl)) (hs (.isRef (.static "java/lang/Throwable" "SUPPRESSED_SENTINEL" "Ljava/util/List;")) (by decide +kernel)) hA, ?_, ?_, ?_, sg_0 hts hs, ?_, va_AO.of (hts _ (List.mem_append_right _ (List.mem_of_getElem? (i := 238) (by decide +kernel)) : Cond.arrayOver (.object "SkirmishGrid$Fight") ∈ lw_tbl)), va_AO.of (hts _ (List.mem_append_right _ (List.mem_of_getElem? (i := 67) (by decide +kernel)) : Cond.arrayOver (.object "SkirmishGrid$Unit") ∈ lw_tbl)), ?_, ?_, ?_⟩
  · intro i hi
    rcases (show i = 0 ∨ i = 1 ∨ i = 2 ∨ i = 3 ∨ i = 4 ∨ i = 5 ∨ i = 6 ∨ i = 7 ∨ i = 8 by omega) with rfl | rfl | rfl | rfl | rfl | rfl | rfl | rfl | rfl
    · exact sa_0 hts hs
    · exact sa_1 hts hs
    · exact sa_2 hts hs
    · exact sa_3 hts hs
    · exact sa_4 hts hs
    · exact sa_5 hts hs
    · exact sa_6 hts hs
    · exact sa_7 hts hs
    · exact sa_8 hts hs
  · intro q hq
    simp only [sStr, List.mem_cons, List.not_mem_nil, or_false] at hq
    rcases hq with rfl | rfl | rfl | rfl | rfl | rfl | rfl | rfl | rfl | rfl | rfl | rfl | rfl | rfl | rfl | rfl | rfl | rfl | rfl | rfl | rfl | rfl | rfl | rfl | rfl | rfl | rfl | rfl | rfl | rfl | rfl | rfl | rfl | rfl | rfl
    · exact ss_66 hts hs
    · exact ss_76 hts hs
    · exact ss_83 hts hs
    · exact ss_94 hts hs
    · exact ss_119 hts hs
    · exact ss_130 hts hs
    · exact ss_163 hts hs
    · exact ss_168 hts hs
    · exact ss_177 hts hs
    · exact ss_229 hts hs
    · exact ss_234 hts hs
    · exact ss_249 hts hs
    · exact ss_254 hts hs
    · exact ss_271 hts hs
    · exact ss_292 hts hs
    · exact ss_307 hts hs
    · exact ss_324 hts hs
    · exact ss_330 hts hs
    · exact ss_335 hts hs
    · exact ss_356 hts hs
    · exact ss_362 hts hs
    · exact ss_371 hts hs
    · exact ss_396 hts hs
    · exact ss_412 hts hs
    · exact ss_417 hts hs
    · exact ss_419 hts hs
    · exact ss_425 hts hs
    · exact ss_447 hts hs
    · exact ss_452 hts hs
    · exact ss_457 hts hs
    · exact ss_459 hts hs
    · exact ss_461 hts hs
    · exact ss_467 hts hs
    · exact ss_470 hts hs
    · exact ss_472 hts hs
  · intro q hq
    simp only [sExc, List.mem_cons, List.not_mem_nil, or_false] at hq
    rcases hq with rfl | rfl | rfl | rfl | rfl | rfl
    · exact va_Nw.of rfl (hts _ (List.mem_append_right _ (List.mem_of_getElem? (i := 412) (by decide +kernel)) : Cond.castable "java/lang/IllegalArgumentException" "java/lang/IllegalArgumentException" ∈ lw_tbl))
    · exact va_Nw.of rfl (hts _ (List.mem_append_right _ (List.mem_of_getElem? (i := 484) (by decide +kernel)) : Cond.castable "java/lang/IllegalStateException" "java/lang/IllegalStateException" ∈ lw_tbl))
    · exact va_Nw.of rfl (hts _ (List.mem_append_right _ (List.mem_of_getElem? (i := 605) (by decide +kernel)) : Cond.castable "java/lang/UnsupportedOperationException" "java/lang/UnsupportedOperationException" ∈ lw_tbl))
    · exact va_Nw.of rfl (hts _ (List.mem_append_right _ (List.mem_of_getElem? (i := 643) (by decide +kernel)) : Cond.castable "java/util/NoSuchElementException" "java/util/NoSuchElementException" ∈ lw_tbl))
    · exact va_Nw.of rfl (hts _ (List.mem_append_right _ (List.mem_of_getElem? (i := 690) (by decide +kernel)) : Cond.castable "java/lang/IndexOutOfBoundsException" "java/lang/IndexOutOfBoundsException" ∈ lw_tbl))
    · exact va_Nw.of rfl (hts _ (List.mem_append_right _ (List.mem_of_getElem? (i := 1239) (by decide +kernel)) : Cond.castable "java/lang/ArithmeticException" "java/lang/ArithmeticException" ∈ lw_tbl))
  · intro q hq
    simp only [sSup, List.mem_cons, List.not_mem_nil, or_false] at hq
    rcases hq with rfl | rfl | rfl
    · exact va_Nw.of rfl (hts _ (List.mem_append_right _ (List.mem_of_getElem? (i := 414) (by decide +kernel)) : Cond.declares (Bundle.initS "java/lang/RuntimeException") ∈ lw_tbl))
    · exact va_Nw.of rfl (hts _ (List.mem_append_right _ (List.mem_of_getElem? (i := 416) (by decide +kernel)) : Cond.declares (Bundle.initS "java/lang/Exception") ∈ lw_tbl))
    · exact va_Nw.of rfl (hts _ (List.mem_append_right _ (List.mem_of_getElem? (i := 418) (by decide +kernel)) : Cond.declares (Bundle.initS "java/lang/Throwable") ∈ lw_tbl))
  · intro q hq
    simp only [nmM, List.mem_cons, List.not_mem_nil, or_false] at hq
    rcases hq with rfl | rfl | rfl | rfl | rfl
    · exact va_Nw.of rfl (hts _ (List.mem_append_right _ (List.mem_of_getElem? (i := 46) (by decide +kernel)) : Cond.methodLinkNest "SkirmishGrid$Fight" 11 yX3_init "SkirmishGrid" ∈ lw_tbl))
    · exact va_Nw.of rfl (hts _ (List.mem_append_right _ (List.mem_of_getElem? (i := 70) (by decide +kernel)) : Cond.methodLinkNest "SkirmishGrid$Fight" 40 yX1_init "SkirmishGrid" ∈ lw_tbl))
    · exact va_Nw.of rfl (hts _ (List.mem_append_right _ (List.mem_of_getElem? (i := 214) (by decide +kernel)) : Cond.methodLinkNest "SkirmishGrid" 26 yX0_init "SkirmishGrid" ∈ lw_tbl))
    · exact va_Nw.of rfl (hts _ (List.mem_append_right _ (List.mem_of_getElem? (i := 253) (by decide +kernel)) : Cond.methodLinkNest "SkirmishGrid" 49 yX5_init "SkirmishGrid" ∈ lw_tbl))
    · exact va_Nw.of rfl (hts _ (List.mem_append_right _ (List.mem_of_getElem? (i := 273) (by decide +kernel)) : Cond.methodLinkNest "SkirmishGrid" 56 yX6_init "SkirmishGrid" ∈ lw_tbl))
  · intro q hq
    simp only [nmF, List.mem_cons, List.not_mem_nil, or_false] at hq
    rcases hq with rfl | rfl | rfl | rfl | rfl | rfl | rfl | rfl | rfl | rfl
    · exact va_Nw.of rfl (hts _ (List.mem_append_right _ (List.mem_of_getElem? (i := 799) (by decide +kernel)) : Cond.fieldLinkNest "SkirmishGrid$Unit" 25 "SkirmishGrid" "HEALTH" "[I" "SkirmishGrid" ∈ lw_tbl))
    · exact va_Nw.of rfl (hts _ (List.mem_append_right _ (List.mem_of_getElem? (i := 801) (by decide +kernel)) : Cond.fieldLinkNest "SkirmishGrid$Unit" 34 "SkirmishGrid" "AMMUNITION" "[I" "SkirmishGrid" ∈ lw_tbl))
    · exact va_Nw.of rfl (hts _ (List.mem_append_right _ (List.mem_of_getElem? (i := 803) (by decide +kernel)) : Cond.fieldLinkNest "SkirmishGrid$Unit" 40 "SkirmishGrid" "GRENADES" "[I" "SkirmishGrid" ∈ lw_tbl))
    · exact va_Nw.of rfl (hts _ (List.mem_append_right _ (List.mem_of_getElem? (i := 852) (by decide +kernel)) : Cond.fieldLinkNest "SkirmishGrid$Fight" 137 "SkirmishGrid" "INITIATIVE" "[I" "SkirmishGrid" ∈ lw_tbl))
    · exact va_Nw.of rfl (hts _ (List.mem_append_right _ (List.mem_of_getElem? (i := 970) (by decide +kernel)) : Cond.fieldLinkNest "SkirmishGrid$Fight" 172 "SkirmishGrid" "RANGE" "[I" "SkirmishGrid" ∈ lw_tbl))
    · exact va_Nw.of rfl (hts _ (List.mem_append_right _ (List.mem_of_getElem? (i := 983) (by decide +kernel)) : Cond.fieldLinkNest "SkirmishGrid$Fight" 182 "SkirmishGrid" "AIM" "[I" "SkirmishGrid" ∈ lw_tbl))
    · exact va_Nw.of rfl (hts _ (List.mem_append_right _ (List.mem_of_getElem? (i := 1003) (by decide +kernel)) : Cond.fieldLinkNest "SkirmishGrid$Fight" 185 "SkirmishGrid" "POWER" "[I" "SkirmishGrid" ∈ lw_tbl))
    · exact va_Nw.of rfl (hts _ (List.mem_append_right _ (List.mem_of_getElem? (i := 1005) (by decide +kernel)) : Cond.fieldLinkNest "SkirmishGrid$Fight" 188 "SkirmishGrid" "ARMOR" "[I" "SkirmishGrid" ∈ lw_tbl))
    · exact va_Nw.of rfl (hts _ (List.mem_append_right _ (List.mem_of_getElem? (i := 1143) (by decide +kernel)) : Cond.fieldLinkNest "SkirmishGrid$Fight" 280 "SkirmishGrid" "AMMUNITION" "[I" "SkirmishGrid" ∈ lw_tbl))
    · exact va_Nw.of rfl (hts _ (List.mem_append_right _ (List.mem_of_getElem? (i := 1264) (by decide +kernel)) : Cond.fieldLinkNest "SkirmishGrid$Row" 44 "SkirmishGrid" "HEALTH" "[I" "SkirmishGrid" ∈ lw_tbl))
  · intro E hE F hF hn
    simp only [sExc, List.mem_cons, List.not_mem_nil, or_false] at hE hF
    rcases hE with rfl | rfl | rfl | rfl | rfl | rfl <;> rcases hF with rfl | rfl | rfl | rfl | rfl | rfl
    · exact absurd rfl hn
    · exact va_Nc.of (hs (.not (.castable "java/lang/IllegalArgumentException" "java/lang/IllegalStateException")) (by decide +kernel))
    · exact va_Nc.of (hs (.not (.castable "java/lang/IllegalArgumentException" "java/lang/UnsupportedOperationException")) (by decide +kernel))
    · exact va_Nc.of (hs (.not (.castable "java/lang/IllegalArgumentException" "java/util/NoSuchElementException")) (by decide +kernel))
    · exact va_Nc.of (hs (.not (.castable "java/lang/IllegalArgumentException" "java/lang/IndexOutOfBoundsException")) (by decide +kernel))
    · exact va_Nc.of (hs (.not (.castable "java/lang/IllegalArgumentException" "java/lang/ArithmeticException")) (by decide +kernel))
    · exact va_Nc.of (hs (.not (.castable "java/lang/IllegalStateException" "java/lang/IllegalArgumentException")) (by decide +kernel))
    · exact absurd rfl hn
    · exact va_Nc.of (hs (.not (.castable "java/lang/IllegalStateException" "java/lang/UnsupportedOperationException")) (by decide +kernel))
    · exact va_Nc.of (hs (.not (.castable "java/lang/IllegalStateException" "java/util/NoSuchElementException")) (by decide +kernel))
    · exact va_Nc.of (hs (.not (.castable "java/lang/IllegalStateException" "java/lang/IndexOutOfBoundsException")) (by decide +kernel))
    · exact va_Nc.of (hs (.not (.castable "java/lang/IllegalStateException" "java/lang/ArithmeticException")) (by decide +kernel))
    · exact va_Nc.of (hs (.not (.castable "java/lang/UnsupportedOperationException" "java/lang/IllegalArgumentException")) (by decide +kernel))
    · exact va_Nc.of (hs (.not (.castable "java/lang/UnsupportedOperationException" "java/lang/IllegalStateException")) (by decide +kernel))
    · exact absurd rfl hn
    · exact va_Nc.of (hs (.not (.castable "java/lang/UnsupportedOperationException" "java/util/NoSuchElementException")) (by decide +kernel))
    · exact va_Nc.of (hs (.not (.castable "java/lang/UnsupportedOperationException" "java/lang/IndexOutOfBoundsException")) (by decide +kernel))
    · exact va_Nc.of (hs (.not (.castable "java/lang/UnsupportedOperationException" "java/lang/ArithmeticException")) (by decide +kernel))
    · exact va_Nc.of (hs (.not (.castable "java/util/NoSuchElementException" "java/lang/IllegalArgumentException")) (by decide +kernel))
    · exact va_Nc.of (hs (.not (.castable "java/util/NoSuchElementException" "java/lang/IllegalStateException")) (by decide +kernel))
    · exact va_Nc.of (hs (.not (.castable "java/util/NoSuchElementException" "java/lang/UnsupportedOperationException")) (by decide +kernel))
    · exact absurd rfl hn
    · exact va_Nc.of (hs (.not (.castable "java/util/NoSuchElementException" "java/lang/IndexOutOfBoundsException")) (by decide +kernel))
    · exact va_Nc.of (hs (.not (.castable "java/util/NoSuchElementException" "java/lang/ArithmeticException")) (by decide +kernel))
    · exact va_Nc.of (hs (.not (.castable "java/lang/IndexOutOfBoundsException" "java/lang/IllegalArgumentException")) (by decide +kernel))
    · exact va_Nc.of (hs (.not (.castable "java/lang/IndexOutOfBoundsException" "java/lang/IllegalStateException")) (by decide +kernel))
    · exact va_Nc.of (hs (.not (.castable "java/lang/IndexOutOfBoundsException" "java/lang/UnsupportedOperationException")) (by decide +kernel))
    · exact va_Nc.of (hs (.not (.castable "java/lang/IndexOutOfBoundsException" "java/util/NoSuchElementException")) (by decide +kernel))
    · exact absurd rfl hn
    · exact va_Nc.of (hs (.not (.castable "java/lang/IndexOutOfBoundsException" "java/lang/ArithmeticException")) (by decide +kernel))
    · exact va_Nc.of (hs (.not (.castable "java/lang/ArithmeticException" "java/lang/IllegalArgumentException")) (by decide +kernel))
    · exact va_Nc.of (hs (.not (.castable "java/lang/ArithmeticException" "java/lang/IllegalStateException")) (by decide +kernel))
    · exact va_Nc.of (hs (.not (.castable "java/lang/ArithmeticException" "java/lang/UnsupportedOperationException")) (by decide +kernel))
    · exact va_Nc.of (hs (.not (.castable "java/lang/ArithmeticException" "java/util/NoSuchElementException")) (by decide +kernel))
    · exact va_Nc.of (hs (.not (.castable "java/lang/ArithmeticException" "java/lang/IndexOutOfBoundsException")) (by decide +kernel))
    · exact absurd rfl hn
theorem s_K {s : State} {b : Nat} (hts : ∀ w ∈ lw_tbl, w.before #[Value.ref b] s = true) (hs : ∀ c ∈ flatC (Jvm.Cond.and given_1 narrow_1), c.before #[Value.ref b] s = true) : ∃ G : GP, va_K G.1 vwCl (TY G) s := by
  obtain ⟨c0, i0, h0⟩ := u_known (C := RJ0) (T := TJ0) (N := 2) (n := 4) hts (by decide +kernel) (hts _ (List.mem_append_right _ (List.mem_of_getElem? (i := 679) (by decide +kernel)) : Cond.instantiable RJ0 4 ∈ lw_tbl))
  obtain ⟨c1, i1, h1⟩ := u_known (C := RJx00060) (T := TJx00060) (N := 6) (n := 6) hts (by decide +kernel) (hts _ (List.mem_append_right _ (List.mem_of_getElem? (i := 661) (by decide +kernel)) : Cond.instantiable RJx00060 6 ∈ lw_tbl))
  obtain ⟨c2, i2, h2⟩ := u_known (C := RX0) (T := TX0) (N := 3) (n := 3) hts (by decide +kernel) (hts _ (List.mem_append_right _ (List.mem_of_getElem? (i := 213) (by decide +kernel)) : Cond.instantiable RX0 3 ∈ lw_tbl))
  obtain ⟨c3, i3, h3⟩ := u_known (C := RX1) (T := TX1) (N := 4) (n := 4) hts (by decide +kernel) (hts _ (List.mem_append_right _ (List.mem_of_getElem? (i := 69) (by decide +kernel)) : Cond.instantiable RX1 4 ∈ lw_tbl))
  obtain ⟨c4, i4, h4⟩ := u_known (C := RX2) (T := TX2) (N := 12) (n := 12) hts (by decide +kernel) (hts _ (List.mem_append_right _ (List.mem_of_getElem? (i := 39) (by decide +kernel)) : Cond.instantiable RX2 12 ∈ lw_tbl))
  obtain ⟨c5, i5, h5⟩ := u_known (C := RX3) (T := TX3) (N := 3) (n := 3) hts (by decide +kernel) (hts _ (List.mem_append_right _ (List.mem_of_getElem? (i := 45) (by decide +kernel)) : Cond.instantiable RX3 3 ∈ lw_tbl))
  obtain ⟨c6, i6, h6⟩ := u_known (C := RX4) (T := TX4) (N := 3) (n := 3) hts (by decide +kernel) (hts _ (List.mem_append_right _ (List.mem_of_getElem? (i := 232) (by decide +kernel)) : Cond.instantiable RX4 3 ∈ lw_tbl))
  obtain ⟨c7, i7, h7⟩ := u_known (C := RX5) (T := TX5) (N := 4) (n := 4) hts (by decide +kernel) (hts _ (List.mem_append_right _ (List.mem_of_getElem? (i := 252) (by decide +kernel)) : Cond.instantiable RX5 4 ∈ lw_tbl))
  obtain ⟨c8, i8, h8⟩ := u_known (C := RX6) (T := TX6) (N := 5) (n := 5) hts (by decide +kernel) (hts _ (List.mem_append_right _ (List.mem_of_getElem? (i := 272) (by decide +kernel)) : Cond.instantiable RX6 5 ∈ lw_tbl))
  obtain ⟨c9, i9, h9⟩ := u_known (C := RX7) (T := TX7) (N := 13) (n := 13) hts (by decide +kernel) (hts _ (List.mem_append_right _ (List.mem_of_getElem? (i := 89) (by decide +kernel)) : Cond.instantiable RX7 13 ∈ lw_tbl))
  obtain ⟨c10, i10, h10⟩ := u_known (C := RX8) (T := TX8) (N := 13) (n := 13) hts (by decide +kernel) (hts _ (List.mem_append_right _ (List.mem_of_getElem? (i := 31) (by decide +kernel)) : Cond.instantiable RX8 13 ∈ lw_tbl))
  obtain ⟨c11, i11, h11⟩ := u_known (C := RX9) (T := TX9) (N := 23) (n := 23) hts (by decide +kernel) (hts _ (List.mem_append_right _ (List.mem_of_getElem? (i := 1300) (by decide +kernel)) : Cond.instantiable RX9 23 ∈ lw_tbl))
  obtain ⟨y_char, k_char, m_char, f_char, g_char, e_char⟩ := Cond.arrayClass_spec (hts _ (List.mem_append_right _ (List.mem_of_getElem? (i := 64) (by decide +kernel)) : Cond.arrayClass .char ∈ lw_tbl))
  obtain ⟨y_float, k_float, m_float, f_float, g_float, e_float⟩ := Cond.arrayClass_spec (hts _ (List.mem_append_right _ (List.mem_of_getElem? (i := 298) (by decide +kernel)) : Cond.arrayClass .float ∈ lw_tbl))
  obtain ⟨y_int, k_int, m_int, f_int, g_int, e_int⟩ := Cond.arrayClass_spec (hts _ (List.mem_append_right _ (List.mem_of_getElem? (i := 65) (by decide +kernel)) : Cond.arrayClass .int ∈ lw_tbl))
  obtain ⟨y_boolean, k_boolean, m_boolean, f_boolean, g_boolean, e_boolean⟩ := Cond.arrayClass_spec (hts _ (List.mem_append_right _ (List.mem_of_getElem? (i := 270) (by decide +kernel)) : Cond.arrayClass .boolean ∈ lw_tbl))
  obtain ⟨y_long, k_long, m_long, f_long, g_long, e_long⟩ := Cond.arrayClass_spec (hts _ (List.mem_append_right _ (List.mem_of_getElem? (i := 1752) (by decide +kernel)) : Cond.arrayClass .long ∈ lw_tbl))
  obtain ⟨y_double, k_double, m_double, f_double, g_double, e_double⟩ := Cond.arrayClass_spec (hts _ (List.mem_append_right _ (List.mem_of_getElem? (i := 1753) (by decide +kernel)) : Cond.arrayClass .double ∈ lw_tbl))
  obtain ⟨p_fi, y_fi, k_fi, f_fi, j_fi, g_fi, e_fi, d_fi⟩ := Cond.arrayOver_spec (hts _ (List.mem_append_right _ (List.mem_of_getElem? (i := 238) (by decide +kernel)) : Cond.arrayOver (.object "SkirmishGrid$Fight") ∈ lw_tbl))
  obtain ⟨p_un, y_un, k_un, f_un, j_un, g_un, e_un, d_un⟩ := Cond.arrayOver_spec (hts _ (List.mem_append_right _ (List.mem_of_getElem? (i := 67) (by decide +kernel)) : Cond.arrayOver (.object "SkirmishGrid$Unit") ∈ lw_tbl))
  refine ⟨((fun k => [c0, c1, c2, c3, c4, c5, c6, c7, c8, c9, c10, c11].getD k 0, fun k => [i0, i1, i2, i3, i4, i5, i6, i7, i8, i9, i10, i11].getD k (fun _ => 0)), fun k => [y_char, y_float, y_int, y_boolean, y_fi, y_un, y_long, y_double].getD k 0), ?_, ?_⟩
  · intro k q hq
    match k, hq with
    | 0, hq => cases hq; exact h0
    | 1, hq => cases hq; exact h1
    | 2, hq => cases hq; exact h2
    | 3, hq => cases hq; exact h3
    | 4, hq => cases hq; exact h4
    | 5, hq => cases hq; exact h5
    | 6, hq => cases hq; exact h6
    | 7, hq => cases hq; exact h7
    | 8, hq => cases hq; exact h8
    | 9, hq => cases hq; exact h9
    | 10, hq => cases hq; exact h10
    | 11, hq => cases hq; exact h11
    | k + 12, hq => simp [vwCl] at hq
  · intro k q hq
    match k, hq with
    | 0, hq => cases hq; exact ⟨fun n z => ⟨fun k h => (by cases h), k_char, g_char, m_char, e_char⟩, f_char⟩
    | 1, hq => cases hq; exact ⟨fun n z => ⟨fun k h => (by cases h), k_float, g_float, m_float, e_float⟩, f_float⟩
    | 2, hq => cases hq; exact ⟨fun n z => ⟨fun k h => (by cases h), k_int, g_int, m_int, e_int⟩, f_int⟩
    | 3, hq => cases hq; exact ⟨fun n z => ⟨fun k h => (by cases h), k_boolean, g_boolean, m_boolean, e_boolean⟩, f_boolean⟩
    | 4, hq => cases hq; exact ⟨fun n z => ⟨fun k h => (by cases h), k_fi, g_fi, p_fi, e_fi⟩, k_fi, p_fi, g_fi, e_fi, f_fi, d_fi⟩
    | 5, hq => cases hq; exact ⟨fun n z => ⟨fun k h => (by cases h), k_un, g_un, p_un, e_un⟩, k_un, p_un, g_un, e_un, f_un, d_un⟩
    | 6, hq => cases hq; exact ⟨fun n z => ⟨fun k h => (by cases h), k_long, g_long, m_long, e_long⟩, f_long⟩
    | 7, hq => cases hq; exact ⟨fun n z => ⟨fun k h => (by cases h), k_double, g_double, m_double, e_double⟩, f_double⟩
    | k + 8, hq => simp [TY] at hq
theorem s_PW {s : State} {G : GP} : PW G (fun q : Nat => s.heap.size ≤ q) s s.heap [] S_0 S_0 := ⟨fun k q h => by simp [WD, S_0, mL, va_pl] at h, ⟨fun i j p q h => by simp [WD, S_0, mL, va_pl] at h, fun k q h => by simp [WD, S_0, mL, va_pl] at h⟩, va_S.rf, fun a h => by simp [S_0, mL] at h, ext_rf⟩
set_option maxHeartbeats 4000000 in
/-- from the entry to the law's walk; what is left is a matter of numbers and lists: the law's wp -/
theorem w_start (hwp : ∀ (L : Nat) (xs : Nat → Int32), L ≤ 2048 → wL_law_0 L xs S_0) : ∀ {p : Program} {e : Env} {s : State} {m : MethodId} {below : List Frame} {meth : Method} {c : Code} (l : Launch) (hflags : l.flags = flags0) {b L : Nat} {xs : Nat → Int32} (hL : L ≤ 2048) (C0 : lw_At p s m meth c b L xs), W p l e room_1 s m #[Value.ref b] below meth c s.heap [] 0 0 (lw_Z below #[Value.ref b] s) (entryFrame m ([Value.ref b] : List Value).toArray 9) := by
  intro p e s m below meth c l hflags b L xs hL C0
  obtain ⟨hx, hb, hr, hml, hown, hts, hX, hbl, hlocks, hgv⟩ := id C0
  have hs := flat_of_before _ hgv
  obtain ⟨G, hK⟩ := s_K hts hs
  have hst : l.stackTraces = false := by unfold Launch.stackTraces; rw [hflags]; decide +kernel
  have C : CF p l s m #[Value.ref b] meth c "SkirmishGridLaw" code 9 G (fun q : Nat => s.heap.size ≤ q) := ⟨hx, hb, hml, hown, fun w hw => hts w (List.mem_filter.mp hw).1, hK, s_SF hts hs, fun _ h => h, hlocks, hst⟩
  refine en_m (Nat.le_of_ble_eq_true rfl) (lv := [(0, .ref b)]) rfl (fun ls hl => ?_)
  exact tL_law_0 (L := L) (xs := xs) C hr hX hbl S_0 s_PW hl (by omega) (by omega) (hwp L xs hL)
