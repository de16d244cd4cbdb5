/-! the fresh object -/
def wF0 : RW := fun k => if k = 0 then 5 else if k = 1 then 5 else if k = 155 then 1 else if k = 166 then -1 else if k = 291 then 1 else 0
theorem f0_R : nR wF0 = 5 := by decide +kernel
theorem f0_C : nC wF0 = 5 := by decide +kernel
theorem f0_U : nU wF0 = 0 := by decide +kernel
theorem f0_O : nO wF0 = 0 := by decide +kernel
theorem f0_E : nE wF0 = 0 := by decide +kernel
theorem f0_blk : ∀ k, k < 300 → k ≠ 289 → zblk W0 2 k = wF0 k := by decide +kernel
theorem f0_Rp : Rp 2 W0 wF0 := ⟨fun k l => f0_blk k (by unfold Lv at l; omega) (by unfold Lv at l; omega), by decide +kernel⟩
theorem f0_Qr : Qr W0 wF0 := by unfold Qr; decide +kernel
theorem nb_z {b : Nat} : Nb 0 b := by
  unfold Nb
  rw [show (0 : Int32).toInt = 0 from by decide +kernel]; omega
theorem f0_WF : WF wF0 := by
  refine ⟨⟨by unfold Nb; decide +kernel, by rw [f0_R]; omega⟩, ⟨by unfold Nb; decide +kernel, by rw [f0_C]; omega⟩, fun c hc => ?_, by unfold Nb; decide +kernel, fun u hu => ?_, fun u hu => ?_, fun u hu => ?_, by unfold Nb; decide +kernel, by rw [f0_O]; omega, fun i hi => ?_, fun i j _ hj => ?_, by unfold Nb; decide +kernel, by unfold Nb; decide +kernel⟩
  · rw [f0_R, f0_C] at hc
    have : wF0 (2 + c) = 0 := by unfold wF0; rw [if_neg (by omega), if_neg (by omega), if_neg (by omega), if_neg (by omega), if_neg (by omega)]
    rw [this]; exact nb_z
  · rw [f0_U] at hu; omega
  · rw [f0_U] at hu; omega
  · rw [f0_U] at hu; omega
  · rw [f0_O] at hi; omega
  · rw [f0_O] at hj; omega
