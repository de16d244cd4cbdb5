def isZ (v : Int32) : Prop := v = 0 ∨ v = 1
def isC (v : Int32) : Prop := narrow .char (.int v) = .int v
def isB (v : Int32) : Prop := narrow .byte (.int v) = .int v
theorem nz {v : Int32} (h : isZ v) : narrow .boolean (.int v) = .int v := by rcases h with rfl | rfl <;> decide +kernel
theorem nzf {v : Int32} (h : isZ v) : fits .boolean (.int v) = true := by rcases h with rfl | rfl <;> decide +kernel
theorem nc {v : Int32} (h : isC v) : narrow .char (.int v) = .int v := h
theorem nb {v : Int32} (h : isB v) : narrow .byte (.int v) = .int v := h
theorem isZ_dec {v : Int32} (h : decide (v = 0) || decide (v = 1)) : isZ v := by simpa [isZ] using h
theorem wf_r {S : MS} {kd a k b : Nat} (h : wf S) (hp : pI S kd a) (e : mR S a k = some b) : pI S (rT kd k) b := by
  have := h a hp.1 k b e
  rw [hp.2] at this
  exact this
theorem ts_split {lo hi : Int} (x : Int32) : (x.toInt < lo ∨ hi < x.toInt) ∨ ∃ i : Nat, (i : Int) ≤ hi - lo ∧ x.toInt = lo + i := by
  by_cases h : x.toInt < lo ∨ hi < x.toInt
  · exact Or.inl h
  · refine Or.inr ⟨(x.toInt - lo).toNat, ?_, ?_⟩ <;> omega
section RW4
variable {p : Program} {l : Launch} {e : Env} {R : Room} {s : State} {m : MethodId} {args : Array Value} {below : List Frame} {meth : Method} {c : Code} {H : Heap} {locs : List Loc} {cells slots : Nat} {Q : State → Prop}
variable {own : String} {cc : ByteArray} {nL : Nat} {G : GP} {A : Nat → Prop} {S0 S : MS} {pc : Nat} {ls : Array Slot} {rest st : List Value} {a : Nat}
theorem ao_4 (C : CF p l s m args meth c own cc nL G A) : va_AO "SkirmishGrid$Fight" s := (CF_S C).2.2.2.2.2.2.2.1
theorem ao_5 (C : CF p l s m args meth c own cc nL G A) : va_AO "SkirmishGrid$Unit" s := (CF_S C).2.2.2.2.2.2.2.2.1
theorem aE_len {G : GP} {S : MS} {a : Nat} : ∀ d, d < 8 → ∃ x : vp_A, aE G S a d = .inl (G.2 d, x) ∧ x.1 = mN S a := by
  intro d hd
  rcases (show d = 0 ∨ d = 1 ∨ d = 2 ∨ d = 3 ∨ d = 4 ∨ d = 5 ∨ d = 6 ∨ d = 7 by omega) with rfl | rfl | rfl | rfl | rfl | rfl | rfl | rfl <;> exact ⟨_, rfl, rfl⟩
theorem ra_n {d : Nat} (C : CF p l s m args meth c own cc nL G A) (P : PW G A s H locs S0 S) (hp : pI S (d + 10) a) (hd : d < 8) (hdg : decode cc pc = .ok (.arraylength, 1))
    (kk : W p l e R s m args below meth c H locs cells slots Q (F0 m (pc + 1) ls (.int (Int32.ofNat (mN S a)) :: rest))) : W p l e R s m args below meth c H locs cells slots Q (F0 m pc ls (.ref a :: rest)) := by
  obtain ⟨q0, hq⟩ := wd_get (G := G) hp.1
  rw [ce_ar (kd := d) hp] at hq
  obtain ⟨x, hx, hn⟩ := aE_len (G := G) (S := S) (a := a) d hd
  rw [hx] at hq
  have ht : ∃ ty, (TY G)[d]? = some (G.2 d, ty) := by
    rcases (show d = 0 ∨ d = 1 ∨ d = 2 ∨ d = 3 ∨ d = 4 ∨ d = 5 ∨ d = 6 ∨ d = 7 by omega) with rfl | rfl | rfl | rfl | rfl | rfl | rfl | rfl <;> exact ⟨_, rfl⟩
  obtain ⟨ty, ht⟩ := ht
  exact va_alen (CF_x C) (CF_b C) (CF_K C) P.1 q0 d hq ht (by rw [hn]) hdg kk
/-- a table of the class out of a nest mate -/
theorem rt_gN (C : CF p l s m args meth c own cc nL G A) (P : PW G A s H locs S0 S) {i index : Nat} {n : String} (hi : i < 9) (hn : sNm i = n) (hl : (own, index, n) ∈ nmF) (hdg : decode cc pc = .ok (.getstatic index, 3))
    (kk : ∀ t : Nat, va_T .int t 4 (fun j => .int ((sTb i).getD j 0)) A s s.heap → W p l e R s m args below meth c H locs cells slots Q (F0 m (pc + 3) ls (.ref t :: rest))) : W p l e R s m args below meth c H locs cells slots Q (F0 m pc ls rest) := by
  obtain ⟨t, e1, e2⟩ := (CF_S C).2.2.1 i hi
  rw [hn] at e1
  exact va_getsN (CF_x C) (CF_b C) e1 P.2.2.1 (CF_o C) (va_Nw.use rfl ((CF_S C).2.2.2.2.2.2.2.2.2.2.1 _ hl)) (fun _ h => h) hdg (kk t e2)
variable {y : MethodName} {bytes : ByteArray} {maxL mc1 ms1 n index : Nat} {rm : Room} {As : List Value} {Qc : Array Value → State → Outcome → State → Prop} {QX1 : String → MS → Prop}
theorem run_IN (C : CF p l s m args meth c own cc nL G A) (P : PW G A s H locs S0 S) (hsz : ls.size = nL) {b : Nat}
    (hM : vx_Met l y (.code y bytes maxL none :: GW) rm (va_Pc (.ref b :: As) (PR G S H.size)) Qc (XX G S (FA G S H.size) QX1) mc1 ms1 (FA G S H.size))
    (h1 : (own, index, y) ∈ nmM) (h2 : Cond.instanceMethod y ∈ GW) (h4 : Cond.initialized y.cls ∈ GW) (h5 : Cond.code y bytes maxL none ∈ GW) (hy1 : y.name = "<init>")
    (hd : y.cls ≠ "java/lang/invoke/MethodHandle" ∧ y.cls ≠ "java/lang/invoke/VarHandle" ∧ (parseMethodDescriptor y.desc).map (fun d => d.parameters.length) = some n) (hR : rm.frames + 1 ≤ R.frames ∧ 8 + (maxL + 11) + rm.locals ≤ R.locals) (hrc : rm.cells = mc1) (hrs : rm.slots = ms1)
    (hst : st = As.reverse ++ .ref b :: rest) (hn : As.length = n) (hW : (rest.map fun v => v.category).sum ≤ 8) (hdg : decode cc pc = .ok (.invokespecial index, 3)) (hf : cells + mc1 ≤ R.cells ∧ slots + ms1 ≤ R.slots) :
    vx_Run p l e R s m args below meth c H locs cells slots mc1 ms1 (F0 m pc ls st) rest (Qc (Value.ref b :: As).toArray) (XX G S (FA G S H.size) QX1) (FA G S H.size) :=
  vx_runIN ⟨CF_x C, CF_b C, CF_m C, CF_o C, CF_t C⟩ hM ⟨va_cnB n (CF_t C) (gi_I h5) rfl hrc hrs ((CF_S C).2.2.2.2.2.2.2.2.2.1 _ h1) (CF_t C _ h4) hd hR, hy1, CF_t C _ h2⟩ ⟨PR_bl, PR_of C P⟩ rfl hn hsz hst (lv_room hW) hdg hf
end RW4
theorem ls_out1 {x : Int32} {a b d : Int} (h : ¬ x.toInt = a) : Op.lookupswitch.offset [(a, b)] d x.toInt = d := by
  simp [Op.lookupswitch.offset, Ne.symm h, h]
theorem ls_out2 {x : Int32} {a a2 b b2 d : Int} (h : ¬ x.toInt = a) (h2 : ¬ x.toInt = a2) : Op.lookupswitch.offset [(a, b), (a2, b2)] d x.toInt = d := by
  simp [Op.lookupswitch.offset, Ne.symm h, h, Ne.symm h2, h2]
