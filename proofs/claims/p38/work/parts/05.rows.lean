/-! what stands outside of the pool: statics, literals -/
def sNm : Nat → String
  | 0 => "HEALTH"
  | 1 => "ARMOR"
  | 2 => "AIM"
  | 3 => "RANGE"
  | 4 => "SPEED"
  | 5 => "INITIATIVE"
  | 6 => "POWER"
  | 7 => "AMMUNITION"
  | _ => "GRENADES"
def sTb : Nat → List Int32
  | 0 => [8, 12, 18, 7]
  | 1 => [0, 1, 3, 0]
  | 2 => [4, 5, 3, 9]
  | 3 => [5, 6, 4, 8]
  | 4 => [6, 4, 3, 3]
  | 5 => [8, 5, 2, 6]
  | 6 => [2, 3, 5, 4]
  | 7 => [6, 5, 4, 3]
  | _ => [1, 1, 1, 0]
def tbI (i : Nat) (x : Int32) : Int32 := (sTb i).getD x.toNatClampNeg 0
def SA (i : Nat) (A : Nat → Prop) (U : State) (H : Heap) : Prop := ∃ t : Nat, va_Z "SkirmishGrid" (sNm i) "[I" (.ref t) A U H ∧ va_T .int t 4 (fun j => .int ((sTb i).getD j 0)) A U H
def sStr : List (Nat × String) := [(66, "no printable character"), (76, "the buffer is full"), (83, "malformed grid"), (94, "too few or too many rows or columns"), (119, "no text was malformed"), (130, "no such cell"), (163, "no such kind"), (168, "the cell is a wall or has a unit"), (177, "no units can be added any more"), (229, "no such property"), (234, "the fight has begun, or a team has no units"), (249, "the fight does not go on"), (254, "the order has no such index"), (271, "the path has no such index"), (292, "no unit can be attacked"), (307, "the unit cannot move to this cell"), (324, "no grenades"), (330, "no grenade can be thrown at this cell"), (335, "the unit guards already"), (356, "no such event or column"), (362, "no command can be undone"), (371, "the fight has not begun"), (396, "the team has no units"), (412, "a row was not stored yet"), (417, "the rows have different element types"), (419, "no such number of elements"), (425, "the row has no such element"), (447, "there is no snapshot"), (452, "no such team"), (457, "no such unit"), (459, "no actions"), (461, "no ammunition"), (467, "the target cannot be attacked"), (470, "there is no path"), (472, "no such row")]
def sExc : List String := ["java/lang/IllegalArgumentException", "java/lang/IllegalStateException", "java/lang/UnsupportedOperationException", "java/util/NoSuchElementException", "java/lang/IndexOutOfBoundsException", "java/lang/ArithmeticException"]
def sSup : List String := ["java/lang/RuntimeException", "java/lang/Exception", Bundle.tN]
def nmM : List (String × Nat × MethodName) := [("SkirmishGrid$Fight", 11, yX3_init), ("SkirmishGrid$Fight", 40, yX1_init), ("SkirmishGrid", 26, yX0_init), ("SkirmishGrid", 49, yX5_init), ("SkirmishGrid", 56, yX6_init)]
def nmF : List (String × Nat × String) := [("SkirmishGrid$Unit", 25, "HEALTH"), ("SkirmishGrid$Unit", 34, "AMMUNITION"), ("SkirmishGrid$Unit", 40, "GRENADES"), ("SkirmishGrid$Fight", 137, "INITIATIVE"), ("SkirmishGrid$Fight", 172, "RANGE"), ("SkirmishGrid$Fight", 182, "AIM"), ("SkirmishGrid$Fight", 185, "POWER"), ("SkirmishGrid$Fight", 188, "ARMOR"), ("SkirmishGrid$Fight", 280, "AMMUNITION"), ("SkirmishGrid$Row", 44, "HEALTH")]
def sgB : List Int32 := [46, 35, 111, 126, 94]
def SG (A : Nat → Prop) (U : State) (H : Heap) : Prop := ∃ a v : Nat, vk_R "SkirmishGrid" 137 ".#o~^" a U ∧ vk_R "SkirmishGrid$Grid" 28 ".#o~^" a U ∧ va_O "java/lang/String" a A U H ∧ va_OF "java/lang/String" "coder" "B" (.int 0) a A U H ∧ va_OF "java/lang/String" "value" "[B" (.ref v) a A U H ∧ va_T .byte v 5 (fun j => .int (sgB.getD j 0)) A U H ∧ va_Z "java/lang/String" "COMPACT_STRINGS" "Z" (.int 1) A U H ∧ va_Zq "jdk/internal/util/Preconditions" "SIOOBE_FORMATTER" "Ljava/util/function/BiFunction;" A U H
def SF (A : Nat → Prop) (U : State) (H : Heap) : Prop := vx_Zq Bundle.tN "UNASSIGNED_STACK" Bundle.steD A U H ∧ vx_Zq Bundle.tN "SUPPRESSED_SENTINEL" Bundle.listD A U H ∧ (∀ i, i < 9 → SA i A U H) ∧ (∀ q ∈ sStr, ∃ a, vk_R "SkirmishGrid" q.1 q.2 a U) ∧ (∀ X ∈ sExc, va_Nw (.castable X X) U) ∧ SG A U H ∧ (∀ X ∈ sSup, va_Nw (.declares (Bundle.initS X)) U) ∧ va_AO "SkirmishGrid$Fight" U ∧ va_AO "SkirmishGrid$Unit" U ∧ (∀ w ∈ nmM, va_Nw (.methodLinkNest w.1 w.2.1 w.2.2 "SkirmishGrid") U) ∧ (∀ w ∈ nmF, va_Nw (.fieldLinkNest w.1 w.2.1 "SkirmishGrid" w.2.2 "[I" "SkirmishGrid") U) ∧ (∀ E ∈ sExc, ∀ F ∈ sExc, E ≠ F → va_Nc E F U)
theorem SF_go {A B : Nat → Prop} {s U : State} {H : Heap} (h : SF A s s.heap) (hW : s.WarmedH U.vm) (hk : ∀ a : Nat, a < s.heap.size → ¬ A a → H[a]? = s.heap[a]?) (hAB : ∀ q, B q → A q) : SF B U H := by
  obtain ⟨h1, h2, h3, h4, h5, ⟨a, v, g1, g2, g3, g4, g5, g6, g7, g8⟩, h7, h8, h9, h10, h11, h12⟩ := h
  have hv := hW.alike
  refine ⟨((h1.kept hk).moved hv).narrow hAB, ((h2.kept hk).moved hv).narrow hAB, fun i hi => ?_, fun q hq => ?_, fun X hX => va_Nw.warmC hW (h5 X hX), ⟨a, v, g1.warm hW, g2.warm hW, ((g3.kept hk).moved hv).narrow hAB, ((g4.kept hk).moved hv).narrow hAB, ((g5.kept hk).moved hv).narrow hAB, ((g6.kept hk).moved hv).narrow hAB, ((g7.kept hk).moved hv).narrow hAB, ((g8.kept hk).moved hv).narrow hAB⟩, fun X hX => va_Nw.warmD hW (h7 X hX), h8.moved hv, h9.moved hv, fun w hw => va_Nw.warmM hW (h10 w hw), fun w hw => va_Nw.warmF hW (h11 w hw), fun E hE F hF hn => (h12 E hE F hF hn).moved hv⟩
  · obtain ⟨t, e1, e2⟩ := h3 i hi
    exact ⟨t, ((e1.kept hk).moved hv).narrow hAB, ((e2.kept hk).moved hv).narrow hAB⟩
  · obtain ⟨a, e⟩ := h4 q hq
    exact ⟨a, e.warm hW⟩
theorem SF_bl {A : Nat → Prop} {u U : State} {H : Heap} (h : SF A u H) (hv : U.vm = u.vm) : SF A U H := by
  obtain ⟨h1, h2, h3, h4, h5, ⟨a, v, g1, g2, g3, g4, g5, g6, g7, g8⟩, h7, h8, h9, h10, h11, h12⟩ := h
  have ha : u.vm.Alike U.vm := by rw [hv]; exact Vm.Alike.refl u.vm
  refine ⟨h1.moved ha, h2.moved ha, fun i hi => ?_, fun q hq => ?_, fun X hX => va_Nw.same rfl hv.symm (h5 X hX), ⟨a, v, g1.same hv, g2.same hv, g3.moved ha, g4.moved ha, g5.moved ha, g6.moved ha, g7.moved ha, g8.moved ha⟩, fun X hX => va_Nw.same rfl hv.symm (h7 X hX), h8.moved ha, h9.moved ha, fun w hw => va_Nw.same rfl hv.symm (h10 w hw), fun w hw => va_Nw.same rfl hv.symm (h11 w hw), fun E hE F hF hn => (h12 E hE F hF hn).moved ha⟩
  · obtain ⟨t, e1, e2⟩ := h3 i hi
    exact ⟨t, e1.moved ha, e2.moved ha⟩
  · obtain ⟨a, e⟩ := h4 q hq
    exact ⟨a, e.same hv⟩
def WD (G : GP) (S : MS) : va_W := va_pl (mL S) (ce G S)
def FA (G : GP) (S : MS) (sz : Nat) : Nat → Prop := va_A (WD G S) sz
/-- what a method asks of its start -/
def PR (G : GP) (S : MS) (sz : Nat) : State → Prop := fun U => U.heap.size = sz ∧ va_P G.1 vwCl (WD G S) U.heap ∧ va_K G.1 vwCl (TY G) U ∧ va_D (fun _ => True) (WD G S) ∧ SF (FA G S sz) U U.heap ∧ wf S
/-- how the pool stands behind a method -/
def AW (G : GP) (S0 S : MS) (A : Nat → Prop) (t : State) : Prop := va_P G.1 vwCl (WD G S) t.heap ∧ va_K G.1 vwCl (TY G) t ∧ va_D A (WD G S) ∧ wf S ∧ ext S0 S
abbrev QI (G : GP) (S0 : MS) (A : Nat → Prop) (Q : Int32 → MS → Prop) := va_Qi Q (fun S t => AW G S0 S A t) A
abbrev QV (G : GP) (S0 : MS) (A : Nat → Prop) (Q : MS → Prop) := va_Qv Q (fun S t => AW G S0 S A t) A
abbrev QF (G : GP) (S0 : MS) (A : Nat → Prop) (Q : UInt32 → MS → Prop) := va_Qf Q (fun S t => AW G S0 S A t) A
abbrev QD (G : GP) (S0 : MS) (A : Nat → Prop) (Q : UInt64 → MS → Prop) := va_Qd Q (fun S t => AW G S0 S A t) A
abbrev QQ (G : GP) (S0 : MS) (A : Nat → Prop) (kd : Nat) (Q : Option Nat → MS → Prop) := va_Qq (fun r S => Q r S ∧ pQ S kd r) (fun S t => AW G S0 S A t) A
abbrev XX (G : GP) (S0 : MS) (A : Nat → Prop) (QX : String → MS → Prop) : String → State → State → Prop := vx_X (fun _ : MS => True) (fun E S t => QX E S ∧ AW G S0 S A t) A
theorem PR_bl {G : GP} {S : MS} {sz : Nat} {av : List Value} : FrameBlind (va_Pc av (PR G S sz)) := by
  intro a U g mk h
  obtain ⟨h0, h1, h2, h3, h4, h5, h6⟩ := h
  exact ⟨h0, h1, h2, va_K.moved (u := U) (U := U.calling g mk a) (Vm.Alike.refl U.vm) h3, h4, SF_bl h5 rfl, h6⟩
/-- what is fixed along a method -/
def CF (p : Program) (l : Launch) (s : State) (m : MethodId) (args : Array Value) (meth : Method) (c : Code) (own : String) (cc : ByteArray) (nL : Nat) (G : GP) (A : Nat → Prop) : Prop :=
  p.tables.exec = Jvm.exec ∧ c.code = cc ∧ c.maxLocals = nL ∧ s.vm.findClass own = some m.cls ∧ (∀ w ∈ GW, w.before args s = true) ∧ va_K G.1 vwCl (TY G) s ∧ SF A s s.heap ∧ (∀ q, s.heap.size ≤ q → A q) ∧ meth.locks = false ∧ l.stackTraces = false
/-- the pool along a method -/
def PW (G : GP) (A : Nat → Prop) (s : State) (H : Heap) (locs : List Loc) (S0 S : MS) : Prop := va_P G.1 vwCl (WD G S) H ∧ va_D A (WD G S) ∧ va_S A s.heap H locs ∧ wf S ∧ ext S0 S
section RW1
variable {p : Program} {l : Launch} {e : Env} {R : Room} {s : State} {m : MethodId} {args : Array Value} {below : List Frame} {meth : Method} {c : Code} {H : Heap} {locs : List Loc} {cells slots : Nat} {Q : State → Prop}
variable {own : String} {cc : ByteArray} {nL : Nat} {G : GP} {A : Nat → Prop} {S0 S : MS} {pc : Nat} {ls : Array Slot} {rest : List Value} {a : Nat}
theorem CF_x (C : CF p l s m args meth c own cc nL G A) : p.tables.exec = Jvm.exec := C.1
theorem CF_b (C : CF p l s m args meth c own cc nL G A) : c.code = cc := C.2.1
theorem CF_m (C : CF p l s m args meth c own cc nL G A) : c.maxLocals = nL := C.2.2.1
theorem CF_o (C : CF p l s m args meth c own cc nL G A) : s.vm.findClass own = some m.cls := C.2.2.2.1
theorem CF_t (C : CF p l s m args meth c own cc nL G A) : ∀ w ∈ GW, w.before args s = true := C.2.2.2.2.1
theorem CF_K (C : CF p l s m args meth c own cc nL G A) : va_K G.1 vwCl (TY G) s := C.2.2.2.2.2.1
theorem CF_S (C : CF p l s m args meth c own cc nL G A) : SF A s s.heap := C.2.2.2.2.2.2.1
theorem CF_A (C : CF p l s m args meth c own cc nL G A) : ∀ q, s.heap.size ≤ q → A q := C.2.2.2.2.2.2.2.1
theorem CF_k (C : CF p l s m args meth c own cc nL G A) : meth.locks = false := C.2.2.2.2.2.2.2.2.1
theorem CF_n (C : CF p l s m args meth c own cc nL G A) : l.stackTraces = false := C.2.2.2.2.2.2.2.2.2
theorem wd_get {G : GP} {S : MS} {a : Nat} (h : a ∈ mL S) : ∃ k : Nat, (WD G S)[k]? = some (a, ce G S a) := va_pl_get (X := []) h
theorem wd_set {G : GP} {S T : MS} {A : Nat → Prop} {a k : Nat} {x : va_E} (hD : va_D A (WD G S)) (h : a ∈ mL S) (hk : (WD G S)[k]? = some (a, ce G S a)) (hL : mL T = mL S) (hc : ∀ b, va_up (ce G S) a x b = ce G T b) : (WD G S).set k (a, x) = WD G T := by
  have e := va_pl_set (X := []) (f := ce G S) (e := x) hD h hk
  have e2 : (WD G S).set k (a, x) = va_pl (mL S) (va_up (ce G S) a x) := e
  rw [e2, va_pl_congr hc]
  unfold WD
  rw [hL]
theorem wd_new {G : GP} {S : MS} {q kd n : Nat} {x : va_E} (hq : q ∉ mL S) (hx : ce G (nw S q kd n) q = x) : WD G S ++ [(q, x)] = WD G (nw S q kd n) := by
  unfold WD
  rw [va_pl_push hq, va_pl_congr (ce_up (fun b hb => ce_nw_o hb) hx)]
  rfl
theorem wd_fresh {G : GP} {S : MS} {A : Nat → Prop} {q : Nat} {x : va_E} (hD : va_D A (WD G S ++ [(q, x)])) : q ∉ mL S := by
  intro h
  obtain ⟨k, hk⟩ := wd_get (G := G) h
  have hlt : k < (WD G S).length := (List.getElem?_eq_some_iff.mp hk).1
  have h1 : (WD G S ++ [(q, x)])[k]? = some (q, ce G S q) := by rw [List.getElem?_append_left hlt]; exact hk
  have h2 : (WD G S ++ [(q, x)])[(WD G S).length]? = some (q, x) := by rw [List.getElem?_append_right (Nat.le_refl _), Nat.sub_self]; rfl
  have := hD.1 k _ _ _ h1 h2 rfl
  omega
theorem PW_st (P : PW G A s H locs S0 S) {T : MS} {H1 : Heap} {locs1 : List Loc} (hP : va_P G.1 vwCl (WD G T) H1) (hD : va_D A (WD G T)) (hS : va_S A s.heap H1 locs1) (hw : wf T) (hx : ext S T) : PW G A s H1 locs1 S0 T := ⟨hP, hD, hS, hw, ext_tr P.2.2.2.2 hx⟩
/-- a number is read from an object -/
theorem rg_i (C : CF p l s m args meth c own cc nL G A) (P : PW G A s H locs S0 S) (kd k : Nat) {C9 : String} {T : u_T} {N index : Nat} (hp : pI S kd a) (hc : vwCl[kd + 2]? = some (C9, T, N)) (hin : ∀ w ∈ u_ws C9 T N, w ∈ GW) (hkd : kd < 10) (hkN : k < N) (hft : (fT kd)[k]? = some 0) (hl : Cond.fieldLink own index (T k).1 (T k).2.1 (T k).2.2.1 ∈ GW) (hdg : decode cc pc = .ok (.getfield index, 3))
    (kk : W p l e R s m args below meth c H locs cells slots Q (F0 m (pc + 3) ls (.int (mI S a k) :: rest))) : W p l e R s m args below meth c H locs cells slots Q (F0 m pc ls (.ref a :: rest)) := by
  obtain ⟨q0, hq⟩ := wd_get (G := G) hp.1
  rw [ce_ob hp hkd] at hq
  refine va_get (CF_x C) (CF_b C) (CF_t C) hin (CF_o C) (CF_K C) P.1 q0 hq hc k hkN (CF_t C _ hl) (fun _ h => h) (v := .int (mI S a k)) ?_ hdg kk
  rw [fv_at, hft]
  simp
/-- a reference is read from an object -/
theorem rg_r (C : CF p l s m args meth c own cc nL G A) (P : PW G A s H locs S0 S) (kd k : Nat) {C9 : String} {T : u_T} {N index b : Nat} (hp : pI S kd a) (hr : mR S a k = some b) (hc : vwCl[kd + 2]? = some (C9, T, N)) (hin : ∀ w ∈ u_ws C9 T N, w ∈ GW) (hkd : kd < 10) (hkN : k < N) (hft : (fT kd)[k]? = some 1) (hl : Cond.fieldLink own index (T k).1 (T k).2.1 (T k).2.2.1 ∈ GW) (hdg : decode cc pc = .ok (.getfield index, 3))
    (kk : W p l e R s m args below meth c H locs cells slots Q (F0 m (pc + 3) ls (.ref b :: rest))) : W p l e R s m args below meth c H locs cells slots Q (F0 m pc ls (.ref a :: rest)) := by
  obtain ⟨q0, hq⟩ := wd_get (G := G) hp.1
  rw [ce_ob hp hkd] at hq
  refine va_get (CF_x C) (CF_b C) (CF_t C) hin (CF_o C) (CF_K C) P.1 q0 hq hc k hkN (CF_t C _ hl) (fun _ h => h) (v := .ref b) ?_ hdg kk
  rw [fv_at, hft]
  simp [hr, va_rf]
theorem ce_sI_ob {G : GP} {S : MS} {kd a k : Nat} {v : Int32} (hp : pI S kd a) (hkd : kd < 10) (hft : (fT kd)[k]? = some 0) : ∀ b, va_up (ce G S) a (.inr (kd + 2, (fv S a (fT kd) 0).set k (.int v))) b = ce G (sI S a k v) b :=
  ce_up (fun b hb => ce_sI_o hb) ((ce_ob (S := sI S a k v) (pI_x ext_sI hp) hkd).trans (by rw [fv_sI (fT kd) 0 k (by omega) hft]))
theorem ce_sR_ob {G : GP} {S : MS} {kd a k : Nat} {v : Option Nat} (hp : pI S kd a) (hkd : kd < 10) (hft : (fT kd)[k]? = some 1) : ∀ b, va_up (ce G S) a (.inr (kd + 2, (fv S a (fT kd) 0).set k (va_rf v))) b = ce G (sR S a k v) b :=
  ce_up (fun b hb => ce_sR_o hb) ((ce_ob (S := sR S a k v) (pI_x ext_sR hp) hkd).trans (by rw [fv_sR (fT kd) 0 k (by omega) hft]))
/-- a number is written into an object -/
theorem rp_i (C : CF p l s m args meth c own cc nL G A) (P : PW G A s H locs S0 S) (kd k : Nat) {C9 : String} {T : u_T} {N index : Nat} (ty0 : Nat → FieldType) {ty : FieldType} {v : Int32} (hp : pI S kd a) (hc : vwCl[kd + 2]? = some (C9, T, N)) (hin : ∀ w ∈ u_ws C9 T N, w ∈ GW) (hty : ∀ k, k < N → parseFieldDescriptor (T k).2.2.1 = some (ty0 k)) (hnm : ∀ a, a < N → ∀ b, b < N → a ≠ b → (T a).2.1 ≠ (T b).2.1) (hkd : kd < 10) (hkN : k < N) (hlen : (fT kd).length = N) (hft : (fT kd)[k]? = some 0) (hfin : (T k).2.2.2 = false) (hd : parseFieldDescriptor (T k).2.2.1 = some ty) (hn : narrow ty (.int v) = .int v) (hfit : fits ty (.int v) = true) (hl : Cond.fieldLink own index (T k).1 (T k).2.1 (T k).2.2.1 ∈ GW) (hdg : decode cc pc = .ok (.putfield index, 3))
    (kk : ∀ (H : Heap) (locs : List Loc), PW G A s H locs S0 (sI S a k v) → W p l e R s m args below meth c H locs cells slots Q (F0 m (pc + 3) ls rest)) : W p l e R s m args below meth c H locs cells slots Q (F0 m pc ls (.int v :: .ref a :: rest)) := by
  obtain ⟨q0, hq0⟩ := wd_get (G := G) hp.1
  have hq := hq0
  rw [ce_ob hp hkd] at hq
  refine va_put (CF_x C) (CF_b C) (CF_t C) hin ty0 hty hnm (CF_o C) (CF_K C) P.1 P.2.1 P.2.2.1 q0 hq hc k hkN (CF_t C _ hl) (fun _ h => h) hfin hd hn hfit (by rw [fv_len, hlen]; exact hkN) hdg (fun H1 locs1 hP hD hS => ?_)
  rw [wd_set (T := sI S a k v) P.2.1 hp.1 hq0 rfl (ce_sI_ob hp hkd hft)] at hP hD
  exact kk H1 locs1 (PW_st P hP hD hS (wf_sI P.2.2.2.1) ext_sI)
/-- a number is written into a final field, in the constructor -/
theorem rpF_i (C : CF p l s m args meth c own cc nL G A) (hin2 : meth.name = "<init>") (P : PW G A s H locs S0 S) (kd k : Nat) {C9 : String} {T : u_T} {N index : Nat} (ty0 : Nat → FieldType) {ty : FieldType} {v : Int32} (hp : pI S kd a) (hc : vwCl[kd + 2]? = some (C9, T, N)) (hin : ∀ w ∈ u_ws C9 T N, w ∈ GW) (hty : ∀ k, k < N → parseFieldDescriptor (T k).2.2.1 = some (ty0 k)) (hnm : ∀ a, a < N → ∀ b, b < N → a ≠ b → (T a).2.1 ≠ (T b).2.1) (hkd : kd < 10) (hkN : k < N) (hlen : (fT kd).length = N) (hft : (fT kd)[k]? = some 0) (hfin : (T k).2.2.2 = true) (hdecl : (T k).1 = own) (hd : parseFieldDescriptor (T k).2.2.1 = some ty) (hn : narrow ty (.int v) = .int v) (hfit : fits ty (.int v) = true) (hl : Cond.fieldLink own index (T k).1 (T k).2.1 (T k).2.2.1 ∈ GW) (hdg : decode cc pc = .ok (.putfield index, 3))
    (kk : ∀ (H : Heap) (locs : List Loc), PW G A s H locs S0 (sI S a k v) → W p l e R s m args below meth c H locs cells slots Q (F0 m (pc + 3) ls rest)) : W p l e R s m args below meth c H locs cells slots Q (F0 m pc ls (.int v :: .ref a :: rest)) := by
  obtain ⟨q0, hq0⟩ := wd_get (G := G) hp.1
  have hq := hq0
  rw [ce_ob hp hkd] at hq
  refine va_putF (CF_x C) (CF_b C) (CF_t C) hin ty0 hty hnm (CF_o C) (CF_K C) P.1 P.2.1 P.2.2.1 q0 hq hc k hkN (CF_t C _ hl) (fun _ h => h) hfin hin2 hdecl hd hn hfit (by rw [fv_len, hlen]; exact hkN) hdg (fun H1 locs1 hP hD hS => ?_)
  rw [wd_set (T := sI S a k v) P.2.1 hp.1 hq0 rfl (ce_sI_ob hp hkd hft)] at hP hD
  exact kk H1 locs1 (PW_st P hP hD hS (wf_sI P.2.2.2.1) ext_sI)
/-- a reference is written into a final field, in the constructor -/
theorem rpF_r (C : CF p l s m args meth c own cc nL G A) (hin2 : meth.name = "<init>") (P : PW G A s H locs S0 S) (kd k : Nat) {C9 : String} {T : u_T} {N index b : Nat} (ty0 : Nat → FieldType) {ty : FieldType} (hp : pI S kd a) (hb2 : pI S (rT kd k) b) (hc : vwCl[kd + 2]? = some (C9, T, N)) (hin : ∀ w ∈ u_ws C9 T N, w ∈ GW) (hty : ∀ k, k < N → parseFieldDescriptor (T k).2.2.1 = some (ty0 k)) (hnm : ∀ a, a < N → ∀ b, b < N → a ≠ b → (T a).2.1 ≠ (T b).2.1) (hkd : kd < 10) (hkN : k < N) (hlen : (fT kd).length = N) (hft : (fT kd)[k]? = some 1) (hfin : (T k).2.2.2 = true) (hdecl : (T k).1 = own) (hd : parseFieldDescriptor (T k).2.2.1 = some ty) (hn : narrow ty (.ref b) = .ref b) (hfit : fits ty (.ref b) = true) (hl : Cond.fieldLink own index (T k).1 (T k).2.1 (T k).2.2.1 ∈ GW) (hdg : decode cc pc = .ok (.putfield index, 3))
    (kk : ∀ (H : Heap) (locs : List Loc), PW G A s H locs S0 (sR S a k (some b)) → W p l e R s m args below meth c H locs cells slots Q (F0 m (pc + 3) ls rest)) : W p l e R s m args below meth c H locs cells slots Q (F0 m pc ls (.ref b :: .ref a :: rest)) := by
  obtain ⟨q0, hq0⟩ := wd_get (G := G) hp.1
  have hq := hq0
  rw [ce_ob hp hkd] at hq
  refine va_putF (CF_x C) (CF_b C) (CF_t C) hin ty0 hty hnm (CF_o C) (CF_K C) P.1 P.2.1 P.2.2.1 q0 hq hc k hkN (CF_t C _ hl) (fun _ h => h) hfin hin2 hdecl hd hn hfit (by rw [fv_len, hlen]; exact hkN) hdg (fun H1 locs1 hP hD hS => ?_)
  have e := wd_set (T := sR S a k (some b)) P.2.1 hp.1 hq0 rfl (ce_sR_ob hp hkd hft)
  have e2 : (WD G S).set q0 (a, .inr (kd + 2, (fv S a (fT kd) 0).set k (.ref b))) = WD G (sR S a k (some b)) := e
  rw [e2] at hP hD
  exact kk H1 locs1 (PW_st P hP hD hS (wf_sR P.2.2.2.1 (by rw [hp.2]; exact pQ_s hb2)) ext_sR)
/-! arrays -/
theorem ra_i (C : CF p l s m args meth c own cc nL G A) (P : PW G A s H locs S0 S) (hp : pI S 12 a) {i : Int32} (hin : vp_in i (mN S a)) (hdg : decode cc pc = .ok (.iaload, 1))
    (kk : W p l e R s m args below meth c H locs cells slots Q (F0 m (pc + 1) ls (.int (mI S a i.toNatClampNeg) :: rest))) : W p l e R s m args below meth c H locs cells slots Q (F0 m pc ls (.int i :: .ref a :: rest)) := by
  obtain ⟨q0, hq⟩ := wd_get (G := G) hp.1
  rw [ce_ar (kd := 2) hp] at hq
  exact va_iald (CF_x C) (CF_b C) (CF_K C) P.1 q0 2 hq rfl hin hdg kk
theorem ra_z (C : CF p l s m args meth c own cc nL G A) (P : PW G A s H locs S0 S) (hp : pI S 13 a) {i : Int32} (hin : vp_in i (mN S a)) (hdg : decode cc pc = .ok (.baload, 1))
    (kk : W p l e R s m args below meth c H locs cells slots Q (F0 m (pc + 1) ls (.int (mI S a i.toNatClampNeg) :: rest))) : W p l e R s m args below meth c H locs cells slots Q (F0 m pc ls (.int i :: .ref a :: rest)) := by
  obtain ⟨q0, hq⟩ := wd_get (G := G) hp.1
  rw [ce_ar (kd := 3) hp] at hq
  exact va_zald (CF_x C) (CF_b C) (CF_K C) P.1 q0 3 hq rfl hin hdg kk
theorem ra_c (C : CF p l s m args meth c own cc nL G A) (P : PW G A s H locs S0 S) (hp : pI S 10 a) {i : Int32} (hin : vp_in i (mN S a)) (hdg : decode cc pc = .ok (.caload, 1))
    (kk : W p l e R s m args below meth c H locs cells slots Q (F0 m (pc + 1) ls (.int (mI S a i.toNatClampNeg) :: rest))) : W p l e R s m args below meth c H locs cells slots Q (F0 m pc ls (.int i :: .ref a :: rest)) := by
  obtain ⟨q0, hq⟩ := wd_get (G := G) hp.1
  rw [ce_ar (kd := 0) hp] at hq
  exact va_cald (CF_x C) (CF_b C) (CF_K C) P.1 q0 0 hq rfl hin hdg kk
theorem ra_f (C : CF p l s m args meth c own cc nL G A) (P : PW G A s H locs S0 S) (hp : pI S 11 a) {i : Int32} (hin : vp_in i (mN S a)) (hdg : decode cc pc = .ok (.faload, 1))
    (kk : W p l e R s m args below meth c H locs cells slots Q (F0 m (pc + 1) ls (.float (mF S a i.toNatClampNeg) :: rest))) : W p l e R s m args below meth c H locs cells slots Q (F0 m pc ls (.int i :: .ref a :: rest)) := by
  obtain ⟨q0, hq⟩ := wd_get (G := G) hp.1
  rw [ce_ar (kd := 1) hp] at hq
  exact va_fald (CF_x C) (CF_b C) (CF_K C) P.1 q0 1 hq rfl hin hdg kk
theorem ra_j (C : CF p l s m args meth c own cc nL G A) (P : PW G A s H locs S0 S) (hp : pI S 16 a) {i : Int32} (hin : vp_in i (mN S a)) (hdg : decode cc pc = .ok (.laload, 1))
    (kk : W p l e R s m args below meth c H locs cells slots Q (F0 m (pc + 1) ls (.long (mJ S a i.toNatClampNeg) :: rest))) : W p l e R s m args below meth c H locs cells slots Q (F0 m pc ls (.int i :: .ref a :: rest)) := by
  obtain ⟨q0, hq⟩ := wd_get (G := G) hp.1
  rw [ce_ar (kd := 6) hp] at hq
  exact va_lald (CF_x C) (CF_b C) (CF_K C) P.1 q0 6 hq rfl hin hdg kk
theorem ra_d (C : CF p l s m args meth c own cc nL G A) (P : PW G A s H locs S0 S) (hp : pI S 17 a) {i : Int32} (hin : vp_in i (mN S a)) (hdg : decode cc pc = .ok (.daload, 1))
    (kk : W p l e R s m args below meth c H locs cells slots Q (F0 m (pc + 1) ls (.double (mD S a i.toNatClampNeg) :: rest))) : W p l e R s m args below meth c H locs cells slots Q (F0 m pc ls (.int i :: .ref a :: rest)) := by
  obtain ⟨q0, hq⟩ := wd_get (G := G) hp.1
  rw [ce_ar (kd := 7) hp] at hq
  exact va_dald (CF_x C) (CF_b C) (CF_K C) P.1 q0 7 hq rfl hin hdg kk
/-- a reference out of an array (4: fights, 5: units) -/
theorem ra_a4 (C : CF p l s m args meth c own cc nL G A) (P : PW G A s H locs S0 S) (hp : pI S 14 a) {i : Int32} {b : Nat} (hin : vp_in i (mN S a)) (hr : mR S a i.toNatClampNeg = some b) (hdg : decode cc pc = .ok (.aaload, 1))
    (kk : W p l e R s m args below meth c H locs cells slots Q (F0 m (pc + 1) ls (.ref b :: rest))) : W p l e R s m args below meth c H locs cells slots Q (F0 m pc ls (.int i :: .ref a :: rest)) := by
  obtain ⟨q0, hq⟩ := wd_get (G := G) hp.1
  rw [ce_ar (kd := 4) hp] at hq
  exact va_aldq (CF_x C) (CF_b C) (CF_K C) P.1 q0 4 hq rfl hin hdg (by rw [hr]; exact kk)
theorem ra_a5 (C : CF p l s m args meth c own cc nL G A) (P : PW G A s H locs S0 S) (hp : pI S 15 a) {i : Int32} {b : Nat} (hin : vp_in i (mN S a)) (hr : mR S a i.toNatClampNeg = some b) (hdg : decode cc pc = .ok (.aaload, 1))
    (kk : W p l e R s m args below meth c H locs cells slots Q (F0 m (pc + 1) ls (.ref b :: rest))) : W p l e R s m args below meth c H locs cells slots Q (F0 m pc ls (.int i :: .ref a :: rest)) := by
  obtain ⟨q0, hq⟩ := wd_get (G := G) hp.1
  rw [ce_ar (kd := 5) hp] at hq
  exact va_aldq (CF_x C) (CF_b C) (CF_K C) P.1 q0 5 hq rfl hin hdg (by rw [hr]; exact kk)
theorem mI_sI_row {S : MS} {a k : Nat} {v : Int32} : mI (sI S a k v) a = upd (mI S a) k v := by
  show up2 (mI S) a k v a = _
  rw [up2_same]
  rfl
theorem ce_sI_ar {G : GP} {S : MS} {a k d : Nat} {v : Int32} (hp : pI S (d + 10) a) (x : va_E) (hx : aE G (sI S a k v) a d = x) : ∀ b, va_up (ce G S) a x b = ce G (sI S a k v) b := ce_up (fun b hb => ce_sI_o hb) ((ce_ar (S := sI S a k v) (pI_x ext_sI hp)).trans hx)
theorem rs_i (C : CF p l s m args meth c own cc nL G A) (P : PW G A s H locs S0 S) (hp : pI S 12 a) {i x : Int32} (hin : vp_in i (mN S a)) (hdg : decode cc pc = .ok (.iastore, 1))
    (kk : ∀ (H : Heap) (locs : List Loc), PW G A s H locs S0 (sI S a i.toNatClampNeg x) → W p l e R s m args below meth c H locs cells slots Q (F0 m (pc + 1) ls rest)) : W p l e R s m args below meth c H locs cells slots Q (F0 m pc ls (.int x :: .int i :: .ref a :: rest)) := by
  obtain ⟨q0, hq0⟩ := wd_get (G := G) hp.1
  have hq := hq0
  rw [ce_ar (kd := 2) hp] at hq
  refine va_iast (CF_x C) (CF_b C) (CF_K C) P.1 P.2.1 P.2.2.1 q0 2 hq rfl hin hdg (fun H1 locs1 hP hD hS => ?_)
  rw [wd_set (T := sI S a i.toNatClampNeg x) P.2.1 hp.1 hq0 rfl (ce_sI_ar (d := 2) hp _ (by simp only [aE, mI_sI_row]; rfl))] at hP hD
  exact kk H1 locs1 (PW_st P hP hD hS (wf_sI P.2.2.2.1) ext_sI)
theorem rs_z (C : CF p l s m args meth c own cc nL G A) (P : PW G A s H locs S0 S) (hp : pI S 13 a) {i x : Int32} (hin : vp_in i (mN S a)) (hnx : vp_nar .boolean x = x) (hdg : decode cc pc = .ok (.bastore, 1))
    (kk : ∀ (H : Heap) (locs : List Loc), PW G A s H locs S0 (sI S a i.toNatClampNeg x) → W p l e R s m args below meth c H locs cells slots Q (F0 m (pc + 1) ls rest)) : W p l e R s m args below meth c H locs cells slots Q (F0 m pc ls (.int x :: .int i :: .ref a :: rest)) := by
  obtain ⟨q0, hq0⟩ := wd_get (G := G) hp.1
  have hq := hq0
  rw [ce_ar (kd := 3) hp] at hq
  refine va_zast (CF_x C) (CF_b C) (CF_K C) P.1 P.2.1 P.2.2.1 q0 3 hq rfl hin hdg (fun H1 locs1 hP hD hS => ?_)
  rw [hnx, wd_set (T := sI S a i.toNatClampNeg x) P.2.1 hp.1 hq0 rfl (ce_sI_ar (d := 3) hp _ (by simp only [aE, mI_sI_row]; rfl))] at hP hD
  exact kk H1 locs1 (PW_st P hP hD hS (wf_sI P.2.2.2.1) ext_sI)
theorem rs_c (C : CF p l s m args meth c own cc nL G A) (P : PW G A s H locs S0 S) (hp : pI S 10 a) {i x : Int32} (hin : vp_in i (mN S a)) (hnx : vp_nar .char x = x) (hdg : decode cc pc = .ok (.castore, 1))
    (kk : ∀ (H : Heap) (locs : List Loc), PW G A s H locs S0 (sI S a i.toNatClampNeg x) → W p l e R s m args below meth c H locs cells slots Q (F0 m (pc + 1) ls rest)) : W p l e R s m args below meth c H locs cells slots Q (F0 m pc ls (.int x :: .int i :: .ref a :: rest)) := by
  obtain ⟨q0, hq0⟩ := wd_get (G := G) hp.1
  have hq := hq0
  rw [ce_ar (kd := 0) hp] at hq
  refine va_cast (CF_x C) (CF_b C) (CF_K C) P.1 P.2.1 P.2.2.1 q0 0 hq rfl hin hdg (fun H1 locs1 hP hD hS => ?_)
  rw [hnx, wd_set (T := sI S a i.toNatClampNeg x) P.2.1 hp.1 hq0 rfl (ce_sI_ar (d := 0) hp _ (by simp only [aE, mI_sI_row]; rfl))] at hP hD
  exact kk H1 locs1 (PW_st P hP hD hS (wf_sI P.2.2.2.1) ext_sI)
theorem rs_f (C : CF p l s m args meth c own cc nL G A) (P : PW G A s H locs S0 S) (hp : pI S 11 a) {i : Int32} {x : UInt32} (hin : vp_in i (mN S a)) (hdg : decode cc pc = .ok (.fastore, 1))
    (kk : ∀ (H : Heap) (locs : List Loc), PW G A s H locs S0 (sF S a i.toNatClampNeg x) → W p l e R s m args below meth c H locs cells slots Q (F0 m (pc + 1) ls rest)) : W p l e R s m args below meth c H locs cells slots Q (F0 m pc ls (.float x :: .int i :: .ref a :: rest)) := by
  obtain ⟨q0, hq0⟩ := wd_get (G := G) hp.1
  have hq := hq0
  rw [ce_ar (kd := 1) hp] at hq
  refine va_fast (CF_x C) (CF_b C) (CF_K C) P.1 P.2.1 P.2.2.1 q0 1 hq rfl hin hdg (fun H1 locs1 hP hD hS => ?_)
  rw [wd_set (T := sF S a i.toNatClampNeg x) P.2.1 hp.1 hq0 rfl (ce_up (fun b hb => ce_sF_o hb) ((ce_ar (kd := 1) (S := sF S a i.toNatClampNeg x) (pI_x ext_sF hp)).trans (by simp only [aE, show mF (sF S a i.toNatClampNeg x) a = vf_upd (mF S a) i.toNatClampNeg x from up2_same]; rfl)))] at hP hD
  exact kk H1 locs1 (PW_st P hP hD hS (wf_sF P.2.2.2.1) ext_sF)
theorem rs_j (C : CF p l s m args meth c own cc nL G A) (P : PW G A s H locs S0 S) (hp : pI S 16 a) {i : Int32} {x : Int64} (hin : vp_in i (mN S a)) (hdg : decode cc pc = .ok (.lastore, 1))
    (kk : ∀ (H : Heap) (locs : List Loc), PW G A s H locs S0 (sJ S a i.toNatClampNeg x) → W p l e R s m args below meth c H locs cells slots Q (F0 m (pc + 1) ls rest)) : W p l e R s m args below meth c H locs cells slots Q (F0 m pc ls (.long x :: .int i :: .ref a :: rest)) := by
  obtain ⟨q0, hq0⟩ := wd_get (G := G) hp.1
  have hq := hq0
  rw [ce_ar (kd := 6) hp] at hq
  refine va_last (CF_x C) (CF_b C) (CF_K C) P.1 P.2.1 P.2.2.1 q0 6 hq rfl hin hdg (fun H1 locs1 hP hD hS => ?_)
  rw [wd_set (T := sJ S a i.toNatClampNeg x) P.2.1 hp.1 hq0 rfl (ce_up (fun b hb => ce_sJ_o hb) ((ce_ar (kd := 6) (S := sJ S a i.toNatClampNeg x) (pI_x ext_sJ hp)).trans (by simp only [aE, show mJ (sJ S a i.toNatClampNeg x) a = vp_updL (mJ S a) i.toNatClampNeg x from up2_same]; rfl)))] at hP hD
  exact kk H1 locs1 (PW_st P hP hD hS (wf_sJ P.2.2.2.1) ext_sJ)
theorem rs_d (C : CF p l s m args meth c own cc nL G A) (P : PW G A s H locs S0 S) (hp : pI S 17 a) {i : Int32} {x : UInt64} (hin : vp_in i (mN S a)) (hdg : decode cc pc = .ok (.dastore, 1))
    (kk : ∀ (H : Heap) (locs : List Loc), PW G A s H locs S0 (sD S a i.toNatClampNeg x) → W p l e R s m args below meth c H locs cells slots Q (F0 m (pc + 1) ls rest)) : W p l e R s m args below meth c H locs cells slots Q (F0 m pc ls (.double x :: .int i :: .ref a :: rest)) := by
  obtain ⟨q0, hq0⟩ := wd_get (G := G) hp.1
  have hq := hq0
  rw [ce_ar (kd := 7) hp] at hq
  refine va_dast (CF_x C) (CF_b C) (CF_K C) P.1 P.2.1 P.2.2.1 q0 7 hq rfl hin hdg (fun H1 locs1 hP hD hS => ?_)
  rw [wd_set (T := sD S a i.toNatClampNeg x) P.2.1 hp.1 hq0 rfl (ce_up (fun b hb => ce_sD_o hb) ((ce_ar (kd := 7) (S := sD S a i.toNatClampNeg x) (pI_x ext_sD hp)).trans (by simp only [aE, show mD (sD S a i.toNatClampNeg x) a = vf_upd (mD S a) i.toNatClampNeg x from up2_same]; rfl)))] at hP hD
  exact kk H1 locs1 (PW_st P hP hD hS (wf_sD P.2.2.2.1) ext_sD)
end RW1
