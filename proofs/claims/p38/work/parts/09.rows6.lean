/-! the literal of the grid's signs, as the JDK's own methods see it -/
def SL (sa sv : Nat) (A : Nat → Prop) (U : State) (H : Heap) : Prop := va_O "java/lang/String" sa A U H ∧ va_OF "java/lang/String" "coder" "B" (.int 0) sa A U H ∧ va_OF "java/lang/String" "value" "[B" (.ref sv) sa A U H ∧ va_T .byte sv 5 (fun j => .int (sgB.getD j 0)) A U H
def sgI (x : Int32) : Int32 := sgB.getD x.toNatClampNeg 0
theorem SL_go {sa sv : Nat} {A B : Nat → Prop} {s U : State} {H : Heap} (h : SL sa sv A s s.heap) (hW : s.WarmedH U.vm) (hk : ∀ a : Nat, a < s.heap.size → ¬ A a → H[a]? = s.heap[a]?) (hAB : ∀ q, B q → A q) : SL sa sv B U H := by
  obtain ⟨g3, g4, g5, g6⟩ := h
  have hv := hW.alike
  exact ⟨((g3.kept hk).moved hv).narrow hAB, ((g4.kept hk).moved hv).narrow hAB, ((g5.kept hk).moved hv).narrow hAB, ((g6.kept hk).moved hv).narrow hAB⟩
theorem SL_bl {sa sv : Nat} {A : Nat → Prop} {u U : State} {H : Heap} (h : SL sa sv A u H) (hv : U.vm = u.vm) : SL sa sv A U H := by
  obtain ⟨g3, g4, g5, g6⟩ := h
  have ha : u.vm.Alike U.vm := by rw [hv]; exact Vm.Alike.refl u.vm
  exact ⟨g3.moved ha, g4.moved ha, g5.moved ha, g6.moved ha⟩
def PRS (G : GP) (S : MS) (sz sa sv : Nat) : State → Prop := fun U => PR G S sz U ∧ SL sa sv (FA G S sz) U U.heap
theorem PRS_bl {G : GP} {S : MS} {sz sa sv : Nat} {av : List Value} : FrameBlind (va_Pc av (PRS G S sz sa sv)) := by
  intro a U g mk h
  obtain ⟨h0, h1, h2⟩ := h
  exact ⟨h0, (PR_bl a U g mk ⟨h0, h1⟩).2, SL_bl h2 rfl⟩
theorem of_wF {l : Launch} {y : MethodName} {ws ws' : List Cond} {rm : Room} {Pc : Array Value → State → Prop} {Qc : Array Value → State → Outcome → State → Prop} {XC : String → State → State → Prop} {mc ms : Nat} {free : Addr → Prop} {cc : ByteArray} {maxL : Nat} {ret : Option FieldType}
    (hy : plainFor y = true) (hw : ws = Cond.code y cc maxL ret :: ws')
    (body : ∀ p e s m args below meth c s₁, BodyLoose p l y (headSpec ws rm) cc maxL ret e s m args below meth c s₁ → c.maxLocals = maxL → (∀ x ∈ c.exceptionTable.toList, False) → Pc args s →
      W p l e (headSpec ws rm).room s m args below meth c s.heap [] 0 0 (vx_MQ below Qc XC args s mc ms free) (entryFrame m args maxL)) : vx_Met l y ws rm Pc Qc XC mc ms free := by
  refine MetFree.of_bodySF (code := cc) (maxLocals := maxL) (ret := ret) hy ?_ ?_
  · intro args s m h hn
    obtain ⟨meth, c, h1, h2, h3, h4, h5, h6, -, -⟩ := Cond.code_spec hn (atoms_spec (ws := ws) h _ (by rw [hw]; exact List.mem_cons_self))
    exact ⟨meth, c, h1, h2, h3, h4, h5, h6⟩
  · intro p e s m args below meth c s₁ B hml hP _
    have hh0 : s₁.heap = s.heap := by rw [B.state]; rfl
    have ht : ∀ x ∈ c.exceptionTable.toList, False := by
      obtain ⟨meth9, c9, h1, h2, -, -, -, -, h7, -⟩ := Cond.code_spec B.named (atoms_spec (ws := ws) B.pre _ (by rw [hw]; exact List.mem_cons_self))
      cases Option.some.inj (h1.symm.trans B.method)
      cases Option.some.inj (h2.symm.trans (Stand.of_body B).code)
      intro x hx
      rw [Array.isEmpty_iff.mp h7] at hx
      cases hx
    obtain ⟨t, a1, o, b1, b2, b3⟩ := body p e s m args below meth c s₁ B hml ht hP s₁ hh0 (Stand.of_body B)
    exact ⟨t, o, a1, b1, b2, b3⟩
section RW6
variable {p : Program} {l : Launch} {e : Env} {R : Room} {s : State} {m : MethodId} {args : Array Value} {below : List Frame} {meth : Method} {c : Code} {H : Heap} {locs : List Loc} {cells slots : Nat} {Q : State → Prop}
variable {own : String} {cc : ByteArray} {nL : Nat} {G : GP} {A : Nat → Prop} {S0 S : MS} {pc : Nat} {ls : Array Slot} {rest st : List Value} {a sa sv : Nat}
theorem PRS_of (C : CF p l s m args meth c own cc nL G A) (P : PW G A s H locs S0 S) (hs : SL sa sv A s s.heap) {av : List Value} : ∀ U : State, U.heap = H → s.WarmedH U.vm → va_Pc av (PRS G S H.size sa sv) av.toArray U :=
  fun U hU hW => ⟨rfl, (PR_of C P (av := av) U hU hW).2, by rw [hU]; exact SL_go hs hW P.2.2.1.2.1 (FA_in C P)⟩
theorem st_j {y : MethodName} {maxL mc ms sz : Nat} {ret : Option FieldType} {rm : Room} {av : List Value} {Qc : Array Value → State → Outcome → State → Prop} {QX : String → MS → Prop} (hy : plainName y.cls = true) (hst : l.stackTraces = false)
    (body : ∀ (p : Program) (e : Env) (s : State) (m : MethodId) (below : List Frame) (meth : Method) (c : Code), CF p l s m av.toArray meth c y.cls cc maxL G (FA G S sz) → meth.sig.returnType = ret → (∀ x ∈ c.exceptionTable.toList, False) → SL sa sv (FA G S sz) s s.heap → PW G (FA G S sz) s s.heap [] S S →
      W p l e rm s m av.toArray below meth c s.heap [] 0 0 (vx_MQ below Qc (XX G S (FA G S sz) QX) av.toArray s mc ms (FA G S sz)) (entryFrame m av.toArray maxL)) : vx_Met l y (.code y cc maxL ret :: GW) rm (va_Pc av (PRS G S sz sa sv)) Qc (XX G S (FA G S sz) QX) mc ms (FA G S sz) := by
  refine vx_ofW hy rfl ?_
  intro p e s m args below meth c s₁ B hml hex hv
  obtain ⟨rfl, ⟨h0, h1, h2, h3, h4, h5⟩, hs⟩ := hv
  have hts := atoms_spec (ws := Cond.code y cc maxL ret :: GW) B.pre
  refine body p e s m below meth c ⟨B.exec, B.bytes, hml, findClass_of_methodNamed B.named, fun w hw => hts w (List.mem_cons_of_mem _ hw), h2, h4, fun q hq => Or.inr (by rw [← h0]; exact hq), B.notSynchronized, hst⟩ B.returns hex hs ⟨h1, h3.self, va_S.rf, h5, ext_rf⟩
theorem st_f {y : MethodName} {maxL mc ms sz : Nat} {ret : Option FieldType} {rm : Room} {av : List Value} {Qc : Array Value → State → Outcome → State → Prop} {QX : String → MS → Prop} (hy : plainFor y = true) (hst : l.stackTraces = false)
    (body : ∀ (p : Program) (e : Env) (s : State) (m : MethodId) (below : List Frame) (meth : Method) (c : Code), CF p l s m av.toArray meth c y.cls cc maxL G (FA G S sz) → meth.sig.returnType = ret → meth.name = y.name → (∀ x ∈ c.exceptionTable.toList, False) → PW G (FA G S sz) s s.heap [] S S →
      W p l e rm s m av.toArray below meth c s.heap [] 0 0 (vx_MQ below Qc (XX G S (FA G S sz) QX) av.toArray s mc ms (FA G S sz)) (entryFrame m av.toArray maxL)) : vx_Met l y (.code y cc maxL ret :: GW) rm (va_Pc av (PR G S sz)) Qc (XX G S (FA G S sz) QX) mc ms (FA G S sz) := by
  refine of_wF hy rfl ?_
  intro p e s m args below meth c s₁ B hml hex hv
  obtain ⟨rfl, h0, h1, h2, h3, h4, h5⟩ := hv
  have hts := atoms_spec (ws := Cond.code y cc maxL ret :: GW) B.pre
  refine body p e s m below meth c ⟨B.exec, B.bytes, hml, findClass_of_methodNamed B.named, fun w hw => hts w (List.mem_cons_of_mem _ hw), h2, h4, fun q hq => Or.inr (by rw [← h0]; exact hq), B.notSynchronized, hst⟩ B.returns (name_of_methodNamed B.named B.method).1 hex ⟨h1, h3.self, va_S.rf, h5, ext_rf⟩
variable {y : MethodName} {bytes : ByteArray} {maxL mc1 ms1 n index : Nat} {ret : Option FieldType} {rm : Room} {As : List Value} {Qc : Array Value → State → Outcome → State → Prop} {QX1 : String → MS → Prop}
theorem run_VJ (C : CF p l s m args meth c own cc nL G A) (P : PW G A s H locs S0 S) (hsz : ls.size = nL) (hs : SL sa sv A s s.heap)
    (hM : vx_Met l y (.code y bytes maxL ret :: GW) rm (va_Pc (.ref sa :: As) (PRS G S H.size sa sv)) Qc (XX G S (FA G S H.size) QX1) mc1 ms1 (FA G S H.size))
    (h1 : Cond.methodLink own index y ∈ GW) (h2 : Cond.instanceMethod y ∈ GW) (h3 : Cond.selects "java/lang/String" y y ∈ GW) (h4 : Cond.initialized "java/lang/String" ∈ GW) (h5 : Cond.code y bytes maxL ret ∈ GW)
    (hd : y.cls = "java/lang/String" ∧ y.cls ≠ "java/lang/invoke/MethodHandle" ∧ y.cls ≠ "java/lang/invoke/VarHandle" ∧ (parseMethodDescriptor y.desc).map (fun d => d.parameters.length) = some n) (hR : rm.frames + 1 ≤ R.frames ∧ 8 + (maxL + 11) + rm.locals ≤ R.locals) (hrc : rm.cells = mc1) (hrs : rm.slots = ms1)
    (hst : st = As.reverse ++ .ref sa :: rest) (hn : As.length = n) (hW : (rest.map fun v => v.category).sum ≤ 8) (hdg : decode cc pc = .ok (.invokevirtual index, 3)) (hf : cells + mc1 ≤ R.cells ∧ slots + ms1 ≤ R.slots) :
    vx_Run p l e R s m args below meth c H locs cells slots mc1 ms1 (F0 m pc ls st) rest (Qc (Value.ref sa :: As).toArray) (XX G S (FA G S H.size) QX1) (FA G S H.size) := by
  obtain ⟨cell, q1, q2, q3, -⟩ := hs.1.kept P.2.2.1.2.1
  exact vx_runV ⟨CF_x C, CF_b C, CF_m C, CF_o C, CF_t C⟩ hM (cwV n (CF_t C) (gi_V h1 h2 h3 h4 h5) rfl hrc hrs hd hR) ⟨PRS_bl, ⟨cell, q1, q2, q3⟩, PRS_of C P hs⟩ rfl hn hsz hst (lv_room hW) hdg hf
theorem run_SJ (C : CF p l s m args meth c own cc nL G A) (P : PW G A s H locs S0 S) (hsz : ls.size = nL) (hs : SL sa sv A s s.heap)
    (hM : vx_Met l y (.code y bytes maxL ret :: GW) rm (va_Pc As (PRS G S H.size sa sv)) Qc (XX G S (FA G S H.size) QX1) mc1 ms1 (FA G S H.size))
    (h1 : Cond.methodLink own index y ∈ GW) (h2 : Cond.static y ∈ GW) (h4 : Cond.initialized y.cls ∈ GW) (h5 : Cond.code y bytes maxL ret ∈ GW)
    (hd : y.cls ≠ "java/lang/invoke/MethodHandle" ∧ y.cls ≠ "java/lang/invoke/VarHandle" ∧ (parseMethodDescriptor y.desc).map (fun d => d.parameters.length) = some n) (hR : rm.frames + 1 ≤ R.frames ∧ 8 + (maxL + 11) + rm.locals ≤ R.locals) (hrc : rm.cells = mc1) (hrs : rm.slots = ms1)
    (hst : st = As.reverse ++ rest) (hn : As.length = n) (hW : (rest.map fun v => v.category).sum ≤ 8) (hdg : decode cc pc = .ok (.invokestatic index, 3)) (hf : cells + mc1 ≤ R.cells ∧ slots + ms1 ≤ R.slots) :
    vx_Run p l e R s m args below meth c H locs cells slots mc1 ms1 (F0 m pc ls st) rest (Qc As.toArray) (XX G S (FA G S H.size) QX1) (FA G S H.size) :=
  vx_runS ⟨CF_x C, CF_b C, CF_m C, CF_o C, CF_t C⟩ hM (va_cwS n (CF_t C) (gi_S h1 h2 h4 h5) rfl hrc hrs hd hR) ⟨PRS_bl, PRS_of C P hs⟩ rfl hn hsz hst (lv_room hW) hdg hf
theorem rq_aload_n (hexec : p.tables.exec = Jvm.exec) (hb : c.code = cc) {k : Fin 4} {i : Nat} {r : Option Nat} (hdg : decode cc pc = .ok (.aload_n k, 1)) (hi : (k : Nat) = i) (hl : ls[i]? = some (.val (va_rf r))) (kk : W p l e R s m args below meth c H locs cells slots Q (F0 m (pc + 1) ls (va_rf r :: rest))) : W p l e R s m args below meth c H locs cells slots Q (F0 m pc ls rest) := by
  cases r with
  | none => exact lv_aload_nN hexec hb hdg hi hl kk
  | some x => exact lv_aload_n hexec hb hdg hi hl kk
/-- a float constant by a wide index -/
theorem rf_ldcw (hexec : p.tables.exec = Jvm.exec) (hb : c.code = cc) {index : Nat} {v : UInt32} (hown : s.vm.findClass own = some m.cls) (hconst : (Jvm.Cond.constantFloat own index v).before args s = true) (hdg : decode cc pc = .ok (.ldc_w index, 3)) (k : W p l e R s m args below meth c H locs cells slots Q (F0 m (pc + 3) ls (.float v :: rest))) : W p l e R s m args below meth c H locs cells slots Q (F0 m pc ls rest) := by
  intro T hT X
  obtain ⟨t, a, b⟩ := k T hT X
  obtain ⟨k, cf, hk, hcf, hcp⟩ := Cond.constantFloat_spec hown hconst
  obtain ⟨k', hk', he⟩ := X.warmed.alike.2.2 _ _ hk
  refine ⟨t, ?_, b⟩
  have hdg' : decode c.code pc = .ok (.ldc_w index, 3) := by rw [hb]; exact hdg
  have key : ∀ target, Steps p.tables e below (T.setTop { (F0 m pc ls rest) with pc := pc + 3, stack := .float v :: rest }) target → Steps p.tables e below (T.setTop (F0 m pc ls rest)) target := by
    intro target hrest
    jvm_step X.here [hexec, hdg', ldc_w.wp_float (s := T) (f := F0 m pc ls rest) X.here.top hk' (by rw [he]; exact hcf) hcp]
    exact hrest
  exact key t a
end RW6
