section RW5
variable {p : Program} {l : Launch} {e : Env} {R : Room} {s : State} {m : MethodId} {args : Array Value} {below : List Frame} {meth : Method} {c : Code} {H : Heap} {locs : List Loc} {cells slots : Nat} {Q : State → Prop}
variable {own : String} {cc : ByteArray} {nL : Nat} {G : GP} {A : Nat → Prop} {S0 S : MS} {pc : Nat} {ls : Array Slot} {rest st : List Value} {a : Nat}
theorem CF_c (C : CF p l s m args meth c own cc nL G A) {E F : String} (hE : E ∈ sExc) (hF : F ∈ sExc) (h : E ≠ F) : va_Nc E F s := (CF_S C).2.2.2.2.2.2.2.2.2.2.2 E hE F hF h
theorem CF_y (C : CF p l s m args meth c own cc nL G A) {E : String} (hE : E ∈ sExc) : (Cond.castable E E).before args s = true := va_Nw.use rfl ((CF_S C).2.2.2.2.1 E hE)
/-- a method with a table of its own: its start -/
theorem st_w {y : MethodName} {maxL mc ms sz : Nat} {ret : Option FieldType} {rm : Room} {av : List Value} {hh : List (Nat × Nat × Nat × Nat)} {Qc : Array Value → State → Outcome → State → Prop} {QX : String → MS → Prop} (hy : plainName y.cls = true) (hst : l.stackTraces = false)
    (body : ∀ (p : Program) (e : Env) (s : State) (m : MethodId) (below : List Frame) (meth : Method) (c : Code), CF p l s m av.toArray meth c y.cls cc maxL G (FA G S sz) → meth.sig.returnType = ret → c.exceptionTable.toList = tableOf hh → PW G (FA G S sz) s s.heap [] S S →
      W p l e rm s m av.toArray below meth c s.heap [] 0 0 (vx_MQ below Qc (XX G S (FA G S sz) QX) av.toArray s mc ms (FA G S sz)) (entryFrame m av.toArray maxL)) : vx_Met l y (.codeWith y cc maxL ret hh :: GW) rm (va_Pc av (PR G S sz)) Qc (XX G S (FA G S sz) QX) mc ms (FA G S sz) := by
  refine vx_ofWH hy rfl ?_
  intro p e s m args below meth c s₁ B hml hv
  obtain ⟨rfl, h0, h1, h2, h3, h4, h5⟩ := hv
  have hts := atoms_spec (ws := Cond.codeWith y cc maxL ret hh :: GW) B.pre
  refine body p e s m below meth c ⟨B.exec, B.bytes, hml, findClass_of_methodNamed B.named, fun w hw => hts w (List.mem_cons_of_mem _ hw), h2, h4, fun q hq => Or.inr (by rw [← h0]; exact hq), B.notSynchronized, hst⟩ B.returns (vx_table (x := y) B (hts _ List.mem_cons_self)) ⟨h1, h3.self, va_S.rf, h5, ext_rf⟩
variable {y : MethodName} {bytes : ByteArray} {maxL mc1 ms1 n index : Nat} {ret : Option FieldType} {rm : Room} {As : List Value} {Qc : Array Value → State → Outcome → State → Prop} {QX1 : String → MS → Prop} {hh : List (Nat × Nat × Nat × Nat)}
theorem gi_SW (h1 : Cond.methodLink own index y ∈ GW) (h2 : Cond.static y ∈ GW) (h4 : Cond.initialized y.cls ∈ GW) (h5 : Cond.codeWith y bytes maxL ret hh ∈ GW) : GoodIn GW (va_wsS own index y (.codeWith y bytes maxL ret hh :: GW)) := by
  refine gw_in0 ?_
  unfold va_wsS
  simp only [List.cons_append, List.nil_append]
  exact gw_c h1 (gw_c h2 (gw_c h4 (gw_c h5 gw_s)))
theorem run_SX (C : CF p l s m args meth c own cc nL G A) (P : PW G A s H locs S0 S) (hsz : ls.size = nL)
    (hM : vx_Met l y (.codeWith y bytes maxL ret hh :: GW) rm (va_Pc As (PR G S H.size)) Qc (XX G S (FA G S H.size) QX1) mc1 ms1 (FA G S H.size))
    (h1 : Cond.methodLink own index y ∈ GW) (h2 : Cond.static y ∈ GW) (h4 : Cond.initialized y.cls ∈ GW) (h5 : Cond.codeWith y bytes maxL ret hh ∈ GW)
    (hd : y.cls ≠ "java/lang/invoke/MethodHandle" ∧ y.cls ≠ "java/lang/invoke/VarHandle" ∧ (parseMethodDescriptor y.desc).map (fun d => d.parameters.length) = some n) (hR : rm.frames + 1 ≤ R.frames ∧ 8 + (maxL + 11) + rm.locals ≤ R.locals) (hrc : rm.cells = mc1) (hrs : rm.slots = ms1)
    (hst : st = As.reverse ++ rest) (hn : As.length = n) (hW : (rest.map fun v => v.category).sum ≤ 8) (hdg : decode cc pc = .ok (.invokestatic index, 3)) (hf : cells + mc1 ≤ R.cells ∧ slots + ms1 ≤ R.slots) :
    vx_Run p l e R s m args below meth c H locs cells slots mc1 ms1 (F0 m pc ls st) rest (Qc As.toArray) (XX G S (FA G S H.size) QX1) (FA G S H.size) :=
  vx_runSX ⟨CF_x C, CF_b C, CF_m C, CF_o C, CF_t C⟩ hM (vx_cwSW n (CF_t C) (gi_SW h1 h2 h4 h5) rfl hrc hrs hd hR) ⟨PR_bl, PR_of C P⟩ rfl hn hsz hst (lv_room hW) hdg hf
theorem kx_no {g : JFrame} : KX p l e R s m args below meth c G A S0 S cells slots Q g (fun _ _ => False) := fun _ _ _ _ _ _ _ _ h _ _ _ => h.elim
end RW5
