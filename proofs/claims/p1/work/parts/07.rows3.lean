def xbad (E : String) : List Cond := [Cond.castable E E, .declares (Bundle.initS "java/lang/RuntimeException"), .declares (Bundle.initS "java/lang/Exception"), .declares (Bundle.initS Bundle.tN)]
section RW3
variable {p : Program} {l : Launch} {e : Env} {R : Room} {s : State} {m : MethodId} {args : Array Value} {below : List Frame} {meth : Method} {c : Code} {H : Heap} {locs : List Loc} {cells slots : Nat} {Q : State → Prop}
variable {own : String} {cc : ByteArray} {nL : Nat} {G : GP} {A : Nat → Prop} {S0 S : MS} {pc : Nat} {ls : Array Slot} {rest st : List Value} {a : Nat}
theorem FA_in (C : CF p l s m args meth c own cc nL G A) (P : PW G A s H locs S0 S) : ∀ q, FA G S H.size q → A q := by
  intro q h
  rcases h with ⟨k, x, hk⟩ | h
  · exact P.2.1.2 k (q, x) hk
  · exact CF_A C q (Nat.le_trans P.2.2.1.1 h)
theorem PR_of (C : CF p l s m args meth c own cc nL G A) (P : PW G A s H locs S0 S) {av : List Value} : ∀ U : State, U.heap = H → s.WarmedH U.vm → va_Pc av (PR G S H.size) av.toArray U :=
  fun U hU hW => ⟨rfl, by rw [hU], by rw [hU]; exact P.1, va_K.moved hW.alike (CF_K C), P.2.1.weaken (fun _ _ _ _ => trivial), by rw [hU]; exact SF_go (CF_S C) hW P.2.2.1.2.1 (FA_in C P), P.2.2.2.1⟩
variable {y : MethodName} {bytes : ByteArray} {maxL mc1 ms1 n index : Nat} {ret : Option FieldType} {rm : Room} {As : List Value} {Qc : Array Value → State → Outcome → State → Prop} {QX1 : String → MS → Prop}
theorem run_V (C : CF p l s m args meth c own cc nL G A) (P : PW G A s H locs S0 S) (hsz : ls.size = nL) {kd b : Nat} {q : vw_C}
    (hM : vx_Met l y (.code y bytes maxL ret :: GW) rm (va_Pc (.ref b :: As) (PR G S H.size)) Qc (XX G S (FA G S H.size) QX1) mc1 ms1 (FA G S H.size)) (hp : pI S kd b) (hkd : kd < 10) (hc : vwCl[kd + 2]? = some q)
    (h1 : Cond.methodLink own index y ∈ GW) (h2 : Cond.instanceMethod y ∈ GW) (h3 : Cond.selects q.1 y y ∈ GW) (h4 : Cond.initialized q.1 ∈ GW) (h5 : Cond.code y bytes maxL ret ∈ GW)
    (hd : y.cls = q.1 ∧ y.cls ≠ "java/lang/invoke/MethodHandle" ∧ y.cls ≠ "java/lang/invoke/VarHandle" ∧ (parseMethodDescriptor y.desc).map (fun d => d.parameters.length) = some n) (hR : rm.frames + 1 ≤ R.frames ∧ 8 + (maxL + 11) + rm.locals ≤ R.locals) (hrc : rm.cells = mc1) (hrs : rm.slots = ms1)
    (hst : st = As.reverse ++ .ref b :: rest) (hn : As.length = n) (hW : (rest.map fun v => v.category).sum ≤ 8) (hdg : decode cc pc = .ok (.invokevirtual index, 3)) (hf : cells + mc1 ≤ R.cells ∧ slots + ms1 ≤ R.slots) :
    vx_Run p l e R s m args below meth c H locs cells slots mc1 ms1 (F0 m pc ls st) rest (Qc (Value.ref b :: As).toArray) (XX G S (FA G S H.size) QX1) (FA G S H.size) := by
  obtain ⟨q0, hq⟩ := wd_get (G := G) hp.1
  rw [ce_ob hp hkd] at hq
  exact vx_runV ⟨CF_x C, CF_b C, CF_m C, CF_o C, CF_t C⟩ hM (cwV n (CF_t C) (gi_V h1 h2 h3 h4 h5) rfl hrc hrs hd hR) ⟨PR_bl, va_recv (CF_K C) P.1 hc hq, PR_of C P⟩ rfl hn hsz hst (lv_room hW) hdg hf
theorem run_S (C : CF p l s m args meth c own cc nL G A) (P : PW G A s H locs S0 S) (hsz : ls.size = nL)
    (hM : vx_Met l y (.code y bytes maxL ret :: GW) rm (va_Pc As (PR G S H.size)) Qc (XX G S (FA G S H.size) QX1) mc1 ms1 (FA G S H.size))
    (h1 : Cond.methodLink own index y ∈ GW) (h2 : Cond.static y ∈ GW) (h4 : Cond.initialized y.cls ∈ GW) (h5 : Cond.code y bytes maxL ret ∈ GW)
    (hd : y.cls ≠ "java/lang/invoke/MethodHandle" ∧ y.cls ≠ "java/lang/invoke/VarHandle" ∧ (parseMethodDescriptor y.desc).map (fun d => d.parameters.length) = some n) (hR : rm.frames + 1 ≤ R.frames ∧ 8 + (maxL + 11) + rm.locals ≤ R.locals) (hrc : rm.cells = mc1) (hrs : rm.slots = ms1)
    (hst : st = As.reverse ++ rest) (hn : As.length = n) (hW : (rest.map fun v => v.category).sum ≤ 8) (hdg : decode cc pc = .ok (.invokestatic index, 3)) (hf : cells + mc1 ≤ R.cells ∧ slots + ms1 ≤ R.slots) :
    vx_Run p l e R s m args below meth c H locs cells slots mc1 ms1 (F0 m pc ls st) rest (Qc As.toArray) (XX G S (FA G S H.size) QX1) (FA G S H.size) :=
  vx_runS ⟨CF_x C, CF_b C, CF_m C, CF_o C, CF_t C⟩ hM (va_cwS n (CF_t C) (gi_S h1 h2 h4 h5) rfl hrc hrs hd hR) ⟨PR_bl, PR_of C P⟩ rfl hn hsz hst (lv_room hW) hdg hf
theorem run_I (C : CF p l s m args meth c own cc nL G A) (P : PW G A s H locs S0 S) (hsz : ls.size = nL) {b : Nat}
    (hM : vx_Met l y (.code y bytes maxL none :: GW) rm (va_Pc (.ref b :: As) (PR G S H.size)) Qc (XX G S (FA G S H.size) QX1) mc1 ms1 (FA G S H.size))
    (h1 : Cond.methodLink own index y ∈ GW) (h2 : Cond.instanceMethod y ∈ GW) (h4 : Cond.initialized y.cls ∈ GW) (h5 : Cond.code y bytes maxL none ∈ GW) (hy1 : y.name = "<init>")
    (hd : y.cls ≠ "java/lang/invoke/MethodHandle" ∧ y.cls ≠ "java/lang/invoke/VarHandle" ∧ (parseMethodDescriptor y.desc).map (fun d => d.parameters.length) = some n) (hR : rm.frames + 1 ≤ R.frames ∧ 8 + (maxL + 11) + rm.locals ≤ R.locals) (hrc : rm.cells = mc1) (hrs : rm.slots = ms1)
    (hst : st = As.reverse ++ .ref b :: rest) (hn : As.length = n) (hW : (rest.map fun v => v.category).sum ≤ 8) (hdg : decode cc pc = .ok (.invokespecial index, 3)) (hf : cells + mc1 ≤ R.cells ∧ slots + ms1 ≤ R.slots) :
    vx_Run p l e R s m args below meth c H locs cells slots mc1 ms1 (F0 m pc ls st) rest (Qc (Value.ref b :: As).toArray) (XX G S (FA G S H.size) QX1) (FA G S H.size) :=
  vx_runI ⟨CF_x C, CF_b C, CF_m C, CF_o C, CF_t C⟩ hM (cwI n (CF_t C) (gi_I h5) rfl hrc hrs (CF_t C _ h4) (CF_t C _ h1) (CF_t C _ h2) hy1 hd hR) ⟨PR_bl, PR_of C P⟩ rfl hn hsz hst (lv_room hW) hdg hf
theorem PW_aw (C : CF p l s m args meth c own cc nL G A) (P : PW G A s H locs S0 S) {S1 : MS} {t : State} {H1 : Heap} {locs1 : List Loc} (ht : t.heap = H1) (hB : AW G S S1 (FA G S H.size) t) (hS : va_S A s.heap H1 locs1) : PW G A s H1 locs1 S0 S1 ∧ ext S S1 := by
  obtain ⟨g1, g2, g3, g4, g5⟩ := hB
  rw [ht] at g1
  exact ⟨⟨g1, g3.weaken (fun _ q _ h => FA_in C P q.1 h), hS, g4, ext_tr P.2.2.2.2 g5⟩, g5⟩
/-- where a call throws: what its caller goes on with -/
def KX (p : Program) (l : Launch) (e : Env) (R : Room) (s : State) (m : MethodId) (args : Array Value) (below : List Frame) (meth : Method) (c : Code) (G : GP) (A : Nat → Prop) (S0 S : MS) (cells slots : Nat) (Q : State → Prop) (g : JFrame) (QX1 : String → MS → Prop) : Prop :=
  ∀ (E : String) (S1 : MS) (H : Heap) (locs : List Loc) (ce9 : Cell) (q9 : Addr), PW G A s H locs S0 S1 → ext S S1 → QX1 E S1 → H[q9]? = some ce9 → ce9.vm = .none → s.vm.findClass E = some ce9.cls → vx_W p l e R s m args below meth c H locs cells slots Q g q9
theorem kx_of (C : CF p l s m args meth c own cc nL G A) (P : PW G A s H locs S0 S) {g : JFrame} (kx : KX p l e R s m args below meth c G A S0 S (cells + mc1) (slots + ms1) Q g QX1) :
    ∀ (E : String) (ce : Cell) (q9 : Addr) (u : MS) (t : State) (H1 : Heap) (locs1 : List Loc), t.heap = H1 → s.vm.Alike t.vm → True → (QX1 E u ∧ AW G S u (FA G S H.size) t) → H.size ≤ H1.size → (∀ q : Nat, q < H.size → ¬ FA G S H.size q → H1[q]? = H[q]?) → va_S A s.heap H1 locs1 → H1[q9]? = some ce → ce.vm = .none → s.vm.findClass E = some ce.cls → vx_W p l e R s m args below meth c H1 locs1 (cells + mc1) (slots + ms1) Q g q9 := by
  intro E ce q9 u t H1 locs1 ht _ _ hB _ _ hS h1 h2 h3
  obtain ⟨P1, hx⟩ := PW_aw C P ht hB.2 hS
  exact kx E u H1 locs1 ce q9 P1 hx hB.1 h1 h2 h3
theorem cl_i (C : CF p l s m args meth c own cc nL G A) (P : PW G A s H locs S0 S) {Q1 : Int32 → MS → Prop} {aa : Array Value} (hr : vx_Run p l e R s m args below meth c H locs cells slots mc1 ms1 (F0 m pc ls st) rest (QI G S (FA G S H.size) Q1 aa) (XX G S (FA G S H.size) QX1) (FA G S H.size))
    (kx : KX p l e R s m args below meth c G A S0 S (cells + mc1) (slots + ms1) Q (F0 m pc ls rest) QX1)
    (kk : ∀ (r : Int32) (S1 : MS) (H : Heap) (locs : List Loc), PW G A s H locs S0 S1 → ext S S1 → Q1 r S1 → W p l e R s m args below meth c H locs (cells + mc1) (slots + ms1) Q (F0 m (pc + 3) ls (.int r :: rest))) : W p l e R s m args below meth c H locs cells slots Q (F0 m pc ls st) :=
  vx_calli hr P.2.2.1 (fun q _ h => FA_in C P q h) (FA_in C P) (fun q _ h => FA_in C P q h) (kx_of C P kx) (fun r u t H1 locs1 ht _ hw hB _ _ hS => (fun z => kk r u H1 locs1 z.1 z.2 hw) (PW_aw C P ht hB hS))
theorem cl_v (C : CF p l s m args meth c own cc nL G A) (P : PW G A s H locs S0 S) {Q1 : MS → Prop} {aa : Array Value} (hr : vx_Run p l e R s m args below meth c H locs cells slots mc1 ms1 (F0 m pc ls st) rest (QV G S (FA G S H.size) Q1 aa) (XX G S (FA G S H.size) QX1) (FA G S H.size))
    (kx : KX p l e R s m args below meth c G A S0 S (cells + mc1) (slots + ms1) Q (F0 m pc ls rest) QX1)
    (kk : ∀ (S1 : MS) (H : Heap) (locs : List Loc), PW G A s H locs S0 S1 → ext S S1 → Q1 S1 → W p l e R s m args below meth c H locs (cells + mc1) (slots + ms1) Q (F0 m (pc + 3) ls rest)) : W p l e R s m args below meth c H locs cells slots Q (F0 m pc ls st) :=
  vx_callv hr P.2.2.1 (fun q _ h => FA_in C P q h) (FA_in C P) (fun q _ h => FA_in C P q h) (kx_of C P kx) (fun u t H1 locs1 ht _ hw hB _ _ hS => (fun z => kk u H1 locs1 z.1 z.2 hw) (PW_aw C P ht hB hS))
theorem cl_f (C : CF p l s m args meth c own cc nL G A) (P : PW G A s H locs S0 S) {Q1 : UInt32 → MS → Prop} {aa : Array Value} (hr : vx_Run p l e R s m args below meth c H locs cells slots mc1 ms1 (F0 m pc ls st) rest (QF G S (FA G S H.size) Q1 aa) (XX G S (FA G S H.size) QX1) (FA G S H.size))
    (kx : KX p l e R s m args below meth c G A S0 S (cells + mc1) (slots + ms1) Q (F0 m pc ls rest) QX1)
    (kk : ∀ (r : UInt32) (S1 : MS) (H : Heap) (locs : List Loc), PW G A s H locs S0 S1 → ext S S1 → Q1 r S1 → W p l e R s m args below meth c H locs (cells + mc1) (slots + ms1) Q (F0 m (pc + 3) ls (.float r :: rest))) : W p l e R s m args below meth c H locs cells slots Q (F0 m pc ls st) :=
  vx_callf hr P.2.2.1 (fun q _ h => FA_in C P q h) (FA_in C P) (fun q _ h => FA_in C P q h) (kx_of C P kx) (fun r u t H1 locs1 ht _ hw hB _ _ hS => (fun z => kk r u H1 locs1 z.1 z.2 hw) (PW_aw C P ht hB hS))
theorem cl_d (C : CF p l s m args meth c own cc nL G A) (P : PW G A s H locs S0 S) {Q1 : UInt64 → MS → Prop} {aa : Array Value} (hr : vx_Run p l e R s m args below meth c H locs cells slots mc1 ms1 (F0 m pc ls st) rest (QD G S (FA G S H.size) Q1 aa) (XX G S (FA G S H.size) QX1) (FA G S H.size))
    (kx : KX p l e R s m args below meth c G A S0 S (cells + mc1) (slots + ms1) Q (F0 m pc ls rest) QX1)
    (kk : ∀ (r : UInt64) (S1 : MS) (H : Heap) (locs : List Loc), PW G A s H locs S0 S1 → ext S S1 → Q1 r S1 → W p l e R s m args below meth c H locs (cells + mc1) (slots + ms1) Q (F0 m (pc + 3) ls (.double r :: rest))) : W p l e R s m args below meth c H locs cells slots Q (F0 m pc ls st) :=
  vx_calld hr P.2.2.1 (fun q _ h => FA_in C P q h) (FA_in C P) (fun q _ h => FA_in C P q h) (kx_of C P kx) (fun r u t H1 locs1 ht _ hw hB _ _ hS => (fun z => kk r u H1 locs1 z.1 z.2 hw) (PW_aw C P ht hB hS))
theorem cl_q (C : CF p l s m args meth c own cc nL G A) (P : PW G A s H locs S0 S) {kd : Nat} {Q1 : Option Nat → MS → Prop} {aa : Array Value} (hr : vx_Run p l e R s m args below meth c H locs cells slots mc1 ms1 (F0 m pc ls st) rest (QQ G S (FA G S H.size) kd Q1 aa) (XX G S (FA G S H.size) QX1) (FA G S H.size))
    (kx : KX p l e R s m args below meth c G A S0 S (cells + mc1) (slots + ms1) Q (F0 m pc ls rest) QX1)
    (kk : ∀ (r : Option Nat) (S1 : MS) (H : Heap) (locs : List Loc), PW G A s H locs S0 S1 → ext S S1 → Q1 r S1 → pQ S1 kd r → W p l e R s m args below meth c H locs (cells + mc1) (slots + ms1) Q (F0 m (pc + 3) ls (va_rf r :: rest))) : W p l e R s m args below meth c H locs cells slots Q (F0 m pc ls st) :=
  vx_callq hr P.2.2.1 (fun q _ h => FA_in C P q h) (FA_in C P) (fun q _ h => FA_in C P q h) (kx_of C P kx) (fun r u t H1 locs1 ht _ hw hB _ _ hS => (fun z => kk r u H1 locs1 z.1 z.2 hw.1 hw.2) (PW_aw C P ht hB hS))
/-- a callee's exception passes on to the caller's caller -/
theorem kx_out {mc ms : Nat} {Qc : Array Value → State → Outcome → State → Prop} {QX : String → MS → Prop} {rest : List Value} (C : CF p l s m args meth c own cc nL G A) (hex : ∀ x ∈ c.exceptionTable.toList, False) (hq : ∀ E S1, ext S S1 → QX1 E S1 → QX E S1) (hc : cells ≤ mc) (hs : slots ≤ ms) : KX p l e R s m args below meth c G A S0 S cells slots (vx_MQ below Qc (XX G S0 A QX) args s mc ms A) (F0 m pc ls rest) QX1 := by
  intro E S1 H locs ce9 q9 P hx h h1 h2 h3
  exact e_x C (fun x h => (hex x h).elim) P (hq E S1 hx h) h1 h2 h3 hc hs
theorem th_x {mc ms : Nat} {QX : String → MS → Prop} {E : String} (C : CF p l s m args meth c own cc nL G A) (P : PW G A s H locs S0 S) (hq : QX E S) : ∀ t : State, s.vm.Alike t.vm → H.size ≤ t.heap.size → (∀ q : Nat, q < H.size → t.heap[q]? = H[q]?) → XX G S0 A QX E s t := by
  intro t hv hz hk
  refine ⟨S, trivial, ⟨hq, P.1.kept (fun k q h => hk q.1 (P.1 k q h).lt), va_K.moved hv (CF_K C), P.2.1, P.2.2.2⟩, Nat.le_trans P.2.2.1.1 hz, fun q h1 h2 => ?_⟩
  rw [hk q (Nat.lt_of_lt_of_le h1 P.2.2.1.1)]
  exact P.2.2.1.2.1 q h1 h2
/-- new X(text), thrown -/
theorem th_S {mc ms ik is ic : Nat} {Qc : Array Value → State → Outcome → State → Prop} {QX : String → MS → Prop} {E text : String} (C : CF p l s m args meth c "SkirmishGrid" cc nL G A) (hex : ∀ x ∈ c.exceptionTable.toList, False) (P : PW G A s H locs S0 S) (hsz : ls.size = nL) (hE : E ∈ sExc) (hfit : Bundle.fit E = true) (hstr : (is, text) ∈ sStr)
    (hk : Cond.classLink "SkirmishGrid" ik E ∈ GW) (hini : Cond.initialized E ∈ GW) (hat : ∀ w ∈ (vx_atS "SkirmishGrid" ic E ["java/lang/RuntimeException", "java/lang/Exception"]).filter goodWord, w ∈ lw_tbl) (hbad : ∀ w ∈ (vx_atS "SkirmishGrid" ic E ["java/lang/RuntimeException", "java/lang/Exception"]).filter (fun w => !goodWord w), w ∈ xbad E) (hgood : ∀ w ∈ Cond.classLink "SkirmishGrid" ik E :: Cond.initialized E :: vx_atS "SkirmishGrid" ic E ["java/lang/RuntimeException", "java/lang/Exception"], vx_ot w = true)
    (d0 : decode cc pc = .ok (.new ik, 3)) (d3 : decode cc (pc + 3) = .ok (.dup, 1)) (d4 : decode cc (pc + 4) = .ok (.ldc is, 2)) (d6 : decode cc (pc + 6) = .ok (.invokespecial ic, 3)) (d9 : decode cc (pc + 9) = .ok (.athrow, 1))
    (hRf : 5 < R.frames) (hRl : (rest.map fun v => v.category).sum + 82 ≤ R.locals) (hRc : cells + 1 ≤ R.cells) (hRs : slots + 6 ≤ R.slots) (hq : QX E S) (hc : cells + 1 ≤ mc) (hs : slots + 6 ≤ ms) :
    W p l e R s m args below meth c H locs cells slots (vx_MQ below Qc (XX G S0 A QX) args s mc ms A) (F0 m pc ls rest) := by
  obtain ⟨sa, hsa⟩ := (CF_S C).2.2.2.1 _ hstr
  refine vx_throwS (CF_x C) (CF_b C) (CF_n C) (CF_o C) hfit (names := ["java/lang/RuntimeException", "java/lang/Exception"]) (by decide +kernel) (CF_t C _ hk) (CF_t C _ hini) hsa (vx_hat (fun w hw => CF_t C _ (gw_l (hat w hw) (List.mem_filter.mp hw).2)) hbad (vx_c (va_Nw.use rfl ((CF_S C).2.2.2.2.1 E hE)) (vx_c (va_Nw.use rfl ((CF_S C).2.2.2.2.2.2 "java/lang/RuntimeException" (by simp [sSup]))) (vx_c (va_Nw.use rfl ((CF_S C).2.2.2.2.2.2 "java/lang/Exception" (by simp [sSup]))) (vx_c (va_Nw.use rfl ((CF_S C).2.2.2.2.2.2 Bundle.tN (by simp [sSup]))) vx_n))))) hgood (CF_S C).1 (CF_S C).2.1 P.2.2.1 (hsz.trans (CF_m C).symm) d0 d3 d4 d6 d9 (fun x h => (hex x h).elim) hRf hRl hRc hRs (CF_k C) (th_x (mc := mc) (ms := ms) C P hq) P.2.2.1.2.2 hc hs
theorem th_W {mc ms ik is ic : Nat} {Qc : Array Value → State → Outcome → State → Prop} {QX : String → MS → Prop} {E text : String} (C : CF p l s m args meth c "SkirmishGrid" cc nL G A) (hex : ∀ x ∈ c.exceptionTable.toList, False) (P : PW G A s H locs S0 S) (hsz : ls.size = nL) (hE : E ∈ sExc) (hfit : Bundle.fit E = true) (hstr : (is, text) ∈ sStr)
    (hk : Cond.classLink "SkirmishGrid" ik E ∈ GW) (hini : Cond.initialized E ∈ GW) (hat : ∀ w ∈ (vx_atS "SkirmishGrid" ic E ["java/lang/RuntimeException", "java/lang/Exception"]).filter goodWord, w ∈ lw_tbl) (hbad : ∀ w ∈ (vx_atS "SkirmishGrid" ic E ["java/lang/RuntimeException", "java/lang/Exception"]).filter (fun w => !goodWord w), w ∈ xbad E) (hgood : ∀ w ∈ Cond.classLink "SkirmishGrid" ik E :: Cond.initialized E :: vx_atS "SkirmishGrid" ic E ["java/lang/RuntimeException", "java/lang/Exception"], vx_ot w = true)
    (d0 : decode cc pc = .ok (.new ik, 3)) (d3 : decode cc (pc + 3) = .ok (.dup, 1)) (d4 : decode cc (pc + 4) = .ok (.ldc_w is, 3)) (d7 : decode cc (pc + 7) = .ok (.invokespecial ic, 3)) (d10 : decode cc (pc + 10) = .ok (.athrow, 1))
    (hRf : 5 < R.frames) (hRl : (rest.map fun v => v.category).sum + 82 ≤ R.locals) (hRc : cells + 1 ≤ R.cells) (hRs : slots + 6 ≤ R.slots) (hq : QX E S) (hc : cells + 1 ≤ mc) (hs : slots + 6 ≤ ms) :
    W p l e R s m args below meth c H locs cells slots (vx_MQ below Qc (XX G S0 A QX) args s mc ms A) (F0 m pc ls rest) := by
  obtain ⟨sa, hsa⟩ := (CF_S C).2.2.2.1 _ hstr
  refine vx_throwSW (CF_x C) (CF_b C) (CF_n C) (CF_o C) hfit (names := ["java/lang/RuntimeException", "java/lang/Exception"]) (by decide +kernel) (CF_t C _ hk) (CF_t C _ hini) hsa (vx_hat (fun w hw => CF_t C _ (gw_l (hat w hw) (List.mem_filter.mp hw).2)) hbad (vx_c (va_Nw.use rfl ((CF_S C).2.2.2.2.1 E hE)) (vx_c (va_Nw.use rfl ((CF_S C).2.2.2.2.2.2 "java/lang/RuntimeException" (by simp [sSup]))) (vx_c (va_Nw.use rfl ((CF_S C).2.2.2.2.2.2 "java/lang/Exception" (by simp [sSup]))) (vx_c (va_Nw.use rfl ((CF_S C).2.2.2.2.2.2 Bundle.tN (by simp [sSup]))) vx_n))))) hgood (CF_S C).1 (CF_S C).2.1 P.2.2.1 (hsz.trans (CF_m C).symm) d0 d3 d4 d7 d10 (fun x h => (hex x h).elim) hRf hRl hRc hRs (CF_k C) (th_x (mc := mc) (ms := ms) C P hq) P.2.2.1.2.2 hc hs
end RW3
theorem xw_IAE : ∀ w ∈ (vx_atS "SkirmishGrid" 68 "java/lang/IllegalArgumentException" ["java/lang/RuntimeException", "java/lang/Exception"]).filter goodWord, w ∈ lw_tbl := by decide +kernel
theorem xb_IAE : ∀ w ∈ (vx_atS "SkirmishGrid" 68 "java/lang/IllegalArgumentException" ["java/lang/RuntimeException", "java/lang/Exception"]).filter (fun w => !goodWord w), w ∈ xbad "java/lang/IllegalArgumentException" := by decide +kernel
theorem xg_IAE : ∀ w ∈ Cond.classLink "SkirmishGrid" 64 "java/lang/IllegalArgumentException" :: Cond.initialized "java/lang/IllegalArgumentException" :: vx_atS "SkirmishGrid" 68 "java/lang/IllegalArgumentException" ["java/lang/RuntimeException", "java/lang/Exception"], vx_ot w = true := by decide +kernel
theorem xw_ISE : ∀ w ∈ (vx_atS "SkirmishGrid" 78 "java/lang/IllegalStateException" ["java/lang/RuntimeException", "java/lang/Exception"]).filter goodWord, w ∈ lw_tbl := by decide +kernel
theorem xb_ISE : ∀ w ∈ (vx_atS "SkirmishGrid" 78 "java/lang/IllegalStateException" ["java/lang/RuntimeException", "java/lang/Exception"]).filter (fun w => !goodWord w), w ∈ xbad "java/lang/IllegalStateException" := by decide +kernel
theorem xg_ISE : ∀ w ∈ Cond.classLink "SkirmishGrid" 74 "java/lang/IllegalStateException" :: Cond.initialized "java/lang/IllegalStateException" :: vx_atS "SkirmishGrid" 78 "java/lang/IllegalStateException" ["java/lang/RuntimeException", "java/lang/Exception"], vx_ot w = true := by decide +kernel
theorem xw_UOE : ∀ w ∈ (vx_atS "SkirmishGrid" 96 "java/lang/UnsupportedOperationException" ["java/lang/RuntimeException", "java/lang/Exception"]).filter goodWord, w ∈ lw_tbl := by decide +kernel
theorem xb_UOE : ∀ w ∈ (vx_atS "SkirmishGrid" 96 "java/lang/UnsupportedOperationException" ["java/lang/RuntimeException", "java/lang/Exception"]).filter (fun w => !goodWord w), w ∈ xbad "java/lang/UnsupportedOperationException" := by decide +kernel
theorem xg_UOE : ∀ w ∈ Cond.classLink "SkirmishGrid" 92 "java/lang/UnsupportedOperationException" :: Cond.initialized "java/lang/UnsupportedOperationException" :: vx_atS "SkirmishGrid" 96 "java/lang/UnsupportedOperationException" ["java/lang/RuntimeException", "java/lang/Exception"], vx_ot w = true := by decide +kernel
theorem xw_NSE : ∀ w ∈ (vx_atS "SkirmishGrid" 121 "java/util/NoSuchElementException" ["java/lang/RuntimeException", "java/lang/Exception"]).filter goodWord, w ∈ lw_tbl := by decide +kernel
theorem xb_NSE : ∀ w ∈ (vx_atS "SkirmishGrid" 121 "java/util/NoSuchElementException" ["java/lang/RuntimeException", "java/lang/Exception"]).filter (fun w => !goodWord w), w ∈ xbad "java/util/NoSuchElementException" := by decide +kernel
theorem xg_NSE : ∀ w ∈ Cond.classLink "SkirmishGrid" 117 "java/util/NoSuchElementException" :: Cond.initialized "java/util/NoSuchElementException" :: vx_atS "SkirmishGrid" 121 "java/util/NoSuchElementException" ["java/lang/RuntimeException", "java/lang/Exception"], vx_ot w = true := by decide +kernel
theorem xw_IOB : ∀ w ∈ (vx_atS "SkirmishGrid" 132 "java/lang/IndexOutOfBoundsException" ["java/lang/RuntimeException", "java/lang/Exception"]).filter goodWord, w ∈ lw_tbl := by decide +kernel
theorem xb_IOB : ∀ w ∈ (vx_atS "SkirmishGrid" 132 "java/lang/IndexOutOfBoundsException" ["java/lang/RuntimeException", "java/lang/Exception"]).filter (fun w => !goodWord w), w ∈ xbad "java/lang/IndexOutOfBoundsException" := by decide +kernel
theorem xg_IOB : ∀ w ∈ Cond.classLink "SkirmishGrid" 128 "java/lang/IndexOutOfBoundsException" :: Cond.initialized "java/lang/IndexOutOfBoundsException" :: vx_atS "SkirmishGrid" 132 "java/lang/IndexOutOfBoundsException" ["java/lang/RuntimeException", "java/lang/Exception"], vx_ot w = true := by decide +kernel
theorem xw_AEX : ∀ w ∈ (vx_atS "SkirmishGrid" 398 "java/lang/ArithmeticException" ["java/lang/RuntimeException", "java/lang/Exception"]).filter goodWord, w ∈ lw_tbl := by decide +kernel
theorem xb_AEX : ∀ w ∈ (vx_atS "SkirmishGrid" 398 "java/lang/ArithmeticException" ["java/lang/RuntimeException", "java/lang/Exception"]).filter (fun w => !goodWord w), w ∈ xbad "java/lang/ArithmeticException" := by decide +kernel
theorem xg_AEX : ∀ w ∈ Cond.classLink "SkirmishGrid" 394 "java/lang/ArithmeticException" :: Cond.initialized "java/lang/ArithmeticException" :: vx_atS "SkirmishGrid" 398 "java/lang/ArithmeticException" ["java/lang/RuntimeException", "java/lang/Exception"], vx_ot w = true := by decide +kernel
