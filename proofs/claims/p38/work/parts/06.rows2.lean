section RW2
variable {p : Program} {l : Launch} {e : Env} {R : Room} {s : State} {m : MethodId} {args : Array Value} {below : List Frame} {meth : Method} {c : Code} {H : Heap} {locs : List Loc} {cells slots : Nat} {Q : State → Prop}
variable {own : String} {cc : ByteArray} {nL : Nat} {G : GP} {A : Nat → Prop} {S0 S : MS} {pc : Nat} {ls : Array Slot} {rest : List Value} {a : Nat}
def vAll : List Nat → List Value
  | [] => []
  | t :: r => (if t = 0 then .int 0 else .null) :: vAll r
theorem fv_new {S : MS} {q kd n : Nat} : ∀ (r : List Nat) (j : Nat), fv (nw S q kd n) q r j = vAll r
  | [], _ => rfl
  | t :: r, j => by
    have e1 : mI (nw S q kd n) q j = 0 := by show va_up (mI S) q (fun _ => 0) q j = 0; rw [va_up_s]
    have e2 : mR (nw S q kd n) q j = none := by show va_up (mR S) q (fun _ => none) q j = none; rw [va_up_s]
    show (if t = 0 then Value.int (mI (nw S q kd n) q j) else va_rf (mR (nw S q kd n) q j)) :: fv (nw S q kd n) q r (j + 1) = _
    rw [e1, e2, fv_new r (j + 1)]
    rfl
/-- a new object -/
theorem rn_o (C : CF p l s m args meth c own cc nL G A) (P : PW G A s H locs S0 S) (kd : Nat) {C9 : String} {T : u_T} {N index : Nat} (ty0 : Nat → FieldType) (hc : vwCl[kd + 2]? = some (C9, T, N)) (hin : ∀ w ∈ u_ws C9 T N, w ∈ GW) (hty : ∀ k, k < N → parseFieldDescriptor (T k).2.2.1 = some (ty0 k)) (hkd : kd < 10) (hdef : ∀ j, j < N → defaultValue (ty0 j) = vp_V (vAll (fT kd)) j) (hcl : Cond.classLink own index C9 ∈ GW) (hins : Cond.instantiable C9 N ∈ GW) (hini : Cond.initialized C9 ∈ GW) (hcells : cells + 1 ≤ R.cells) (hslots : slots + N ≤ R.slots) (hdg : decode cc pc = .ok (.new index, 3))
    (kk : ∀ (q : Nat) (H : Heap), q ∉ mL S → PW G A s H locs S0 (nw S q kd 0) → W p l e R s m args below meth c H locs (cells + 1) (slots + N) Q (F0 m (pc + 3) ls (.ref q :: rest))) : W p l e R s m args below meth c H locs cells slots Q (F0 m pc ls rest) := by
  refine va_new (ci := kd + 2) (fs := vAll (fT kd)) (CF_x C) (CF_b C) (CF_t C) hin ty0 hty (CF_o C) (CF_t C _ hcl) (CF_t C _ hins) (CF_t C _ hini) (CF_K C) P.1 P.2.1 P.2.2.1 (CF_A C) hc hdef hcells hslots hdg (fun q H1 hP hD hS => ?_)
  have hq := wd_fresh hD
  have hx : ce G (nw S q kd 0) q = .inr (kd + 2, vAll (fT kd)) := by rw [ce_ob (pI_nw) hkd, fv_new]
  rw [wd_new hq hx] at hP hD
  exact kk q H1 hq (PW_st P hP hD hS (wf_nw hq P.2.2.2.1) (ext_nw hq))
theorem ty_ra (C : CF p l s m args meth c own cc nL G A) {k : Nat} {cA cB : ClassId} {ty : FieldType} (hK : va_K G.1 vwCl (TY G ++ [(cA, ty)]) s) (h : (TY G)[k]? = some (cB, ty)) (ht : ∀ n, ty ≠ .object n) : cA = cB := by
  have h1 := (hK.2 (TY G).length (cA, ty) (by rw [List.getElem?_append_right (Nat.le_refl _), Nat.sub_self]; rfl)).2
  have h2 := ((CF_K C).2 k _ h).2
  cases ty with
  | object n => exact absurd rfl (ht n)
  | _ => exact Option.some.inj (Eq.trans (Eq.symm h1) h2)
theorem ty_ro (C : CF p l s m args meth c own cc nL G A) {k : Nat} {cA cB : ClassId} {n : String} (hK : va_K G.1 vwCl (TY G ++ [(cA, .object n)]) s) (h : (TY G)[k]? = some (cB, .object n)) : cA = cB := by
  obtain ⟨_, _, _, _, _, h1⟩ := (hK.2 (TY G).length (cA, .object n) (by rw [List.getElem?_append_right (Nat.le_refl _), Nat.sub_self]; rfl)).2
  obtain ⟨_, _, _, _, _, h2⟩ := ((CF_K C).2 k _ h).2
  exact Option.some.inj (Eq.trans (Eq.symm h1) h2)
/-- a new array of numbers; d: its kind less 10 -/
theorem rn_a (C : CF p l s m args meth c own cc nL G A) (P : PW G A s H locs S0 S) (d : Nat) {atype : ArrayType} {ty : FieldType} {n : Int32} {N' : Nat} (a0 : vp_A) (hcy : (TY G)[d]? = some (G.2 d, ty)) (ht : ∀ n, ty ≠ .object n) (harr : Cond.arrayClass (newarray.typeOf atype) ∈ GW) (hty : newarray.typeOf atype = ty) (ha : ∀ cA : ClassId, vp_cell cA a0 = arrV cA N' (fun _ => defaultValue ty)) (hx : ∀ (S : MS) (q : Nat), aE G (nw S q (d + 10) N') q d = .inl (G.2 d, a0)) (hn : ¬ n < 0) (hN : n.toNatClampNeg = N') (hbytes : N' * componentBytes ty ≤ 536870912) (hcells : cells + 1 ≤ R.cells) (hslots : slots + N' ≤ R.slots) (hdg : decode cc pc = .ok (.newarray atype, 2))
    (kk : ∀ (q : Nat) (H : Heap), q ∉ mL S → PW G A s H locs S0 (nw S q (d + 10) N') → W p l e R s m args below meth c H locs (cells + 1) (slots + N') Q (F0 m (pc + 2) ls (.ref q :: rest))) : W p l e R s m args below meth c H locs cells slots Q (F0 m pc ls (.int n :: rest)) := by
  refine va_newa (CF_x C) (CF_b C) (CF_t C _ harr) hty (CF_K C) P.1 P.2.1 P.2.2.1 (CF_A C) ha hn hN hbytes hcells hslots hdg (fun q cA H1 hK hP hD hS => ?_)
  have hq := wd_fresh hD
  rw [ty_ra C hK hcy ht] at hP hD
  rw [wd_new (kd := d + 10) (n := N') hq ((ce_ar pI_nw).trans (hx S q))] at hP hD
  exact kk q H1 hq (PW_st P hP hD hS (wf_nw hq P.2.2.2.1) (ext_nw hq))
/-- a new array of references -/
theorem rn_q (C : CF p l s m args meth c own cc nL G A) (P : PW G A s H locs S0 S) (d : Nat) {n : Int32} {N' index : Nat} {E : String} (hcy : (TY G)[d]? = some (G.2 d, .object E)) (hover : va_AO E s) (hcl : Cond.classLink own index E ∈ GW) (hx : ∀ (S : MS) (q : Nat), aE G (nw S q (d + 10) N') q d = .inl (G.2 d, N', .inr (.inr (.inr (.inr (fun _ => none)))))) (hn : ¬ n < 0) (hN : n.toNatClampNeg = N') (hbytes : N' * 4 ≤ 536870912) (hcells : cells + 1 ≤ R.cells) (hslots : slots + N' ≤ R.slots) (hdg : decode cc pc = .ok (.anewarray index, 3))
    (kk : ∀ (q : Nat) (H : Heap), q ∉ mL S → PW G A s H locs S0 (nw S q (d + 10) N') → W p l e R s m args below meth c H locs (cells + 1) (slots + N') Q (F0 m (pc + 3) ls (.ref q :: rest))) : W p l e R s m args below meth c H locs cells slots Q (F0 m pc ls (.int n :: rest)) := by
  refine va_newq (CF_x C) (CF_b C) (CF_o C) (CF_t C _ hcl) hover (CF_K C) P.1 P.2.1 P.2.2.1 (CF_A C) hn hN hbytes hcells hslots hdg (fun q cA H1 hK hP hD hS => ?_)
  have hq := wd_fresh hD
  rw [ty_ro C hK hcy] at hP hD
  rw [wd_new (kd := d + 10) (n := N') hq ((ce_ar pI_nw).trans (hx S q))] at hP hD
  exact kk q H1 hq (PW_st P hP hD hS (wf_nw hq P.2.2.2.1) (ext_nw hq))
theorem aE_nw {G : GP} {S : MS} {q d n : Nat} : aE G (nw S q (d + 10) n) q d = (match d with | 0 => .inl (G.2 0, n, .inl (fun _ => 0)) | 1 => .inl (G.2 1, n, .inr (.inr (.inl (fun _ => 0)))) | 2 => .inl (G.2 2, n, .inl (fun _ => 0)) | 3 => .inl (G.2 3, n, .inl (fun _ => 0)) | 4 => .inl (G.2 4, n, .inr (.inr (.inr (.inr (fun _ => none))))) | 5 => .inl (G.2 5, n, .inr (.inr (.inr (.inr (fun _ => none))))) | 6 => .inl (G.2 6, n, .inr (.inl (fun _ => 0))) | _ => .inl (G.2 7, n, .inr (.inr (.inr (.inl (fun _ => 0)))))) := by
  have hN : mN (nw S q (d + 10) n) q = n := va_up_s
  have hI : mI (nw S q (d + 10) n) q = (fun _ => 0) := va_up_s
  have hR : mR (nw S q (d + 10) n) q = (fun _ => none) := va_up_s
  have hF : mF (nw S q (d + 10) n) q = (fun _ => 0) := va_up_s
  have hJ : mJ (nw S q (d + 10) n) q = (fun _ => 0) := va_up_s
  have hD : mD (nw S q (d + 10) n) q = (fun _ => 0) := va_up_s
  match d with
  | 0 => simp only [aE, hN, hI]
  | 1 => simp only [aE, hN, hF]
  | 2 => simp only [aE, hN, hI]
  | 3 => simp only [aE, hN, hI]
  | 4 => simp only [aE, hN, hR]
  | 5 => simp only [aE, hN, hR]
  | 6 => simp only [aE, hN, hJ]
  | d + 7 => simp only [aE, hN, hD]
/-- an object of the pool into an array of references -/
theorem rs_a (C : CF p l s m args meth c own cc nL G A) (P : PW G A s H locs S0 S) (d : Nat) {kv : Nat} {r : vw_C} {i : Int32} {v : Nat} (hp : pI S (d + 10) a) (hv : pI S kv v) (hkv : kv < 10) (hrt : rT (d + 10) i.toNatClampNeg = kv) (hc : vwCl[kv + 2]? = some r) (hcy : (TY G)[d]? = some (G.2 d, .object r.1)) (hx : ∀ T : MS, aE G T a d = .inl (G.2 d, mN T a, .inr (.inr (.inr (.inr (mR T a)))))) (hin : vp_in i (mN S a)) (hdg : decode cc pc = .ok (.aastore, 1))
    (kk : ∀ (H : Heap) (locs : List Loc), PW G A s H locs S0 (sR S a i.toNatClampNeg (some v)) → W p l e R s m args below meth c H locs cells slots Q (F0 m (pc + 1) ls rest)) : W p l e R s m args below meth c H locs cells slots Q (F0 m pc ls (.ref v :: .int i :: .ref a :: rest)) := by
  obtain ⟨q0, hq0⟩ := wd_get (G := G) hp.1
  have hq := hq0
  rw [ce_ar (kd := d) hp, hx S] at hq
  obtain ⟨qk, hqk⟩ := wd_get (G := G) hv.1
  rw [ce_ob hv hkv] at hqk
  refine va_astq (CF_x C) (CF_b C) (CF_K C) P.1 P.2.1 P.2.2.1 q0 d qk (kv + 2) hq hcy hqk hc hin hdg (fun H1 locs1 hP hD hS => ?_)
  have e1 : mR (sR S a i.toNatClampNeg (some v)) a = va_up (mR S a) i.toNatClampNeg (some v) := up2_same
  rw [wd_set (T := sR S a i.toNatClampNeg (some v)) P.2.1 hp.1 hq0 rfl (ce_up (fun b hb => ce_sR_o hb) ((ce_ar (kd := d) (S := sR S a i.toNatClampNeg (some v)) (pI_x ext_sR hp)).trans (by rw [hx, e1]; rfl)))] at hP hD
  exact kk H1 locs1 (PW_st P hP hD hS (wf_sR P.2.2.2.1 (by rw [hp.2, hrt]; exact pQ_s hv)) ext_sR)
/-- System.arraycopy of ints -/
theorem rc_i (C : CF p l s m args meth c own cc nL G A) (P : PW G A s H locs S0 S) (hsz : ls.size = nL) {index a0 : Nat} {sp dp n : Int32} (hp0 : pI S 12 a0) (hp : pI S 12 a) (hlink : Cond.methodLink own index arraycopyName ∈ GW) (hnat : Cond.native arraycopyName ∈ GW) (hstat : Cond.static arraycopyName ∈ GW) (hini : Cond.initialized "java/lang/System" ∈ GW) (h1 : ¬ sp < 0) (h2 : ¬ dp < 0) (h3 : ¬ n < 0) (h4 : sp.toNatClampNeg + n.toNatClampNeg ≤ mN S a0) (h5 : dp.toNatClampNeg + n.toNatClampNeg ≤ mN S a) (hframes : 1 ≤ R.frames) (hlocals : (rest.map fun v => v.category).sum + (nativeFrameWords "java/lang/System" "arraycopy" 5 + 11) ≤ R.locals) (hdg : decode cc pc = .ok (.invokestatic index, 3))
    (kk : ∀ (H : Heap) (locs : List Loc), PW G A s H locs S0 (sIr S a (va_cpy (mI S a0) (mI S a) sp.toNatClampNeg dp.toNatClampNeg n.toNatClampNeg)) → W p l e R s m args below meth c H locs cells slots Q (F0 m (pc + 3) ls rest)) : W p l e R s m args below meth c H locs cells slots Q (F0 m pc ls (.int n :: .int dp :: .ref a :: .int sp :: .ref a0 :: rest)) := by
  obtain ⟨q0, hq0⟩ := wd_get (G := G) hp0.1
  rw [ce_ar (kd := 2) hp0] at hq0
  obtain ⟨q1, hq1⟩ := wd_get (G := G) hp.1
  have hq := hq1
  rw [ce_ar (kd := 2) hp] at hq
  refine va_copyi (CF_x C) (CF_b C) ((CF_m C).trans hsz.symm) (CF_o C) (CF_t C _ hlink) (CF_t C _ hnat) (CF_t C _ hstat) (CF_t C _ hini) (CF_K C) P.1 P.2.1 P.2.2.1 q0 q1 2 2 hq0 hq rfl rfl rfl h1 h2 h3 h4 h5 (fun _ _ => rfl) hframes hlocals hdg (fun H1 locs1 hP hD hS => ?_)
  have e1 : mI (sIr S a (va_cpy (mI S a0) (mI S a) sp.toNatClampNeg dp.toNatClampNeg n.toNatClampNeg)) a = va_cpy (mI S a0) (mI S a) sp.toNatClampNeg dp.toNatClampNeg n.toNatClampNeg := va_up_s
  rw [wd_set (T := sIr S a (va_cpy (mI S a0) (mI S a) sp.toNatClampNeg dp.toNatClampNeg n.toNatClampNeg)) P.2.1 hp.1 hq1 rfl (ce_up (fun b hb => ce_sIr_o hb) ((ce_ar (kd := 2) (S := sIr S a (va_cpy (mI S a0) (mI S a) sp.toNatClampNeg dp.toNatClampNeg n.toNatClampNeg)) (pI_x ext_sIr hp)).trans (by simp only [aE, e1]; rfl)))] at hP hD
  exact kk H1 locs1 (PW_st P hP hD hS (wf_sIr P.2.2.2.1) ext_sIr)
/-- a table of the class: its address, then an entry -/
theorem rt_g (C : CF p l s m args meth c own cc nL G A) (P : PW G A s H locs S0 S) {i index : Nat} {n : String} (hi : i < 9) (hn : sNm i = n) (hl : Cond.fieldLink own index "SkirmishGrid" n "[I" ∈ GW) (hdg : decode cc pc = .ok (.getstatic index, 3))
    (kk : ∀ t : Nat, va_T .int t 4 (fun j => .int ((sTb i).getD j 0)) A s s.heap → W p l e R s m args below meth c H locs cells slots Q (F0 m (pc + 3) ls (.ref t :: rest))) : W p l e R s m args below meth c H locs cells slots Q (F0 m pc ls rest) := by
  obtain ⟨t, e1, e2⟩ := (CF_S C).2.2.1 i hi
  rw [hn] at e1
  exact va_gets (CF_x C) (CF_b C) e1 P.2.2.1 (CF_o C) (CF_t C _ hl) (fun _ h => h) hdg (kk t e2)
theorem rt_l (C : CF p l s m args meth c own cc nL G A) (P : PW G A s H locs S0 S) {i t : Nat} {x : Int32} (hT : va_T .int t 4 (fun j => .int ((sTb i).getD j 0)) A s s.heap) (hin : vp_in x 4) (hdg : decode cc pc = .ok (.iaload, 1))
    (kk : W p l e R s m args below meth c H locs cells slots Q (F0 m (pc + 1) ls (.int (tbI i x) :: rest))) : W p l e R s m args below meth c H locs cells slots Q (F0 m pc ls (.int x :: .ref t :: rest)) :=
  va_ti (CF_x C) (CF_b C) hT P.2.2.1 hin (v := .int (tbI i x)) rfl hdg kk
/-! ends -/
theorem AW_of (C : CF p l s m args meth c own cc nL G A) (P : PW G A s H locs S0 S) {t : State} (ht : t.heap = H) (hv : s.vm.Alike t.vm) : AW G S0 S A t := ⟨by rw [ht]; exact P.1, va_K.moved hv (CF_K C), P.2.1, P.2.2.2⟩
theorem e_i {mc ms : Nat} {QX : String → MS → Prop} {Qn : Int32 → MS → Prop} {v : Int32} {ty : FieldType} (C : CF p l s m args meth c own cc nL G A) (hr : meth.sig.returnType = some ty) (hn : narrow ty (.int v) = .int v) (P : PW G A s H locs S0 S) (hq : Qn v S) (hc : cells ≤ mc) (hs : slots ≤ ms) (hdg : decode cc pc = .ok (.ireturn, 1)) : W p l e R s m args below meth c H locs cells slots (vx_MQ below (QI G S0 A Qn) (XX G S0 A QX) args s mc ms A) (F0 m pc ls [.int v]) :=
  W.widen hc hs (vx_ret (W.zret (CF_x C) (CF_b C) hr hn (fun t ht hW => ⟨⟨v, S, rfl, hq, AW_of C P ht hW.alike⟩, P.2.2.1.F ht⟩) P.2.2.1.2.2 hdg (CF_k C)))
theorem e_v {mc ms : Nat} {QX : String → MS → Prop} {Qn : MS → Prop} (C : CF p l s m args meth c own cc nL G A) (hr : meth.sig.returnType = none) (P : PW G A s H locs S0 S) (hq : Qn S) (hc : cells ≤ mc) (hs : slots ≤ ms) (hdg : decode cc pc = .ok (.return_, 1)) : W p l e R s m args below meth c H locs cells slots (vx_MQ below (QV G S0 A Qn) (XX G S0 A QX) args s mc ms A) (F0 m pc ls []) :=
  W.widen hc hs (vx_ret (W.vret (CF_x C) (CF_b C) hr (fun t ht hW => ⟨⟨S, rfl, hq, AW_of C P ht hW.alike⟩, P.2.2.1.F ht⟩) P.2.2.1.2.2 hdg (CF_k C)))
theorem e_f {mc ms : Nat} {QX : String → MS → Prop} {Qn : UInt32 → MS → Prop} {v : UInt32} (C : CF p l s m args meth c own cc nL G A) (hr : meth.sig.returnType = some .float) (P : PW G A s H locs S0 S) (hq : Qn v S) (hc : cells ≤ mc) (hs : slots ≤ ms) (hdg : decode cc pc = .ok (.freturn, 1)) : W p l e R s m args below meth c H locs cells slots (vx_MQ below (QF G S0 A Qn) (XX G S0 A QX) args s mc ms A) (F0 m pc ls [.float v]) :=
  W.widen hc hs (vx_ret (W.fret (CF_x C) (CF_b C) hr (fun t ht hW => ⟨⟨v, S, rfl, hq, AW_of C P ht hW.alike⟩, P.2.2.1.F ht⟩) P.2.2.1.2.2 hdg (CF_k C)))
theorem e_d {mc ms : Nat} {QX : String → MS → Prop} {Qn : UInt64 → MS → Prop} {v : UInt64} (C : CF p l s m args meth c own cc nL G A) (hr : meth.sig.returnType = some .double) (P : PW G A s H locs S0 S) (hq : Qn v S) (hc : cells ≤ mc) (hs : slots ≤ ms) (hdg : decode cc pc = .ok (.dreturn, 1)) : W p l e R s m args below meth c H locs cells slots (vx_MQ below (QD G S0 A Qn) (XX G S0 A QX) args s mc ms A) (F0 m pc ls [.double v]) :=
  W.widen hc hs (vx_ret (W.dret (CF_x C) (CF_b C) hr (fun t ht hW => ⟨⟨v, S, rfl, hq, AW_of C P ht hW.alike⟩, P.2.2.1.F ht⟩) P.2.2.1.2.2 hdg (CF_k C)))
theorem e_q {mc ms kd : Nat} {QX : String → MS → Prop} {Qn : Option Nat → MS → Prop} {v : Option Nat} {n : String} (C : CF p l s m args meth c own cc nL G A) (hr : meth.sig.returnType = some (.object n)) (P : PW G A s H locs S0 S) (hq : Qn v S) (hk : pQ S kd v) (hc : cells ≤ mc) (hs : slots ≤ ms) (hdg : decode cc pc = .ok (.areturn, 1)) : W p l e R s m args below meth c H locs cells slots (vx_MQ below (QQ G S0 A kd Qn) (XX G S0 A QX) args s mc ms A) (F0 m pc ls [va_rf v]) :=
  W.widen hc hs (vx_ret (W.aret (CF_x C) (CF_b C) hr (Or.inl ⟨n, rfl⟩) (by cases v with | none => exact Or.inl rfl | some x => exact Or.inr ⟨x, rfl⟩) (fun t ht hW => ⟨⟨v, S, rfl, ⟨hq, hk⟩, AW_of C P ht hW.alike⟩, P.2.2.1.F ht⟩) P.2.2.1.2.2 hdg (CF_k C)))
/-- an exception that leaves the method -/
theorem e_x {mc ms : Nat} {Qc : Array Value → State → Outcome → State → Prop} {QX : String → MS → Prop} {E : String} {ce9 : Cell} {q9 : Addr} (C : CF p l s m args meth c own cc nL G A) (hout : ∀ x ∈ c.exceptionTable.toList, covers x pc = false) (P : PW G A s H locs S0 S) (hq : QX E S) (hcell : H[q9]? = some ce9) (hv : ce9.vm = .none) (hcl : s.vm.findClass E = some ce9.cls) (hc : cells ≤ mc) (hs : slots ≤ ms) : vx_W p l e R s m args below meth c H locs cells slots (vx_MQ below Qc (XX G S0 A QX) args s mc ms A) (F0 m pc ls rest) q9 :=
  vx_out hout (CF_k C) hcell hv hcl (fun t ht hW => ⟨S, trivial, ⟨hq, AW_of C P ht hW⟩, P.2.2.1.F ht⟩) P.2.2.1.2.2 hc hs
/-- a method's start -/
theorem st_m {y : MethodName} {maxL mc ms sz : Nat} {ret : Option FieldType} {rm : Room} {av : List Value} {Qc : Array Value → State → Outcome → State → Prop} {QX : String → MS → Prop} (hy : plainName y.cls = true) (hst : l.stackTraces = false)
    (body : ∀ (p : Program) (e : Env) (s : State) (m : MethodId) (below : List Frame) (meth : Method) (c : Code), CF p l s m av.toArray meth c y.cls cc maxL G (FA G S sz) → meth.sig.returnType = ret → meth.name = y.name → (∀ x ∈ c.exceptionTable.toList, False) → PW G (FA G S sz) s s.heap [] S S →
      W p l e rm s m av.toArray below meth c s.heap [] 0 0 (vx_MQ below Qc (XX G S (FA G S sz) QX) av.toArray s mc ms (FA G S sz)) (entryFrame m av.toArray maxL)) : vx_Met l y (.code y cc maxL ret :: GW) rm (va_Pc av (PR G S sz)) Qc (XX G S (FA G S sz) QX) mc ms (FA G S sz) := by
  refine vx_ofW hy rfl ?_
  intro p e s m args below meth c s₁ B hml hex hv
  obtain ⟨rfl, h0, h1, h2, h3, h4, h5⟩ := hv
  have hts := atoms_spec (ws := Cond.code y cc maxL ret :: GW) B.pre
  refine body p e s m below meth c ⟨B.exec, B.bytes, hml, findClass_of_methodNamed B.named, fun w hw => hts w (List.mem_cons_of_mem _ hw), h2, h4, fun q hq => Or.inr (by rw [← h0]; exact hq), B.notSynchronized, hst⟩ B.returns (name_of_methodNamed B.named B.method).1 hex ⟨h1, h3.self, va_S.rf, h5, ext_rf⟩
theorem en_m {av : List Value} {n : Nat} {lv : List (Nat × Value)} (hlen : (lg_sl av).length ≤ n) (hlv : lv_args 0 av = lv) (k : ∀ ls, lv_has ls n lv → W p l e R s m args below meth c H locs cells slots Q (F0 m 0 ls [])) : W p l e R s m args below meth c H locs cells slots Q (entryFrame m av.toArray n) := by
  have hl := lv_entry av hlen
  rw [lg_entry_eq]
  generalize (lg_sl av ++ List.replicate (n - (lg_sl av).length) Slot.unset).toArray = ls at hl ⊢
  rw [hlv] at hl
  exact k ls hl
end RW2
