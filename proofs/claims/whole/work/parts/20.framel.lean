/-! the law's own methods: they call and catch -/
section ZL
variable {p : Program} {l : Launch} {e : Env} {R : Room} {s : State} {m : MethodId} {args : Array Value} {below : List Frame} {meth : Method} {c : Code} {D : va_G} {cy : Nat → ClassId} {A : Nat → Prop} {nL cells slots : Nat} {Q : State → Prop} {Z : zZ} {S : zS} {pc q : Nat} {lv lv' : List (Nat × Value)} {st : List Value} {cc : ByteArray} {Ts : List Cond} {own : String} {rt : Option FieldType}
theorem zNi_ofH {y : MethodName} {ws ws' : List Cond} {rm : Room} {sz maxL : Nat} {av : List Value} {hh : List (Nat × Nat × Nat × Nat)} {Qp : Int32 → zS → Prop} (hy : plainName y.cls = true) (hw : ws = Cond.codeWith y cc maxL rt hh :: ws') (hlen : (lg_sl av).length ≤ maxL)
    (body : ∀ (p : Program) (e : Env) (s : State) (m : MethodId) (args : Array Value) (below : List Frame) (meth : Method) (c : Code) (A : Nat → Prop), zC p s m args meth c cc maxL ws y.cls D cy A rt → c.exceptionTable.toList = tableOf hh → zG p l e (headSpec ws rm).room s m args below meth c D cy A maxL 0 0 (zXi below D cy A Z Qp (fun _ _ => False) args s rm.cells rm.slots) Z S 0 (lv_args 0 av) []) : zNi l y ws rm D cy Z S sz av Qp (fun _ _ => False) := by
  refine vx_ofWH (cc := cc) (maxL := maxL) (ret := rt) hy hw ?_
  intro p e s m args below meth c s₁ B hml hv
  obtain ⟨rfl, hsz, hP, hD0, hV⟩ := hv
  subst hsz
  have hts := atoms_spec (ws := ws) B.pre
  have hH := vx_table (x := y) B (hts (Cond.codeWith y cc maxL rt hh) (by rw [hw]; exact List.mem_cons_self))
  have hown : s.vm.findClass y.cls = some m.cls := findClass_of_methodNamed B.named
  have hl := lv_entry av (n := maxL) hlen
  rw [lg_entry_eq]
  exact body p e s m av.toArray below meth c (zA cy Z S s.heap.size) ⟨⟨B.exec, B.bytes, hml, hown, hts⟩, hV, fun q h => Or.inr h, B.returns, B.notSynchronized⟩ hH s.heap [] _ hP hD0.self va_S.rf hl
theorem zNz_ofH {y : MethodName} {ws ws' : List Cond} {rm : Room} {sz maxL : Nat} {av : List Value} {hh : List (Nat × Nat × Nat × Nat)} {Qp : Int32 → zZ → zS → Prop} (hy : plainName y.cls = true) (hw : ws = Cond.codeWith y cc maxL rt hh :: ws') (hlen : (lg_sl av).length ≤ maxL)
    (body : ∀ (p : Program) (e : Env) (s : State) (m : MethodId) (args : Array Value) (below : List Frame) (meth : Method) (c : Code) (A : Nat → Prop), zC p s m args meth c cc maxL ws y.cls D cy A rt → c.exceptionTable.toList = tableOf hh → zG p l e (headSpec ws rm).room s m args below meth c D cy A maxL 0 0 (zXz below D cy A Z Qp (fun _ _ => False) args s rm.cells rm.slots) Z S 0 (lv_args 0 av) []) : zNz l y ws rm D cy Z S sz av Qp (fun _ _ => False) := by
  refine vx_ofWH (cc := cc) (maxL := maxL) (ret := rt) hy hw ?_
  intro p e s m args below meth c s₁ B hml hv
  obtain ⟨rfl, hsz, hP, hD0, hV⟩ := hv
  subst hsz
  have hts := atoms_spec (ws := ws) B.pre
  have hH := vx_table (x := y) B (hts (Cond.codeWith y cc maxL rt hh) (by rw [hw]; exact List.mem_cons_self))
  have hown : s.vm.findClass y.cls = some m.cls := findClass_of_methodNamed B.named
  have hl := lv_entry av (n := maxL) hlen
  rw [lg_entry_eq]
  exact body p e s m av.toArray below meth c (zA cy Z S s.heap.size) ⟨⟨B.exec, B.bytes, hml, hown, hts⟩, hV, fun q h => Or.inr h, B.returns, B.notSynchronized⟩ hH s.heap [] _ hP hD0.self va_S.rf hl
theorem zgc_call1v (C0 : zC p s m args meth c cc nL Ts own D cy A rt) {Cn : String} {T : u_T} {N ci : Nat} {fs : List Value} {b : Nat} {ret : Option FieldType} {index maxL k n a1 b1 h1 i1 : Nat} {y : MethodName} {bytes : ByteArray} {ws ws' : List Cond} {rm : Room} (As rest : List Value) {Qp : zS → Prop} {Xq : String → zS → Prop} (hH : c.exceptionTable.toList = tableOf [(a1, b1, h1, i1)]) (hcov1 : covers ({ startPc := a1, endPc := b1, handlerPc := h1, catchType := i1 } : ExceptionTableEntry) pc = true) (hi1 : i1 ≠ 0) (hk1' : Cond.classLink own i1 "java/lang/IndexOutOfBoundsException" ∈ Ts) (hcast1 : Cond.castable "java/lang/IndexOutOfBoundsException" "java/lang/IndexOutOfBoundsException" ∈ zBw) (hdg : decode cc pc = .ok (.invokevirtual index, 3)) (hM : ∀ sz, zNv l y ws rm D cy Z S sz (.ref b :: As) Qp Xq) (hw : ws = Cond.code y bytes maxL ret :: ws') (hG : GoodIn Ts (wsV own index Cn y ws)) (hd : y.cls = Cn ∧ y.cls ≠ "java/lang/invoke/MethodHandle" ∧ y.cls ≠ "java/lang/invoke/VarHandle" ∧ (parseMethodDescriptor y.desc).map (fun d => d.parameters.length) = some As.length) (hb : zk Z b ci) (hF : zF cy Z S b = .inr (ci, fs)) (hc : vwCl[ci]? = some (Cn, T, N)) (hst : st = As.reverse ++ .ref b :: rest) (hR : rm.frames + 1 ≤ R.frames ∧ 8 + (maxL + 11) + rm.locals ≤ R.locals) (hcat : (rest.map fun v => v.category).sum ≤ 8) (hroom : cells + rm.cells ≤ R.cells ∧ slots + rm.slots ≤ R.slots) (hk : cells + rm.cells = k ∧ slots + rm.slots = n) (hq : pc + 3 = q)
    (kx : ∀ E τ, Xq E τ → E = "java/lang/IndexOutOfBoundsException" ∧ ∀ x, zG p l e R s m args below meth c D cy A nL k n Q Z τ (h1) lv ([.ref x])) (kk : ∀ τ, Qp τ → zG p l e R s m args below meth c D cy A nL k n Q Z τ (q) lv (rest)) : zG p l e R s m args below meth c D cy A nL cells slots Q Z S (pc) lv (st) := by
  subst hq
  obtain ⟨e1, e2⟩ := hk
  subst e1
  subst e2
  intro H locs ls hP hD hS hl
  obtain ⟨j, hj⟩ := zget hb.1 hF
  have hA1 : ∀ q, zA cy Z S H.size q → A q := zA_sub C0.2.2.1 hD hS
  refine vx_callv (vx_runV (As := As) (rest := rest) C0.1 (hM H.size) (cwV As.length C0.1.2.2.2.2 hG hw rfl rfl hd hR) ⟨zPc_blind, va_recv C0.2.1.1 hP hc hj, fun U hU hW => ⟨rfl, by rw [hU], by rw [hU]; exact hP, hD.weaken (fun _ _ _ _ => trivial), C0.2.1.call hS hA1 hU hW⟩⟩ rfl rfl hl.1 hst (lv_room hcat) hdg hroom) hS (fun q _ h => hA1 q h) hA1 (fun q _ h => hA1 q h) (fun E ce q9 u t H1 locs1 ht hvm _ hXB hz1 hk1 hS1 h9 hv9 hc9 => ?_) (fun u t H1 locs1 ht hvm hw hB hz1 hk1 hS1 => ?_)
  · subst ht
    obtain ⟨hX, hB⟩ := hXB
    obtain ⟨rfl, hg⟩ := kx E u hX
    exact vx_catch (name := "java/lang/IndexOutOfBoundsException") C0.1.2.2.2.1 [] ({ startPc := a1, endPc := b1, handlerPc := h1, catchType := i1 } : ExceptionTableEntry) [] (hH.trans rfl) (fun z hz => absurd hz List.not_mem_nil) hcov1 hi1 (C0.1.2.2.2.2 _ hk1') (va_Nw.use (zBw_on _ hcast1) (C0.2.1.2.1 _ hcast1)) h9 hv9 hc9 (hg q9 _ locs1 ls hB.1 (hB.2.weaken (fun k x hk h => hA1 x.1 h)) hS1 hl)
  · subst ht
    exact kk u hw _ locs1 ls hB.1 (hB.2.weaken (fun k x hk h => hA1 x.1 h)) hS1 hl
theorem zgc_call2v (C0 : zC p s m args meth c cc nL Ts own D cy A rt) {Cn : String} {T : u_T} {N ci : Nat} {fs : List Value} {b : Nat} {ret : Option FieldType} {index maxL k n a1 b1 h1 i1 h2 i2 : Nat} {n2 : String} {y : MethodName} {bytes : ByteArray} {ws ws' : List Cond} {rm : Room} (As rest : List Value) {Qp : zS → Prop} {Xq : String → zS → Prop} (hH : c.exceptionTable.toList = tableOf [(a1, b1, h1, i1), (a1, b1, h2, i2)]) (hcov1 : covers ({ startPc := a1, endPc := b1, handlerPc := h1, catchType := i1 } : ExceptionTableEntry) pc = true) (hcov2 : covers ({ startPc := a1, endPc := b1, handlerPc := h2, catchType := i2 } : ExceptionTableEntry) pc = true) (hi1 : i1 ≠ 0) (hk1' : Cond.classLink own i1 "java/lang/IndexOutOfBoundsException" ∈ Ts) (hcast1 : Cond.castable "java/lang/IndexOutOfBoundsException" "java/lang/IndexOutOfBoundsException" ∈ zBw) (hi2 : i2 ≠ 0) (hk2 : Cond.classLink own i2 n2 ∈ Ts) (hcast2 : Cond.castable n2 n2 ∈ zBw) (hnc : va_Nc n2 "java/lang/IndexOutOfBoundsException" s) (hdg : decode cc pc = .ok (.invokevirtual index, 3)) (hM : ∀ sz, zNv l y ws rm D cy Z S sz (.ref b :: As) Qp Xq) (hw : ws = Cond.code y bytes maxL ret :: ws') (hG : GoodIn Ts (wsV own index Cn y ws)) (hd : y.cls = Cn ∧ y.cls ≠ "java/lang/invoke/MethodHandle" ∧ y.cls ≠ "java/lang/invoke/VarHandle" ∧ (parseMethodDescriptor y.desc).map (fun d => d.parameters.length) = some As.length) (hb : zk Z b ci) (hF : zF cy Z S b = .inr (ci, fs)) (hc : vwCl[ci]? = some (Cn, T, N)) (hst : st = As.reverse ++ .ref b :: rest) (hR : rm.frames + 1 ≤ R.frames ∧ 8 + (maxL + 11) + rm.locals ≤ R.locals) (hcat : (rest.map fun v => v.category).sum ≤ 8) (hroom : cells + rm.cells ≤ R.cells ∧ slots + rm.slots ≤ R.slots) (hk : cells + rm.cells = k ∧ slots + rm.slots = n) (hq : pc + 3 = q)
    (kx : ∀ E τ, Xq E τ → (E = "java/lang/IndexOutOfBoundsException" ∧ ∀ x, zG p l e R s m args below meth c D cy A nL k n Q Z τ (h1) lv ([.ref x])) ∨ (E = n2 ∧ ∀ x, zG p l e R s m args below meth c D cy A nL k n Q Z τ (h2) lv ([.ref x]))) (kk : ∀ τ, Qp τ → zG p l e R s m args below meth c D cy A nL k n Q Z τ (q) lv (rest)) : zG p l e R s m args below meth c D cy A nL cells slots Q Z S (pc) lv (st) := by
  subst hq
  obtain ⟨e1, e2⟩ := hk
  subst e1
  subst e2
  intro H locs ls hP hD hS hl
  obtain ⟨j, hj⟩ := zget hb.1 hF
  have hA1 : ∀ q, zA cy Z S H.size q → A q := zA_sub C0.2.2.1 hD hS
  refine vx_callv (vx_runV (As := As) (rest := rest) C0.1 (hM H.size) (cwV As.length C0.1.2.2.2.2 hG hw rfl rfl hd hR) ⟨zPc_blind, va_recv C0.2.1.1 hP hc hj, fun U hU hW => ⟨rfl, by rw [hU], by rw [hU]; exact hP, hD.weaken (fun _ _ _ _ => trivial), C0.2.1.call hS hA1 hU hW⟩⟩ rfl rfl hl.1 hst (lv_room hcat) hdg hroom) hS (fun q _ h => hA1 q h) hA1 (fun q _ h => hA1 q h) (fun E ce q9 u t H1 locs1 ht hvm _ hXB hz1 hk1 hS1 h9 hv9 hc9 => ?_) (fun u t H1 locs1 ht hvm hw hB hz1 hk1 hS1 => ?_)
  · subst ht
    obtain ⟨hX, hB⟩ := hXB
    rcases kx E u hX with ⟨rfl, hg⟩ | ⟨rfl, hg⟩
    · exact vx_catch (name := "java/lang/IndexOutOfBoundsException") C0.1.2.2.2.1 [] ({ startPc := a1, endPc := b1, handlerPc := h1, catchType := i1 } : ExceptionTableEntry) [({ startPc := a1, endPc := b1, handlerPc := h2, catchType := i2 } : ExceptionTableEntry)] (hH.trans rfl) (fun z hz => absurd hz List.not_mem_nil) hcov1 hi1 (C0.1.2.2.2.2 _ hk1') (va_Nw.use (zBw_on _ hcast1) (C0.2.1.2.1 _ hcast1)) h9 hv9 hc9 (hg q9 _ locs1 ls hB.1 (hB.2.weaken (fun k x hk h => hA1 x.1 h)) hS1 hl)
    · exact vx_catch (name := _) C0.1.2.2.2.1 [({ startPc := a1, endPc := b1, handlerPc := h1, catchType := i1 } : ExceptionTableEntry)] ({ startPc := a1, endPc := b1, handlerPc := h2, catchType := i2 } : ExceptionTableEntry) [] (hH.trans rfl) (fun z hz => by
        rw [List.mem_singleton.mp hz]
        exact Or.inr ⟨hi1, "java/lang/IndexOutOfBoundsException", C0.1.2.2.2.2 _ hk1', hnc⟩) hcov2 hi2 (C0.1.2.2.2.2 _ hk2) (va_Nw.use (zBw_on _ hcast2) (C0.2.1.2.1 _ hcast2)) h9 hv9 hc9 (hg q9 _ locs1 ls hB.1 (hB.2.weaken (fun k x hk h => hA1 x.1 h)) hS1 hl)
  · subst ht
    exact kk u hw _ locs1 ls hB.1 (hB.2.weaken (fun k x hk h => hA1 x.1 h)) hS1 hl
theorem zgc_call1i (C0 : zC p s m args meth c cc nL Ts own D cy A rt) {Cn : String} {T : u_T} {N ci : Nat} {fs : List Value} {b : Nat} {ret : Option FieldType} {index maxL k n a1 b1 h1 i1 : Nat} {y : MethodName} {bytes : ByteArray} {ws ws' : List Cond} {rm : Room} (As rest : List Value) {Qp : Int32 → zS → Prop} {Xq : String → zS → Prop} (hH : c.exceptionTable.toList = tableOf [(a1, b1, h1, i1)]) (hcov1 : covers ({ startPc := a1, endPc := b1, handlerPc := h1, catchType := i1 } : ExceptionTableEntry) pc = true) (hi1 : i1 ≠ 0) (hk1' : Cond.classLink own i1 "java/lang/IndexOutOfBoundsException" ∈ Ts) (hcast1 : Cond.castable "java/lang/IndexOutOfBoundsException" "java/lang/IndexOutOfBoundsException" ∈ zBw) (hdg : decode cc pc = .ok (.invokevirtual index, 3)) (hM : ∀ sz, zNi l y ws rm D cy Z S sz (.ref b :: As) Qp Xq) (hw : ws = Cond.code y bytes maxL ret :: ws') (hG : GoodIn Ts (wsV own index Cn y ws)) (hd : y.cls = Cn ∧ y.cls ≠ "java/lang/invoke/MethodHandle" ∧ y.cls ≠ "java/lang/invoke/VarHandle" ∧ (parseMethodDescriptor y.desc).map (fun d => d.parameters.length) = some As.length) (hb : zk Z b ci) (hF : zF cy Z S b = .inr (ci, fs)) (hc : vwCl[ci]? = some (Cn, T, N)) (hst : st = As.reverse ++ .ref b :: rest) (hR : rm.frames + 1 ≤ R.frames ∧ 8 + (maxL + 11) + rm.locals ≤ R.locals) (hcat : (rest.map fun v => v.category).sum ≤ 8) (hroom : cells + rm.cells ≤ R.cells ∧ slots + rm.slots ≤ R.slots) (hk : cells + rm.cells = k ∧ slots + rm.slots = n) (hq : pc + 3 = q)
    (kx : ∀ E τ, Xq E τ → E = "java/lang/IndexOutOfBoundsException" ∧ ∀ x, zG p l e R s m args below meth c D cy A nL k n Q Z τ (h1) lv ([.ref x])) (kk : ∀ r τ, Qp r τ → zG p l e R s m args below meth c D cy A nL k n Q Z τ (q) lv (.int r :: rest)) : zG p l e R s m args below meth c D cy A nL cells slots Q Z S (pc) lv (st) := by
  subst hq
  obtain ⟨e1, e2⟩ := hk
  subst e1
  subst e2
  intro H locs ls hP hD hS hl
  obtain ⟨j, hj⟩ := zget hb.1 hF
  have hA1 : ∀ q, zA cy Z S H.size q → A q := zA_sub C0.2.2.1 hD hS
  refine vx_calli (vx_runV (As := As) (rest := rest) C0.1 (hM H.size) (cwV As.length C0.1.2.2.2.2 hG hw rfl rfl hd hR) ⟨zPc_blind, va_recv C0.2.1.1 hP hc hj, fun U hU hW => ⟨rfl, by rw [hU], by rw [hU]; exact hP, hD.weaken (fun _ _ _ _ => trivial), C0.2.1.call hS hA1 hU hW⟩⟩ rfl rfl hl.1 hst (lv_room hcat) hdg hroom) hS (fun q _ h => hA1 q h) hA1 (fun q _ h => hA1 q h) (fun E ce q9 u t H1 locs1 ht hvm _ hXB hz1 hk1 hS1 h9 hv9 hc9 => ?_) (fun r u t H1 locs1 ht hvm hw hB hz1 hk1 hS1 => ?_)
  · subst ht
    obtain ⟨hX, hB⟩ := hXB
    obtain ⟨rfl, hg⟩ := kx E u hX
    exact vx_catch (name := "java/lang/IndexOutOfBoundsException") C0.1.2.2.2.1 [] ({ startPc := a1, endPc := b1, handlerPc := h1, catchType := i1 } : ExceptionTableEntry) [] (hH.trans rfl) (fun z hz => absurd hz List.not_mem_nil) hcov1 hi1 (C0.1.2.2.2.2 _ hk1') (va_Nw.use (zBw_on _ hcast1) (C0.2.1.2.1 _ hcast1)) h9 hv9 hc9 (hg q9 _ locs1 ls hB.1 (hB.2.weaken (fun k x hk h => hA1 x.1 h)) hS1 hl)
  · subst ht
    exact kk r u hw _ locs1 ls hB.1 (hB.2.weaken (fun k x hk h => hA1 x.1 h)) hS1 hl
theorem zgc_call2i (C0 : zC p s m args meth c cc nL Ts own D cy A rt) {Cn : String} {T : u_T} {N ci : Nat} {fs : List Value} {b : Nat} {ret : Option FieldType} {index maxL k n a1 b1 h1 i1 h2 i2 : Nat} {n2 : String} {y : MethodName} {bytes : ByteArray} {ws ws' : List Cond} {rm : Room} (As rest : List Value) {Qp : Int32 → zS → Prop} {Xq : String → zS → Prop} (hH : c.exceptionTable.toList = tableOf [(a1, b1, h1, i1), (a1, b1, h2, i2)]) (hcov1 : covers ({ startPc := a1, endPc := b1, handlerPc := h1, catchType := i1 } : ExceptionTableEntry) pc = true) (hcov2 : covers ({ startPc := a1, endPc := b1, handlerPc := h2, catchType := i2 } : ExceptionTableEntry) pc = true) (hi1 : i1 ≠ 0) (hk1' : Cond.classLink own i1 "java/lang/IndexOutOfBoundsException" ∈ Ts) (hcast1 : Cond.castable "java/lang/IndexOutOfBoundsException" "java/lang/IndexOutOfBoundsException" ∈ zBw) (hi2 : i2 ≠ 0) (hk2 : Cond.classLink own i2 n2 ∈ Ts) (hcast2 : Cond.castable n2 n2 ∈ zBw) (hnc : va_Nc n2 "java/lang/IndexOutOfBoundsException" s) (hdg : decode cc pc = .ok (.invokevirtual index, 3)) (hM : ∀ sz, zNi l y ws rm D cy Z S sz (.ref b :: As) Qp Xq) (hw : ws = Cond.code y bytes maxL ret :: ws') (hG : GoodIn Ts (wsV own index Cn y ws)) (hd : y.cls = Cn ∧ y.cls ≠ "java/lang/invoke/MethodHandle" ∧ y.cls ≠ "java/lang/invoke/VarHandle" ∧ (parseMethodDescriptor y.desc).map (fun d => d.parameters.length) = some As.length) (hb : zk Z b ci) (hF : zF cy Z S b = .inr (ci, fs)) (hc : vwCl[ci]? = some (Cn, T, N)) (hst : st = As.reverse ++ .ref b :: rest) (hR : rm.frames + 1 ≤ R.frames ∧ 8 + (maxL + 11) + rm.locals ≤ R.locals) (hcat : (rest.map fun v => v.category).sum ≤ 8) (hroom : cells + rm.cells ≤ R.cells ∧ slots + rm.slots ≤ R.slots) (hk : cells + rm.cells = k ∧ slots + rm.slots = n) (hq : pc + 3 = q)
    (kx : ∀ E τ, Xq E τ → (E = "java/lang/IndexOutOfBoundsException" ∧ ∀ x, zG p l e R s m args below meth c D cy A nL k n Q Z τ (h1) lv ([.ref x])) ∨ (E = n2 ∧ ∀ x, zG p l e R s m args below meth c D cy A nL k n Q Z τ (h2) lv ([.ref x]))) (kk : ∀ r τ, Qp r τ → zG p l e R s m args below meth c D cy A nL k n Q Z τ (q) lv (.int r :: rest)) : zG p l e R s m args below meth c D cy A nL cells slots Q Z S (pc) lv (st) := by
  subst hq
  obtain ⟨e1, e2⟩ := hk
  subst e1
  subst e2
  intro H locs ls hP hD hS hl
  obtain ⟨j, hj⟩ := zget hb.1 hF
  have hA1 : ∀ q, zA cy Z S H.size q → A q := zA_sub C0.2.2.1 hD hS
  refine vx_calli (vx_runV (As := As) (rest := rest) C0.1 (hM H.size) (cwV As.length C0.1.2.2.2.2 hG hw rfl rfl hd hR) ⟨zPc_blind, va_recv C0.2.1.1 hP hc hj, fun U hU hW => ⟨rfl, by rw [hU], by rw [hU]; exact hP, hD.weaken (fun _ _ _ _ => trivial), C0.2.1.call hS hA1 hU hW⟩⟩ rfl rfl hl.1 hst (lv_room hcat) hdg hroom) hS (fun q _ h => hA1 q h) hA1 (fun q _ h => hA1 q h) (fun E ce q9 u t H1 locs1 ht hvm _ hXB hz1 hk1 hS1 h9 hv9 hc9 => ?_) (fun r u t H1 locs1 ht hvm hw hB hz1 hk1 hS1 => ?_)
  · subst ht
    obtain ⟨hX, hB⟩ := hXB
    rcases kx E u hX with ⟨rfl, hg⟩ | ⟨rfl, hg⟩
    · exact vx_catch (name := "java/lang/IndexOutOfBoundsException") C0.1.2.2.2.1 [] ({ startPc := a1, endPc := b1, handlerPc := h1, catchType := i1 } : ExceptionTableEntry) [({ startPc := a1, endPc := b1, handlerPc := h2, catchType := i2 } : ExceptionTableEntry)] (hH.trans rfl) (fun z hz => absurd hz List.not_mem_nil) hcov1 hi1 (C0.1.2.2.2.2 _ hk1') (va_Nw.use (zBw_on _ hcast1) (C0.2.1.2.1 _ hcast1)) h9 hv9 hc9 (hg q9 _ locs1 ls hB.1 (hB.2.weaken (fun k x hk h => hA1 x.1 h)) hS1 hl)
    · exact vx_catch (name := _) C0.1.2.2.2.1 [({ startPc := a1, endPc := b1, handlerPc := h1, catchType := i1 } : ExceptionTableEntry)] ({ startPc := a1, endPc := b1, handlerPc := h2, catchType := i2 } : ExceptionTableEntry) [] (hH.trans rfl) (fun z hz => by
        rw [List.mem_singleton.mp hz]
        exact Or.inr ⟨hi1, "java/lang/IndexOutOfBoundsException", C0.1.2.2.2.2 _ hk1', hnc⟩) hcov2 hi2 (C0.1.2.2.2.2 _ hk2) (va_Nw.use (zBw_on _ hcast2) (C0.2.1.2.1 _ hcast2)) h9 hv9 hc9 (hg q9 _ locs1 ls hB.1 (hB.2.weaken (fun k x hk h => hA1 x.1 h)) hS1 hl)
  · subst ht
    exact kk r u hw _ locs1 ls hB.1 (hB.2.weaken (fun k x hk h => hA1 x.1 h)) hS1 hl
theorem zgc_call1l (C0 : zC p s m args meth c cc nL Ts own D cy A rt) {Cn : String} {T : u_T} {N ci : Nat} {fs : List Value} {b : Nat} {ret : Option FieldType} {index maxL k n a1 b1 h1 i1 : Nat} {y : MethodName} {bytes : ByteArray} {ws ws' : List Cond} {rm : Room} (As rest : List Value) {Qp : Int64 → zS → Prop} {Xq : String → zS → Prop} (hH : c.exceptionTable.toList = tableOf [(a1, b1, h1, i1)]) (hcov1 : covers ({ startPc := a1, endPc := b1, handlerPc := h1, catchType := i1 } : ExceptionTableEntry) pc = true) (hi1 : i1 ≠ 0) (hk1' : Cond.classLink own i1 "java/lang/IndexOutOfBoundsException" ∈ Ts) (hcast1 : Cond.castable "java/lang/IndexOutOfBoundsException" "java/lang/IndexOutOfBoundsException" ∈ zBw) (hdg : decode cc pc = .ok (.invokevirtual index, 3)) (hM : ∀ sz, zNl l y ws rm D cy Z S sz (.ref b :: As) Qp Xq) (hw : ws = Cond.code y bytes maxL ret :: ws') (hG : GoodIn Ts (wsV own index Cn y ws)) (hd : y.cls = Cn ∧ y.cls ≠ "java/lang/invoke/MethodHandle" ∧ y.cls ≠ "java/lang/invoke/VarHandle" ∧ (parseMethodDescriptor y.desc).map (fun d => d.parameters.length) = some As.length) (hb : zk Z b ci) (hF : zF cy Z S b = .inr (ci, fs)) (hc : vwCl[ci]? = some (Cn, T, N)) (hst : st = As.reverse ++ .ref b :: rest) (hR : rm.frames + 1 ≤ R.frames ∧ 8 + (maxL + 11) + rm.locals ≤ R.locals) (hcat : (rest.map fun v => v.category).sum ≤ 8) (hroom : cells + rm.cells ≤ R.cells ∧ slots + rm.slots ≤ R.slots) (hk : cells + rm.cells = k ∧ slots + rm.slots = n) (hq : pc + 3 = q)
    (kx : ∀ E τ, Xq E τ → E = "java/lang/IndexOutOfBoundsException" ∧ ∀ x, zG p l e R s m args below meth c D cy A nL k n Q Z τ (h1) lv ([.ref x])) (kk : ∀ r τ, Qp r τ → zG p l e R s m args below meth c D cy A nL k n Q Z τ (q) lv (.long r :: rest)) : zG p l e R s m args below meth c D cy A nL cells slots Q Z S (pc) lv (st) := by
  subst hq
  obtain ⟨e1, e2⟩ := hk
  subst e1
  subst e2
  intro H locs ls hP hD hS hl
  obtain ⟨j, hj⟩ := zget hb.1 hF
  have hA1 : ∀ q, zA cy Z S H.size q → A q := zA_sub C0.2.2.1 hD hS
  refine vx_calll (vx_runV (As := As) (rest := rest) C0.1 (hM H.size) (cwV As.length C0.1.2.2.2.2 hG hw rfl rfl hd hR) ⟨zPc_blind, va_recv C0.2.1.1 hP hc hj, fun U hU hW => ⟨rfl, by rw [hU], by rw [hU]; exact hP, hD.weaken (fun _ _ _ _ => trivial), C0.2.1.call hS hA1 hU hW⟩⟩ rfl rfl hl.1 hst (lv_room hcat) hdg hroom) hS (fun q _ h => hA1 q h) hA1 (fun q _ h => hA1 q h) (fun E ce q9 u t H1 locs1 ht hvm _ hXB hz1 hk1 hS1 h9 hv9 hc9 => ?_) (fun r u t H1 locs1 ht hvm hw hB hz1 hk1 hS1 => ?_)
  · subst ht
    obtain ⟨hX, hB⟩ := hXB
    obtain ⟨rfl, hg⟩ := kx E u hX
    exact vx_catch (name := "java/lang/IndexOutOfBoundsException") C0.1.2.2.2.1 [] ({ startPc := a1, endPc := b1, handlerPc := h1, catchType := i1 } : ExceptionTableEntry) [] (hH.trans rfl) (fun z hz => absurd hz List.not_mem_nil) hcov1 hi1 (C0.1.2.2.2.2 _ hk1') (va_Nw.use (zBw_on _ hcast1) (C0.2.1.2.1 _ hcast1)) h9 hv9 hc9 (hg q9 _ locs1 ls hB.1 (hB.2.weaken (fun k x hk h => hA1 x.1 h)) hS1 hl)
  · subst ht
    exact kk r u hw _ locs1 ls hB.1 (hB.2.weaken (fun k x hk h => hA1 x.1 h)) hS1 hl
theorem zgc_call2l (C0 : zC p s m args meth c cc nL Ts own D cy A rt) {Cn : String} {T : u_T} {N ci : Nat} {fs : List Value} {b : Nat} {ret : Option FieldType} {index maxL k n a1 b1 h1 i1 h2 i2 : Nat} {n2 : String} {y : MethodName} {bytes : ByteArray} {ws ws' : List Cond} {rm : Room} (As rest : List Value) {Qp : Int64 → zS → Prop} {Xq : String → zS → Prop} (hH : c.exceptionTable.toList = tableOf [(a1, b1, h1, i1), (a1, b1, h2, i2)]) (hcov1 : covers ({ startPc := a1, endPc := b1, handlerPc := h1, catchType := i1 } : ExceptionTableEntry) pc = true) (hcov2 : covers ({ startPc := a1, endPc := b1, handlerPc := h2, catchType := i2 } : ExceptionTableEntry) pc = true) (hi1 : i1 ≠ 0) (hk1' : Cond.classLink own i1 "java/lang/IndexOutOfBoundsException" ∈ Ts) (hcast1 : Cond.castable "java/lang/IndexOutOfBoundsException" "java/lang/IndexOutOfBoundsException" ∈ zBw) (hi2 : i2 ≠ 0) (hk2 : Cond.classLink own i2 n2 ∈ Ts) (hcast2 : Cond.castable n2 n2 ∈ zBw) (hnc : va_Nc n2 "java/lang/IndexOutOfBoundsException" s) (hdg : decode cc pc = .ok (.invokevirtual index, 3)) (hM : ∀ sz, zNl l y ws rm D cy Z S sz (.ref b :: As) Qp Xq) (hw : ws = Cond.code y bytes maxL ret :: ws') (hG : GoodIn Ts (wsV own index Cn y ws)) (hd : y.cls = Cn ∧ y.cls ≠ "java/lang/invoke/MethodHandle" ∧ y.cls ≠ "java/lang/invoke/VarHandle" ∧ (parseMethodDescriptor y.desc).map (fun d => d.parameters.length) = some As.length) (hb : zk Z b ci) (hF : zF cy Z S b = .inr (ci, fs)) (hc : vwCl[ci]? = some (Cn, T, N)) (hst : st = As.reverse ++ .ref b :: rest) (hR : rm.frames + 1 ≤ R.frames ∧ 8 + (maxL + 11) + rm.locals ≤ R.locals) (hcat : (rest.map fun v => v.category).sum ≤ 8) (hroom : cells + rm.cells ≤ R.cells ∧ slots + rm.slots ≤ R.slots) (hk : cells + rm.cells = k ∧ slots + rm.slots = n) (hq : pc + 3 = q)
    (kx : ∀ E τ, Xq E τ → (E = "java/lang/IndexOutOfBoundsException" ∧ ∀ x, zG p l e R s m args below meth c D cy A nL k n Q Z τ (h1) lv ([.ref x])) ∨ (E = n2 ∧ ∀ x, zG p l e R s m args below meth c D cy A nL k n Q Z τ (h2) lv ([.ref x]))) (kk : ∀ r τ, Qp r τ → zG p l e R s m args below meth c D cy A nL k n Q Z τ (q) lv (.long r :: rest)) : zG p l e R s m args below meth c D cy A nL cells slots Q Z S (pc) lv (st) := by
  subst hq
  obtain ⟨e1, e2⟩ := hk
  subst e1
  subst e2
  intro H locs ls hP hD hS hl
  obtain ⟨j, hj⟩ := zget hb.1 hF
  have hA1 : ∀ q, zA cy Z S H.size q → A q := zA_sub C0.2.2.1 hD hS
  refine vx_calll (vx_runV (As := As) (rest := rest) C0.1 (hM H.size) (cwV As.length C0.1.2.2.2.2 hG hw rfl rfl hd hR) ⟨zPc_blind, va_recv C0.2.1.1 hP hc hj, fun U hU hW => ⟨rfl, by rw [hU], by rw [hU]; exact hP, hD.weaken (fun _ _ _ _ => trivial), C0.2.1.call hS hA1 hU hW⟩⟩ rfl rfl hl.1 hst (lv_room hcat) hdg hroom) hS (fun q _ h => hA1 q h) hA1 (fun q _ h => hA1 q h) (fun E ce q9 u t H1 locs1 ht hvm _ hXB hz1 hk1 hS1 h9 hv9 hc9 => ?_) (fun r u t H1 locs1 ht hvm hw hB hz1 hk1 hS1 => ?_)
  · subst ht
    obtain ⟨hX, hB⟩ := hXB
    rcases kx E u hX with ⟨rfl, hg⟩ | ⟨rfl, hg⟩
    · exact vx_catch (name := "java/lang/IndexOutOfBoundsException") C0.1.2.2.2.1 [] ({ startPc := a1, endPc := b1, handlerPc := h1, catchType := i1 } : ExceptionTableEntry) [({ startPc := a1, endPc := b1, handlerPc := h2, catchType := i2 } : ExceptionTableEntry)] (hH.trans rfl) (fun z hz => absurd hz List.not_mem_nil) hcov1 hi1 (C0.1.2.2.2.2 _ hk1') (va_Nw.use (zBw_on _ hcast1) (C0.2.1.2.1 _ hcast1)) h9 hv9 hc9 (hg q9 _ locs1 ls hB.1 (hB.2.weaken (fun k x hk h => hA1 x.1 h)) hS1 hl)
    · exact vx_catch (name := _) C0.1.2.2.2.1 [({ startPc := a1, endPc := b1, handlerPc := h1, catchType := i1 } : ExceptionTableEntry)] ({ startPc := a1, endPc := b1, handlerPc := h2, catchType := i2 } : ExceptionTableEntry) [] (hH.trans rfl) (fun z hz => by
        rw [List.mem_singleton.mp hz]
        exact Or.inr ⟨hi1, "java/lang/IndexOutOfBoundsException", C0.1.2.2.2.2 _ hk1', hnc⟩) hcov2 hi2 (C0.1.2.2.2.2 _ hk2) (va_Nw.use (zBw_on _ hcast2) (C0.2.1.2.1 _ hcast2)) h9 hv9 hc9 (hg q9 _ locs1 ls hB.1 (hB.2.weaken (fun k x hk h => hA1 x.1 h)) hS1 hl)
  · subst ht
    exact kk r u hw _ locs1 ls hB.1 (hB.2.weaken (fun k x hk h => hA1 x.1 h)) hS1 hl
theorem zgc_call1z (C0 : zC p s m args meth c cc nL Ts own D cy A rt) {Cn : String} {T : u_T} {N ci : Nat} {fs : List Value} {b : Nat} {ret : Option FieldType} {index maxL k n a1 b1 h1 i1 : Nat} {y : MethodName} {bytes : ByteArray} {ws ws' : List Cond} {rm : Room} (As rest : List Value) {Qp : Int32 → zZ → zS → Prop} {Xq : String → zS → Prop} (hH : c.exceptionTable.toList = tableOf [(a1, b1, h1, i1)]) (hcov1 : covers ({ startPc := a1, endPc := b1, handlerPc := h1, catchType := i1 } : ExceptionTableEntry) pc = true) (hi1 : i1 ≠ 0) (hk1' : Cond.classLink own i1 "java/lang/IndexOutOfBoundsException" ∈ Ts) (hcast1 : Cond.castable "java/lang/IndexOutOfBoundsException" "java/lang/IndexOutOfBoundsException" ∈ zBw) (hdg : decode cc pc = .ok (.invokevirtual index, 3)) (hM : ∀ sz, zNz l y ws rm D cy Z S sz (.ref b :: As) Qp Xq) (hw : ws = Cond.code y bytes maxL ret :: ws') (hG : GoodIn Ts (wsV own index Cn y ws)) (hd : y.cls = Cn ∧ y.cls ≠ "java/lang/invoke/MethodHandle" ∧ y.cls ≠ "java/lang/invoke/VarHandle" ∧ (parseMethodDescriptor y.desc).map (fun d => d.parameters.length) = some As.length) (hb : zk Z b ci) (hF : zF cy Z S b = .inr (ci, fs)) (hc : vwCl[ci]? = some (Cn, T, N)) (hst : st = As.reverse ++ .ref b :: rest) (hR : rm.frames + 1 ≤ R.frames ∧ 8 + (maxL + 11) + rm.locals ≤ R.locals) (hcat : (rest.map fun v => v.category).sum ≤ 8) (hroom : cells + rm.cells ≤ R.cells ∧ slots + rm.slots ≤ R.slots) (hk : cells + rm.cells = k ∧ slots + rm.slots = n) (hq : pc + 3 = q)
    (kx : ∀ E τ, Xq E τ → E = "java/lang/IndexOutOfBoundsException" ∧ ∀ x, zG p l e R s m args below meth c D cy A nL k n Q Z τ (h1) lv ([.ref x])) (kk : ∀ r Zt τ, Qp r Zt τ → zG p l e R s m args below meth c D cy A nL k n Q Zt τ (q) lv (.int r :: rest)) : zG p l e R s m args below meth c D cy A nL cells slots Q Z S (pc) lv (st) := by
  subst hq
  obtain ⟨e1, e2⟩ := hk
  subst e1
  subst e2
  intro H locs ls hP hD hS hl
  obtain ⟨j, hj⟩ := zget hb.1 hF
  have hA1 : ∀ q, zA cy Z S H.size q → A q := zA_sub C0.2.2.1 hD hS
  refine vx_calli (vx_runV (As := As) (rest := rest) C0.1 (hM H.size) (cwV As.length C0.1.2.2.2.2 hG hw rfl rfl hd hR) ⟨zPc_blind, va_recv C0.2.1.1 hP hc hj, fun U hU hW => ⟨rfl, by rw [hU], by rw [hU]; exact hP, hD.weaken (fun _ _ _ _ => trivial), C0.2.1.call hS hA1 hU hW⟩⟩ rfl rfl hl.1 hst (lv_room hcat) hdg hroom) hS (fun q _ h => hA1 q h) hA1 (fun q _ h => hA1 q h) (fun E ce q9 u t H1 locs1 ht hvm _ hXB hz1 hk1 hS1 h9 hv9 hc9 => ?_) (fun r u t H1 locs1 ht hvm hw hB hz1 hk1 hS1 => ?_)
  · subst ht
    obtain ⟨hX, hB⟩ := hXB
    obtain ⟨rfl, hg⟩ := kx E u hX
    exact vx_catch (name := "java/lang/IndexOutOfBoundsException") C0.1.2.2.2.1 [] ({ startPc := a1, endPc := b1, handlerPc := h1, catchType := i1 } : ExceptionTableEntry) [] (hH.trans rfl) (fun z hz => absurd hz List.not_mem_nil) hcov1 hi1 (C0.1.2.2.2.2 _ hk1') (va_Nw.use (zBw_on _ hcast1) (C0.2.1.2.1 _ hcast1)) h9 hv9 hc9 (hg q9 _ locs1 ls hB.1 (hB.2.weaken (fun k x hk h => hA1 x.1 h)) hS1 hl)
  · subst ht
    exact kk r u.1 u.2 hw _ locs1 ls hB.1 (hB.2.weaken (fun k x hk h => hA1 x.1 h)) hS1 hl
theorem zgc_call2z (C0 : zC p s m args meth c cc nL Ts own D cy A rt) {Cn : String} {T : u_T} {N ci : Nat} {fs : List Value} {b : Nat} {ret : Option FieldType} {index maxL k n a1 b1 h1 i1 h2 i2 : Nat} {n2 : String} {y : MethodName} {bytes : ByteArray} {ws ws' : List Cond} {rm : Room} (As rest : List Value) {Qp : Int32 → zZ → zS → Prop} {Xq : String → zS → Prop} (hH : c.exceptionTable.toList = tableOf [(a1, b1, h1, i1), (a1, b1, h2, i2)]) (hcov1 : covers ({ startPc := a1, endPc := b1, handlerPc := h1, catchType := i1 } : ExceptionTableEntry) pc = true) (hcov2 : covers ({ startPc := a1, endPc := b1, handlerPc := h2, catchType := i2 } : ExceptionTableEntry) pc = true) (hi1 : i1 ≠ 0) (hk1' : Cond.classLink own i1 "java/lang/IndexOutOfBoundsException" ∈ Ts) (hcast1 : Cond.castable "java/lang/IndexOutOfBoundsException" "java/lang/IndexOutOfBoundsException" ∈ zBw) (hi2 : i2 ≠ 0) (hk2 : Cond.classLink own i2 n2 ∈ Ts) (hcast2 : Cond.castable n2 n2 ∈ zBw) (hnc : va_Nc n2 "java/lang/IndexOutOfBoundsException" s) (hdg : decode cc pc = .ok (.invokevirtual index, 3)) (hM : ∀ sz, zNz l y ws rm D cy Z S sz (.ref b :: As) Qp Xq) (hw : ws = Cond.code y bytes maxL ret :: ws') (hG : GoodIn Ts (wsV own index Cn y ws)) (hd : y.cls = Cn ∧ y.cls ≠ "java/lang/invoke/MethodHandle" ∧ y.cls ≠ "java/lang/invoke/VarHandle" ∧ (parseMethodDescriptor y.desc).map (fun d => d.parameters.length) = some As.length) (hb : zk Z b ci) (hF : zF cy Z S b = .inr (ci, fs)) (hc : vwCl[ci]? = some (Cn, T, N)) (hst : st = As.reverse ++ .ref b :: rest) (hR : rm.frames + 1 ≤ R.frames ∧ 8 + (maxL + 11) + rm.locals ≤ R.locals) (hcat : (rest.map fun v => v.category).sum ≤ 8) (hroom : cells + rm.cells ≤ R.cells ∧ slots + rm.slots ≤ R.slots) (hk : cells + rm.cells = k ∧ slots + rm.slots = n) (hq : pc + 3 = q)
    (kx : ∀ E τ, Xq E τ → (E = "java/lang/IndexOutOfBoundsException" ∧ ∀ x, zG p l e R s m args below meth c D cy A nL k n Q Z τ (h1) lv ([.ref x])) ∨ (E = n2 ∧ ∀ x, zG p l e R s m args below meth c D cy A nL k n Q Z τ (h2) lv ([.ref x]))) (kk : ∀ r Zt τ, Qp r Zt τ → zG p l e R s m args below meth c D cy A nL k n Q Zt τ (q) lv (.int r :: rest)) : zG p l e R s m args below meth c D cy A nL cells slots Q Z S (pc) lv (st) := by
  subst hq
  obtain ⟨e1, e2⟩ := hk
  subst e1
  subst e2
  intro H locs ls hP hD hS hl
  obtain ⟨j, hj⟩ := zget hb.1 hF
  have hA1 : ∀ q, zA cy Z S H.size q → A q := zA_sub C0.2.2.1 hD hS
  refine vx_calli (vx_runV (As := As) (rest := rest) C0.1 (hM H.size) (cwV As.length C0.1.2.2.2.2 hG hw rfl rfl hd hR) ⟨zPc_blind, va_recv C0.2.1.1 hP hc hj, fun U hU hW => ⟨rfl, by rw [hU], by rw [hU]; exact hP, hD.weaken (fun _ _ _ _ => trivial), C0.2.1.call hS hA1 hU hW⟩⟩ rfl rfl hl.1 hst (lv_room hcat) hdg hroom) hS (fun q _ h => hA1 q h) hA1 (fun q _ h => hA1 q h) (fun E ce q9 u t H1 locs1 ht hvm _ hXB hz1 hk1 hS1 h9 hv9 hc9 => ?_) (fun r u t H1 locs1 ht hvm hw hB hz1 hk1 hS1 => ?_)
  · subst ht
    obtain ⟨hX, hB⟩ := hXB
    rcases kx E u hX with ⟨rfl, hg⟩ | ⟨rfl, hg⟩
    · exact vx_catch (name := "java/lang/IndexOutOfBoundsException") C0.1.2.2.2.1 [] ({ startPc := a1, endPc := b1, handlerPc := h1, catchType := i1 } : ExceptionTableEntry) [({ startPc := a1, endPc := b1, handlerPc := h2, catchType := i2 } : ExceptionTableEntry)] (hH.trans rfl) (fun z hz => absurd hz List.not_mem_nil) hcov1 hi1 (C0.1.2.2.2.2 _ hk1') (va_Nw.use (zBw_on _ hcast1) (C0.2.1.2.1 _ hcast1)) h9 hv9 hc9 (hg q9 _ locs1 ls hB.1 (hB.2.weaken (fun k x hk h => hA1 x.1 h)) hS1 hl)
    · exact vx_catch (name := _) C0.1.2.2.2.1 [({ startPc := a1, endPc := b1, handlerPc := h1, catchType := i1 } : ExceptionTableEntry)] ({ startPc := a1, endPc := b1, handlerPc := h2, catchType := i2 } : ExceptionTableEntry) [] (hH.trans rfl) (fun z hz => by
        rw [List.mem_singleton.mp hz]
        exact Or.inr ⟨hi1, "java/lang/IndexOutOfBoundsException", C0.1.2.2.2.2 _ hk1', hnc⟩) hcov2 hi2 (C0.1.2.2.2.2 _ hk2) (va_Nw.use (zBw_on _ hcast2) (C0.2.1.2.1 _ hcast2)) h9 hv9 hc9 (hg q9 _ locs1 ls hB.1 (hB.2.weaken (fun k x hk h => hA1 x.1 h)) hS1 hl)
  · subst ht
    exact kk r u.1 u.2 hw _ locs1 ls hB.1 (hB.2.weaken (fun k x hk h => hA1 x.1 h)) hS1 hl
theorem zgl_calli (C0 : zC p s m args meth c cc nL Ts own D cy A rt) {ret : Option FieldType} {index maxL k n : Nat} {hh : List (Nat × Nat × Nat × Nat)} {y : MethodName} {bytes : ByteArray} {ws ws' : List Cond} {rm : Room} (As rest : List Value) {Qp : Int32 → zS → Prop} (hdg : decode cc pc = .ok (.invokestatic index, 3)) (hM : ∀ sz, zNi l y ws rm D cy Z S sz As Qp (fun _ _ => False)) (hw : ws = Cond.codeWith y bytes maxL ret hh :: ws') (hG : GoodIn Ts ws) (hlk : Cond.methodLink own index y ∈ Ts) (hsta : Cond.static y ∈ Ts) (hini : Cond.initialized y.cls ∈ Ts) (hd : y.cls ≠ "java/lang/invoke/MethodHandle" ∧ y.cls ≠ "java/lang/invoke/VarHandle" ∧ (parseMethodDescriptor y.desc).map (fun d => d.parameters.length) = some As.length) (hst : st = As.reverse ++ rest) (hR : rm.frames + 1 ≤ R.frames ∧ 8 + (maxL + 11) + rm.locals ≤ R.locals) (hcat : (rest.map fun v => v.category).sum ≤ 8) (hroom : cells + rm.cells ≤ R.cells ∧ slots + rm.slots ≤ R.slots) (hk : cells + rm.cells = k ∧ slots + rm.slots = n) (hq : pc + 3 = q)
    (kk : ∀ r τ, Qp r τ → zG p l e R s m args below meth c D cy A nL k n Q Z τ (q) lv (.int r :: rest)) : zG p l e R s m args below meth c D cy A nL cells slots Q Z S (pc) lv (st) := by
  subst hq
  obtain ⟨e1, e2⟩ := hk
  subst e1
  subst e2
  intro H locs ls hP hD hS hl
  have hA1 : ∀ q, zA cy Z S H.size q → A q := zA_sub C0.2.2.1 hD hS
  have hcw : Cond.codeWith y bytes maxL ret hh ∈ ws := by
    rw [hw]
    exact List.mem_cons_self
  refine vx_calli (vx_runSX (As := As) (rest := rest) C0.1 (hM H.size) ⟨⟨rfl, rfl, hR.1, hR.2, pay_in C0.1.2.2.2.2 hG, hcw⟩, C0.1.2.2.2.2 _ (hG _ hcw).1, C0.1.2.2.2.2 _ hini, ⟨hd.1, hd.2.1⟩, (fun sig h => by
      have h2 := hd.2.2
      rw [h] at h2
      exact (Option.some.inj h2).symm), C0.1.2.2.2.2 _ hlk, C0.1.2.2.2.2 _ hsta⟩ ⟨zPc_blind, fun U hU hW => ⟨rfl, by rw [hU], by rw [hU]; exact hP, hD.weaken (fun _ _ _ _ => trivial), C0.2.1.call hS hA1 hU hW⟩⟩ rfl rfl hl.1 hst (lv_room hcat) hdg hroom) hS (fun q _ h => hA1 q h) hA1 (fun q _ h => hA1 q h) (fun E ce q9 u t H1 locs1 ht hvm _ hXB hz1 hk1 hS1 h9 hv9 hc9 => hXB.1.elim) (fun r u t H1 locs1 ht hvm hw hB hz1 hk1 hS1 => ?_)
  subst ht
  exact kk r u hw _ locs1 ls hB.1 (hB.2.weaken (fun k x hk h => hA1 x.1 h)) hS1 hl
theorem zgl_callz (C0 : zC p s m args meth c cc nL Ts own D cy A rt) {ret : Option FieldType} {index maxL k n : Nat} {hh : List (Nat × Nat × Nat × Nat)} {y : MethodName} {bytes : ByteArray} {ws ws' : List Cond} {rm : Room} (As rest : List Value) {Qp : Int32 → zZ → zS → Prop} (hdg : decode cc pc = .ok (.invokestatic index, 3)) (hM : ∀ sz, zNz l y ws rm D cy Z S sz As Qp (fun _ _ => False)) (hw : ws = Cond.codeWith y bytes maxL ret hh :: ws') (hG : GoodIn Ts ws) (hlk : Cond.methodLink own index y ∈ Ts) (hsta : Cond.static y ∈ Ts) (hini : Cond.initialized y.cls ∈ Ts) (hd : y.cls ≠ "java/lang/invoke/MethodHandle" ∧ y.cls ≠ "java/lang/invoke/VarHandle" ∧ (parseMethodDescriptor y.desc).map (fun d => d.parameters.length) = some As.length) (hst : st = As.reverse ++ rest) (hR : rm.frames + 1 ≤ R.frames ∧ 8 + (maxL + 11) + rm.locals ≤ R.locals) (hcat : (rest.map fun v => v.category).sum ≤ 8) (hroom : cells + rm.cells ≤ R.cells ∧ slots + rm.slots ≤ R.slots) (hk : cells + rm.cells = k ∧ slots + rm.slots = n) (hq : pc + 3 = q)
    (kk : ∀ r Zt τ, Qp r Zt τ → zG p l e R s m args below meth c D cy A nL k n Q Zt τ (q) lv (.int r :: rest)) : zG p l e R s m args below meth c D cy A nL cells slots Q Z S (pc) lv (st) := by
  subst hq
  obtain ⟨e1, e2⟩ := hk
  subst e1
  subst e2
  intro H locs ls hP hD hS hl
  have hA1 : ∀ q, zA cy Z S H.size q → A q := zA_sub C0.2.2.1 hD hS
  have hcw : Cond.codeWith y bytes maxL ret hh ∈ ws := by
    rw [hw]
    exact List.mem_cons_self
  refine vx_calli (vx_runSX (As := As) (rest := rest) C0.1 (hM H.size) ⟨⟨rfl, rfl, hR.1, hR.2, pay_in C0.1.2.2.2.2 hG, hcw⟩, C0.1.2.2.2.2 _ (hG _ hcw).1, C0.1.2.2.2.2 _ hini, ⟨hd.1, hd.2.1⟩, (fun sig h => by
      have h2 := hd.2.2
      rw [h] at h2
      exact (Option.some.inj h2).symm), C0.1.2.2.2.2 _ hlk, C0.1.2.2.2.2 _ hsta⟩ ⟨zPc_blind, fun U hU hW => ⟨rfl, by rw [hU], by rw [hU]; exact hP, hD.weaken (fun _ _ _ _ => trivial), C0.2.1.call hS hA1 hU hW⟩⟩ rfl rfl hl.1 hst (lv_room hcat) hdg hroom) hS (fun q _ h => hA1 q h) hA1 (fun q _ h => hA1 q h) (fun E ce q9 u t H1 locs1 ht hvm _ hXB hz1 hk1 hS1 h9 hv9 hc9 => hXB.1.elim) (fun r u t H1 locs1 ht hvm hw hB hz1 hk1 hS1 => ?_)
  subst ht
  exact kk r u.1 u.2 hw _ locs1 ls hB.1 (hB.2.weaken (fun k x hk h => hA1 x.1 h)) hS1 hl
end ZL
