section VXCQ
variable {p : Program} {l : Launch} {e : Env} {R : Room} {s : State} {m : MethodId} {args : Array Value} {below : List Frame} {meth : Method} {c : Code} {H : Heap} {locs : List Loc} {cells slots : Nat} {Q : State → Prop}
variable {mc ms : Nat} {free : Addr → Prop} {A0 A1 : Nat → Prop} {H0 : Heap} {a : Array Value} {pc : Nat} {ls : Array Slot} {st0 rest : List Value}
theorem vx_callq {S SX : Type} {post : Option Nat → S → Prop} {px : SX → Prop} {B : S → State → Prop} {BX : String → SX → State → Prop} {AX : Nat → Prop} (hr : vx_Run p l e R s m args below meth c H locs cells slots mc ms (F0 m pc ls st0) rest (va_Qq post B A1 a) (vx_X px BX AX) free) (hS : va_S A0 H0 H locs) (hA : ∀ q, q < H.size → A1 q → A0 q) (hf : ∀ q, free q → A0 q) (hAX : ∀ q, q < H.size → AX q → A0 q)
    (kx : ∀ (E : String) (ce : Cell) (q9 : Addr) (u : SX) (t : State) (H1 : Heap) (locs1 : List Loc), t.heap = H1 → s.vm.Alike t.vm → px u → BX E u t → H.size ≤ H1.size → (∀ q : Nat, q < H.size → ¬ AX q → H1[q]? = H[q]?) → va_S A0 H0 H1 locs1 → H1[q9]? = some ce → ce.vm = .none → s.vm.findClass E = some ce.cls → vx_W p l e R s m args below meth c H1 locs1 (cells + mc) (slots + ms) Q (F0 m pc ls rest) q9)
    (kk : ∀ (r : Option Nat) (u : S) (t : State) (H1 : Heap) (locs1 : List Loc), t.heap = H1 → s.vm.Alike t.vm → post r u → B u t → H.size ≤ H1.size → (∀ q : Nat, q < H.size → ¬ A1 q → H1[q]? = H[q]?) → va_S A0 H0 H1 locs1 → W p l e R s m args below meth c H1 locs1 (cells + mc) (slots + ms) Q (F0 m (pc + 3) ls (va_rf r :: rest))) : W p l e R s m args below meth c H locs cells slots Q (F0 m pc ls st0) := by
  intro T hT X
  rcases hr T hT X with ⟨v, st₀, t, T', L, h0, X', hL, e1, e2, ⟨⟨r, u, hv, hp, hb⟩, hF⟩, st⟩ | ⟨q, st₀, t, T', L, E, ce, h0, X', hL, e1, e2, ⟨u, hp, hb, hF⟩, hce, hcv, hcl, st⟩
  · cases hv
    obtain ⟨k1, k2, k3⟩ := vx_keep h0 e1 hS hA hf hL hF
    obtain ⟨t2, a1, b1⟩ := kk r u t T'.heap (locs ++ L) e1.symm (by rw [← e2]; exact X'.warmed.alike) hp hb k1 k2 k3 T' rfl X'
    exact ⟨t2, st t2 a1, b1⟩
  · obtain ⟨k1, k2, k3⟩ := vx_keep h0 e1 hS hAX hf hL hF
    obtain ⟨t2, a1, b1⟩ := kx E ce q u t T'.heap (locs ++ L) e1.symm (by rw [← e2]; exact X'.warmed.alike) hp hb k1 k2 k3 (by rw [e1]; exact hce) hcv hcl T' rfl X'
    exact ⟨t2, st.trans a1, b1⟩
end VXCQ
/-! methods that throw, methods that make cells -/
abbrev zXB (D : va_G) (cy : Nat → ClassId) (A : Nat → Prop) (Z : zZ) (Xp : String → zS → Prop) : String → zS → State → Prop := fun E u t => Xp E u ∧ zB D cy A Z u t
abbrev zXC (D : va_G) (cy : Nat → ClassId) (A : Nat → Prop) (Z : zZ) (Xp : String → zS → Prop) : String → State → State → Prop := vx_X (fun _ : zS => True) (zXB D cy A Z Xp) A
/-- an end with new cells: the addresses too are others -/
def zBz (D : va_G) (cy : Nat → ClassId) (A : Nat → Prop) (u : zZ × zS) (t : State) : Prop := va_P D vwCl (zW cy u.1 u.2) t.heap ∧ va_D A (zW cy u.1 u.2)
section ZX
variable {p : Program} {l : Launch} {e : Env} {R : Room} {s : State} {m : MethodId} {args : Array Value} {below : List Frame} {meth : Method} {c : Code} {D : va_G} {cy : Nat → ClassId} {A : Nat → Prop} {nL cells slots : Nat} {Q : State → Prop} {Z : zZ} {S : zS} {pc q : Nat} {lv lv' : List (Nat × Value)} {st : List Value} {cc : ByteArray} {Ts : List Cond} {own : String} {rt : Option FieldType}
def zNv (l : Launch) (y : MethodName) (ws : List Cond) (rm : Room) (D : va_G) (cy : Nat → ClassId) (Z : zZ) (S : zS) (sz : Nat) (av : List Value) (Qp : zS → Prop) (Xp : String → zS → Prop) : Prop := vx_Met l y ws rm (zPc D cy Z S sz av) (va_Qv Qp (zB D cy (zA cy Z S sz) Z) (zA cy Z S sz)) (zXC D cy (zA cy Z S sz) Z Xp) rm.cells rm.slots (zA cy Z S sz)
abbrev zXv (below : List Frame) (D : va_G) (cy : Nat → ClassId) (A : Nat → Prop) (Z : zZ) (Qp : zS → Prop) (Xp : String → zS → Prop) (args : Array Value) (s : State) (mc ms : Nat) : State → Prop := vx_MQ below (va_Qv Qp (zB D cy A Z) A) (zXC D cy A Z Xp) args s mc ms A
theorem zgx_v {Qp : zS → Prop} {Xp : String → zS → Prop} {mc ms : Nat} (kk : zG p l e R s m args below meth c D cy A nL cells slots (zQv below D cy A Z Qp args s mc ms) Z S (pc) lv (st)) : zG p l e R s m args below meth c D cy A nL cells slots (zXv below D cy A Z Qp Xp args s mc ms) Z S (pc) lv (st) := fun H locs ls hP hD hS hl => vx_ret (kk H locs ls hP hD hS hl)
def zNi (l : Launch) (y : MethodName) (ws : List Cond) (rm : Room) (D : va_G) (cy : Nat → ClassId) (Z : zZ) (S : zS) (sz : Nat) (av : List Value) (Qp : Int32 → zS → Prop) (Xp : String → zS → Prop) : Prop := vx_Met l y ws rm (zPc D cy Z S sz av) (va_Qi Qp (zB D cy (zA cy Z S sz) Z) (zA cy Z S sz)) (zXC D cy (zA cy Z S sz) Z Xp) rm.cells rm.slots (zA cy Z S sz)
abbrev zXi (below : List Frame) (D : va_G) (cy : Nat → ClassId) (A : Nat → Prop) (Z : zZ) (Qp : Int32 → zS → Prop) (Xp : String → zS → Prop) (args : Array Value) (s : State) (mc ms : Nat) : State → Prop := vx_MQ below (va_Qi Qp (zB D cy A Z) A) (zXC D cy A Z Xp) args s mc ms A
theorem zgx_i {Qp : Int32 → zS → Prop} {Xp : String → zS → Prop} {mc ms : Nat} (kk : zG p l e R s m args below meth c D cy A nL cells slots (zQi below D cy A Z Qp args s mc ms) Z S (pc) lv (st)) : zG p l e R s m args below meth c D cy A nL cells slots (zXi below D cy A Z Qp Xp args s mc ms) Z S (pc) lv (st) := fun H locs ls hP hD hS hl => vx_ret (kk H locs ls hP hD hS hl)
def zNl (l : Launch) (y : MethodName) (ws : List Cond) (rm : Room) (D : va_G) (cy : Nat → ClassId) (Z : zZ) (S : zS) (sz : Nat) (av : List Value) (Qp : Int64 → zS → Prop) (Xp : String → zS → Prop) : Prop := vx_Met l y ws rm (zPc D cy Z S sz av) (va_Ql Qp (zB D cy (zA cy Z S sz) Z) (zA cy Z S sz)) (zXC D cy (zA cy Z S sz) Z Xp) rm.cells rm.slots (zA cy Z S sz)
abbrev zXl (below : List Frame) (D : va_G) (cy : Nat → ClassId) (A : Nat → Prop) (Z : zZ) (Qp : Int64 → zS → Prop) (Xp : String → zS → Prop) (args : Array Value) (s : State) (mc ms : Nat) : State → Prop := vx_MQ below (va_Ql Qp (zB D cy A Z) A) (zXC D cy A Z Xp) args s mc ms A
theorem zgx_l {Qp : Int64 → zS → Prop} {Xp : String → zS → Prop} {mc ms : Nat} (kk : zG p l e R s m args below meth c D cy A nL cells slots (zQl below D cy A Z Qp args s mc ms) Z S (pc) lv (st)) : zG p l e R s m args below meth c D cy A nL cells slots (zXl below D cy A Z Qp Xp args s mc ms) Z S (pc) lv (st) := fun H locs ls hP hD hS hl => vx_ret (kk H locs ls hP hD hS hl)
def zNq (l : Launch) (y : MethodName) (ws : List Cond) (rm : Room) (D : va_G) (cy : Nat → ClassId) (Z : zZ) (S : zS) (sz : Nat) (av : List Value) (Qp : Option Nat → zS → Prop) (Xp : String → zS → Prop) : Prop := vx_Met l y ws rm (zPc D cy Z S sz av) (va_Qq Qp (zB D cy (zA cy Z S sz) Z) (zA cy Z S sz)) (zXC D cy (zA cy Z S sz) Z Xp) rm.cells rm.slots (zA cy Z S sz)
abbrev zXq (below : List Frame) (D : va_G) (cy : Nat → ClassId) (A : Nat → Prop) (Z : zZ) (Qp : Option Nat → zS → Prop) (Xp : String → zS → Prop) (args : Array Value) (s : State) (mc ms : Nat) : State → Prop := vx_MQ below (va_Qq Qp (zB D cy A Z) A) (zXC D cy A Z Xp) args s mc ms A
theorem zgx_q {Qp : Option Nat → zS → Prop} {Xp : String → zS → Prop} {mc ms : Nat} (kk : zG p l e R s m args below meth c D cy A nL cells slots (zQq below D cy A Z Qp args s mc ms) Z S (pc) lv (st)) : zG p l e R s m args below meth c D cy A nL cells slots (zXq below D cy A Z Qp Xp args s mc ms) Z S (pc) lv (st) := fun H locs ls hP hD hS hl => vx_ret (kk H locs ls hP hD hS hl)
def zNz (l : Launch) (y : MethodName) (ws : List Cond) (rm : Room) (D : va_G) (cy : Nat → ClassId) (Z : zZ) (S : zS) (sz : Nat) (av : List Value) (Qp : Int32 → zZ → zS → Prop) (Xp : String → zS → Prop) : Prop := vx_Met l y ws rm (zPc D cy Z S sz av) (va_Qi (fun r (u : zZ × zS) => Qp r u.1 u.2) (zBz D cy (zA cy Z S sz)) (zA cy Z S sz)) (zXC D cy (zA cy Z S sz) Z Xp) rm.cells rm.slots (zA cy Z S sz)
abbrev zXz (below : List Frame) (D : va_G) (cy : Nat → ClassId) (A : Nat → Prop) (Z0 : zZ) (Qp : Int32 → zZ → zS → Prop) (Xp : String → zS → Prop) (args : Array Value) (s : State) (mc ms : Nat) : State → Prop := vx_MQ below (va_Qi (fun r (u : zZ × zS) => Qp r u.1 u.2) (zBz D cy A) A) (zXC D cy A Z0 Xp) args s mc ms A
def zMz (l : Launch) (y : MethodName) (ws : List Cond) (rm : Room) (D : va_G) (cy : Nat → ClassId) (Z : zZ) (S : zS) (sz : Nat) (av : List Value) (Qp : zZ → zS → Prop) : Prop := Met l y ws rm (zPc D cy Z S sz av) (va_Qv (fun (u : zZ × zS) => Qp u.1 u.2) (zBz D cy (zA cy Z S sz)) (zA cy Z S sz)) rm.cells rm.slots (zA cy Z S sz)
abbrev zQz (below : List Frame) (D : va_G) (cy : Nat → ClassId) (A : Nat → Prop) (Qp : zZ → zS → Prop) (args : Array Value) (s : State) (mc ms : Nat) : State → Prop := MQ below (va_Qv (fun (u : zZ × zS) => Qp u.1 u.2) (zBz D cy A) A) args s mc ms A
theorem zNv_of {y : MethodName} {ws ws' : List Cond} {rm : Room} {sz maxL : Nat} {av : List Value} {Qp : zS → Prop} {Xp : String → zS → Prop} (hy : plainName y.cls = true) (hw : ws = Cond.code y cc maxL rt :: ws') (hlen : (lg_sl av).length ≤ maxL)
    (body : ∀ (p : Program) (e : Env) (s : State) (m : MethodId) (args : Array Value) (below : List Frame) (meth : Method) (c : Code) (A : Nat → Prop), zC p s m args meth c cc maxL ws y.cls D cy A rt → meth.name = y.name → (∀ x ∈ c.exceptionTable.toList, False) → zG p l e (headSpec ws rm).room s m args below meth c D cy A maxL 0 0 (zXv below D cy A Z Qp Xp args s rm.cells rm.slots) Z S 0 (lv_args 0 av) []) : zNv l y ws rm D cy Z S sz av Qp Xp := by
  refine vx_ofW (cc := cc) (maxL := maxL) (ret := rt) hy hw ?_
  intro p e s m args below meth c s₁ B hml hT hv
  obtain ⟨rfl, hsz, hP, hD0, hV⟩ := hv
  subst hsz
  have hts := atoms_spec (ws := ws) B.pre
  have hown : s.vm.findClass y.cls = some m.cls := findClass_of_methodNamed B.named
  have hl := lv_entry av (n := maxL) hlen
  rw [lg_entry_eq]
  exact body p e s m av.toArray below meth c (zA cy Z S s.heap.size) ⟨⟨B.exec, B.bytes, hml, hown, hts⟩, hV, fun q h => Or.inr h, B.returns, B.notSynchronized⟩ (name_of_methodNamed B.named B.method).1 hT s.heap [] _ hP hD0.self va_S.rf hl
theorem zNi_of {y : MethodName} {ws ws' : List Cond} {rm : Room} {sz maxL : Nat} {av : List Value} {Qp : Int32 → zS → Prop} {Xp : String → zS → Prop} (hy : plainName y.cls = true) (hw : ws = Cond.code y cc maxL rt :: ws') (hlen : (lg_sl av).length ≤ maxL)
    (body : ∀ (p : Program) (e : Env) (s : State) (m : MethodId) (args : Array Value) (below : List Frame) (meth : Method) (c : Code) (A : Nat → Prop), zC p s m args meth c cc maxL ws y.cls D cy A rt → meth.name = y.name → (∀ x ∈ c.exceptionTable.toList, False) → zG p l e (headSpec ws rm).room s m args below meth c D cy A maxL 0 0 (zXi below D cy A Z Qp Xp args s rm.cells rm.slots) Z S 0 (lv_args 0 av) []) : zNi l y ws rm D cy Z S sz av Qp Xp := by
  refine vx_ofW (cc := cc) (maxL := maxL) (ret := rt) hy hw ?_
  intro p e s m args below meth c s₁ B hml hT hv
  obtain ⟨rfl, hsz, hP, hD0, hV⟩ := hv
  subst hsz
  have hts := atoms_spec (ws := ws) B.pre
  have hown : s.vm.findClass y.cls = some m.cls := findClass_of_methodNamed B.named
  have hl := lv_entry av (n := maxL) hlen
  rw [lg_entry_eq]
  exact body p e s m av.toArray below meth c (zA cy Z S s.heap.size) ⟨⟨B.exec, B.bytes, hml, hown, hts⟩, hV, fun q h => Or.inr h, B.returns, B.notSynchronized⟩ (name_of_methodNamed B.named B.method).1 hT s.heap [] _ hP hD0.self va_S.rf hl
theorem zNl_of {y : MethodName} {ws ws' : List Cond} {rm : Room} {sz maxL : Nat} {av : List Value} {Qp : Int64 → zS → Prop} {Xp : String → zS → Prop} (hy : plainName y.cls = true) (hw : ws = Cond.code y cc maxL rt :: ws') (hlen : (lg_sl av).length ≤ maxL)
    (body : ∀ (p : Program) (e : Env) (s : State) (m : MethodId) (args : Array Value) (below : List Frame) (meth : Method) (c : Code) (A : Nat → Prop), zC p s m args meth c cc maxL ws y.cls D cy A rt → meth.name = y.name → (∀ x ∈ c.exceptionTable.toList, False) → zG p l e (headSpec ws rm).room s m args below meth c D cy A maxL 0 0 (zXl below D cy A Z Qp Xp args s rm.cells rm.slots) Z S 0 (lv_args 0 av) []) : zNl l y ws rm D cy Z S sz av Qp Xp := by
  refine vx_ofW (cc := cc) (maxL := maxL) (ret := rt) hy hw ?_
  intro p e s m args below meth c s₁ B hml hT hv
  obtain ⟨rfl, hsz, hP, hD0, hV⟩ := hv
  subst hsz
  have hts := atoms_spec (ws := ws) B.pre
  have hown : s.vm.findClass y.cls = some m.cls := findClass_of_methodNamed B.named
  have hl := lv_entry av (n := maxL) hlen
  rw [lg_entry_eq]
  exact body p e s m av.toArray below meth c (zA cy Z S s.heap.size) ⟨⟨B.exec, B.bytes, hml, hown, hts⟩, hV, fun q h => Or.inr h, B.returns, B.notSynchronized⟩ (name_of_methodNamed B.named B.method).1 hT s.heap [] _ hP hD0.self va_S.rf hl
theorem zNq_of {y : MethodName} {ws ws' : List Cond} {rm : Room} {sz maxL : Nat} {av : List Value} {Qp : Option Nat → zS → Prop} {Xp : String → zS → Prop} (hy : plainName y.cls = true) (hw : ws = Cond.code y cc maxL rt :: ws') (hlen : (lg_sl av).length ≤ maxL)
    (body : ∀ (p : Program) (e : Env) (s : State) (m : MethodId) (args : Array Value) (below : List Frame) (meth : Method) (c : Code) (A : Nat → Prop), zC p s m args meth c cc maxL ws y.cls D cy A rt → meth.name = y.name → (∀ x ∈ c.exceptionTable.toList, False) → zG p l e (headSpec ws rm).room s m args below meth c D cy A maxL 0 0 (zXq below D cy A Z Qp Xp args s rm.cells rm.slots) Z S 0 (lv_args 0 av) []) : zNq l y ws rm D cy Z S sz av Qp Xp := by
  refine vx_ofW (cc := cc) (maxL := maxL) (ret := rt) hy hw ?_
  intro p e s m args below meth c s₁ B hml hT hv
  obtain ⟨rfl, hsz, hP, hD0, hV⟩ := hv
  subst hsz
  have hts := atoms_spec (ws := ws) B.pre
  have hown : s.vm.findClass y.cls = some m.cls := findClass_of_methodNamed B.named
  have hl := lv_entry av (n := maxL) hlen
  rw [lg_entry_eq]
  exact body p e s m av.toArray below meth c (zA cy Z S s.heap.size) ⟨⟨B.exec, B.bytes, hml, hown, hts⟩, hV, fun q h => Or.inr h, B.returns, B.notSynchronized⟩ (name_of_methodNamed B.named B.method).1 hT s.heap [] _ hP hD0.self va_S.rf hl
theorem zNz_of {y : MethodName} {ws ws' : List Cond} {rm : Room} {sz maxL : Nat} {av : List Value} {Qp : Int32 → zZ → zS → Prop} {Xp : String → zS → Prop} (hy : plainName y.cls = true) (hw : ws = Cond.code y cc maxL rt :: ws') (hlen : (lg_sl av).length ≤ maxL)
    (body : ∀ (p : Program) (e : Env) (s : State) (m : MethodId) (args : Array Value) (below : List Frame) (meth : Method) (c : Code) (A : Nat → Prop), zC p s m args meth c cc maxL ws y.cls D cy A rt → meth.name = y.name → (∀ x ∈ c.exceptionTable.toList, False) → zG p l e (headSpec ws rm).room s m args below meth c D cy A maxL 0 0 (zXz below D cy A Z Qp Xp args s rm.cells rm.slots) Z S 0 (lv_args 0 av) []) : zNz l y ws rm D cy Z S sz av Qp Xp := by
  refine vx_ofW (cc := cc) (maxL := maxL) (ret := rt) hy hw ?_
  intro p e s m args below meth c s₁ B hml hT hv
  obtain ⟨rfl, hsz, hP, hD0, hV⟩ := hv
  subst hsz
  have hts := atoms_spec (ws := ws) B.pre
  have hown : s.vm.findClass y.cls = some m.cls := findClass_of_methodNamed B.named
  have hl := lv_entry av (n := maxL) hlen
  rw [lg_entry_eq]
  exact body p e s m av.toArray below meth c (zA cy Z S s.heap.size) ⟨⟨B.exec, B.bytes, hml, hown, hts⟩, hV, fun q h => Or.inr h, B.returns, B.notSynchronized⟩ (name_of_methodNamed B.named B.method).1 hT s.heap [] _ hP hD0.self va_S.rf hl
theorem zMz_of {y : MethodName} {ws ws' : List Cond} {rm : Room} {sz maxL : Nat} {av : List Value} {Qp : zZ → zS → Prop} (hy : plainName y.cls = true) (hw : ws = Cond.code y cc maxL rt :: ws') (hlen : (lg_sl av).length ≤ maxL)
    (body : ∀ (p : Program) (e : Env) (s : State) (m : MethodId) (args : Array Value) (below : List Frame) (meth : Method) (c : Code) (A : Nat → Prop), zC p s m args meth c cc maxL ws y.cls D cy A rt → meth.name = y.name → zG p l e (headSpec ws rm).room s m args below meth c D cy A maxL 0 0 (zQz below D cy A Qp args s rm.cells rm.slots) Z S 0 (lv_args 0 av) []) : zMz l y ws rm D cy Z S sz av Qp := by
  refine Met.ofW (cc := cc) (maxL := maxL) (ret := rt) hy hw ?_
  intro p e s m args below meth c s₁ B hml hv
  obtain ⟨rfl, hsz, hP, hD0, hV⟩ := hv
  subst hsz
  have hts := atoms_spec (ws := ws) B.pre
  have hown : s.vm.findClass y.cls = some m.cls := findClass_of_methodNamed B.named
  have hl := lv_entry av (n := maxL) hlen
  rw [lg_entry_eq]
  exact body p e s m av.toArray below meth c (zA cy Z S s.heap.size) ⟨⟨B.exec, B.bytes, hml, hown, hts⟩, hV, fun q h => Or.inr h, B.returns, B.notSynchronized⟩ (name_of_methodNamed B.named B.method).1 s.heap [] _ hP hD0.self va_S.rf hl
theorem zgx_throw (C0 : zC p s m args meth c cc nL Ts own D cy A rt) {Qc : Array Value → State → Outcome → State → Prop} {Xp : String → zS → Prop} {cls text : String} {ik is ic mc ms : Nat} (hl0 : l.stackTraces = false) (hT : ∀ x ∈ c.exceptionTable.toList, False) (d0 : decode cc pc = .ok (.new ik, 3)) (d3 : decode cc (pc + 3) = .ok (.dup, 1)) (d4 : decode cc (pc + 4) = .ok (.ldc is, 2)) (d6 : decode cc (pc + 6) = .ok (.invokespecial ic, 3)) (d9 : decode cc (pc + 9) = .ok (.athrow, 1)) (hown : own = RX6) (hcls : Bundle.fit cls = true) (hk : Cond.classLink own ik cls ∈ Ts) (hini : Cond.initialized cls ∈ Ts) (hg1 : ∀ w ∈ (vx_atS own ic cls ["java/lang/RuntimeException", "java/lang/Exception"]).filter goodWord, w ∈ Ts) (hg2 : ∀ w ∈ (vx_atS own ic cls ["java/lang/RuntimeException", "java/lang/Exception"]).filter (fun w => !goodWord w), w ∈ zBw) (hgood : ∀ w ∈ Cond.classLink own ik cls :: Cond.initialized cls :: vx_atS own ic cls ["java/lang/RuntimeException", "java/lang/Exception"], vx_ot w = true) (htx : (is, text) ∈ zTx) (hf1 : 5 < R.frames) (hf2 : (st.map fun v => v.category).sum + 82 ≤ R.locals) (hr1 : cells + 1 ≤ R.cells ∧ slots + 6 ≤ R.slots) (hr2 : cells + 1 ≤ mc ∧ slots + 6 ≤ ms) (hX : Xp cls S) : zG p l e R s m args below meth c D cy A nL cells slots (vx_MQ below Qc (zXC D cy A Z Xp) args s mc ms A) Z S (pc) lv (st) := by
  subst hown
  intro H locs ls hP hD hS hl
  obtain ⟨sa, hsa⟩ := C0.2.1.2.2.2.2.1 _ htx
  exact vx_throwS (names := ["java/lang/RuntimeException", "java/lang/Exception"]) (text := text) (sa := sa) C0.1.1 C0.1.2.1 hl0 C0.1.2.2.2.1 hcls (by decide +kernel) (C0.1.2.2.2.2 _ hk) (C0.1.2.2.2.2 _ hini) hsa (vx_hat (fun w hw => C0.1.2.2.2.2 _ (hg1 w hw)) hg2 (fun w hw => va_Nw.use (zBw_on w hw) (C0.2.1.2.1 w hw))) hgood C0.2.1.2.2.1 C0.2.1.2.2.2.1 hS (hl.1.trans C0.1.2.2.1.symm) d0 d3 d4 d6 d9 (fun x hx => (hT x hx).elim) hf1 hf2 hr1.1 hr1.2 C0.2.2.2.2 (fun t hvm hz hk1 => ⟨S, trivial, ⟨hX, hP.kept (fun k x hx => hk1 x.1 (hP k x hx).lt), hD⟩, ⟨Nat.le_trans hS.1 hz, fun q h1 h2 => (hk1 q (Nat.lt_of_lt_of_le h1 hS.1)).trans (hS.2.1 q h1 h2)⟩⟩) hS.2.2 hr2.1 hr2.2
theorem zgx_callVv (C0 : zC p s m args meth c cc nL Ts own D cy A rt) {Cn : String} {T : u_T} {N ci : Nat} {fs : List Value} {b : Nat} {ret : Option FieldType} {index maxL mc ms k n : Nat} {y : MethodName} {bytes : ByteArray} {ws ws' : List Cond} {rm : Room} (As rest : List Value) {Qp : zS → Prop} {Xp : String → zS → Prop} {Qc : Array Value → State → Outcome → State → Prop} (hT : ∀ x ∈ c.exceptionTable.toList, False) (hdg : decode cc pc = .ok (.invokevirtual index, 3)) (hM : ∀ sz, zNv l y ws rm D cy Z S sz (.ref b :: As) Qp Xp) (hw : ws = Cond.code y bytes maxL ret :: ws') (hG : GoodIn Ts (wsV own index Cn y ws)) (hd : y.cls = Cn ∧ y.cls ≠ "java/lang/invoke/MethodHandle" ∧ y.cls ≠ "java/lang/invoke/VarHandle" ∧ (parseMethodDescriptor y.desc).map (fun d => d.parameters.length) = some As.length) (hb : zk Z b ci) (hF : zF cy Z S b = .inr (ci, fs)) (hc : vwCl[ci]? = some (Cn, T, N)) (hst : st = As.reverse ++ .ref b :: rest) (hR : rm.frames + 1 ≤ R.frames ∧ 8 + (maxL + 11) + rm.locals ≤ R.locals) (hcat : (rest.map fun v => v.category).sum ≤ 8) (hroom : cells + rm.cells ≤ R.cells ∧ slots + rm.slots ≤ R.slots) (hk : cells + rm.cells = k ∧ slots + rm.slots = n) (hr2 : k ≤ mc ∧ n ≤ ms) (hq : pc + 3 = q)
    (kk : ∀ τ, Qp τ → zG p l e R s m args below meth c D cy A nL k n (vx_MQ below Qc (zXC D cy A Z Xp) args s mc ms A) Z τ (q) lv (rest)) : zG p l e R s m args below meth c D cy A nL cells slots (vx_MQ below Qc (zXC D cy A Z Xp) args s mc ms A) Z S (pc) lv (st) := by
  subst hq
  obtain ⟨e1, e2⟩ := hk
  subst e1
  subst e2
  intro H locs ls hP hD hS hl
  obtain ⟨j, hj⟩ := zget hb.1 hF
  have hA1 : ∀ q, zA cy Z S H.size q → A q := zA_sub C0.2.2.1 hD hS
  refine vx_callv (vx_runV (As := As) (rest := rest) C0.1 (hM H.size) (cwV As.length C0.1.2.2.2.2 hG hw rfl rfl hd hR) ⟨zPc_blind, va_recv C0.2.1.1 hP hc hj, fun U hU hW => ⟨rfl, by rw [hU], by rw [hU]; exact hP, hD.weaken (fun _ _ _ _ => trivial), C0.2.1.call hS hA1 hU hW⟩⟩ rfl rfl hl.1 hst (lv_room hcat) hdg hroom) hS (fun q _ h => hA1 q h) hA1 (fun q _ h => hA1 q h) (fun E ce q9 u t H1 locs1 ht hvm _ hB hz1 hk1 hS1 h9 hv9 hc9 => ?_) (fun u t H1 locs1 ht hvm hw hB hz1 hk1 hS1 => ?_)
  · subst ht
    exact vx_out (fun x hx => (hT x hx).elim) C0.2.2.2.2 h9 hv9 hc9 (fun t2 ht2 hvm2 => ⟨u, trivial, ⟨hB.1, by rw [ht2]; exact hB.2.1, hB.2.2.weaken (fun k x hk h => hA1 x.1 h)⟩, hS1.F ht2⟩) hS1.2.2 hr2.1 hr2.2
  · subst ht
    exact kk u hw _ locs1 ls hB.1 (hB.2.weaken (fun k x hk h => hA1 x.1 h)) hS1 hl
theorem zgx_callSv (C0 : zC p s m args meth c cc nL Ts own D cy A rt) {ret : Option FieldType} {index maxL mc ms k n : Nat} {y : MethodName} {bytes : ByteArray} {ws ws' : List Cond} {rm : Room} (As rest : List Value) {Qp : zS → Prop} {Xp : String → zS → Prop} {Qc : Array Value → State → Outcome → State → Prop} (hT : ∀ x ∈ c.exceptionTable.toList, False) (hdg : decode cc pc = .ok (.invokestatic index, 3)) (hM : ∀ sz, zNv l y ws rm D cy Z S sz (As) Qp Xp) (hw : ws = Cond.code y bytes maxL ret :: ws') (hG : GoodIn Ts (va_wsS own index y ws)) (hd : y.cls ≠ "java/lang/invoke/MethodHandle" ∧ y.cls ≠ "java/lang/invoke/VarHandle" ∧ (parseMethodDescriptor y.desc).map (fun d => d.parameters.length) = some As.length) (hst : st = As.reverse ++ rest) (hR : rm.frames + 1 ≤ R.frames ∧ 8 + (maxL + 11) + rm.locals ≤ R.locals) (hcat : (rest.map fun v => v.category).sum ≤ 8) (hroom : cells + rm.cells ≤ R.cells ∧ slots + rm.slots ≤ R.slots) (hk : cells + rm.cells = k ∧ slots + rm.slots = n) (hr2 : k ≤ mc ∧ n ≤ ms) (hq : pc + 3 = q)
    (kk : ∀ τ, Qp τ → zG p l e R s m args below meth c D cy A nL k n (vx_MQ below Qc (zXC D cy A Z Xp) args s mc ms A) Z τ (q) lv (rest)) : zG p l e R s m args below meth c D cy A nL cells slots (vx_MQ below Qc (zXC D cy A Z Xp) args s mc ms A) Z S (pc) lv (st) := by
  subst hq
  obtain ⟨e1, e2⟩ := hk
  subst e1
  subst e2
  intro H locs ls hP hD hS hl
  have hA1 : ∀ q, zA cy Z S H.size q → A q := zA_sub C0.2.2.1 hD hS
  refine vx_callv (vx_runS (As := As) (rest := rest) C0.1 (hM H.size) (va_cwS As.length C0.1.2.2.2.2 hG hw rfl rfl hd hR) ⟨zPc_blind, fun U hU hW => ⟨rfl, by rw [hU], by rw [hU]; exact hP, hD.weaken (fun _ _ _ _ => trivial), C0.2.1.call hS hA1 hU hW⟩⟩ rfl rfl hl.1 hst (lv_room hcat) hdg hroom) hS (fun q _ h => hA1 q h) hA1 (fun q _ h => hA1 q h) (fun E ce q9 u t H1 locs1 ht hvm _ hB hz1 hk1 hS1 h9 hv9 hc9 => ?_) (fun u t H1 locs1 ht hvm hw hB hz1 hk1 hS1 => ?_)
  · subst ht
    exact vx_out (fun x hx => (hT x hx).elim) C0.2.2.2.2 h9 hv9 hc9 (fun t2 ht2 hvm2 => ⟨u, trivial, ⟨hB.1, by rw [ht2]; exact hB.2.1, hB.2.2.weaken (fun k x hk h => hA1 x.1 h)⟩, hS1.F ht2⟩) hS1.2.2 hr2.1 hr2.2
  · subst ht
    exact kk u hw _ locs1 ls hB.1 (hB.2.weaken (fun k x hk h => hA1 x.1 h)) hS1 hl
theorem zgx_callVi (C0 : zC p s m args meth c cc nL Ts own D cy A rt) {Cn : String} {T : u_T} {N ci : Nat} {fs : List Value} {b : Nat} {ret : Option FieldType} {index maxL mc ms k n : Nat} {y : MethodName} {bytes : ByteArray} {ws ws' : List Cond} {rm : Room} (As rest : List Value) {Qp : Int32 → zS → Prop} {Xp : String → zS → Prop} {Qc : Array Value → State → Outcome → State → Prop} (hT : ∀ x ∈ c.exceptionTable.toList, False) (hdg : decode cc pc = .ok (.invokevirtual index, 3)) (hM : ∀ sz, zNi l y ws rm D cy Z S sz (.ref b :: As) Qp Xp) (hw : ws = Cond.code y bytes maxL ret :: ws') (hG : GoodIn Ts (wsV own index Cn y ws)) (hd : y.cls = Cn ∧ y.cls ≠ "java/lang/invoke/MethodHandle" ∧ y.cls ≠ "java/lang/invoke/VarHandle" ∧ (parseMethodDescriptor y.desc).map (fun d => d.parameters.length) = some As.length) (hb : zk Z b ci) (hF : zF cy Z S b = .inr (ci, fs)) (hc : vwCl[ci]? = some (Cn, T, N)) (hst : st = As.reverse ++ .ref b :: rest) (hR : rm.frames + 1 ≤ R.frames ∧ 8 + (maxL + 11) + rm.locals ≤ R.locals) (hcat : (rest.map fun v => v.category).sum ≤ 8) (hroom : cells + rm.cells ≤ R.cells ∧ slots + rm.slots ≤ R.slots) (hk : cells + rm.cells = k ∧ slots + rm.slots = n) (hr2 : k ≤ mc ∧ n ≤ ms) (hq : pc + 3 = q)
    (kk : ∀ r τ, Qp r τ → zG p l e R s m args below meth c D cy A nL k n (vx_MQ below Qc (zXC D cy A Z Xp) args s mc ms A) Z τ (q) lv (.int r :: rest)) : zG p l e R s m args below meth c D cy A nL cells slots (vx_MQ below Qc (zXC D cy A Z Xp) args s mc ms A) Z S (pc) lv (st) := by
  subst hq
  obtain ⟨e1, e2⟩ := hk
  subst e1
  subst e2
  intro H locs ls hP hD hS hl
  obtain ⟨j, hj⟩ := zget hb.1 hF
  have hA1 : ∀ q, zA cy Z S H.size q → A q := zA_sub C0.2.2.1 hD hS
  refine vx_calli (vx_runV (As := As) (rest := rest) C0.1 (hM H.size) (cwV As.length C0.1.2.2.2.2 hG hw rfl rfl hd hR) ⟨zPc_blind, va_recv C0.2.1.1 hP hc hj, fun U hU hW => ⟨rfl, by rw [hU], by rw [hU]; exact hP, hD.weaken (fun _ _ _ _ => trivial), C0.2.1.call hS hA1 hU hW⟩⟩ rfl rfl hl.1 hst (lv_room hcat) hdg hroom) hS (fun q _ h => hA1 q h) hA1 (fun q _ h => hA1 q h) (fun E ce q9 u t H1 locs1 ht hvm _ hB hz1 hk1 hS1 h9 hv9 hc9 => ?_) (fun r u t H1 locs1 ht hvm hw hB hz1 hk1 hS1 => ?_)
  · subst ht
    exact vx_out (fun x hx => (hT x hx).elim) C0.2.2.2.2 h9 hv9 hc9 (fun t2 ht2 hvm2 => ⟨u, trivial, ⟨hB.1, by rw [ht2]; exact hB.2.1, hB.2.2.weaken (fun k x hk h => hA1 x.1 h)⟩, hS1.F ht2⟩) hS1.2.2 hr2.1 hr2.2
  · subst ht
    exact kk r u hw _ locs1 ls hB.1 (hB.2.weaken (fun k x hk h => hA1 x.1 h)) hS1 hl
theorem zgx_callSi (C0 : zC p s m args meth c cc nL Ts own D cy A rt) {ret : Option FieldType} {index maxL mc ms k n : Nat} {y : MethodName} {bytes : ByteArray} {ws ws' : List Cond} {rm : Room} (As rest : List Value) {Qp : Int32 → zS → Prop} {Xp : String → zS → Prop} {Qc : Array Value → State → Outcome → State → Prop} (hT : ∀ x ∈ c.exceptionTable.toList, False) (hdg : decode cc pc = .ok (.invokestatic index, 3)) (hM : ∀ sz, zNi l y ws rm D cy Z S sz (As) Qp Xp) (hw : ws = Cond.code y bytes maxL ret :: ws') (hG : GoodIn Ts (va_wsS own index y ws)) (hd : y.cls ≠ "java/lang/invoke/MethodHandle" ∧ y.cls ≠ "java/lang/invoke/VarHandle" ∧ (parseMethodDescriptor y.desc).map (fun d => d.parameters.length) = some As.length) (hst : st = As.reverse ++ rest) (hR : rm.frames + 1 ≤ R.frames ∧ 8 + (maxL + 11) + rm.locals ≤ R.locals) (hcat : (rest.map fun v => v.category).sum ≤ 8) (hroom : cells + rm.cells ≤ R.cells ∧ slots + rm.slots ≤ R.slots) (hk : cells + rm.cells = k ∧ slots + rm.slots = n) (hr2 : k ≤ mc ∧ n ≤ ms) (hq : pc + 3 = q)
    (kk : ∀ r τ, Qp r τ → zG p l e R s m args below meth c D cy A nL k n (vx_MQ below Qc (zXC D cy A Z Xp) args s mc ms A) Z τ (q) lv (.int r :: rest)) : zG p l e R s m args below meth c D cy A nL cells slots (vx_MQ below Qc (zXC D cy A Z Xp) args s mc ms A) Z S (pc) lv (st) := by
  subst hq
  obtain ⟨e1, e2⟩ := hk
  subst e1
  subst e2
  intro H locs ls hP hD hS hl
  have hA1 : ∀ q, zA cy Z S H.size q → A q := zA_sub C0.2.2.1 hD hS
  refine vx_calli (vx_runS (As := As) (rest := rest) C0.1 (hM H.size) (va_cwS As.length C0.1.2.2.2.2 hG hw rfl rfl hd hR) ⟨zPc_blind, fun U hU hW => ⟨rfl, by rw [hU], by rw [hU]; exact hP, hD.weaken (fun _ _ _ _ => trivial), C0.2.1.call hS hA1 hU hW⟩⟩ rfl rfl hl.1 hst (lv_room hcat) hdg hroom) hS (fun q _ h => hA1 q h) hA1 (fun q _ h => hA1 q h) (fun E ce q9 u t H1 locs1 ht hvm _ hB hz1 hk1 hS1 h9 hv9 hc9 => ?_) (fun r u t H1 locs1 ht hvm hw hB hz1 hk1 hS1 => ?_)
  · subst ht
    exact vx_out (fun x hx => (hT x hx).elim) C0.2.2.2.2 h9 hv9 hc9 (fun t2 ht2 hvm2 => ⟨u, trivial, ⟨hB.1, by rw [ht2]; exact hB.2.1, hB.2.2.weaken (fun k x hk h => hA1 x.1 h)⟩, hS1.F ht2⟩) hS1.2.2 hr2.1 hr2.2
  · subst ht
    exact kk r u hw _ locs1 ls hB.1 (hB.2.weaken (fun k x hk h => hA1 x.1 h)) hS1 hl
theorem zgx_callVl (C0 : zC p s m args meth c cc nL Ts own D cy A rt) {Cn : String} {T : u_T} {N ci : Nat} {fs : List Value} {b : Nat} {ret : Option FieldType} {index maxL mc ms k n : Nat} {y : MethodName} {bytes : ByteArray} {ws ws' : List Cond} {rm : Room} (As rest : List Value) {Qp : Int64 → zS → Prop} {Xp : String → zS → Prop} {Qc : Array Value → State → Outcome → State → Prop} (hT : ∀ x ∈ c.exceptionTable.toList, False) (hdg : decode cc pc = .ok (.invokevirtual index, 3)) (hM : ∀ sz, zNl l y ws rm D cy Z S sz (.ref b :: As) Qp Xp) (hw : ws = Cond.code y bytes maxL ret :: ws') (hG : GoodIn Ts (wsV own index Cn y ws)) (hd : y.cls = Cn ∧ y.cls ≠ "java/lang/invoke/MethodHandle" ∧ y.cls ≠ "java/lang/invoke/VarHandle" ∧ (parseMethodDescriptor y.desc).map (fun d => d.parameters.length) = some As.length) (hb : zk Z b ci) (hF : zF cy Z S b = .inr (ci, fs)) (hc : vwCl[ci]? = some (Cn, T, N)) (hst : st = As.reverse ++ .ref b :: rest) (hR : rm.frames + 1 ≤ R.frames ∧ 8 + (maxL + 11) + rm.locals ≤ R.locals) (hcat : (rest.map fun v => v.category).sum ≤ 8) (hroom : cells + rm.cells ≤ R.cells ∧ slots + rm.slots ≤ R.slots) (hk : cells + rm.cells = k ∧ slots + rm.slots = n) (hr2 : k ≤ mc ∧ n ≤ ms) (hq : pc + 3 = q)
    (kk : ∀ r τ, Qp r τ → zG p l e R s m args below meth c D cy A nL k n (vx_MQ below Qc (zXC D cy A Z Xp) args s mc ms A) Z τ (q) lv (.long r :: rest)) : zG p l e R s m args below meth c D cy A nL cells slots (vx_MQ below Qc (zXC D cy A Z Xp) args s mc ms A) Z S (pc) lv (st) := by
  subst hq
  obtain ⟨e1, e2⟩ := hk
  subst e1
  subst e2
  intro H locs ls hP hD hS hl
  obtain ⟨j, hj⟩ := zget hb.1 hF
  have hA1 : ∀ q, zA cy Z S H.size q → A q := zA_sub C0.2.2.1 hD hS
  refine vx_calll (vx_runV (As := As) (rest := rest) C0.1 (hM H.size) (cwV As.length C0.1.2.2.2.2 hG hw rfl rfl hd hR) ⟨zPc_blind, va_recv C0.2.1.1 hP hc hj, fun U hU hW => ⟨rfl, by rw [hU], by rw [hU]; exact hP, hD.weaken (fun _ _ _ _ => trivial), C0.2.1.call hS hA1 hU hW⟩⟩ rfl rfl hl.1 hst (lv_room hcat) hdg hroom) hS (fun q _ h => hA1 q h) hA1 (fun q _ h => hA1 q h) (fun E ce q9 u t H1 locs1 ht hvm _ hB hz1 hk1 hS1 h9 hv9 hc9 => ?_) (fun r u t H1 locs1 ht hvm hw hB hz1 hk1 hS1 => ?_)
  · subst ht
    exact vx_out (fun x hx => (hT x hx).elim) C0.2.2.2.2 h9 hv9 hc9 (fun t2 ht2 hvm2 => ⟨u, trivial, ⟨hB.1, by rw [ht2]; exact hB.2.1, hB.2.2.weaken (fun k x hk h => hA1 x.1 h)⟩, hS1.F ht2⟩) hS1.2.2 hr2.1 hr2.2
  · subst ht
    exact kk r u hw _ locs1 ls hB.1 (hB.2.weaken (fun k x hk h => hA1 x.1 h)) hS1 hl
theorem zgx_callSl (C0 : zC p s m args meth c cc nL Ts own D cy A rt) {ret : Option FieldType} {index maxL mc ms k n : Nat} {y : MethodName} {bytes : ByteArray} {ws ws' : List Cond} {rm : Room} (As rest : List Value) {Qp : Int64 → zS → Prop} {Xp : String → zS → Prop} {Qc : Array Value → State → Outcome → State → Prop} (hT : ∀ x ∈ c.exceptionTable.toList, False) (hdg : decode cc pc = .ok (.invokestatic index, 3)) (hM : ∀ sz, zNl l y ws rm D cy Z S sz (As) Qp Xp) (hw : ws = Cond.code y bytes maxL ret :: ws') (hG : GoodIn Ts (va_wsS own index y ws)) (hd : y.cls ≠ "java/lang/invoke/MethodHandle" ∧ y.cls ≠ "java/lang/invoke/VarHandle" ∧ (parseMethodDescriptor y.desc).map (fun d => d.parameters.length) = some As.length) (hst : st = As.reverse ++ rest) (hR : rm.frames + 1 ≤ R.frames ∧ 8 + (maxL + 11) + rm.locals ≤ R.locals) (hcat : (rest.map fun v => v.category).sum ≤ 8) (hroom : cells + rm.cells ≤ R.cells ∧ slots + rm.slots ≤ R.slots) (hk : cells + rm.cells = k ∧ slots + rm.slots = n) (hr2 : k ≤ mc ∧ n ≤ ms) (hq : pc + 3 = q)
    (kk : ∀ r τ, Qp r τ → zG p l e R s m args below meth c D cy A nL k n (vx_MQ below Qc (zXC D cy A Z Xp) args s mc ms A) Z τ (q) lv (.long r :: rest)) : zG p l e R s m args below meth c D cy A nL cells slots (vx_MQ below Qc (zXC D cy A Z Xp) args s mc ms A) Z S (pc) lv (st) := by
  subst hq
  obtain ⟨e1, e2⟩ := hk
  subst e1
  subst e2
  intro H locs ls hP hD hS hl
  have hA1 : ∀ q, zA cy Z S H.size q → A q := zA_sub C0.2.2.1 hD hS
  refine vx_calll (vx_runS (As := As) (rest := rest) C0.1 (hM H.size) (va_cwS As.length C0.1.2.2.2.2 hG hw rfl rfl hd hR) ⟨zPc_blind, fun U hU hW => ⟨rfl, by rw [hU], by rw [hU]; exact hP, hD.weaken (fun _ _ _ _ => trivial), C0.2.1.call hS hA1 hU hW⟩⟩ rfl rfl hl.1 hst (lv_room hcat) hdg hroom) hS (fun q _ h => hA1 q h) hA1 (fun q _ h => hA1 q h) (fun E ce q9 u t H1 locs1 ht hvm _ hB hz1 hk1 hS1 h9 hv9 hc9 => ?_) (fun r u t H1 locs1 ht hvm hw hB hz1 hk1 hS1 => ?_)
  · subst ht
    exact vx_out (fun x hx => (hT x hx).elim) C0.2.2.2.2 h9 hv9 hc9 (fun t2 ht2 hvm2 => ⟨u, trivial, ⟨hB.1, by rw [ht2]; exact hB.2.1, hB.2.2.weaken (fun k x hk h => hA1 x.1 h)⟩, hS1.F ht2⟩) hS1.2.2 hr2.1 hr2.2
  · subst ht
    exact kk r u hw _ locs1 ls hB.1 (hB.2.weaken (fun k x hk h => hA1 x.1 h)) hS1 hl
theorem zgx_callVq (C0 : zC p s m args meth c cc nL Ts own D cy A rt) {Cn : String} {T : u_T} {N ci : Nat} {fs : List Value} {b : Nat} {ret : Option FieldType} {index maxL mc ms k n : Nat} {y : MethodName} {bytes : ByteArray} {ws ws' : List Cond} {rm : Room} (As rest : List Value) {Qp : Option Nat → zS → Prop} {Xp : String → zS → Prop} {Qc : Array Value → State → Outcome → State → Prop} (hT : ∀ x ∈ c.exceptionTable.toList, False) (hdg : decode cc pc = .ok (.invokevirtual index, 3)) (hM : ∀ sz, zNq l y ws rm D cy Z S sz (.ref b :: As) Qp Xp) (hw : ws = Cond.code y bytes maxL ret :: ws') (hG : GoodIn Ts (wsV own index Cn y ws)) (hd : y.cls = Cn ∧ y.cls ≠ "java/lang/invoke/MethodHandle" ∧ y.cls ≠ "java/lang/invoke/VarHandle" ∧ (parseMethodDescriptor y.desc).map (fun d => d.parameters.length) = some As.length) (hb : zk Z b ci) (hF : zF cy Z S b = .inr (ci, fs)) (hc : vwCl[ci]? = some (Cn, T, N)) (hst : st = As.reverse ++ .ref b :: rest) (hR : rm.frames + 1 ≤ R.frames ∧ 8 + (maxL + 11) + rm.locals ≤ R.locals) (hcat : (rest.map fun v => v.category).sum ≤ 8) (hroom : cells + rm.cells ≤ R.cells ∧ slots + rm.slots ≤ R.slots) (hk : cells + rm.cells = k ∧ slots + rm.slots = n) (hr2 : k ≤ mc ∧ n ≤ ms) (hq : pc + 3 = q)
    (kk : ∀ r τ, Qp r τ → zG p l e R s m args below meth c D cy A nL k n (vx_MQ below Qc (zXC D cy A Z Xp) args s mc ms A) Z τ (q) lv (va_rf r :: rest)) : zG p l e R s m args below meth c D cy A nL cells slots (vx_MQ below Qc (zXC D cy A Z Xp) args s mc ms A) Z S (pc) lv (st) := by
  subst hq
  obtain ⟨e1, e2⟩ := hk
  subst e1
  subst e2
  intro H locs ls hP hD hS hl
  obtain ⟨j, hj⟩ := zget hb.1 hF
  have hA1 : ∀ q, zA cy Z S H.size q → A q := zA_sub C0.2.2.1 hD hS
  refine vx_callq (vx_runV (As := As) (rest := rest) C0.1 (hM H.size) (cwV As.length C0.1.2.2.2.2 hG hw rfl rfl hd hR) ⟨zPc_blind, va_recv C0.2.1.1 hP hc hj, fun U hU hW => ⟨rfl, by rw [hU], by rw [hU]; exact hP, hD.weaken (fun _ _ _ _ => trivial), C0.2.1.call hS hA1 hU hW⟩⟩ rfl rfl hl.1 hst (lv_room hcat) hdg hroom) hS (fun q _ h => hA1 q h) hA1 (fun q _ h => hA1 q h) (fun E ce q9 u t H1 locs1 ht hvm _ hB hz1 hk1 hS1 h9 hv9 hc9 => ?_) (fun r u t H1 locs1 ht hvm hw hB hz1 hk1 hS1 => ?_)
  · subst ht
    exact vx_out (fun x hx => (hT x hx).elim) C0.2.2.2.2 h9 hv9 hc9 (fun t2 ht2 hvm2 => ⟨u, trivial, ⟨hB.1, by rw [ht2]; exact hB.2.1, hB.2.2.weaken (fun k x hk h => hA1 x.1 h)⟩, hS1.F ht2⟩) hS1.2.2 hr2.1 hr2.2
  · subst ht
    exact kk r u hw _ locs1 ls hB.1 (hB.2.weaken (fun k x hk h => hA1 x.1 h)) hS1 hl
theorem zgx_callSq (C0 : zC p s m args meth c cc nL Ts own D cy A rt) {ret : Option FieldType} {index maxL mc ms k n : Nat} {y : MethodName} {bytes : ByteArray} {ws ws' : List Cond} {rm : Room} (As rest : List Value) {Qp : Option Nat → zS → Prop} {Xp : String → zS → Prop} {Qc : Array Value → State → Outcome → State → Prop} (hT : ∀ x ∈ c.exceptionTable.toList, False) (hdg : decode cc pc = .ok (.invokestatic index, 3)) (hM : ∀ sz, zNq l y ws rm D cy Z S sz (As) Qp Xp) (hw : ws = Cond.code y bytes maxL ret :: ws') (hG : GoodIn Ts (va_wsS own index y ws)) (hd : y.cls ≠ "java/lang/invoke/MethodHandle" ∧ y.cls ≠ "java/lang/invoke/VarHandle" ∧ (parseMethodDescriptor y.desc).map (fun d => d.parameters.length) = some As.length) (hst : st = As.reverse ++ rest) (hR : rm.frames + 1 ≤ R.frames ∧ 8 + (maxL + 11) + rm.locals ≤ R.locals) (hcat : (rest.map fun v => v.category).sum ≤ 8) (hroom : cells + rm.cells ≤ R.cells ∧ slots + rm.slots ≤ R.slots) (hk : cells + rm.cells = k ∧ slots + rm.slots = n) (hr2 : k ≤ mc ∧ n ≤ ms) (hq : pc + 3 = q)
    (kk : ∀ r τ, Qp r τ → zG p l e R s m args below meth c D cy A nL k n (vx_MQ below Qc (zXC D cy A Z Xp) args s mc ms A) Z τ (q) lv (va_rf r :: rest)) : zG p l e R s m args below meth c D cy A nL cells slots (vx_MQ below Qc (zXC D cy A Z Xp) args s mc ms A) Z S (pc) lv (st) := by
  subst hq
  obtain ⟨e1, e2⟩ := hk
  subst e1
  subst e2
  intro H locs ls hP hD hS hl
  have hA1 : ∀ q, zA cy Z S H.size q → A q := zA_sub C0.2.2.1 hD hS
  refine vx_callq (vx_runS (As := As) (rest := rest) C0.1 (hM H.size) (va_cwS As.length C0.1.2.2.2.2 hG hw rfl rfl hd hR) ⟨zPc_blind, fun U hU hW => ⟨rfl, by rw [hU], by rw [hU]; exact hP, hD.weaken (fun _ _ _ _ => trivial), C0.2.1.call hS hA1 hU hW⟩⟩ rfl rfl hl.1 hst (lv_room hcat) hdg hroom) hS (fun q _ h => hA1 q h) hA1 (fun q _ h => hA1 q h) (fun E ce q9 u t H1 locs1 ht hvm _ hB hz1 hk1 hS1 h9 hv9 hc9 => ?_) (fun r u t H1 locs1 ht hvm hw hB hz1 hk1 hS1 => ?_)
  · subst ht
    exact vx_out (fun x hx => (hT x hx).elim) C0.2.2.2.2 h9 hv9 hc9 (fun t2 ht2 hvm2 => ⟨u, trivial, ⟨hB.1, by rw [ht2]; exact hB.2.1, hB.2.2.weaken (fun k x hk h => hA1 x.1 h)⟩, hS1.F ht2⟩) hS1.2.2 hr2.1 hr2.2
  · subst ht
    exact kk r u hw _ locs1 ls hB.1 (hB.2.weaken (fun k x hk h => hA1 x.1 h)) hS1 hl
theorem zFal (cy : Nat → ClassId) (Z : zZ) (S : zS) (a k n : Nat) : ∀ b, b ≠ a → zF cy (zalZ Z a k n) (zalS S a) b = zF cy Z S b := fun b h => zF_cong cy (va_up_ne _ _ h) (va_up_ne _ _ h) (va_up_ne _ _ h) (va_up_ne _ _ h) (va_up_ne _ _ h) (va_up_ne _ _ h)
theorem zpush {cy : Nat → ClassId} {Z : zZ} {S : zS} {a k n : Nat} {e : va_E} (h : a ∉ zL Z) (he : zF cy (zalZ Z a k n) (zalS S a) a = e) : zW cy Z S ++ [(a, e)] = zW cy (zalZ Z a k n) (zalS S a) := by
  unfold zW
  rw [va_pl_push h]
  show va_pl (zL Z ++ [a]) _ = va_pl (zL Z ++ [a]) _
  refine va_pl_congr (fun b => ?_)
  by_cases hb : b = a
  · subst hb
    rw [va_up_self, he]
  · rw [va_up_ne _ _ hb, zFal cy Z S a k n b hb]
theorem zk_al (Z : zZ) (a k n : Nat) : zk (zalZ Z a k n) a k := ⟨List.mem_append_right _ (List.mem_singleton.mpr rfl), va_up_self _ _ _⟩
theorem zk_old {Z : zZ} {a k n b j : Nat} (h : zk Z b j) (ha : a ∉ zL Z) : zk (zalZ Z a k n) b j := ⟨List.mem_append_left _ h.1, (va_up_ne _ _ (fun q : b = a => ha (q ▸ h.1))).trans h.2⟩
theorem zfresh {cy : Nat → ClassId} {Z : zZ} {S : zS} {A : Nat → Prop} {a : Nat} {e : va_E} (hD : va_D A (zW cy Z S ++ [(a, e)])) : a ∉ zL Z := va_pl_fresh2 (X := []) (f := zF cy Z S) hD
theorem zfs_al0 (Z : zZ) (S : zS) (a : Nat) : zfs (zalZ Z a 0 2) (zalS S a) a 0 = [.null, .int 0] := by
  simp [zfs, zalZ, zalS, zQ, zI, zJ, zR, va_up_self, va_rf]
theorem zdef0 : ∀ j, j < 2 → defaultValue (tyX0 j) = vp_V [.null, .int 0] j := by decide +kernel
theorem zg_new0 (C0 : zC p s m args meth c cc nL Ts own D cy A rt) {index : Nat} (hdg : decode cc pc = .ok (.new index, 3)) (hcl : Cond.classLink own index RX0 ∈ Ts) (hinst : Cond.instantiable RX0 2 ∈ Ts) (hini : Cond.initialized RX0 ∈ Ts) (hin : ∀ w ∈ u_ws RX0 TX0 2, w ∈ Ts) {k j : Nat} (hro : cells + 1 = k ∧ slots + 2 = j) (hro2 : k ≤ R.cells ∧ j ≤ R.slots) (hq : pc + 3 = q) (kk : ∀ a, a ∉ zL Z → ∀ Z' S', Z' = zalZ Z a 0 2 → S' = zalS S a → zG p l e R s m args below meth c D cy A nL k j Q Z' S' (q) lv (.ref a :: st)) : zG p l e R s m args below meth c D cy A nL cells slots Q Z S (pc) lv (st) := by
  subst hq
  obtain ⟨e1, e2⟩ := hro
  subst e1
  subst e2
  intro H locs ls hP hD hS hl
  refine va_new (D := D) (cl := vwCl) (ci := 0) (N := 2) (fs := [.null, .int 0]) C0.1.1 C0.1.2.1 C0.1.2.2.2.2 hin tyX0 tyX0_ok C0.1.2.2.2.1 (C0.1.2.2.2.2 _ hcl) (C0.1.2.2.2.2 _ hinst) (C0.1.2.2.2.2 _ hini) C0.2.1.1 hP hD hS C0.2.2.1 rfl (zdef0) hro2.1 hro2.2 hdg (fun a H1 hP1 hD1 hS1 => ?_)
  have ha := zfresh hD1
  have hp := zpush (k := 0) (n := 2) ha ((zF_0 cy (S := zalS S a) (zk_al Z a 0 2)).trans (by rw [zfs_al0]))
  exact kk a ha _ _ rfl rfl H1 locs ls (hp ▸ hP1) (hp ▸ hD1) hS1 hl
theorem zfs_al1 (Z : zZ) (S : zS) (a : Nat) : zfs (zalZ Z a 1 4) (zalS S a) a 1 = [.int 0, .int 0, .long 0, .int 0] := by
  simp [zfs, zalZ, zalS, zQ, zI, zJ, zR, va_up_self, va_rf]
theorem zdef1 : ∀ j, j < 4 → defaultValue (tyX1 j) = vp_V [.int 0, .int 0, .long 0, .int 0] j := by decide +kernel
theorem zg_new1 (C0 : zC p s m args meth c cc nL Ts own D cy A rt) {index : Nat} (hdg : decode cc pc = .ok (.new index, 3)) (hcl : Cond.classLink own index RX1 ∈ Ts) (hinst : Cond.instantiable RX1 4 ∈ Ts) (hini : Cond.initialized RX1 ∈ Ts) (hin : ∀ w ∈ u_ws RX1 TX1 4, w ∈ Ts) {k j : Nat} (hro : cells + 1 = k ∧ slots + 4 = j) (hro2 : k ≤ R.cells ∧ j ≤ R.slots) (hq : pc + 3 = q) (kk : ∀ a, a ∉ zL Z → ∀ Z' S', Z' = zalZ Z a 1 4 → S' = zalS S a → zG p l e R s m args below meth c D cy A nL k j Q Z' S' (q) lv (.ref a :: st)) : zG p l e R s m args below meth c D cy A nL cells slots Q Z S (pc) lv (st) := by
  subst hq
  obtain ⟨e1, e2⟩ := hro
  subst e1
  subst e2
  intro H locs ls hP hD hS hl
  refine va_new (D := D) (cl := vwCl) (ci := 1) (N := 4) (fs := [.int 0, .int 0, .long 0, .int 0]) C0.1.1 C0.1.2.1 C0.1.2.2.2.2 hin tyX1 tyX1_ok C0.1.2.2.2.1 (C0.1.2.2.2.2 _ hcl) (C0.1.2.2.2.2 _ hinst) (C0.1.2.2.2.2 _ hini) C0.2.1.1 hP hD hS C0.2.2.1 rfl (zdef1) hro2.1 hro2.2 hdg (fun a H1 hP1 hD1 hS1 => ?_)
  have ha := zfresh hD1
  have hp := zpush (k := 1) (n := 4) ha ((zF_1 cy (S := zalS S a) (zk_al Z a 1 4)).trans (by rw [zfs_al1]))
  exact kk a ha _ _ rfl rfl H1 locs ls (hp ▸ hP1) (hp ▸ hD1) hS1 hl
theorem zfs_al2 (Z : zZ) (S : zS) (a : Nat) : zfs (zalZ Z a 2 13) (zalS S a) a 2 = [.int 0, .null, .null, .null, .null, .int 0, .int 0, .null, .int 0, .int 0, .int 0, .int 0, .int 0] := by
  simp [zfs, zalZ, zalS, zQ, zI, zJ, zR, va_up_self, va_rf]
theorem zdef2 : ∀ j, j < 13 → defaultValue (tyX2 j) = vp_V [.int 0, .null, .null, .null, .null, .int 0, .int 0, .null, .int 0, .int 0, .int 0, .int 0, .int 0] j := by decide +kernel
theorem zg_new2 (C0 : zC p s m args meth c cc nL Ts own D cy A rt) {index : Nat} (hdg : decode cc pc = .ok (.new index, 3)) (hcl : Cond.classLink own index RX2 ∈ Ts) (hinst : Cond.instantiable RX2 13 ∈ Ts) (hini : Cond.initialized RX2 ∈ Ts) (hin : ∀ w ∈ u_ws RX2 TX2 13, w ∈ Ts) {k j : Nat} (hro : cells + 1 = k ∧ slots + 13 = j) (hro2 : k ≤ R.cells ∧ j ≤ R.slots) (hq : pc + 3 = q) (kk : ∀ a, a ∉ zL Z → ∀ Z' S', Z' = zalZ Z a 2 13 → S' = zalS S a → zG p l e R s m args below meth c D cy A nL k j Q Z' S' (q) lv (.ref a :: st)) : zG p l e R s m args below meth c D cy A nL cells slots Q Z S (pc) lv (st) := by
  subst hq
  obtain ⟨e1, e2⟩ := hro
  subst e1
  subst e2
  intro H locs ls hP hD hS hl
  refine va_new (D := D) (cl := vwCl) (ci := 2) (N := 13) (fs := [.int 0, .null, .null, .null, .null, .int 0, .int 0, .null, .int 0, .int 0, .int 0, .int 0, .int 0]) C0.1.1 C0.1.2.1 C0.1.2.2.2.2 hin tyX2 tyX2_ok C0.1.2.2.2.1 (C0.1.2.2.2.2 _ hcl) (C0.1.2.2.2.2 _ hinst) (C0.1.2.2.2.2 _ hini) C0.2.1.1 hP hD hS C0.2.2.1 rfl (zdef2) hro2.1 hro2.2 hdg (fun a H1 hP1 hD1 hS1 => ?_)
  have ha := zfresh hD1
  have hp := zpush (k := 2) (n := 13) ha ((zF_2 cy (S := zalS S a) (zk_al Z a 2 13)).trans (by rw [zfs_al2]))
  exact kk a ha _ _ rfl rfl H1 locs ls (hp ▸ hP1) (hp ▸ hD1) hS1 hl
theorem zfs_al3 (Z : zZ) (S : zS) (a : Nat) : zfs (zalZ Z a 3 2) (zalS S a) a 3 = [.null, .int 0] := by
  simp [zfs, zalZ, zalS, zQ, zI, zJ, zR, va_up_self, va_rf]
theorem zdef3 : ∀ j, j < 2 → defaultValue (tyX3 j) = vp_V [.null, .int 0] j := by decide +kernel
theorem zg_new3 (C0 : zC p s m args meth c cc nL Ts own D cy A rt) {index : Nat} (hdg : decode cc pc = .ok (.new index, 3)) (hcl : Cond.classLink own index RX3 ∈ Ts) (hinst : Cond.instantiable RX3 2 ∈ Ts) (hini : Cond.initialized RX3 ∈ Ts) (hin : ∀ w ∈ u_ws RX3 TX3 2, w ∈ Ts) {k j : Nat} (hro : cells + 1 = k ∧ slots + 2 = j) (hro2 : k ≤ R.cells ∧ j ≤ R.slots) (hq : pc + 3 = q) (kk : ∀ a, a ∉ zL Z → ∀ Z' S', Z' = zalZ Z a 3 2 → S' = zalS S a → zG p l e R s m args below meth c D cy A nL k j Q Z' S' (q) lv (.ref a :: st)) : zG p l e R s m args below meth c D cy A nL cells slots Q Z S (pc) lv (st) := by
  subst hq
  obtain ⟨e1, e2⟩ := hro
  subst e1
  subst e2
  intro H locs ls hP hD hS hl
  refine va_new (D := D) (cl := vwCl) (ci := 3) (N := 2) (fs := [.null, .int 0]) C0.1.1 C0.1.2.1 C0.1.2.2.2.2 hin tyX3 tyX3_ok C0.1.2.2.2.1 (C0.1.2.2.2.2 _ hcl) (C0.1.2.2.2.2 _ hinst) (C0.1.2.2.2.2 _ hini) C0.2.1.1 hP hD hS C0.2.2.1 rfl (zdef3) hro2.1 hro2.2 hdg (fun a H1 hP1 hD1 hS1 => ?_)
  have ha := zfresh hD1
  have hp := zpush (k := 3) (n := 2) ha ((zF_3 cy (S := zalS S a) (zk_al Z a 3 2)).trans (by rw [zfs_al3]))
  exact kk a ha _ _ rfl rfl H1 locs ls (hp ▸ hP1) (hp ▸ hD1) hS1 hl
theorem zfs_al4 (Z : zZ) (S : zS) (a : Nat) : zfs (zalZ Z a 4 5) (zalS S a) a 4 = [.null, .null, .int 0, .long 0, .int 0] := by
  simp [zfs, zalZ, zalS, zQ, zI, zJ, zR, va_up_self, va_rf]
theorem zdef4 : ∀ j, j < 5 → defaultValue (tyX4 j) = vp_V [.null, .null, .int 0, .long 0, .int 0] j := by decide +kernel
theorem zg_new4 (C0 : zC p s m args meth c cc nL Ts own D cy A rt) {index : Nat} (hdg : decode cc pc = .ok (.new index, 3)) (hcl : Cond.classLink own index RX4 ∈ Ts) (hinst : Cond.instantiable RX4 5 ∈ Ts) (hini : Cond.initialized RX4 ∈ Ts) (hin : ∀ w ∈ u_ws RX4 TX4 5, w ∈ Ts) {k j : Nat} (hro : cells + 1 = k ∧ slots + 5 = j) (hro2 : k ≤ R.cells ∧ j ≤ R.slots) (hq : pc + 3 = q) (kk : ∀ a, a ∉ zL Z → ∀ Z' S', Z' = zalZ Z a 4 5 → S' = zalS S a → zG p l e R s m args below meth c D cy A nL k j Q Z' S' (q) lv (.ref a :: st)) : zG p l e R s m args below meth c D cy A nL cells slots Q Z S (pc) lv (st) := by
  subst hq
  obtain ⟨e1, e2⟩ := hro
  subst e1
  subst e2
  intro H locs ls hP hD hS hl
  refine va_new (D := D) (cl := vwCl) (ci := 4) (N := 5) (fs := [.null, .null, .int 0, .long 0, .int 0]) C0.1.1 C0.1.2.1 C0.1.2.2.2.2 hin tyX4 tyX4_ok C0.1.2.2.2.1 (C0.1.2.2.2.2 _ hcl) (C0.1.2.2.2.2 _ hinst) (C0.1.2.2.2.2 _ hini) C0.2.1.1 hP hD hS C0.2.2.1 rfl (zdef4) hro2.1 hro2.2 hdg (fun a H1 hP1 hD1 hS1 => ?_)
  have ha := zfresh hD1
  have hp := zpush (k := 4) (n := 5) ha ((zF_4 cy (S := zalS S a) (zk_al Z a 4 5)).trans (by rw [zfs_al4]))
  exact kk a ha _ _ rfl rfl H1 locs ls (hp ▸ hP1) (hp ▸ hD1) hS1 hl
theorem zfs_al5 (Z : zZ) (S : zS) (a : Nat) : zfs (zalZ Z a 5 6) (zalS S a) a 5 = [.null, .null, .int 0, .int 0, .int 0, .int 0] := by
  simp [zfs, zalZ, zalS, zQ, zI, zJ, zR, va_up_self, va_rf]
theorem zdef5 : ∀ j, j < 6 → defaultValue (tyX5 j) = vp_V [.null, .null, .int 0, .int 0, .int 0, .int 0] j := by decide +kernel
theorem zg_new5 (C0 : zC p s m args meth c cc nL Ts own D cy A rt) {index : Nat} (hdg : decode cc pc = .ok (.new index, 3)) (hcl : Cond.classLink own index RX5 ∈ Ts) (hinst : Cond.instantiable RX5 6 ∈ Ts) (hini : Cond.initialized RX5 ∈ Ts) (hin : ∀ w ∈ u_ws RX5 TX5 6, w ∈ Ts) {k j : Nat} (hro : cells + 1 = k ∧ slots + 6 = j) (hro2 : k ≤ R.cells ∧ j ≤ R.slots) (hq : pc + 3 = q) (kk : ∀ a, a ∉ zL Z → ∀ Z' S', Z' = zalZ Z a 5 6 → S' = zalS S a → zG p l e R s m args below meth c D cy A nL k j Q Z' S' (q) lv (.ref a :: st)) : zG p l e R s m args below meth c D cy A nL cells slots Q Z S (pc) lv (st) := by
  subst hq
  obtain ⟨e1, e2⟩ := hro
  subst e1
  subst e2
  intro H locs ls hP hD hS hl
  refine va_new (D := D) (cl := vwCl) (ci := 5) (N := 6) (fs := [.null, .null, .int 0, .int 0, .int 0, .int 0]) C0.1.1 C0.1.2.1 C0.1.2.2.2.2 hin tyX5 tyX5_ok C0.1.2.2.2.1 (C0.1.2.2.2.2 _ hcl) (C0.1.2.2.2.2 _ hinst) (C0.1.2.2.2.2 _ hini) C0.2.1.1 hP hD hS C0.2.2.1 rfl (zdef5) hro2.1 hro2.2 hdg (fun a H1 hP1 hD1 hS1 => ?_)
  have ha := zfresh hD1
  have hp := zpush (k := 5) (n := 6) ha ((zF_5 cy (S := zalS S a) (zk_al Z a 5 6)).trans (by rw [zfs_al5]))
  exact kk a ha _ _ rfl rfl H1 locs ls (hp ▸ hP1) (hp ▸ hD1) hS1 hl
theorem zfs_al6 (Z : zZ) (S : zS) (a : Nat) : zfs (zalZ Z a 6 4) (zalS S a) a 6 = [.int 0, .null, .null, .null] := by
  simp [zfs, zalZ, zalS, zQ, zI, zJ, zR, va_up_self, va_rf]
theorem zdef6 : ∀ j, j < 4 → defaultValue (tyX6 j) = vp_V [.int 0, .null, .null, .null] j := by decide +kernel
theorem zg_new6 (C0 : zC p s m args meth c cc nL Ts own D cy A rt) {index : Nat} (hdg : decode cc pc = .ok (.new index, 3)) (hcl : Cond.classLink own index RX6 ∈ Ts) (hinst : Cond.instantiable RX6 4 ∈ Ts) (hini : Cond.initialized RX6 ∈ Ts) (hin : ∀ w ∈ u_ws RX6 TX6 4, w ∈ Ts) {k j : Nat} (hro : cells + 1 = k ∧ slots + 4 = j) (hro2 : k ≤ R.cells ∧ j ≤ R.slots) (hq : pc + 3 = q) (kk : ∀ a, a ∉ zL Z → ∀ Z' S', Z' = zalZ Z a 6 4 → S' = zalS S a → zG p l e R s m args below meth c D cy A nL k j Q Z' S' (q) lv (.ref a :: st)) : zG p l e R s m args below meth c D cy A nL cells slots Q Z S (pc) lv (st) := by
  subst hq
  obtain ⟨e1, e2⟩ := hro
  subst e1
  subst e2
  intro H locs ls hP hD hS hl
  refine va_new (D := D) (cl := vwCl) (ci := 6) (N := 4) (fs := [.int 0, .null, .null, .null]) C0.1.1 C0.1.2.1 C0.1.2.2.2.2 hin tyX6 tyX6_ok C0.1.2.2.2.1 (C0.1.2.2.2.2 _ hcl) (C0.1.2.2.2.2 _ hinst) (C0.1.2.2.2.2 _ hini) C0.2.1.1 hP hD hS C0.2.2.1 rfl (zdef6) hro2.1 hro2.2 hdg (fun a H1 hP1 hD1 hS1 => ?_)
  have ha := zfresh hD1
  have hp := zpush (k := 6) (n := 4) ha ((zF_6 cy (S := zalS S a) (zk_al Z a 6 4)).trans (by rw [zfs_al6]))
  exact kk a ha _ _ rfl rfl H1 locs ls (hp ▸ hP1) (hp ▸ hD1) hS1 hl
theorem zfs_al7 (Z : zZ) (S : zS) (a : Nat) : zfs (zalZ Z a 7 36) (zalS S a) a 7 = [.int 0, .int 0, .int 0, .null, .null, .null, .null, .null, .null, .null, .null, .null, .null, .null, .null, .null, .null, .null, .null, .null, .null, .null, .null, .null, .null, .null, .null, .null, .null, .null, .null, .null, .null, .null, .null, .null] := by
  simp [zfs, zalZ, zalS, zQ, zI, zJ, zR, va_up_self, va_rf]
theorem zdef7 : ∀ j, j < 36 → defaultValue (tyX7 j) = vp_V [.int 0, .int 0, .int 0, .null, .null, .null, .null, .null, .null, .null, .null, .null, .null, .null, .null, .null, .null, .null, .null, .null, .null, .null, .null, .null, .null, .null, .null, .null, .null, .null, .null, .null, .null, .null, .null, .null] j := by decide +kernel
theorem zg_new7 (C0 : zC p s m args meth c cc nL Ts own D cy A rt) {index : Nat} (hdg : decode cc pc = .ok (.new index, 3)) (hcl : Cond.classLink own index RX7 ∈ Ts) (hinst : Cond.instantiable RX7 36 ∈ Ts) (hini : Cond.initialized RX7 ∈ Ts) (hin : ∀ w ∈ u_ws RX7 TX7 36, w ∈ Ts) {k j : Nat} (hro : cells + 1 = k ∧ slots + 36 = j) (hro2 : k ≤ R.cells ∧ j ≤ R.slots) (hq : pc + 3 = q) (kk : ∀ a, a ∉ zL Z → ∀ Z' S', Z' = zalZ Z a 7 36 → S' = zalS S a → zG p l e R s m args below meth c D cy A nL k j Q Z' S' (q) lv (.ref a :: st)) : zG p l e R s m args below meth c D cy A nL cells slots Q Z S (pc) lv (st) := by
  subst hq
  obtain ⟨e1, e2⟩ := hro
  subst e1
  subst e2
  intro H locs ls hP hD hS hl
  refine va_new (D := D) (cl := vwCl) (ci := 7) (N := 36) (fs := [.int 0, .int 0, .int 0, .null, .null, .null, .null, .null, .null, .null, .null, .null, .null, .null, .null, .null, .null, .null, .null, .null, .null, .null, .null, .null, .null, .null, .null, .null, .null, .null, .null, .null, .null, .null, .null, .null]) C0.1.1 C0.1.2.1 C0.1.2.2.2.2 hin tyX7 tyX7_ok C0.1.2.2.2.1 (C0.1.2.2.2.2 _ hcl) (C0.1.2.2.2.2 _ hinst) (C0.1.2.2.2.2 _ hini) C0.2.1.1 hP hD hS C0.2.2.1 rfl (zdef7) hro2.1 hro2.2 hdg (fun a H1 hP1 hD1 hS1 => ?_)
  have ha := zfresh hD1
  have hp := zpush (k := 7) (n := 36) ha ((zF_7 cy (S := zalS S a) (zk_al Z a 7 36)).trans (by rw [zfs_al7]))
  exact kk a ha _ _ rfl rfl H1 locs ls (hp ▸ hP1) (hp ▸ hD1) hS1 hl
theorem zg_newaI (C0 : zC p s m args meth c cc nL Ts own D cy A rt) {n : Int32} {N' : Nat} (hdg : decode cc pc = .ok (.newarray .int, 2)) (harr : Cond.arrayClass .int ∈ Ts) (hn : ¬ n < 0) (hN : n.toNatClampNeg = N') (hbytes : N' * componentBytes .int ≤ 536870912) {k j : Nat} (hro : cells + 1 = k ∧ slots + N' = j) (hro2 : k ≤ R.cells ∧ j ≤ R.slots) (hq : pc + 2 = q) (kk : ∀ a, a ∉ zL Z → ∀ Z' S', Z' = zalZ Z a 8 N' → S' = zalS S a → zG p l e R s m args below meth c D cy A nL k j Q Z' S' (q) lv (.ref a :: st)) : zG p l e R s m args below meth c D cy A nL cells slots Q Z S (pc) lv (.int n :: st) := by
  subst hq
  obtain ⟨e1, e2⟩ := hro
  subst e1
  subst e2
  intro H locs ls hP hD hS hl
  refine va_newa (D := D) (cl := vwCl) (atype := .int) (ty := .int) (a0 := (N', .inl (fun _ => 0))) C0.1.1 C0.1.2.1 (C0.1.2.2.2.2 _ harr) rfl C0.2.1.1 hP hD hS C0.2.2.1 (fun cA => rfl) hn hN hbytes hro2.1 hro2.2 hdg (fun a cA H1 hK1 hP1 hD1 hS1 => ?_)
  have e0 : cA = cy 0 := by
    have h1 := (hK1.2 6 (cA, .int) rfl).2
    have h2 := (hK1.2 0 (cy 0, .int) rfl).2
    exact Option.some.inj (h1.symm.trans h2)
  subst e0
  have ha := zfresh hD1
  have hp := zpush (k := 8) (n := N') ha ((zF_8 cy (S := zalS S a) (zk_al Z a 8 N')).trans (by rw [show zN (zalZ Z a 8 N') a = N' from va_up_self _ _ _, show zI (zalS S a) a = (fun _ => 0) from va_up_self _ _ _]))
  exact kk a ha _ _ rfl rfl H1 locs ls (hp ▸ hP1) (hp ▸ hD1) hS1 hl
theorem zg_newaJ (C0 : zC p s m args meth c cc nL Ts own D cy A rt) {n : Int32} {N' : Nat} (hdg : decode cc pc = .ok (.newarray .long, 2)) (harr : Cond.arrayClass .long ∈ Ts) (hn : ¬ n < 0) (hN : n.toNatClampNeg = N') (hbytes : N' * componentBytes .long ≤ 536870912) {k j : Nat} (hro : cells + 1 = k ∧ slots + N' = j) (hro2 : k ≤ R.cells ∧ j ≤ R.slots) (hq : pc + 2 = q) (kk : ∀ a, a ∉ zL Z → ∀ Z' S', Z' = zalZ Z a 9 N' → S' = zalS S a → zG p l e R s m args below meth c D cy A nL k j Q Z' S' (q) lv (.ref a :: st)) : zG p l e R s m args below meth c D cy A nL cells slots Q Z S (pc) lv (.int n :: st) := by
  subst hq
  obtain ⟨e1, e2⟩ := hro
  subst e1
  subst e2
  intro H locs ls hP hD hS hl
  refine va_newa (D := D) (cl := vwCl) (atype := .long) (ty := .long) (a0 := (N', .inr (.inl (fun _ => 0)))) C0.1.1 C0.1.2.1 (C0.1.2.2.2.2 _ harr) rfl C0.2.1.1 hP hD hS C0.2.2.1 (fun cA => rfl) hn hN hbytes hro2.1 hro2.2 hdg (fun a cA H1 hK1 hP1 hD1 hS1 => ?_)
  have e0 : cA = cy 1 := by
    have h1 := (hK1.2 6 (cA, .long) rfl).2
    have h2 := (hK1.2 1 (cy 1, .long) rfl).2
    exact Option.some.inj (h1.symm.trans h2)
  subst e0
  have ha := zfresh hD1
  have hp := zpush (k := 9) (n := N') ha ((zF_9 cy (S := zalS S a) (zk_al Z a 9 N')).trans (by rw [show zN (zalZ Z a 9 N') a = N' from va_up_self _ _ _, show zJ (zalS S a) a = (fun _ => 0) from va_up_self _ _ _]))
  exact kk a ha _ _ rfl rfl H1 locs ls (hp ▸ hP1) (hp ▸ hD1) hS1 hl
theorem zg_newaZ (C0 : zC p s m args meth c cc nL Ts own D cy A rt) {n : Int32} {N' : Nat} (hdg : decode cc pc = .ok (.newarray .boolean, 2)) (harr : Cond.arrayClass .boolean ∈ Ts) (hn : ¬ n < 0) (hN : n.toNatClampNeg = N') (hbytes : N' * componentBytes .boolean ≤ 536870912) {k j : Nat} (hro : cells + 1 = k ∧ slots + N' = j) (hro2 : k ≤ R.cells ∧ j ≤ R.slots) (hq : pc + 2 = q) (kk : ∀ a, a ∉ zL Z → ∀ Z' S', Z' = zalZ Z a 10 N' → S' = zalS S a → zG p l e R s m args below meth c D cy A nL k j Q Z' S' (q) lv (.ref a :: st)) : zG p l e R s m args below meth c D cy A nL cells slots Q Z S (pc) lv (.int n :: st) := by
  subst hq
  obtain ⟨e1, e2⟩ := hro
  subst e1
  subst e2
  intro H locs ls hP hD hS hl
  refine va_newa (D := D) (cl := vwCl) (atype := .boolean) (ty := .boolean) (a0 := (N', .inl (fun _ => 0))) C0.1.1 C0.1.2.1 (C0.1.2.2.2.2 _ harr) rfl C0.2.1.1 hP hD hS C0.2.2.1 (fun cA => rfl) hn hN hbytes hro2.1 hro2.2 hdg (fun a cA H1 hK1 hP1 hD1 hS1 => ?_)
  have e0 : cA = cy 2 := by
    have h1 := (hK1.2 6 (cA, .boolean) rfl).2
    have h2 := (hK1.2 2 (cy 2, .boolean) rfl).2
    exact Option.some.inj (h1.symm.trans h2)
  subst e0
  have ha := zfresh hD1
  have hp := zpush (k := 10) (n := N') ha ((zF_10 cy (S := zalS S a) (zk_al Z a 10 N')).trans (by rw [show zN (zalZ Z a 10 N') a = N' from va_up_self _ _ _, show zI (zalS S a) a = (fun _ => 0) from va_up_self _ _ _]))
  exact kk a ha _ _ rfl rfl H1 locs ls (hp ▸ hP1) (hp ▸ hD1) hS1 hl
theorem zg_newq11 (C0 : zC p s m args meth c cc nL Ts own D cy A rt) {index : Nat} {n : Int32} {N' : Nat} (hdg : decode cc pc = .ok (.anewarray index, 3)) (hcl : Cond.classLink own index RX1 ∈ Ts) (hn : ¬ n < 0) (hN : n.toNatClampNeg = N') (hbytes : N' * 4 ≤ 536870912) {k j : Nat} (hro : cells + 1 = k ∧ slots + N' = j) (hro2 : k ≤ R.cells ∧ j ≤ R.slots) (hq : pc + 3 = q) (kk : ∀ a, a ∉ zL Z → ∀ Z' S', Z' = zalZ Z a 11 N' → S' = zalS S a → zG p l e R s m args below meth c D cy A nL k j Q Z' S' (q) lv (.ref a :: st)) : zG p l e R s m args below meth c D cy A nL cells slots Q Z S (pc) lv (.int n :: st) := by
  subst hq
  obtain ⟨e1, e2⟩ := hro
  subst e1
  subst e2
  intro H locs ls hP hD hS hl
  refine va_newq (D := D) (cl := vwCl) C0.1.1 C0.1.2.1 C0.1.2.2.2.1 (C0.1.2.2.2.2 _ hcl) C0.2.1.2.2.2.2.2.1 C0.2.1.1 hP hD hS C0.2.2.1 hn hN hbytes hro2.1 hro2.2 hdg (fun a cA H1 hK1 hP1 hD1 hS1 => ?_)
  have e0 : cA = cy 3 := by
    obtain ⟨kA, comp, -, -, -, h1⟩ := (hK1.2 6 (cA, .object RX1) rfl).2
    obtain ⟨kA2, comp2, -, -, -, h2⟩ := (hK1.2 3 (cy 3, .object RX1) rfl).2
    exact Option.some.inj (h1.symm.trans h2)
  subst e0
  have ha := zfresh hD1
  have hp := zpush (k := 11) (n := N') ha ((zF_11 cy (S := zalS S a) (zk_al Z a 11 N')).trans (by rw [show zN (zalZ Z a 11 N') a = N' from va_up_self _ _ _, show zR (zalS S a) a = (fun _ => none) from va_up_self _ _ _]))
  exact kk a ha _ _ rfl rfl H1 locs ls (hp ▸ hP1) (hp ▸ hD1) hS1 hl
theorem zg_newq12 (C0 : zC p s m args meth c cc nL Ts own D cy A rt) {index : Nat} {n : Int32} {N' : Nat} (hdg : decode cc pc = .ok (.anewarray index, 3)) (hcl : Cond.classLink own index RX2 ∈ Ts) (hn : ¬ n < 0) (hN : n.toNatClampNeg = N') (hbytes : N' * 4 ≤ 536870912) {k j : Nat} (hro : cells + 1 = k ∧ slots + N' = j) (hro2 : k ≤ R.cells ∧ j ≤ R.slots) (hq : pc + 3 = q) (kk : ∀ a, a ∉ zL Z → ∀ Z' S', Z' = zalZ Z a 12 N' → S' = zalS S a → zG p l e R s m args below meth c D cy A nL k j Q Z' S' (q) lv (.ref a :: st)) : zG p l e R s m args below meth c D cy A nL cells slots Q Z S (pc) lv (.int n :: st) := by
  subst hq
  obtain ⟨e1, e2⟩ := hro
  subst e1
  subst e2
  intro H locs ls hP hD hS hl
  refine va_newq (D := D) (cl := vwCl) C0.1.1 C0.1.2.1 C0.1.2.2.2.1 (C0.1.2.2.2.2 _ hcl) C0.2.1.2.2.2.2.2.2.1 C0.2.1.1 hP hD hS C0.2.2.1 hn hN hbytes hro2.1 hro2.2 hdg (fun a cA H1 hK1 hP1 hD1 hS1 => ?_)
  have e0 : cA = cy 4 := by
    obtain ⟨kA, comp, -, -, -, h1⟩ := (hK1.2 6 (cA, .object RX2) rfl).2
    obtain ⟨kA2, comp2, -, -, -, h2⟩ := (hK1.2 4 (cy 4, .object RX2) rfl).2
    exact Option.some.inj (h1.symm.trans h2)
  subst e0
  have ha := zfresh hD1
  have hp := zpush (k := 12) (n := N') ha ((zF_12 cy (S := zalS S a) (zk_al Z a 12 N')).trans (by rw [show zN (zalZ Z a 12 N') a = N' from va_up_self _ _ _, show zQ (zalZ Z a 12 N') a = (fun _ => none) from va_up_self _ _ _]))
  exact kk a ha _ _ rfl rfl H1 locs ls (hp ▸ hP1) (hp ▸ hD1) hS1 hl
theorem zg_newq13 (C0 : zC p s m args meth c cc nL Ts own D cy A rt) {index : Nat} {n : Int32} {N' : Nat} (hdg : decode cc pc = .ok (.anewarray index, 3)) (hcl : Cond.classLink own index RX5 ∈ Ts) (hn : ¬ n < 0) (hN : n.toNatClampNeg = N') (hbytes : N' * 4 ≤ 536870912) {k j : Nat} (hro : cells + 1 = k ∧ slots + N' = j) (hro2 : k ≤ R.cells ∧ j ≤ R.slots) (hq : pc + 3 = q) (kk : ∀ a, a ∉ zL Z → ∀ Z' S', Z' = zalZ Z a 13 N' → S' = zalS S a → zG p l e R s m args below meth c D cy A nL k j Q Z' S' (q) lv (.ref a :: st)) : zG p l e R s m args below meth c D cy A nL cells slots Q Z S (pc) lv (.int n :: st) := by
  subst hq
  obtain ⟨e1, e2⟩ := hro
  subst e1
  subst e2
  intro H locs ls hP hD hS hl
  refine va_newq (D := D) (cl := vwCl) C0.1.1 C0.1.2.1 C0.1.2.2.2.1 (C0.1.2.2.2.2 _ hcl) C0.2.1.2.2.2.2.2.2.2.1 C0.2.1.1 hP hD hS C0.2.2.1 hn hN hbytes hro2.1 hro2.2 hdg (fun a cA H1 hK1 hP1 hD1 hS1 => ?_)
  have e0 : cA = cy 5 := by
    obtain ⟨kA, comp, -, -, -, h1⟩ := (hK1.2 6 (cA, .object RX5) rfl).2
    obtain ⟨kA2, comp2, -, -, -, h2⟩ := (hK1.2 5 (cy 5, .object RX5) rfl).2
    exact Option.some.inj (h1.symm.trans h2)
  subst e0
  have ha := zfresh hD1
  have hp := zpush (k := 13) (n := N') ha ((zF_13 cy (S := zalS S a) (zk_al Z a 13 N')).trans (by rw [show zN (zalZ Z a 13 N') a = N' from va_up_self _ _ _, show zQ (zalZ Z a 13 N') a = (fun _ => none) from va_up_self _ _ _]))
  exact kk a ha _ _ rfl rfl H1 locs ls (hp ▸ hP1) (hp ▸ hD1) hS1 hl
theorem zg_putfI (C0 : zC p s m args meth c cc nL Ts own D cy A rt) {a ci N k index : Nat} {Cn ref : String} {T : u_T} {fs : List Value} {v : Int32} {ty0 : Nat → FieldType} (hnm0 : meth.name = "<init>") (hdg : decode cc pc = .ok (.putfield index, 3)) (ha : zk Z a ci) (hF : zF cy Z S a = .inr (ci, fs)) (hc : vwCl[ci]? = some (Cn, T, N)) (hk : k < N) (hin : ∀ w ∈ u_ws Cn T N, w ∈ Ts) (hty : ∀ k, k < N → parseFieldDescriptor (T k).2.2.1 = some (ty0 k)) (hnm : ∀ a, a < N → ∀ b, b < N → a ≠ b → (T a).2.1 ≠ (T b).2.1) (hlink : Cond.fieldLink own index ref (T k).2.1 (T k).2.2.1 ∈ Ts) (href : (T k).1 = ref) (hfin : (T k).2.2.2 = true) (hown : (T k).1 = own) (hn : narrow (ty0 k) (.int v) = .int v) (hfit : fits (ty0 k) (.int v) = true) (hl2 : k < fs.length) (he : zF cy Z (zsI S a k v) a = .inr (ci, zfs Z (zsI S a k v) a ci)) (hP : zfs Z (zsI S a k v) a ci = fs.set k (.int v)) (hq : pc + 3 = q) (kk : ∀ S' : zS, S' = zsI S a k v → zG p l e R s m args below meth c D cy A nL cells slots Q Z S' (q) lv (st)) : zG p l e R s m args below meth c D cy A nL cells slots Q Z S (pc) lv (.int v :: .ref a :: st) :=
  zg_put (Z' := Z) (S' := zsI S a k v) C0 hdg ha hF hc hk hin hty hnm hlink href (Or.inr ⟨hfin, hnm0, hown⟩) hn hfit hl2 rfl (he.trans (by rw [hP])) (zF_offI cy Z S a k v) hq (kk _ rfl)
theorem zg_putfJ (C0 : zC p s m args meth c cc nL Ts own D cy A rt) {a ci N k index : Nat} {Cn ref : String} {T : u_T} {fs : List Value} {v : Int64} {ty0 : Nat → FieldType} (hnm0 : meth.name = "<init>") (hdg : decode cc pc = .ok (.putfield index, 3)) (ha : zk Z a ci) (hF : zF cy Z S a = .inr (ci, fs)) (hc : vwCl[ci]? = some (Cn, T, N)) (hk : k < N) (hin : ∀ w ∈ u_ws Cn T N, w ∈ Ts) (hty : ∀ k, k < N → parseFieldDescriptor (T k).2.2.1 = some (ty0 k)) (hnm : ∀ a, a < N → ∀ b, b < N → a ≠ b → (T a).2.1 ≠ (T b).2.1) (hlink : Cond.fieldLink own index ref (T k).2.1 (T k).2.2.1 ∈ Ts) (href : (T k).1 = ref) (hfin : (T k).2.2.2 = true) (hown : (T k).1 = own) (hn : narrow (ty0 k) (.long v) = .long v) (hfit : fits (ty0 k) (.long v) = true) (hl2 : k < fs.length) (he : zF cy Z (zsJ S a k v) a = .inr (ci, zfs Z (zsJ S a k v) a ci)) (hP : zfs Z (zsJ S a k v) a ci = fs.set k (.long v)) (hq : pc + 3 = q) (kk : ∀ S' : zS, S' = zsJ S a k v → zG p l e R s m args below meth c D cy A nL cells slots Q Z S' (q) lv (st)) : zG p l e R s m args below meth c D cy A nL cells slots Q Z S (pc) lv (.long v :: .ref a :: st) :=
  zg_put (Z' := Z) (S' := zsJ S a k v) C0 hdg ha hF hc hk hin hty hnm hlink href (Or.inr ⟨hfin, hnm0, hown⟩) hn hfit hl2 rfl (he.trans (by rw [hP])) (zF_offJ cy Z S a k v) hq (kk _ rfl)
theorem zg_putfQ (C0 : zC p s m args meth c cc nL Ts own D cy A rt) {a ci N k index : Nat} {Cn ref : String} {T : u_T} {fs : List Value} {v : Nat} {ty0 : Nat → FieldType} (hnm0 : meth.name = "<init>") (hdg : decode cc pc = .ok (.putfield index, 3)) (ha : zk Z a ci) (hF : zF cy Z S a = .inr (ci, fs)) (hc : vwCl[ci]? = some (Cn, T, N)) (hk : k < N) (hin : ∀ w ∈ u_ws Cn T N, w ∈ Ts) (hty : ∀ k, k < N → parseFieldDescriptor (T k).2.2.1 = some (ty0 k)) (hnm : ∀ a, a < N → ∀ b, b < N → a ≠ b → (T a).2.1 ≠ (T b).2.1) (hlink : Cond.fieldLink own index ref (T k).2.1 (T k).2.2.1 ∈ Ts) (href : (T k).1 = ref) (hfin : (T k).2.2.2 = true) (hown : (T k).1 = own) (hn : narrow (ty0 k) (.ref v) = .ref v) (hfit : fits (ty0 k) (.ref v) = true) (hl2 : k < fs.length) (he : zF cy (zsQ Z a k (some v)) S a = .inr (ci, zfs (zsQ Z a k (some v)) S a ci)) (hP : zfs (zsQ Z a k (some v)) S a ci = fs.set k (.ref v)) (hq : pc + 3 = q) (kk : ∀ Z' : zZ, Z' = zsQ Z a k (some v) → zG p l e R s m args below meth c D cy A nL cells slots Q Z' S (q) lv (st)) : zG p l e R s m args below meth c D cy A nL cells slots Q Z S (pc) lv (.ref v :: .ref a :: st) :=
  zg_put (Z' := zsQ Z a k (some v)) (S' := S) C0 hdg ha hF hc hk hin hty hnm hlink href (Or.inr ⟨hfin, hnm0, hown⟩) hn hfit hl2 rfl (he.trans (by rw [hP])) (zF_offQ cy Z S a k (some v)) hq (kk _ rfl)
theorem zg_makeI (C0 : zC p s m args meth c cc nL Ts own D cy A rt) {b : Nat} {index maxL k n : Nat} {y : MethodName} {bytes : ByteArray} {ws ws' : List Cond} {rm : Room} (As rest : List Value) {Qp : zZ → zS → Prop} (hdg : decode cc pc = .ok (.invokespecial index, 3)) (hM : ∀ sz, zMz l y ws rm D cy Z S sz (.ref b :: As) Qp) (hw : ws = Cond.code y bytes maxL none :: ws') (hG : GoodIn Ts ws) (hd : y.cls ≠ "java/lang/invoke/MethodHandle" ∧ y.cls ≠ "java/lang/invoke/VarHandle" ∧ (parseMethodDescriptor y.desc).map (fun d => d.parameters.length) = some As.length) (hini : Cond.initialized y.cls ∈ Ts) (hlk : Cond.methodLink own index y ∈ Ts) (hins : Cond.instanceMethod y ∈ Ts) (hyn : y.name = "<init>") (hst : st = As.reverse ++ .ref b :: rest) (hR : rm.frames + 1 ≤ R.frames ∧ 8 + (maxL + 11) + rm.locals ≤ R.locals) (hcat : (rest.map fun v => v.category).sum ≤ 8) (hroom : cells + rm.cells ≤ R.cells ∧ slots + rm.slots ≤ R.slots) (hk : cells + rm.cells = k ∧ slots + rm.slots = n) (hq : pc + 3 = q)
    (kk : ∀ Z' S', Qp Z' S' → zG p l e R s m args below meth c D cy A nL k n Q Z' S' (q) lv (rest)) : zG p l e R s m args below meth c D cy A nL cells slots Q Z S (pc) lv (st) := by
  subst hq
  obtain ⟨e1, e2⟩ := hk
  subst e1
  subst e2
  intro H locs ls hP hD hS hl
  have hA1 : ∀ q, zA cy Z S H.size q → A q := zA_sub C0.2.2.1 hD hS
  refine va_callv (va_runI (As := As) (rest := rest) C0.1 (hM H.size) (cwI As.length C0.1.2.2.2.2 hG hw rfl rfl (C0.1.2.2.2.2 _ hini) (C0.1.2.2.2.2 _ hlk) (C0.1.2.2.2.2 _ hins) hyn hd hR) ⟨zPc_blind, fun U hU hW => ⟨rfl, by rw [hU], by rw [hU]; exact hP, hD.weaken (fun _ _ _ _ => trivial), C0.2.1.call hS hA1 hU hW⟩⟩ rfl rfl hl.1 hst (lv_room hcat) hdg hroom) hS (fun q _ h => hA1 q h) hA1 (fun u t H1 locs1 ht hvm hw hB hz1 hk1 hS1 => ?_)
  subst ht
  exact kk u.1 u.2 hw _ locs1 ls hB.1 (hB.2.weaken (fun k x hk h => hA1 x.1 h)) hS1 hl
theorem zg_makeIN (C0 : zC p s m args meth c cc nL Ts own D cy A rt) {host : String} {b : Nat} {index maxL k n : Nat} {y : MethodName} {bytes : ByteArray} {ws ws' : List Cond} {rm : Room} (As rest : List Value) {Qp : zZ → zS → Prop} (hdg : decode cc pc = .ok (.invokespecial index, 3)) (hM : ∀ sz, zMz l y ws rm D cy Z S sz (.ref b :: As) Qp) (hw : ws = Cond.code y bytes maxL none :: ws') (hG : GoodIn Ts ws) (hd : y.cls ≠ "java/lang/invoke/MethodHandle" ∧ y.cls ≠ "java/lang/invoke/VarHandle" ∧ (parseMethodDescriptor y.desc).map (fun d => d.parameters.length) = some As.length) (hnest : Cond.methodLinkNest own index y host ∈ zBw) (hini : Cond.initialized y.cls ∈ Ts) (hins : Cond.instanceMethod y ∈ Ts) (hyn : y.name = "<init>") (hst : st = As.reverse ++ .ref b :: rest) (hR : rm.frames + 1 ≤ R.frames ∧ 8 + (maxL + 11) + rm.locals ≤ R.locals) (hcat : (rest.map fun v => v.category).sum ≤ 8) (hroom : cells + rm.cells ≤ R.cells ∧ slots + rm.slots ≤ R.slots) (hk : cells + rm.cells = k ∧ slots + rm.slots = n) (hq : pc + 3 = q)
    (kk : ∀ Z' S', Qp Z' S' → zG p l e R s m args below meth c D cy A nL k n Q Z' S' (q) lv (rest)) : zG p l e R s m args below meth c D cy A nL cells slots Q Z S (pc) lv (st) := by
  subst hq
  obtain ⟨e1, e2⟩ := hk
  subst e1
  subst e2
  intro H locs ls hP hD hS hl
  have hA1 : ∀ q, zA cy Z S H.size q → A q := zA_sub C0.2.2.1 hD hS
  refine va_callv (va_runIN (As := As) (rest := rest) C0.1 (hM H.size) (⟨va_cnB As.length C0.1.2.2.2.2 hG hw rfl rfl (C0.2.1.2.1 _ hnest) (C0.1.2.2.2.2 _ hini) hd hR, hyn, C0.1.2.2.2.2 _ hins⟩) ⟨zPc_blind, fun U hU hW => ⟨rfl, by rw [hU], by rw [hU]; exact hP, hD.weaken (fun _ _ _ _ => trivial), C0.2.1.call hS hA1 hU hW⟩⟩ rfl rfl hl.1 hst (lv_room hcat) hdg hroom) hS (fun q _ h => hA1 q h) hA1 (fun u t H1 locs1 ht hvm hw hB hz1 hk1 hS1 => ?_)
  subst ht
  exact kk u.1 u.2 hw _ locs1 ls hB.1 (hB.2.weaken (fun k x hk h => hA1 x.1 h)) hS1 hl
theorem zg_vretz (C0 : zC p s m args meth c cc nL Ts own D cy A rt) {mc ms : Nat} {Qp : zZ → zS → Prop} (hdg : decode cc pc = .ok (.return_, 1)) (hr : rt = none) (h1 : cells ≤ mc) (h2 : slots ≤ ms) (hQ : Qp Z S) : zG p l e R s m args below meth c D cy A nL cells slots (zQz below D cy A Qp args s mc ms) Z S (pc) lv [] := fun H locs ls hP hD hS hl => W.widen h1 h2 (W.vret C0.1.1 C0.1.2.1 (C0.2.2.2.1.trans hr) (fun t ht hW => ⟨⟨(Z, S), rfl, hQ, by rw [ht]; exact hP, hD⟩, hS.F ht⟩) hS.2.2 hdg C0.2.2.2.2)
theorem zgx_iretz (C0 : zC p s m args meth c cc nL Ts own D cy A rt) {mc ms : Nat} {v : Int32} {Z0 : zZ} {Qp : Int32 → zZ → zS → Prop} {Xp : String → zS → Prop} (hdg : decode cc pc = .ok (.ireturn, 1)) (hr : rt = some .int) (h1 : cells ≤ mc) (h2 : slots ≤ ms) (hQ : Qp v Z S) : zG p l e R s m args below meth c D cy A nL cells slots (zXz below D cy A Z0 Qp Xp args s mc ms) Z S (pc) lv [.int v] := fun H locs ls hP hD hS hl => W.widen h1 h2 (vx_ret (W.zret C0.1.1 C0.1.2.1 (C0.2.2.2.1.trans hr) rfl (fun t ht hW => ⟨⟨v, (Z, S), rfl, hQ, by rw [ht]; exact hP, hD⟩, hS.F ht⟩) hS.2.2 hdg C0.2.2.2.2))
theorem zg_objInit (C0 : zC p s m args meth c cc nL Ts own D cy A rt) {a index : Nat} (hdg : decode cc pc = .ok (.invokespecial index, 3)) (h1 : Cond.methodLink own index objectInit ∈ Ts) (h2 : Cond.instanceMethod objectInit ∈ Ts) (h3 : Cond.code objectInit ⟨#[0xb1]⟩ 1 none ∈ Ts) (hf : 1 ≤ R.frames) (hlo : 20 ≤ R.locals) (hst : st = [.ref a]) (hq : pc + 3 = q) (kk : zG p l e R s m args below meth c D cy A nL cells slots Q Z S (q) lv ([])) : zG p l e R s m args below meth c D cy A nL cells slots Q Z S (pc) lv (st) := by
  subst hq
  subst hst
  intro H locs ls hP hD hS hl
  refine W.objInit C0.1.1 C0.1.2.1 C0.1.2.2.2.1 (C0.1.2.2.2.2 _ h1) (C0.1.2.2.2.2 _ h2) (C0.1.2.2.2.2 _ h3) rfl (hl.1.trans C0.1.2.2.1.symm) rfl hdg hf (Nat.le_trans (Nat.le_of_ble_eq_true rfl) hlo) ?_
  exact kk H locs ls hP hD hS hl
/-- as Met.ofW, for a method whose class has natives beside it -/
theorem zofWF {y : MethodName} {ws ws' : List Cond} {rm : Room} {Pc : Array Value → State → Prop} {Qc : Array Value → State → Outcome → State → Prop} {mc ms : Nat} {free : Addr → Prop} {maxL : Nat} {ret : Option FieldType} (hy : plainFor y = true) (hw : ws = Cond.code y cc maxL ret :: ws')
    (body : ∀ (p : Program) (e : Env) (s : State) (m : MethodId) (args : Array Value) (below : List Frame) (meth : Method) (c : Code) (s₁ : State), BodyLoose p l y (headSpec ws rm) cc maxL ret e s m args below meth c s₁ → c.maxLocals = maxL → Pc args s → W p l e (headSpec ws rm).room s m args below meth c s.heap [] 0 0 (MQ below Qc args s mc ms free) (entryFrame m args maxL)) : Met l y ws rm Pc Qc mc ms free := by
  have hin : Cond.code y cc maxL ret ∈ ws := by
    rw [hw]
    exact List.mem_cons_self
  refine MetFree.of_bodySF (code := cc) (maxLocals := maxL) (ret := ret) hy (fun args s m h hn => ?_) (fun p e s m args below meth c s₁ B hml hP _ => ?_)
  · obtain ⟨meth, c, h1, h2, h3, h4, h5, h6, -, -⟩ := Cond.code_spec hn (atoms_spec (ws := ws) h _ hin)
    exact ⟨meth, c, h1, h2, h3, h4, h5, h6⟩
  · have hh0 : s₁.heap = s.heap := by
      rw [B.state]
      rfl
    obtain ⟨t, a1, o, b1, b2, b3⟩ := body p e s m args below meth c s₁ B hml hP s₁ hh0 (Stand.of_body B)
    exact ⟨t, o, a1, b1, b2, b3⟩
theorem zMi_ofF {y : MethodName} {ws ws' : List Cond} {rm : Room} {sz maxL : Nat} {av : List Value} {Qp : Int32 → zS → Prop} (hy : plainFor y = true) (hw : ws = Cond.code y cc maxL rt :: ws') (hlen : (lg_sl av).length ≤ maxL)
    (body : ∀ (p : Program) (e : Env) (s : State) (m : MethodId) (args : Array Value) (below : List Frame) (meth : Method) (c : Code) (A : Nat → Prop), zC p s m args meth c cc maxL ws y.cls D cy A rt → meth.name = y.name → zG p l e (headSpec ws rm).room s m args below meth c D cy A maxL 0 0 (zQi below D cy A Z Qp args s rm.cells rm.slots) Z S 0 (lv_args 0 av) []) : zMi l y ws rm D cy Z S sz av Qp := by
  refine zofWF (cc := cc) (maxL := maxL) (ret := rt) hy hw ?_
  intro p e s m args below meth c s₁ B hml hv
  obtain ⟨rfl, hsz, hP, hD0, hV⟩ := hv
  subst hsz
  have hts := atoms_spec (ws := ws) B.pre
  have hown : s.vm.findClass y.cls = some m.cls := findClass_of_methodNamed B.named
  have hl := lv_entry av (n := maxL) hlen
  rw [lg_entry_eq]
  exact body p e s m av.toArray below meth c (zA cy Z S s.heap.size) ⟨⟨B.exec, B.bytes, hml, hown, hts⟩, hV, fun q h => Or.inr h, B.returns, B.notSynchronized⟩ (name_of_methodNamed B.named B.method).1 s.heap [] _ hP hD0.self va_S.rf hl
theorem zg_tabIn (C0 : zC p s m args meth c cc nL Ts own D cy A rt) {dflt lo hi : Int} {offs : Array Int} {len : Nat} {x v : Int32} {off : Int} {tgt : Nat} (hdg : decode cc pc = .ok (.tableswitch dflt lo hi offs, len)) (hx : x = v) (h1 : ¬ v.toInt < lo) (h2 : ¬ hi < v.toInt) (ho : offs[(v.toInt - lo).toNat]? = some off) (ht : (pc : Int) + off = (tgt : Int)) (kk : zG p l e R s m args below meth c D cy A nL cells slots Q Z S (tgt) lv (st)) : zG p l e R s m args below meth c D cy A nL cells slots Q Z S (pc) lv (.int x :: st) := by
  subst hx
  exact fun H locs ls hP hD hS hl => lv_tableIn C0.1.1 C0.1.2.1 hdg h1 h2 ho ht (kk H locs ls hP hD hS hl)
theorem zg_tabOut (C0 : zC p s m args meth c cc nL Ts own D cy A rt) {dflt lo hi : Int} {offs : Array Int} {len : Nat} {x : Int32} {tgt : Nat} (hdg : decode cc pc = .ok (.tableswitch dflt lo hi offs, len)) (h : x.toInt < lo ∨ hi < x.toInt) (ht : (pc : Int) + dflt = (tgt : Int)) (kk : zG p l e R s m args below meth c D cy A nL cells slots Q Z S (tgt) lv (st)) : zG p l e R s m args below meth c D cy A nL cells slots Q Z S (pc) lv (.int x :: st) := fun H locs ls hP hD hS hl => lv_tableOut C0.1.1 C0.1.2.1 hdg h ht (kk H locs ls hP hD hS hl)
end ZX
theorem zk_old' {Z Z' : zZ} {a k n b j : Nat} (e : Z' = zalZ Z a k n) (h : zk Z b j) (ha : a ∉ zL Z) : zk Z' b j := e ▸ zk_old h ha
theorem zk_al' {Z Z' : zZ} {a k n : Nat} (e : Z' = zalZ Z a k n) : zk Z' a k := e ▸ zk_al Z a k n
theorem zk_sQ {Z : zZ} {a j b k : Nat} {v : Option Nat} (h : zk Z b k) : zk (zsQ Z a j v) b k := h
theorem zk_sQ' {Z Z' : zZ} {a j b k : Nat} {v : Option Nat} (e : Z' = zsQ Z a j v) (h : zk Z b k) : zk Z' b k := e ▸ zk_sQ h
theorem zneT {x k : Int32} {a : Int} (h : ¬ x = k) (hk : k.toInt = a) : ¬ x.toInt = a := fun q => h (Int32.toInt_inj.mp (by rw [hk]; exact q))
theorem zx2_68 : ∀ w ∈ (vx_atS RX6 68 "java/lang/IllegalStateException" ["java/lang/RuntimeException", "java/lang/Exception"]).filter (fun w => !goodWord w), w ∈ zBw := by decide +kernel
theorem zxg_68 : ∀ w ∈ Cond.classLink RX6 64 "java/lang/IllegalStateException" :: Cond.initialized "java/lang/IllegalStateException" :: vx_atS RX6 68 "java/lang/IllegalStateException" ["java/lang/RuntimeException", "java/lang/Exception"], vx_ot w = true := by decide +kernel
theorem zx2_223 : ∀ w ∈ (vx_atS RX6 223 "java/lang/IndexOutOfBoundsException" ["java/lang/RuntimeException", "java/lang/Exception"]).filter (fun w => !goodWord w), w ∈ zBw := by decide +kernel
theorem zxg_223 : ∀ w ∈ Cond.classLink RX6 219 "java/lang/IndexOutOfBoundsException" :: Cond.initialized "java/lang/IndexOutOfBoundsException" :: vx_atS RX6 223 "java/lang/IndexOutOfBoundsException" ["java/lang/RuntimeException", "java/lang/Exception"], vx_ot w = true := by decide +kernel
theorem zx2_160 : ∀ w ∈ (vx_atS RX6 160 "java/lang/IllegalArgumentException" ["java/lang/RuntimeException", "java/lang/Exception"]).filter (fun w => !goodWord w), w ∈ zBw := by decide +kernel
theorem zxg_160 : ∀ w ∈ Cond.classLink RX6 156 "java/lang/IllegalArgumentException" :: Cond.initialized "java/lang/IllegalArgumentException" :: vx_atS RX6 160 "java/lang/IllegalArgumentException" ["java/lang/RuntimeException", "java/lang/Exception"], vx_ot w = true := by decide +kernel
