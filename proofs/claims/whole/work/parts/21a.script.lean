/-! the law's script: outside the pool, never written -/
section ZS
variable {p : Program} {l : Launch} {e : Env} {R : Room} {s : State} {m : MethodId} {args : Array Value} {below : List Frame} {meth : Method} {c : Code} {D : va_G} {cy : Nat → ClassId} {A : Nat → Prop} {nL cells slots : Nat} {Q : State → Prop} {Z : zZ} {S : zS} {pc q : Nat} {lv lv' : List (Nat × Value)} {st : List Value} {cc : ByteArray} {Ts : List Cond} {own : String} {rt : Option FieldType} {b L : Nat} {xs : Nat → Int32}
theorem zg_sld (C0 : zC p s m args meth c cc nL Ts own D cy A rt) {i : Int32} (hX : va_X b L xs s s.heap) (hbl : b < s.heap.size) (hbA : ¬ A b) (hi : vp_in i L) (hdg : decode cc pc = .ok (.iaload, 1)) (hq : pc + 1 = q) (kk : zG p l e R s m args below meth c D cy A nL cells slots Q Z S (q) lv (.int (xs i.toNatClampNeg) :: st)) : zG p l e R s m args below meth c D cy A nL cells slots Q Z S (pc) lv (.int i :: .ref b :: st) := by
  subst hq
  exact fun H locs ls hP hD hS hl => va_sld C0.1.1 C0.1.2.1 hX hbl hbA hS hi hdg (kk H locs ls hP hD hS hl)
theorem zg_slen (C0 : zC p s m args meth c cc nL Ts own D cy A rt) (hX : va_X b L xs s s.heap) (hbl : b < s.heap.size) (hbA : ¬ A b) (hdg : decode cc pc = .ok (.arraylength, 1)) (hq : pc + 1 = q) (kk : zG p l e R s m args below meth c D cy A nL cells slots Q Z S (q) lv (.int (nI L) :: st)) : zG p l e R s m args below meth c D cy A nL cells slots Q Z S (pc) lv (.ref b :: st) := by
  subst hq
  exact fun H locs ls hP hD hS hl => va_slen C0.1.1 C0.1.2.1 hX hbl hbA hS hdg (kk H locs ls hP hD hS hl)
def zcell (L : Nat) (xs : Nat → Int32) (k : Int32) : Int32 := if nI L ≤ k then 0 else xs k.toNatClampNeg
abbrev rm_L_cell : Room := { frames := 0, cells := 0, slots := 0, locals := 0 }
set_option maxHeartbeats 4000000 in
theorem a_L_cell (l : Launch) (b L : Nat) (xs : Nat → Int32) (k : Int32) (hk : ¬ k < 0) (hL : L < 2 ^ 31) : Met l yL_cell wsL_cell rm_L_cell (va_Pc [.ref b, .int k] (fun U => va_X b L xs U U.heap)) (vp_Si (fun r => r = zcell L xs k)) 0 0 (fun _ => False) := by
  refine Met.ofW (cc := cL_cell) (maxL := 2) (ret := some .int) (by decide +kernel) rfl ?_
  intro p e s m args below meth c s₁ B hml hv
  obtain ⟨rfl, hX⟩ := hv
  have hx := B.exec
  have hb := B.bytes
  have hr := B.returns
  have hlocks := B.notSynchronized
  have hbl : b < s.heap.size := by
    obtain ⟨scr, h1, -⟩ := hX
    exact (Array.getElem?_eq_some_iff.mp h1).1
  have hS : va_S (fun _ => False) s.heap s.heap [] := va_S.rf
  have hl := lv_entry ([.ref b, .int k]) (n := 2) (Nat.le_of_ble_eq_true rfl)
  rw [lg_entry_eq]
  generalize (lg_sl ([.ref b, .int k]) ++ List.replicate (2 - (lg_sl ([.ref b, .int k])).length) Slot.unset).toArray = ls at hl ⊢
  have hl : lv_has ls 2 [(0, .ref b), (1, .int k)] := hl
  refine lv_iload_n hx hb dL_cell_0 rfl (lv_at hl 1 rfl) ?_
  refine lv_aload_n hx hb dL_cell_1 rfl (lv_at hl 0 rfl) ?_
  refine va_slen hx hb hX hbl (fun h => h) hS dL_cell_2 ?_
  refine lv_icmp_ge (tgt := 12) hx hb dL_cell_3 rfl (fun c1 => ?_) (fun c1 => ?_)
  · refine lv_iconst (v := 0) hx hb dL_cell_12 (by decide) ?_
    exact W.iret (v := 0) hx hb hr (fun t ht hW => ⟨0, rfl, (if_pos c1).symm, ht⟩) (fun q h => by cases h) dL_cell_13
  · have hin : vp_in k L := by
      obtain ⟨j, hj, rfl⟩ := nI_of hk
      have c2 : ¬ nI L ≤ nI j := c1
      rw [nI_leI hL hj] at c2
      exact vp_in_nI (by omega) hL
    refine lv_aload_n hx hb dL_cell_6 rfl (lv_at hl 0 rfl) ?_
    refine lv_iload_n hx hb dL_cell_7 rfl (lv_at hl 1 rfl) ?_
    refine va_sld hx hb hX hbl (fun h => h) hS hin dL_cell_8 ?_
    refine lv_goto (tgt := 13) hx hb dL_cell_9 rfl ?_
    exact W.iret (v := xs k.toNatClampNeg) hx hb hr (fun t ht hW => ⟨_, rfl, (if_neg c1).symm, ht⟩) (fun q h => by cases h) dL_cell_13
theorem zg_cell (C0 : zC p s m args meth c cc nL Ts own D cy A rt) {index : Nat} {k : Int32} (hX : va_X b L xs s s.heap) (hbl : b < s.heap.size) (hbA : ¬ A b) (hL : L < 2 ^ 31) (hk : ¬ k < 0) (hdg : decode cc pc = .ok (.invokestatic index, 3)) (hG : GoodIn Ts (va_wsS own index yL_cell wsL_cell)) (hd : yL_cell.cls ≠ "java/lang/invoke/MethodHandle" ∧ yL_cell.cls ≠ "java/lang/invoke/VarHandle" ∧ (parseMethodDescriptor yL_cell.desc).map (fun d => d.parameters.length) = some 2) (hR : 0 + 1 ≤ R.frames ∧ 8 + (2 + 11) + 0 ≤ R.locals) (hcat : (st.map fun v => v.category).sum ≤ 8) (hfit : cells ≤ R.cells ∧ slots ≤ R.slots) (hq : pc + 3 = q) (kk : zG p l e R s m args below meth c D cy A nL cells slots Q Z S (q) lv (.int (zcell L xs k) :: st)) : zG p l e R s m args below meth c D cy A nL cells slots Q Z S (pc) lv (.int k :: .ref b :: st) := by
  subst hq
  intro H locs ls hP hD hS hl
  refine vp_callSi (W.runS (As := [.ref b, .int k]) (rest := st) C0.1 (a_L_cell l b L xs k hk hL) (va_cwS 2 C0.1.2.2.2.2 hG rfl rfl rfl hd hR) ⟨fun a U g mk h => ⟨h.1, h.2⟩, fun U hU hW => ⟨rfl, ?_⟩⟩ rfl rfl hl.1 rfl (lv_room hcat) hdg hfit) (fun r hr => ?_)
  · have h1 : va_X b L xs s H := hX.kept (hS.2.1 b hbl hbA)
    have h2 : va_X b L xs U H := va_X.moved hW.alike h1
    show va_X b L xs U U.heap
    rw [hU]
    exact h2
  · subst hr
    exact kk H locs ls hP hD hS hl
end ZS
