-- X6_send
abbrev rm_X6_send : Room := { frames := 7, cells := 3, slots := 18, locals := 121 }
theorem hX_X6_send_1 : ∀ w ∈ u_ws RX1 TX1 4, w ∈ wsX6_send := by decide +kernel
theorem hX_X6_send_2 : ∀ w ∈ u_ws RX2 TX2 13, w ∈ wsX6_send := by decide +kernel
theorem hdV_X6_send : yX6_send.cls = RX6 ∧ yX6_send.cls ≠ "java/lang/invoke/MethodHandle" ∧ yX6_send.cls ≠ "java/lang/invoke/VarHandle" ∧ (parseMethodDescriptor yX6_send.desc).map (fun d => d.parameters.length) = some 4 := by decide +kernel
def wJ_X6_send_30 (Z : zZ) (Qp : Int32 → zZ → zS → Prop) (Xp : String → zS → Prop)   (S : zS) : Prop :=
  Xp "java/lang/IllegalStateException" S
set_option maxHeartbeats 4000000 in
set_option maxRecDepth 100000 in
theorem aJ_X6_send_30 {p : Program} {l : Launch} {e : Env} {s : State} {m : MethodId} {args : Array Value} {below : List Frame} {meth : Method} {c : Code} {D : va_G} {cy : Nat → ClassId} {A : Nat → Prop} {Z : zZ} (C0 : zC p s m args meth c cX6_send 7 wsX6_send RX6 D cy A (some .int)) (hl0 : l.stackTraces = false) (hT : ∀ x ∈ c.exceptionTable.toList, False) {Qp : Int32 → zZ → zS → Prop} {Xp : String → zS → Prop}     {S : zS} (hw : wJ_X6_send_30 Z Qp Xp   S) : zG p l e rm_X6_send s m args below meth c D cy A 7 2 12 (zXz below D cy A Z Qp Xp args s rm_X6_send.cells rm_X6_send.slots) Z S 30 [] [] := by
  unfold wJ_X6_send_30 at hw
  exact zgx_throw C0 hl0 hT dX6_send_30 dX6_send_33 dX6_send_34 dX6_send_36 dX6_send_39 rfl (by decide +kernel) (zwm (i := 1) rfl) (zwm (i := 2) rfl) (fun _ h => List.mem_cons_of_mem _ (List.mem_append_left _ (List.mem_append_right _ h))) zx2_68 zxg_68 (List.mem_of_getElem? (i := 0) rfl) (Nat.le_of_ble_eq_true rfl) (Nat.le_of_ble_eq_true rfl) ⟨Nat.le_of_ble_eq_true rfl, Nat.le_of_ble_eq_true rfl⟩ ⟨Nat.le_of_ble_eq_true rfl, Nat.le_of_ble_eq_true rfl⟩ hw
def w_X6_send (Z : zZ) (h0 : Nat) (p0 : Int32) (p1 : Int32) (p2 : Int64) (p3 : Int32) (S : zS) (Qp : Int32 → zZ → zS → Prop) (Xp : String → zS → Prop) : Prop :=
  zk Z h0 6 ∧ w_X6_nodeAt Z h0 p0 S (fun (r3 : Option Nat) (S2 : zS) => ∃ b4, r3 = some b4 ∧ w_X6_checkKey Z p1 S2 (fun (S6 : zS) => zk Z b4 2 ∧ (((zI S6 b4 5) = 0 → wJ_X6_send_30 Z Qp Xp   S6) ∧ (¬ (zI S6 b4 5) = 0 → ∃ b8, zQ Z b4 1 = some b8 ∧ zk Z b8 3 ∧ w_X3_isFull Z b8 S6 (fun (v12 : Int32) (S11 : zS) => ((v12 = 0 → ∀ b13, b13 ∉ zL Z → ∀ (Z15 : zZ) (S16 : zS), Z15 = zalZ Z b13 1 4 → S16 = zalS S11 b13 → w_X1_init Z15 b13 p0 p1 p2 p3 S16 (fun (Z22 : zZ) (S21 : zS) => zk Z22 b8 3 ∧ w_X3_put Z22 b8 b13 S21 (fun (v25 : Int32) (S24 : zS) => Qp v25 Z22 S24))) ∧ (¬ v12 = 0 → wJ_X6_send_30 Z Qp Xp   S11)))))) Xp) Xp
set_option maxHeartbeats 4000000 in
set_option maxRecDepth 100000 in
theorem a_X6_send (l : Launch) (D : va_G) (cy : Nat → ClassId) (Z : zZ) (S : zS) (sz : Nat) (h0 : Nat) (p0 : Int32) (p1 : Int32) (p2 : Int64) (p3 : Int32) (Qp : Int32 → zZ → zS → Prop) (Xp : String → zS → Prop) (hl0 : l.stackTraces = false) (hw : w_X6_send Z h0 p0 p1 p2 p3 S Qp Xp) : zNz l yX6_send wsX6_send rm_X6_send D cy Z S sz [.ref h0, .int p0, .int p1, .long p2, .int p3] Qp Xp := by
  unfold w_X6_send at hw
  refine zNz_of (cc := cX6_send) (maxL := 7) (rt := (some .int)) (by decide +kernel) rfl (Nat.le_of_ble_eq_true rfl) ?_
  intro p e s m args below meth c A C0 _ hT
  refine zg_lv (lv' := [(0, .ref h0), (1, .int p0), (2, .int p1), (3, .long p2), (5, .int p3)]) rfl ?_
  refine zg_aload_n (q := 1) C0 0 dX6_send_0 rfl rfl ?_
  refine zg_iload_n (q := 2) C0 1 dX6_send_1 rfl rfl ?_
  obtain ⟨hz1, hw⟩ := hw
  refine zgx_callVq (q := 5) (k := 1) (n := 6) C0 [.int p0] [] hT dX6_send_2 (fun sz => a_X6_nodeAt l D cy Z S sz h0 p0 _ Xp hl0 hw) rfl gX6_send_X6_nodeAt hdV_X6_nodeAt hz1 (zF_6 cy hz1) rfl rfl ⟨Nat.le_of_ble_eq_true rfl, Nat.le_of_ble_eq_true rfl⟩ (Nat.le_of_ble_eq_true rfl) ⟨Nat.le_of_ble_eq_true rfl, Nat.le_of_ble_eq_true rfl⟩ ⟨rfl, rfl⟩ ⟨Nat.le_of_ble_eq_true rfl, Nat.le_of_ble_eq_true rfl⟩ rfl (fun r3 S2 hw => ?_)
  obtain ⟨b4, hb5, hw⟩ := hw
  refine zg_nn hb5 ?_
  refine zg_astore (q := 7) (lv' := [(6, .ref b4), (0, .ref h0), (1, .int p0), (2, .int p1), (3, .long p2), (5, .int p3)]) C0 dX6_send_5 (by decide) rfl rfl ?_
  refine zg_iload_n (q := 8) C0 3 dX6_send_7 rfl rfl ?_
  refine zgx_callSv (q := 11) (k := 2) (n := 12) C0 [.int p1] [] hT dX6_send_8 (fun sz => a_X6_checkKey l D cy Z S2 sz p1 _ Xp hl0 hw) rfl gX6_send_X6_checkKey hdS_X6_checkKey rfl ⟨Nat.le_of_ble_eq_true rfl, Nat.le_of_ble_eq_true rfl⟩ (Nat.le_of_ble_eq_true rfl) ⟨Nat.le_of_ble_eq_true rfl, Nat.le_of_ble_eq_true rfl⟩ ⟨rfl, rfl⟩ ⟨Nat.le_of_ble_eq_true rfl, Nat.le_of_ble_eq_true rfl⟩ rfl (fun S6 hw => ?_)
  refine zg_aload (q := 13) C0 0 dX6_send_11 rfl rfl ?_
  obtain ⟨hz7, hw⟩ := hw
  refine zg_get (q := 16) (T := TX2) (k := 5) C0 dX6_send_13 hz7 (zF_2 cy hz7) rfl (by decide) hX_X6_send_2 (zwm (i := 3) rfl) rfl rfl rfl ?_
  refine zg_if_eq (q := 19) (tgt := 30) C0 dX6_send_16 rfl rfl (fun c27 => ?_) (fun c27 => ?_)
  · have hw := hw.1 c27
    refine zg_sub [] rfl ?_
    exact aJ_X6_send_30 C0 hl0 hT  hw
  · have hw := hw.2 c27
    refine zg_aload (q := 21) C0 0 dX6_send_19 rfl rfl ?_
    refine zg_get (q := 24) (T := TX2) (k := 1) C0 dX6_send_21 hz7 (zF_2 cy hz7) rfl (by decide) hX_X6_send_2 (zwm (i := 4) rfl) rfl rfl rfl ?_
    obtain ⟨b8, hb9, hw⟩ := hw
    refine zg_nn hb9 ?_
    obtain ⟨hz10, hw⟩ := hw
    refine zg_callVi (q := 27) C0 [] [] dX6_send_24 (fun sz => a_X3_isFull l D cy Z S6 sz b8 _ hw) rfl gX6_send_X3_isFull hdV_X3_isFull hz10 (zF_3 cy hz10) rfl rfl ⟨Nat.le_of_ble_eq_true rfl, Nat.le_of_ble_eq_true rfl⟩ (Nat.le_of_ble_eq_true rfl) ⟨Nat.le_of_ble_eq_true rfl, Nat.le_of_ble_eq_true rfl⟩ ⟨rfl, rfl⟩ rfl (fun v12 S11 hw => ?_)
    refine zg_if_eq (q := 30) (tgt := 40) C0 dX6_send_27 rfl rfl (fun c26 => ?_) (fun c26 => ?_)
    · have hw := hw.1 c26
      refine zg_aload (q := 42) C0 0 dX6_send_40 rfl rfl ?_
      refine zg_get (q := 45) (T := TX2) (k := 1) C0 dX6_send_42 hz7 (zF_2 cy hz7) rfl (by decide) hX_X6_send_2 (zwm (i := 4) rfl) rfl rfl rfl ?_
      refine zg_nn hb9 ?_
      refine zg_new1 (q := 48) (k := 3) (j := 16) C0 dX6_send_45 (zwm (i := 5) rfl) (zwm (i := 6) rfl) (zwm (i := 7) rfl) hX_X6_send_1 ⟨rfl, rfl⟩ ⟨Nat.le_of_ble_eq_true rfl, Nat.le_of_ble_eq_true rfl⟩ rfl (fun b13 ha14 Z15 S16 eZ15 eS16 => ?_)
      have hw := hw b13 ha14 Z15 S16 eZ15 eS16
      have hz17 := zk_old' eZ15 hz1 ha14
      have hz18 := zk_old' eZ15 hz7 ha14
      have hz19 := zk_old' eZ15 hz10 ha14
      have hz20 := zk_al' eZ15
      refine zg_dup (q := 49) C0 dX6_send_48 rfl rfl ?_
      refine zg_iload_n (q := 50) C0 2 dX6_send_49 rfl rfl ?_
      refine zg_iload_n (q := 51) C0 3 dX6_send_50 rfl rfl ?_
      refine zg_lload_n (q := 52) C0 4 dX6_send_51 rfl rfl ?_
      refine zg_iload (q := 54) C0 5 dX6_send_52 rfl rfl ?_
      refine zg_makeI (q := 57) (k := 3) (n := 16) C0 [.int p0, .int p1, .long p2, .int p3] [.ref b13, .ref b8] dX6_send_54 (fun sz => a_X1_init l D cy Z15 S16 sz b13 p0 p1 p2 p3 _ hw) rfl gX6_send_X1_init hdS_X1_init (zwm (i := 7) rfl) (zwm (i := 25) rfl) (zwm (i := 26) rfl) rfl rfl ⟨Nat.le_of_ble_eq_true rfl, Nat.le_of_ble_eq_true rfl⟩ (Nat.le_of_ble_eq_true rfl) ⟨Nat.le_of_ble_eq_true rfl, Nat.le_of_ble_eq_true rfl⟩ ⟨rfl, rfl⟩ rfl (fun Z22 S21 hw => ?_)
      obtain ⟨hz23, hw⟩ := hw
      refine zg_callVi (q := 60) C0 [.ref b13] [] dX6_send_57 (fun sz => a_X3_put l D cy Z22 S21 sz b8 b13 _ hw) rfl gX6_send_X3_put hdV_X3_put hz23 (zF_3 cy hz23) rfl rfl ⟨Nat.le_of_ble_eq_true rfl, Nat.le_of_ble_eq_true rfl⟩ (Nat.le_of_ble_eq_true rfl) ⟨Nat.le_of_ble_eq_true rfl, Nat.le_of_ble_eq_true rfl⟩ ⟨rfl, rfl⟩ rfl (fun v25 S24 hw => ?_)
      exact zgx_iretz C0 dX6_send_60 rfl (Nat.le_of_ble_eq_true rfl) (Nat.le_of_ble_eq_true rfl) hw
    · have hw := hw.2 c26
      refine zg_sub [] rfl ?_
      exact aJ_X6_send_30 C0 hl0 hT  hw
