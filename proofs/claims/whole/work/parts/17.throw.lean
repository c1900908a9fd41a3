theorem zc_bipush_96 : (Int8.ofInt 96).toInt32 = 96 := by decide
theorem zc_sipush_128 : (Int16.ofInt 128).toInt32 = 128 := by decide
theorem zc_sipush_600 : (Int16.ofInt 600).toInt32 = 600 := by decide
theorem zc_sipush_808 : (Int16.ofInt 808).toInt32 = 808 := by decide
theorem zc_sipush_1616 : (Int16.ofInt 1616).toInt32 = 1616 := by decide
theorem zc_sipush_4800 : (Int16.ofInt 4800).toInt32 = 4800 := by decide
-- X6_nodeAt
abbrev rm_X6_nodeAt : Room := { frames := 6, cells := 1, slots := 6, locals := 100 }
theorem hX_X6_nodeAt_6 : ∀ w ∈ u_ws RX6 TX6 4, w ∈ wsX6_nodeAt := by decide +kernel
theorem hdV_X6_nodeAt : yX6_nodeAt.cls = RX6 ∧ yX6_nodeAt.cls ≠ "java/lang/invoke/MethodHandle" ∧ yX6_nodeAt.cls ≠ "java/lang/invoke/VarHandle" ∧ (parseMethodDescriptor yX6_nodeAt.desc).map (fun d => d.parameters.length) = some 1 := by decide +kernel
def wJ_X6_nodeAt_13 (Z : zZ) (Qp : Option Nat → zS → Prop) (Xp : String → zS → Prop)   (S : zS) : Prop :=
  Xp "java/lang/IndexOutOfBoundsException" S
set_option maxHeartbeats 4000000 in
set_option maxRecDepth 100000 in
theorem aJ_X6_nodeAt_13 {p : Program} {l : Launch} {e : Env} {s : State} {m : MethodId} {args : Array Value} {below : List Frame} {meth : Method} {c : Code} {D : va_G} {cy : Nat → ClassId} {A : Nat → Prop} {Z : zZ} (C0 : zC p s m args meth c cX6_nodeAt 2 wsX6_nodeAt RX6 D cy A (some (.object "RingGroup$Node"))) (hl0 : l.stackTraces = false) (hT : ∀ x ∈ c.exceptionTable.toList, False) {Qp : Option Nat → zS → Prop} {Xp : String → zS → Prop}     {S : zS} (hw : wJ_X6_nodeAt_13 Z Qp Xp   S) : zG p l e rm_X6_nodeAt s m args below meth c D cy A 2 0 0 (zXq below D cy A Z Qp Xp args s rm_X6_nodeAt.cells rm_X6_nodeAt.slots) Z S 13 [] [] := by
  unfold wJ_X6_nodeAt_13 at hw
  exact zgx_throw C0 hl0 hT dX6_nodeAt_13 dX6_nodeAt_16 dX6_nodeAt_17 dX6_nodeAt_19 dX6_nodeAt_22 rfl (by decide +kernel) (zwm (i := 1) rfl) (zwm (i := 2) rfl) (fun _ h => List.mem_cons_of_mem _ (List.mem_append_right _ h)) zx2_223 zxg_223 (List.mem_of_getElem? (i := 8) rfl) (Nat.le_of_ble_eq_true rfl) (Nat.le_of_ble_eq_true rfl) ⟨Nat.le_of_ble_eq_true rfl, Nat.le_of_ble_eq_true rfl⟩ ⟨Nat.le_of_ble_eq_true rfl, Nat.le_of_ble_eq_true rfl⟩ hw
def w_X6_nodeAt (Z : zZ) (h0 : Nat) (p0 : Int32) (S : zS) (Qp : Option Nat → zS → Prop) (Xp : String → zS → Prop) : Prop :=
  ((p0 < 0 → wJ_X6_nodeAt_13 Z Qp Xp   S) ∧ (¬ p0 < 0 → zk Z h0 6 ∧ ∃ b2, zQ Z h0 1 = some b2 ∧ zk Z b2 12 ∧ ((p0 < (nI (zN Z b2)) → vp_in p0 (zN Z b2) ∧ ∃ b6, zQ Z b2 p0.toNatClampNeg = some b6 ∧ Qp (some b6) S) ∧ (¬ p0 < (nI (zN Z b2)) → wJ_X6_nodeAt_13 Z Qp Xp   S))))
set_option maxHeartbeats 4000000 in
set_option maxRecDepth 100000 in
theorem a_X6_nodeAt (l : Launch) (D : va_G) (cy : Nat → ClassId) (Z : zZ) (S : zS) (sz : Nat) (h0 : Nat) (p0 : Int32) (Qp : Option Nat → zS → Prop) (Xp : String → zS → Prop) (hl0 : l.stackTraces = false) (hw : w_X6_nodeAt Z h0 p0 S Qp Xp) : zNq l yX6_nodeAt wsX6_nodeAt rm_X6_nodeAt D cy Z S sz [.ref h0, .int p0] Qp Xp := by
  unfold w_X6_nodeAt at hw
  refine zNq_of (cc := cX6_nodeAt) (maxL := 2) (rt := (some (.object "RingGroup$Node"))) (by decide +kernel) rfl (Nat.le_of_ble_eq_true rfl) ?_
  intro p e s m args below meth c A C0 _ hT
  refine zg_lv (lv' := [(0, .ref h0), (1, .int p0)]) rfl ?_
  refine zg_iload_n (q := 1) C0 1 dX6_nodeAt_0 rfl rfl ?_
  refine zg_if_lt (q := 4) (tgt := 13) C0 dX6_nodeAt_1 rfl rfl (fun c9 => ?_) (fun c9 => ?_)
  · have hw := hw.1 c9
    refine zg_sub [] rfl ?_
    exact aJ_X6_nodeAt_13 C0 hl0 hT  hw
  · have hw := hw.2 c9
    refine zg_iload_n (q := 5) C0 1 dX6_nodeAt_4 rfl rfl ?_
    refine zg_aload_n (q := 6) C0 0 dX6_nodeAt_5 rfl rfl ?_
    obtain ⟨hz1, hw⟩ := hw
    refine zg_get (q := 9) (T := TX6) (k := 1) C0 dX6_nodeAt_6 hz1 (zF_6 cy hz1) rfl (by decide) hX_X6_nodeAt_6 (zwm (i := 3) rfl) rfl rfl rfl ?_
    obtain ⟨b2, hb3, hw⟩ := hw
    refine zg_nn hb3 ?_
    obtain ⟨hz4, hw⟩ := hw
    refine zg_alen_12 (q := 10) C0 dX6_nodeAt_9 hz4 rfl ?_
    refine zg_icmp_lt (q := 13) (tgt := 23) C0 dX6_nodeAt_10 rfl rfl (fun c8 => ?_) (fun c8 => ?_)
    · have hw := hw.1 c8
      refine zg_aload_n (q := 24) C0 0 dX6_nodeAt_23 rfl rfl ?_
      refine zg_get (q := 27) (T := TX6) (k := 1) C0 dX6_nodeAt_24 hz1 (zF_6 cy hz1) rfl (by decide) hX_X6_nodeAt_6 (zwm (i := 3) rfl) rfl rfl rfl ?_
      refine zg_nn hb3 ?_
      refine zg_iload_n (q := 28) C0 1 dX6_nodeAt_27 rfl rfl ?_
      obtain ⟨hi5, hw⟩ := hw
      refine zg_aald_12 (q := 29) C0 dX6_nodeAt_28 hz4 hi5 rfl ?_
      obtain ⟨b6, hb7, hw⟩ := hw
      refine zg_nn hb7 ?_
      refine zgx_q ?_
      exact zg_aret (v := (some b6)) C0 dX6_nodeAt_29 rfl rfl (Nat.le_of_ble_eq_true rfl) (Nat.le_of_ble_eq_true rfl) hw
    · have hw := hw.2 c8
      refine zg_sub [] rfl ?_
      exact aJ_X6_nodeAt_13 C0 hl0 hT  hw
-- X6_checkKey
abbrev rm_X6_checkKey : Room := { frames := 6, cells := 1, slots := 6, locals := 100 }
theorem hdS_X6_checkKey : yX6_checkKey.cls ≠ "java/lang/invoke/MethodHandle" ∧ yX6_checkKey.cls ≠ "java/lang/invoke/VarHandle" ∧ (parseMethodDescriptor yX6_checkKey.desc).map (fun d => d.parameters.length) = some 1 := by decide +kernel
def wJ_X6_checkKey_10 (Z : zZ) (Qp : zS → Prop) (Xp : String → zS → Prop)   (S : zS) : Prop :=
  Xp "java/lang/IndexOutOfBoundsException" S
set_option maxHeartbeats 4000000 in
set_option maxRecDepth 100000 in
theorem aJ_X6_checkKey_10 {p : Program} {l : Launch} {e : Env} {s : State} {m : MethodId} {args : Array Value} {below : List Frame} {meth : Method} {c : Code} {D : va_G} {cy : Nat → ClassId} {A : Nat → Prop} {Z : zZ} (C0 : zC p s m args meth c cX6_checkKey 1 wsX6_checkKey RX6 D cy A none) (hl0 : l.stackTraces = false) (hT : ∀ x ∈ c.exceptionTable.toList, False) {Qp : zS → Prop} {Xp : String → zS → Prop}     {S : zS} (hw : wJ_X6_checkKey_10 Z Qp Xp   S) : zG p l e rm_X6_checkKey s m args below meth c D cy A 1 0 0 (zXv below D cy A Z Qp Xp args s rm_X6_checkKey.cells rm_X6_checkKey.slots) Z S 10 [] [] := by
  unfold wJ_X6_checkKey_10 at hw
  exact zgx_throw C0 hl0 hT dX6_checkKey_10 dX6_checkKey_13 dX6_checkKey_14 dX6_checkKey_16 dX6_checkKey_19 rfl (by decide +kernel) (zwm (i := 1) rfl) (zwm (i := 2) rfl) (fun _ h => List.mem_cons_of_mem _ (List.mem_append_right _ h)) zx2_223 zxg_223 (List.mem_of_getElem? (i := 9) rfl) (Nat.le_of_ble_eq_true rfl) (Nat.le_of_ble_eq_true rfl) ⟨Nat.le_of_ble_eq_true rfl, Nat.le_of_ble_eq_true rfl⟩ ⟨Nat.le_of_ble_eq_true rfl, Nat.le_of_ble_eq_true rfl⟩ hw
def w_X6_checkKey (Z : zZ) (p0 : Int32) (S : zS) (Qp : zS → Prop) (Xp : String → zS → Prop) : Prop :=
  ((p0 < 0 → wJ_X6_checkKey_10 Z Qp Xp   S) ∧ (¬ p0 < 0 → ((p0 < 16 → Qp S) ∧ (¬ p0 < 16 → wJ_X6_checkKey_10 Z Qp Xp   S))))
set_option maxHeartbeats 4000000 in
set_option maxRecDepth 100000 in
theorem a_X6_checkKey (l : Launch) (D : va_G) (cy : Nat → ClassId) (Z : zZ) (S : zS) (sz : Nat) (p0 : Int32) (Qp : zS → Prop) (Xp : String → zS → Prop) (hl0 : l.stackTraces = false) (hw : w_X6_checkKey Z p0 S Qp Xp) : zNv l yX6_checkKey wsX6_checkKey rm_X6_checkKey D cy Z S sz [.int p0] Qp Xp := by
  unfold w_X6_checkKey at hw
  refine zNv_of (cc := cX6_checkKey) (maxL := 1) (rt := none) (by decide +kernel) rfl (Nat.le_of_ble_eq_true rfl) ?_
  intro p e s m args below meth c A C0 _ hT
  refine zg_lv (lv' := [(0, .int p0)]) rfl ?_
  refine zg_iload_n (q := 1) C0 0 dX6_checkKey_0 rfl rfl ?_
  refine zg_if_lt (q := 4) (tgt := 10) C0 dX6_checkKey_1 rfl rfl (fun c2 => ?_) (fun c2 => ?_)
  · have hw := hw.1 c2
    refine zg_sub [] rfl ?_
    exact aJ_X6_checkKey_10 C0 hl0 hT  hw
  · have hw := hw.2 c2
    refine zg_iload_n (q := 5) C0 0 dX6_checkKey_4 rfl rfl ?_
    refine zg_bipush (q := 7) C0 dX6_checkKey_5 zc_bipush_16 rfl ?_
    refine zg_icmp_lt (q := 10) (tgt := 20) C0 dX6_checkKey_7 rfl rfl (fun c1 => ?_) (fun c1 => ?_)
    · have hw := hw.1 c1
      refine zgx_v ?_
      exact zg_vret C0 dX6_checkKey_20 rfl (Nat.le_of_ble_eq_true rfl) (Nat.le_of_ble_eq_true rfl) hw
    · have hw := hw.2 c1
      refine zg_sub [] rfl ?_
      exact aJ_X6_checkKey_10 C0 hl0 hT  hw
-- X6_pass
abbrev rm_X6_pass : Room := { frames := 7, cells := 2, slots := 12, locals := 121 }
theorem hX_X6_pass_2 : ∀ w ∈ u_ws RX2 TX2 13, w ∈ wsX6_pass := by decide +kernel
theorem hX_X6_pass_5 : ∀ w ∈ u_ws RX5 TX5 6, w ∈ wsX6_pass := by decide +kernel
theorem hdV_X6_pass : yX6_pass.cls = RX6 ∧ yX6_pass.cls ≠ "java/lang/invoke/MethodHandle" ∧ yX6_pass.cls ≠ "java/lang/invoke/VarHandle" ∧ (parseMethodDescriptor yX6_pass.desc).map (fun d => d.parameters.length) = some 2 := by decide +kernel
def w_X6_pass (Z : zZ) (h0 : Nat) (p0 : Int32) (p1 : Int32) (S : zS) (Qp : Int32 → zS → Prop) (Xp : String → zS → Prop) : Prop :=
  zk Z h0 6 ∧ w_X6_nodeAt Z h0 p0 S (fun (r3 : Option Nat) (S2 : zS) => ∃ b4, r3 = some b4 ∧ zk Z b4 2 ∧ ∃ b7, zR S2 b4 7 = some b7 ∧ zk Z b7 5 ∧ (((zI S2 b7 4) = p0 → w_X6_receiversOf Z h0 b4 S2 (fun (v11 : Int32) (S10 : zS) => ∀ y12 : Int32, y12 = v11 &&& (p1 ^^^ (-1)) → w_X6_sendRequested Z h0 b4 y12 S10 (fun (S13 : zS) => w_X6_sendPending Z h0 b4 y12 S13 (fun (S14 : zS) => ∃ b15, zQ Z b7 1 = some b15 ∧ w_X2_full Z b4 S14 (fun (v18 : Int32) (S17 : zS) => zk Z b15 8 ∧ vp_in p0 (zN Z b15) ∧ ∀ S21 : zS, S21 = zsI S17 b15 p0.toNatClampNeg v18 → w_X5_leastFull Z b7 S21 (fun (v23 : Int32) (S22 : zS) => ∀ y24 : Int32, y24 = (if (zI S21 b4 12) < v23 then v23 else (zI S21 b4 12)) → ∀ S25 : zS, S25 = zsI S22 b4 12 y24 → w_X6_requestMissing Z b4 S25 (fun (S26 : zS) => w_X2_deliverInTurn Z b4 S26 (fun (v28 : Int32) (S27 : zS) => w_X6_handOn Z h0 b4 S27 (fun (S29 : zS) => Qp v28 S29))))))))) ∧ (¬ (zI S2 b7 4) = p0 → Xp "java/lang/IllegalStateException" S2))) Xp
set_option maxHeartbeats 4000000 in
set_option maxRecDepth 100000 in
theorem a_X6_pass (l : Launch) (D : va_G) (cy : Nat → ClassId) (Z : zZ) (S : zS) (sz : Nat) (h0 : Nat) (p0 : Int32) (p1 : Int32) (Qp : Int32 → zS → Prop) (Xp : String → zS → Prop) (hl0 : l.stackTraces = false) (hw : w_X6_pass Z h0 p0 p1 S Qp Xp) : zNi l yX6_pass wsX6_pass rm_X6_pass D cy Z S sz [.ref h0, .int p0, .int p1] Qp Xp := by
  unfold w_X6_pass at hw
  refine zNi_of (cc := cX6_pass) (maxL := 7) (rt := (some .int)) (by decide +kernel) rfl (Nat.le_of_ble_eq_true rfl) ?_
  intro p e s m args below meth c A C0 _ hT
  refine zg_lv (lv' := [(0, .ref h0), (1, .int p0), (2, .int p1)]) rfl ?_
  refine zg_aload_n (q := 1) C0 0 dX6_pass_0 rfl rfl ?_
  refine zg_iload_n (q := 2) C0 1 dX6_pass_1 rfl rfl ?_
  obtain ⟨hz1, hw⟩ := hw
  refine zgx_callVq (q := 5) (k := 1) (n := 6) C0 [.int p0] [] hT dX6_pass_2 (fun sz => a_X6_nodeAt l D cy Z S sz h0 p0 _ Xp hl0 hw) rfl gX6_pass_X6_nodeAt hdV_X6_nodeAt hz1 (zF_6 cy hz1) rfl rfl ⟨Nat.le_of_ble_eq_true rfl, Nat.le_of_ble_eq_true rfl⟩ (Nat.le_of_ble_eq_true rfl) ⟨Nat.le_of_ble_eq_true rfl, Nat.le_of_ble_eq_true rfl⟩ ⟨rfl, rfl⟩ ⟨Nat.le_of_ble_eq_true rfl, Nat.le_of_ble_eq_true rfl⟩ rfl (fun r3 S2 hw => ?_)
  obtain ⟨b4, hb5, hw⟩ := hw
  refine zg_nn hb5 ?_
  refine zg_astore_n (q := 6) (lv' := [(3, .ref b4), (0, .ref h0), (1, .int p0), (2, .int p1)]) C0 dX6_pass_5 (by decide) rfl rfl ?_
  refine zg_aload_n (q := 7) C0 0 dX6_pass_6 rfl rfl ?_
  obtain ⟨hz6, hw⟩ := hw
  refine zg_get (q := 10) (T := TX2) (k := 7) C0 dX6_pass_7 hz6 (zF_2 cy hz6) rfl (by decide) hX_X6_pass_2 (zwm (i := 3) rfl) rfl rfl rfl ?_
  obtain ⟨b7, hb8, hw⟩ := hw
  refine zg_nn hb8 ?_
  refine zg_astore (q := 12) (lv' := [(4, .ref b7), (3, .ref b4), (0, .ref h0), (1, .int p0), (2, .int p1)]) C0 dX6_pass_10 (by decide) rfl rfl ?_
  refine zg_aload (q := 14) C0 0 dX6_pass_12 rfl rfl ?_
  obtain ⟨hz9, hw⟩ := hw
  refine zg_get (q := 17) (T := TX5) (k := 4) C0 dX6_pass_14 hz9 (zF_5 cy hz9) rfl (by decide) hX_X6_pass_5 (zwm (i := 4) rfl) rfl rfl rfl ?_
  refine zg_iload_n (q := 18) C0 3 dX6_pass_17 rfl rfl ?_
  refine zg_icmp_eq (q := 21) (tgt := 31) C0 dX6_pass_18 rfl rfl (fun c30 => ?_) (fun c30 => ?_)
  · have hw := hw.1 c30
    refine zg_aload_n (q := 32) C0 2 dX6_pass_31 rfl rfl ?_
    refine zg_aload_n (q := 33) C0 1 dX6_pass_32 rfl rfl ?_
    refine zg_callVi (q := 36) C0 [.ref b4] [] dX6_pass_33 (fun sz => a_X6_receiversOf l D cy Z S2 sz h0 b4 _ hw) rfl gX6_pass_X6_receiversOf hdV_X6_receiversOf hz1 (zF_6 cy hz1) rfl rfl ⟨Nat.le_of_ble_eq_true rfl, Nat.le_of_ble_eq_true rfl⟩ (Nat.le_of_ble_eq_true rfl) ⟨Nat.le_of_ble_eq_true rfl, Nat.le_of_ble_eq_true rfl⟩ ⟨rfl, rfl⟩ rfl (fun v11 S10 hw => ?_)
    refine zg_iload_n (q := 37) C0 4 dX6_pass_36 rfl rfl ?_
    refine zg_iconst (q := 38) C0 dX6_pass_37 zc_iconst_m1 rfl ?_
    refine zg_ixor (q := 39) C0 dX6_pass_38 rfl ?_
    refine zg_iand (q := 40) C0 dX6_pass_39 rfl ?_
    refine zg_ni (fun y12 ey12 => ?_)
    have hw := hw y12 ey12
    refine zg_istore (q := 42) (lv' := [(5, .int y12), (4, .ref b7), (3, .ref b4), (0, .ref h0), (1, .int p0), (2, .int p1)]) C0 dX6_pass_40 (by decide) rfl rfl ?_
    refine zg_aload_n (q := 43) C0 3 dX6_pass_42 rfl rfl ?_
    refine zg_aload_n (q := 44) C0 2 dX6_pass_43 rfl rfl ?_
    refine zg_iload (q := 46) C0 0 dX6_pass_44 rfl rfl ?_
    refine zg_callVv (q := 49) C0 [.ref b4, .int y12] [] dX6_pass_46 (fun sz => a_X6_sendRequested l D cy Z S10 sz h0 b4 y12 _ hw) rfl gX6_pass_X6_sendRequested hdV_X6_sendRequested hz1 (zF_6 cy hz1) rfl rfl ⟨Nat.le_of_ble_eq_true rfl, Nat.le_of_ble_eq_true rfl⟩ (Nat.le_of_ble_eq_true rfl) ⟨Nat.le_of_ble_eq_true rfl, Nat.le_of_ble_eq_true rfl⟩ ⟨rfl, rfl⟩ rfl (fun S13 hw => ?_)
    refine zg_aload_n (q := 50) C0 3 dX6_pass_49 rfl rfl ?_
    refine zg_aload_n (q := 51) C0 2 dX6_pass_50 rfl rfl ?_
    refine zg_iload (q := 53) C0 0 dX6_pass_51 rfl rfl ?_
    refine zg_callVv (q := 56) C0 [.ref b4, .int y12] [] dX6_pass_53 (fun sz => a_X6_sendPending l D cy Z S13 sz h0 b4 y12 _ hw) rfl gX6_pass_X6_sendPending hdV_X6_sendPending hz1 (zF_6 cy hz1) rfl rfl ⟨Nat.le_of_ble_eq_true rfl, Nat.le_of_ble_eq_true rfl⟩ (Nat.le_of_ble_eq_true rfl) ⟨Nat.le_of_ble_eq_true rfl, Nat.le_of_ble_eq_true rfl⟩ ⟨rfl, rfl⟩ rfl (fun S14 hw => ?_)
    refine zg_aload (q := 58) C0 1 dX6_pass_56 rfl rfl ?_
    refine zg_get (q := 61) (T := TX5) (k := 1) C0 dX6_pass_58 hz9 (zF_5 cy hz9) rfl (by decide) hX_X6_pass_5 (zwm (i := 5) rfl) rfl rfl rfl ?_
    obtain ⟨b15, hb16, hw⟩ := hw
    refine zg_nn hb16 ?_
    refine zg_iload_n (q := 62) C0 4 dX6_pass_61 rfl rfl ?_
    refine zg_aload_n (q := 63) C0 2 dX6_pass_62 rfl rfl ?_
    refine zg_callVi (q := 66) C0 [] [.int p0, .ref b15] dX6_pass_63 (fun sz => a_X2_full l D cy Z S14 sz b4 _ hw) rfl gX6_pass_X2_full hdV_X2_full hz6 (zF_2 cy hz6) rfl rfl ⟨Nat.le_of_ble_eq_true rfl, Nat.le_of_ble_eq_true rfl⟩ (Nat.le_of_ble_eq_true rfl) ⟨Nat.le_of_ble_eq_true rfl, Nat.le_of_ble_eq_true rfl⟩ ⟨rfl, rfl⟩ rfl (fun v18 S17 hw => ?_)
    obtain ⟨hz19, hw⟩ := hw
    obtain ⟨hi20, hw⟩ := hw
    refine zg_iast (q := 67) C0 dX6_pass_66 hz19 hi20 rfl (fun S21 eS21 => ?_)
    have hw := hw S21 eS21
    refine zg_aload_n (q := 68) C0 2 dX6_pass_67 rfl rfl ?_
    refine zg_aload_n (q := 69) C0 2 dX6_pass_68 rfl rfl ?_
    refine zg_get (q := 72) (T := TX2) (k := 12) C0 dX6_pass_69 hz6 (zF_2 cy hz6) rfl (by decide) hX_X6_pass_2 (zwm (i := 6) rfl) rfl rfl rfl ?_
    refine zg_aload (q := 74) C0 1 dX6_pass_72 rfl rfl ?_
    refine zg_callVi (q := 77) C0 [] [.int (zI S21 b4 12), .ref b4] dX6_pass_74 (fun sz => a_X5_leastFull l D cy Z S21 sz b7 _ hw) rfl gX6_pass_X5_leastFull hdV_X5_leastFull hz9 (zF_5 cy hz9) rfl rfl ⟨Nat.le_of_ble_eq_true rfl, Nat.le_of_ble_eq_true rfl⟩ (Nat.le_of_ble_eq_true rfl) ⟨Nat.le_of_ble_eq_true rfl, Nat.le_of_ble_eq_true rfl⟩ ⟨rfl, rfl⟩ rfl (fun v23 S22 hw => ?_)
    refine zg_mmax (q := 80) C0 dX6_pass_77 (zwm (i := 7) rfl) (zwm (i := 8) rfl) (zwm (i := 9) rfl) (zwm (i := 10) rfl) (Nat.le_of_ble_eq_true rfl) (Nat.le_of_ble_eq_true rfl) ⟨Nat.le_of_ble_eq_true rfl, Nat.le_of_ble_eq_true rfl⟩ rfl ?_
    refine zg_ni (fun y24 ey24 => ?_)
    have hw := hw y24 ey24
    refine zg_putI (q := 83) (T := TX2) (k := 12) (ty0 := tyX2) C0 dX6_pass_80 hz6 (zF_2 cy hz6) rfl (by decide) hX_X6_pass_2 tyX2_ok nmX2 (zwm (i := 6) rfl) rfl rfl rfl rfl (Nat.le_of_ble_eq_true rfl) (zF_2 cy hz6) (zP_2_12 Z S22 _ _) rfl (fun S25 eS25 => ?_)
    have hw := hw S25 eS25
    refine zg_aload_n (q := 84) C0 2 dX6_pass_83 rfl rfl ?_
    refine zg_callSv (q := 87) C0 [.ref b4] [] dX6_pass_84 (fun sz => a_X6_requestMissing l D cy Z S25 sz b4 _ hw) rfl gX6_pass_X6_requestMissing hdS_X6_requestMissing rfl ⟨Nat.le_of_ble_eq_true rfl, Nat.le_of_ble_eq_true rfl⟩ (Nat.le_of_ble_eq_true rfl) ⟨Nat.le_of_ble_eq_true rfl, Nat.le_of_ble_eq_true rfl⟩ ⟨rfl, rfl⟩ rfl (fun S26 hw => ?_)
    refine zg_aload_n (q := 88) C0 2 dX6_pass_87 rfl rfl ?_
    refine zg_callVi (q := 91) C0 [] [] dX6_pass_88 (fun sz => a_X2_deliverInTurn l D cy Z S26 sz b4 _ hw) rfl gX6_pass_X2_deliverInTurn hdV_X2_deliverInTurn hz6 (zF_2 cy hz6) rfl rfl ⟨Nat.le_of_ble_eq_true rfl, Nat.le_of_ble_eq_true rfl⟩ (Nat.le_of_ble_eq_true rfl) ⟨Nat.le_of_ble_eq_true rfl, Nat.le_of_ble_eq_true rfl⟩ ⟨rfl, rfl⟩ rfl (fun v28 S27 hw => ?_)
    refine zg_istore (q := 93) (lv' := [(6, .int v28), (5, .int y12), (4, .ref b7), (3, .ref b4), (0, .ref h0), (1, .int p0), (2, .int p1)]) C0 dX6_pass_91 (by decide) rfl rfl ?_
    refine zg_aload_n (q := 94) C0 4 dX6_pass_93 rfl rfl ?_
    refine zg_aload_n (q := 95) C0 3 dX6_pass_94 rfl rfl ?_
    refine zg_callVv (q := 98) C0 [.ref b4] [] dX6_pass_95 (fun sz => a_X6_handOn l D cy Z S27 sz h0 b4 _ hw) rfl gX6_pass_X6_handOn hdV_X6_handOn hz1 (zF_6 cy hz1) rfl rfl ⟨Nat.le_of_ble_eq_true rfl, Nat.le_of_ble_eq_true rfl⟩ (Nat.le_of_ble_eq_true rfl) ⟨Nat.le_of_ble_eq_true rfl, Nat.le_of_ble_eq_true rfl⟩ ⟨rfl, rfl⟩ rfl (fun S29 hw => ?_)
    refine zg_iload (q := 100) C0 0 dX6_pass_98 rfl rfl ?_
    refine zgx_i ?_
    exact zg_iret C0 dX6_pass_100 rfl rfl (Nat.le_of_ble_eq_true rfl) (Nat.le_of_ble_eq_true rfl) hw
  · have hw := hw.2 c30
    exact zgx_throw C0 hl0 hT dX6_pass_21 dX6_pass_24 dX6_pass_25 dX6_pass_27 dX6_pass_30 rfl (by decide +kernel) (zwm (i := 1) rfl) (zwm (i := 2) rfl) (fun _ h => List.mem_cons_of_mem _ (List.mem_append_left _ (List.mem_append_right _ h))) zx2_68 zxg_68 (List.mem_of_getElem? (i := 1) rfl) (Nat.le_of_ble_eq_true rfl) (Nat.le_of_ble_eq_true rfl) ⟨Nat.le_of_ble_eq_true rfl, Nat.le_of_ble_eq_true rfl⟩ ⟨Nat.le_of_ble_eq_true rfl, Nat.le_of_ble_eq_true rfl⟩ hw
-- X6_gather
abbrev rm_X6_gather : Room := { frames := 7, cells := 2, slots := 12, locals := 147 }
theorem hX_X6_gather_2 : ∀ w ∈ u_ws RX2 TX2 13, w ∈ wsX6_gather := by decide +kernel
theorem hdV_X6_gather : yX6_gather.cls = RX6 ∧ yX6_gather.cls ≠ "java/lang/invoke/MethodHandle" ∧ yX6_gather.cls ≠ "java/lang/invoke/VarHandle" ∧ (parseMethodDescriptor yX6_gather.desc).map (fun d => d.parameters.length) = some 1 := by decide +kernel
def wJ_X6_gather_82 (Z : zZ) (Qp : Int32 → zS → Prop) (Xp : String → zS → Prop)  (x0 : Nat) (x3 : Int32) (x4 : Int32) (S : zS) : Prop :=
  zk Z x0 6 ∧ w_X6_beginRing Z x0 x3 x4 S (fun (v23 : Int32) (S22 : zS) => Qp v23 S22)
set_option maxHeartbeats 4000000 in
set_option maxRecDepth 100000 in
theorem aJ_X6_gather_82 {p : Program} {l : Launch} {e : Env} {s : State} {m : MethodId} {args : Array Value} {below : List Frame} {meth : Method} {c : Code} {D : va_G} {cy : Nat → ClassId} {A : Nat → Prop} {Z : zZ} (C0 : zC p s m args meth c cX6_gather 5 wsX6_gather RX6 D cy A (some .int)) (hl0 : l.stackTraces = false) (hT : ∀ x ∈ c.exceptionTable.toList, False) {Qp : Int32 → zS → Prop} {Xp : String → zS → Prop} {x0 : Nat} {x3 : Int32} {x4 : Int32}    {S : zS} (hw : wJ_X6_gather_82 Z Qp Xp  x0 x3 x4 S) : zG p l e rm_X6_gather s m args below meth c D cy A 5 1 6 (zXi below D cy A Z Qp Xp args s rm_X6_gather.cells rm_X6_gather.slots) Z S 82 [(0, .ref x0), (3, .int x3), (4, .int x4)] [] := by
  unfold wJ_X6_gather_82 at hw
  refine zg_aload_n (q := 83) C0 0 dX6_gather_82 rfl rfl ?_
  refine zg_iload_n (q := 84) C0 1 dX6_gather_83 rfl rfl ?_
  refine zg_iload (q := 86) C0 2 dX6_gather_84 rfl rfl ?_
  obtain ⟨hz21, hw⟩ := hw
  refine zg_callVi (q := 89) C0 [.int x3, .int x4] [] dX6_gather_86 (fun sz => a_X6_beginRing l D cy Z S sz x0 x3 x4 _ hw) rfl gX6_gather_X6_beginRing hdV_X6_beginRing hz21 (zF_6 cy hz21) rfl rfl ⟨Nat.le_of_ble_eq_true rfl, Nat.le_of_ble_eq_true rfl⟩ (Nat.le_of_ble_eq_true rfl) ⟨Nat.le_of_ble_eq_true rfl, Nat.le_of_ble_eq_true rfl⟩ ⟨rfl, rfl⟩ rfl (fun v23 S22 hw => ?_)
  refine zgx_i ?_
  exact zg_iret C0 dX6_gather_89 rfl rfl (Nat.le_of_ble_eq_true rfl) (Nat.le_of_ble_eq_true rfl) hw
def w_X6_gather (Z : zZ) (h0 : Nat) (p0 : Int32) (S : zS) (Qp : Int32 → zS → Prop) (Xp : String → zS → Prop) : Prop :=
  zk Z h0 6 ∧ w_X6_nodeAt Z h0 p0 S (fun (r3 : Option Nat) (S2 : zS) => ∃ b4, r3 = some b4 ∧ zk Z b4 2 ∧ ((¬ (zI S2 b4 5) = 0 → w_X6_upInGroup Z h0 (zI S2 b4 6) S2 (fun (v8 : Int32) (S7 : zS) => ∃ b9, zR S7 b4 7 = some b9 ∧ w_X6_isWhole Z h0 b9 v8 S7 (fun (v12 : Int32) (S11 : zS) => ((v12 = 0 → w_X6_foremost Z h0 b4 v8 S11 (fun (r14 : Option Nat) (S13 : zS) => ∃ b15, r14 = some b15 ∧ zk Z b15 2 ∧ w_X6_isQuorum Z v8 (zI S13 b15 10) S13 (fun (v19 : Int32) (S18 : zS) => w_X6_endOldRings Z h0 v8 S18 (fun (S20 : zS) => ((v19 = 0 → wJ_X6_gather_82 Z Qp Xp  h0 v8 v19 S20) ∧ (¬ v19 = 0 → w_X6_foremost Z h0 b4 v8 S20 (fun (r25 : Option Nat) (S24 : zS) => ∃ b26, r25 = some b26 ∧ w_X6_bringTablesUpToDate Z h0 b26 v8 S24 (fun (S28 : zS) => wJ_X6_gather_82 Z Qp Xp  h0 v8 v19 S28)))))))) ∧ (¬ v12 = 0 → Qp 0 S11))))) ∧ ((zI S2 b4 5) = 0 → Xp "java/lang/IllegalStateException" S2))) Xp
set_option maxHeartbeats 4000000 in
set_option maxRecDepth 100000 in
theorem a_X6_gather (l : Launch) (D : va_G) (cy : Nat → ClassId) (Z : zZ) (S : zS) (sz : Nat) (h0 : Nat) (p0 : Int32) (Qp : Int32 → zS → Prop) (Xp : String → zS → Prop) (hl0 : l.stackTraces = false) (hw : w_X6_gather Z h0 p0 S Qp Xp) : zNi l yX6_gather wsX6_gather rm_X6_gather D cy Z S sz [.ref h0, .int p0] Qp Xp := by
  unfold w_X6_gather at hw
  refine zNi_of (cc := cX6_gather) (maxL := 5) (rt := (some .int)) (by decide +kernel) rfl (Nat.le_of_ble_eq_true rfl) ?_
  intro p e s m args below meth c A C0 _ hT
  refine zg_lv (lv' := [(0, .ref h0), (1, .int p0)]) rfl ?_
  refine zg_aload_n (q := 1) C0 0 dX6_gather_0 rfl rfl ?_
  refine zg_iload_n (q := 2) C0 1 dX6_gather_1 rfl rfl ?_
  obtain ⟨hz1, hw⟩ := hw
  refine zgx_callVq (q := 5) (k := 1) (n := 6) C0 [.int p0] [] hT dX6_gather_2 (fun sz => a_X6_nodeAt l D cy Z S sz h0 p0 _ Xp hl0 hw) rfl gX6_gather_X6_nodeAt hdV_X6_nodeAt hz1 (zF_6 cy hz1) rfl rfl ⟨Nat.le_of_ble_eq_true rfl, Nat.le_of_ble_eq_true rfl⟩ (Nat.le_of_ble_eq_true rfl) ⟨Nat.le_of_ble_eq_true rfl, Nat.le_of_ble_eq_true rfl⟩ ⟨rfl, rfl⟩ ⟨Nat.le_of_ble_eq_true rfl, Nat.le_of_ble_eq_true rfl⟩ rfl (fun r3 S2 hw => ?_)
  obtain ⟨b4, hb5, hw⟩ := hw
  refine zg_nn hb5 ?_
  refine zg_astore_n (q := 6) (lv' := [(2, .ref b4), (0, .ref h0), (1, .int p0)]) C0 dX6_gather_5 (by decide) rfl rfl ?_
  refine zg_aload_n (q := 7) C0 0 dX6_gather_6 rfl rfl ?_
  obtain ⟨hz6, hw⟩ := hw
  refine zg_get (q := 10) (T := TX2) (k := 5) C0 dX6_gather_7 hz6 (zF_2 cy hz6) rfl (by decide) hX_X6_gather_2 (zwm (i := 3) rfl) rfl rfl rfl ?_
  refine zg_if_ne (q := 13) (tgt := 23) C0 dX6_gather_10 rfl rfl (fun c31 => ?_) (fun c31 => ?_)
  · have hw := hw.1 c31
    refine zg_aload_n (q := 24) C0 1 dX6_gather_23 rfl rfl ?_
    refine zg_aload_n (q := 25) C0 0 dX6_gather_24 rfl rfl ?_
    refine zg_get (q := 28) (T := TX2) (k := 6) C0 dX6_gather_25 hz6 (zF_2 cy hz6) rfl (by decide) hX_X6_gather_2 (zwm (i := 4) rfl) rfl rfl rfl ?_
    refine zg_callVi (q := 31) C0 [.int (zI S2 b4 6)] [] dX6_gather_28 (fun sz => a_X6_upInGroup l D cy Z S2 sz h0 (zI S2 b4 6) _ hw) rfl gX6_gather_X6_upInGroup hdV_X6_upInGroup hz1 (zF_6 cy hz1) rfl rfl ⟨Nat.le_of_ble_eq_true rfl, Nat.le_of_ble_eq_true rfl⟩ (Nat.le_of_ble_eq_true rfl) ⟨Nat.le_of_ble_eq_true rfl, Nat.le_of_ble_eq_true rfl⟩ ⟨rfl, rfl⟩ rfl (fun v8 S7 hw => ?_)
    refine zg_istore_n (q := 32) (lv' := [(3, .int v8), (2, .ref b4), (0, .ref h0), (1, .int p0)]) C0 dX6_gather_31 (by decide) rfl rfl ?_
    refine zg_aload_n (q := 33) C0 2 dX6_gather_32 rfl rfl ?_
    refine zg_aload_n (q := 34) C0 1 dX6_gather_33 rfl rfl ?_
    refine zg_get (q := 37) (T := TX2) (k := 7) C0 dX6_gather_34 hz6 (zF_2 cy hz6) rfl (by decide) hX_X6_gather_2 (zwm (i := 5) rfl) rfl rfl rfl ?_
    obtain ⟨b9, hb10, hw⟩ := hw
    refine zg_nn hb10 ?_
    refine zg_iload_n (q := 38) C0 0 dX6_gather_37 rfl rfl ?_
    refine zg_callVi (q := 41) C0 [.ref b9, .int v8] [] dX6_gather_38 (fun sz => a_X6_isWhole l D cy Z S7 sz h0 b9 v8 _ hw) rfl gX6_gather_X6_isWhole hdV_X6_isWhole hz1 (zF_6 cy hz1) rfl rfl ⟨Nat.le_of_ble_eq_true rfl, Nat.le_of_ble_eq_true rfl⟩ (Nat.le_of_ble_eq_true rfl) ⟨Nat.le_of_ble_eq_true rfl, Nat.le_of_ble_eq_true rfl⟩ ⟨rfl, rfl⟩ rfl (fun v12 S11 hw => ?_)
    refine zg_if_eq (q := 44) (tgt := 46) C0 dX6_gather_41 rfl rfl (fun c30 => ?_) (fun c30 => ?_)
    · have hw := hw.1 c30
      refine zg_iload_n (q := 47) C0 0 dX6_gather_46 rfl rfl ?_
      refine zg_aload_n (q := 48) C0 2 dX6_gather_47 rfl rfl ?_
      refine zg_aload_n (q := 49) C0 1 dX6_gather_48 rfl rfl ?_
      refine zg_iload_n (q := 50) C0 0 dX6_gather_49 rfl rfl ?_
      refine zg_callVq (q := 53) C0 [.ref b4, .int v8] [.int v8] dX6_gather_50 (fun sz => a_X6_foremost l D cy Z S11 sz h0 b4 v8 _ hw) rfl gX6_gather_X6_foremost hdV_X6_foremost hz1 (zF_6 cy hz1) rfl rfl ⟨Nat.le_of_ble_eq_true rfl, Nat.le_of_ble_eq_true rfl⟩ (Nat.le_of_ble_eq_true rfl) ⟨Nat.le_of_ble_eq_true rfl, Nat.le_of_ble_eq_true rfl⟩ ⟨rfl, rfl⟩ rfl (fun r14 S13 hw => ?_)
      obtain ⟨b15, hb16, hw⟩ := hw
      refine zg_nn hb16 ?_
      obtain ⟨hz17, hw⟩ := hw
      refine zg_get (q := 56) (T := TX2) (k := 10) C0 dX6_gather_53 hz17 (zF_2 cy hz17) rfl (by decide) hX_X6_gather_2 (zwm (i := 6) rfl) rfl rfl rfl ?_
      refine zg_callSi (q := 59) C0 [.int v8, .int (zI S13 b15 10)] [] dX6_gather_56 (fun sz => a_X6_isQuorum l D cy Z S13 sz v8 (zI S13 b15 10) _ hw) rfl gX6_gather_X6_isQuorum hdS_X6_isQuorum rfl ⟨Nat.le_of_ble_eq_true rfl, Nat.le_of_ble_eq_true rfl⟩ (Nat.le_of_ble_eq_true rfl) ⟨Nat.le_of_ble_eq_true rfl, Nat.le_of_ble_eq_true rfl⟩ ⟨rfl, rfl⟩ rfl (fun v19 S18 hw => ?_)
      refine zg_istore (q := 61) (lv' := [(4, .int v19), (3, .int v8), (2, .ref b4), (0, .ref h0), (1, .int p0)]) C0 dX6_gather_59 (by decide) rfl rfl ?_
      refine zg_aload_n (q := 62) C0 3 dX6_gather_61 rfl rfl ?_
      refine zg_iload_n (q := 63) C0 1 dX6_gather_62 rfl rfl ?_
      refine zg_callVv (q := 66) C0 [.int v8] [] dX6_gather_63 (fun sz => a_X6_endOldRings l D cy Z S18 sz h0 v8 _ hw) rfl gX6_gather_X6_endOldRings hdV_X6_endOldRings hz1 (zF_6 cy hz1) rfl rfl ⟨Nat.le_of_ble_eq_true rfl, Nat.le_of_ble_eq_true rfl⟩ (Nat.le_of_ble_eq_true rfl) ⟨Nat.le_of_ble_eq_true rfl, Nat.le_of_ble_eq_true rfl⟩ ⟨rfl, rfl⟩ rfl (fun S20 hw => ?_)
      refine zg_iload (q := 68) C0 0 dX6_gather_66 rfl rfl ?_
      refine zg_if_eq (q := 71) (tgt := 82) C0 dX6_gather_68 rfl rfl (fun c29 => ?_) (fun c29 => ?_)
      · have hw := hw.1 c29
        refine zg_sub [3, 1, 0] rfl ?_
        exact aJ_X6_gather_82 C0 hl0 hT  hw
      · have hw := hw.2 c29
        refine zg_aload_n (q := 72) C0 3 dX6_gather_71 rfl rfl ?_
        refine zg_aload_n (q := 73) C0 3 dX6_gather_72 rfl rfl ?_
        refine zg_aload_n (q := 74) C0 2 dX6_gather_73 rfl rfl ?_
        refine zg_iload_n (q := 75) C0 1 dX6_gather_74 rfl rfl ?_
        refine zg_callVq (q := 78) C0 [.ref b4, .int v8] [.ref h0] dX6_gather_75 (fun sz => a_X6_foremost l D cy Z S20 sz h0 b4 v8 _ hw) rfl gX6_gather_X6_foremost hdV_X6_foremost hz1 (zF_6 cy hz1) rfl rfl ⟨Nat.le_of_ble_eq_true rfl, Nat.le_of_ble_eq_true rfl⟩ (Nat.le_of_ble_eq_true rfl) ⟨Nat.le_of_ble_eq_true rfl, Nat.le_of_ble_eq_true rfl⟩ ⟨rfl, rfl⟩ rfl (fun r25 S24 hw => ?_)
        obtain ⟨b26, hb27, hw⟩ := hw
        refine zg_nn hb27 ?_
        refine zg_iload_n (q := 79) C0 1 dX6_gather_78 rfl rfl ?_
        refine zg_callVv (q := 82) C0 [.ref b26, .int v8] [] dX6_gather_79 (fun sz => a_X6_bringTablesUpToDate l D cy Z S24 sz h0 b26 v8 _ hw) rfl gX6_gather_X6_bringTablesUpToDate hdV_X6_bringTablesUpToDate hz1 (zF_6 cy hz1) rfl rfl ⟨Nat.le_of_ble_eq_true rfl, Nat.le_of_ble_eq_true rfl⟩ (Nat.le_of_ble_eq_true rfl) ⟨Nat.le_of_ble_eq_true rfl, Nat.le_of_ble_eq_true rfl⟩ ⟨rfl, rfl⟩ rfl (fun S28 hw => ?_)
        refine zg_sub [3, 1, 0] rfl ?_
        exact aJ_X6_gather_82 C0 hl0 hT  hw
    · have hw := hw.2 c30
      refine zg_iconst (q := 45) C0 dX6_gather_44 zc_iconst_0 rfl ?_
      refine zgx_i ?_
      exact zg_iret C0 dX6_gather_45 rfl rfl (Nat.le_of_ble_eq_true rfl) (Nat.le_of_ble_eq_true rfl) hw
  · have hw := hw.2 c31
    exact zgx_throw C0 hl0 hT dX6_gather_13 dX6_gather_16 dX6_gather_17 dX6_gather_19 dX6_gather_22 rfl (by decide +kernel) (zwm (i := 1) rfl) (zwm (i := 2) rfl) (fun _ h => List.mem_cons_of_mem _ (List.mem_append_left _ (List.mem_append_right _ h))) zx2_68 zxg_68 (List.mem_of_getElem? (i := 2) rfl) (Nat.le_of_ble_eq_true rfl) (Nat.le_of_ble_eq_true rfl) ⟨Nat.le_of_ble_eq_true rfl, Nat.le_of_ble_eq_true rfl⟩ ⟨Nat.le_of_ble_eq_true rfl, Nat.le_of_ble_eq_true rfl⟩ hw
-- X6_part
abbrev rm_X6_part : Room := { frames := 7, cells := 2, slots := 12, locals := 121 }
theorem hX_X6_part_2 : ∀ w ∈ u_ws RX2 TX2 13, w ∈ wsX6_part := by decide +kernel
theorem hdV_X6_part : yX6_part.cls = RX6 ∧ yX6_part.cls ≠ "java/lang/invoke/MethodHandle" ∧ yX6_part.cls ≠ "java/lang/invoke/VarHandle" ∧ (parseMethodDescriptor yX6_part.desc).map (fun d => d.parameters.length) = some 2 := by decide +kernel
def wJ_X6_part_16 (Z : zZ) (Qp : zS → Prop) (Xp : String → zS → Prop)   (S : zS) : Prop :=
  Xp "java/lang/IllegalArgumentException" S
set_option maxHeartbeats 4000000 in
set_option maxRecDepth 100000 in
theorem aJ_X6_part_16 {p : Program} {l : Launch} {e : Env} {s : State} {m : MethodId} {args : Array Value} {below : List Frame} {meth : Method} {c : Code} {D : va_G} {cy : Nat → ClassId} {A : Nat → Prop} {Z : zZ} (C0 : zC p s m args meth c cX6_part 4 wsX6_part RX6 D cy A none) (hl0 : l.stackTraces = false) (hT : ∀ x ∈ c.exceptionTable.toList, False) {Qp : zS → Prop} {Xp : String → zS → Prop}     {S : zS} (hw : wJ_X6_part_16 Z Qp Xp   S) : zG p l e rm_X6_part s m args below meth c D cy A 4 1 6 (zXv below D cy A Z Qp Xp args s rm_X6_part.cells rm_X6_part.slots) Z S 16 [] [] := by
  unfold wJ_X6_part_16 at hw
  exact zgx_throw C0 hl0 hT dX6_part_16 dX6_part_19 dX6_part_20 dX6_part_22 dX6_part_25 rfl (by decide +kernel) (zwm (i := 1) rfl) (zwm (i := 2) rfl) (fun _ h => List.mem_cons_of_mem _ (List.mem_append_left _ (List.mem_append_right _ h))) zx2_160 zxg_160 (List.mem_of_getElem? (i := 3) rfl) (Nat.le_of_ble_eq_true rfl) (Nat.le_of_ble_eq_true rfl) ⟨Nat.le_of_ble_eq_true rfl, Nat.le_of_ble_eq_true rfl⟩ ⟨Nat.le_of_ble_eq_true rfl, Nat.le_of_ble_eq_true rfl⟩ hw
def w_X6_part (Z : zZ) (h0 : Nat) (p0 : Int32) (p1 : Int32) (S : zS) (Qp : zS → Prop) (Xp : String → zS → Prop) : Prop :=
  zk Z h0 6 ∧ w_X6_nodeAt Z h0 p0 S (fun (r3 : Option Nat) (S2 : zS) => ∃ b4, r3 = some b4 ∧ ((p1 < 0 → wJ_X6_part_16 Z Qp Xp   S2) ∧ (¬ p1 < 0 → ((p1 < 8 → zk Z b4 2 ∧ ∀ S7 : zS, S7 = zsI S2 b4 6 p1 → Qp S7) ∧ (¬ p1 < 8 → wJ_X6_part_16 Z Qp Xp   S2))))) Xp
set_option maxHeartbeats 4000000 in
set_option maxRecDepth 100000 in
theorem a_X6_part (l : Launch) (D : va_G) (cy : Nat → ClassId) (Z : zZ) (S : zS) (sz : Nat) (h0 : Nat) (p0 : Int32) (p1 : Int32) (Qp : zS → Prop) (Xp : String → zS → Prop) (hl0 : l.stackTraces = false) (hw : w_X6_part Z h0 p0 p1 S Qp Xp) : zNv l yX6_part wsX6_part rm_X6_part D cy Z S sz [.ref h0, .int p0, .int p1] Qp Xp := by
  unfold w_X6_part at hw
  refine zNv_of (cc := cX6_part) (maxL := 4) (rt := none) (by decide +kernel) rfl (Nat.le_of_ble_eq_true rfl) ?_
  intro p e s m args below meth c A C0 _ hT
  refine zg_lv (lv' := [(0, .ref h0), (1, .int p0), (2, .int p1)]) rfl ?_
  refine zg_aload_n (q := 1) C0 0 dX6_part_0 rfl rfl ?_
  refine zg_iload_n (q := 2) C0 1 dX6_part_1 rfl rfl ?_
  obtain ⟨hz1, hw⟩ := hw
  refine zgx_callVq (q := 5) (k := 1) (n := 6) C0 [.int p0] [] hT dX6_part_2 (fun sz => a_X6_nodeAt l D cy Z S sz h0 p0 _ Xp hl0 hw) rfl gX6_part_X6_nodeAt hdV_X6_nodeAt hz1 (zF_6 cy hz1) rfl rfl ⟨Nat.le_of_ble_eq_true rfl, Nat.le_of_ble_eq_true rfl⟩ (Nat.le_of_ble_eq_true rfl) ⟨Nat.le_of_ble_eq_true rfl, Nat.le_of_ble_eq_true rfl⟩ ⟨rfl, rfl⟩ ⟨Nat.le_of_ble_eq_true rfl, Nat.le_of_ble_eq_true rfl⟩ rfl (fun r3 S2 hw => ?_)
  obtain ⟨b4, hb5, hw⟩ := hw
  refine zg_nn hb5 ?_
  refine zg_astore_n (q := 6) (lv' := [(3, .ref b4), (0, .ref h0), (1, .int p0), (2, .int p1)]) C0 dX6_part_5 (by decide) rfl rfl ?_
  refine zg_iload_n (q := 7) C0 3 dX6_part_6 rfl rfl ?_
  refine zg_if_lt (q := 10) (tgt := 16) C0 dX6_part_7 rfl rfl (fun c9 => ?_) (fun c9 => ?_)
  · have hw := hw.1 c9
    refine zg_sub [] rfl ?_
    exact aJ_X6_part_16 C0 hl0 hT  hw
  · have hw := hw.2 c9
    refine zg_iload_n (q := 11) C0 3 dX6_part_10 rfl rfl ?_
    refine zg_bipush (q := 13) C0 dX6_part_11 zc_bipush_8 rfl ?_
    refine zg_icmp_lt (q := 16) (tgt := 26) C0 dX6_part_13 rfl rfl (fun c8 => ?_) (fun c8 => ?_)
    · have hw := hw.1 c8
      refine zg_aload_n (q := 27) C0 0 dX6_part_26 rfl rfl ?_
      refine zg_iload_n (q := 28) C0 3 dX6_part_27 rfl rfl ?_
      obtain ⟨hz6, hw⟩ := hw
      refine zg_putI (q := 31) (T := TX2) (k := 6) (ty0 := tyX2) C0 dX6_part_28 hz6 (zF_2 cy hz6) rfl (by decide) hX_X6_part_2 tyX2_ok nmX2 (zwm (i := 3) rfl) rfl rfl rfl rfl (Nat.le_of_ble_eq_true rfl) (zF_2 cy hz6) (zP_2_6 Z S2 _ _) rfl (fun S7 eS7 => ?_)
      have hw := hw S7 eS7
      refine zgx_v ?_
      exact zg_vret C0 dX6_part_31 rfl (Nat.le_of_ble_eq_true rfl) (Nat.le_of_ble_eq_true rfl) hw
    · have hw := hw.2 c8
      refine zg_sub [] rfl ?_
      exact aJ_X6_part_16 C0 hl0 hT  hw
-- X6_crash
abbrev rm_X6_crash : Room := { frames := 7, cells := 2, slots := 12, locals := 121 }
theorem hX_X6_crash_2 : ∀ w ∈ u_ws RX2 TX2 13, w ∈ wsX6_crash := by decide +kernel
theorem hX_X6_crash_6 : ∀ w ∈ u_ws RX6 TX6 4, w ∈ wsX6_crash := by decide +kernel
theorem hdV_X6_crash : yX6_crash.cls = RX6 ∧ yX6_crash.cls ≠ "java/lang/invoke/MethodHandle" ∧ yX6_crash.cls ≠ "java/lang/invoke/VarHandle" ∧ (parseMethodDescriptor yX6_crash.desc).map (fun d => d.parameters.length) = some 1 := by decide +kernel
def w_X6_crash (Z : zZ) (h0 : Nat) (p0 : Int32) (S : zS) (Qp : zS → Prop) (Xp : String → zS → Prop) : Prop :=
  zk Z h0 6 ∧ w_X6_nodeAt Z h0 p0 S (fun (r3 : Option Nat) (S2 : zS) => ∃ b4, r3 = some b4 ∧ zk Z b4 2 ∧ ((¬ (zI S2 b4 5) = 0 → ∀ S7 : zS, S7 = zsI S2 b4 5 0 → ∃ b8, zQ Z b4 1 = some b8 ∧ zk Z b8 3 ∧ w_X3_drop Z b8 S7 (fun (S11 : zS) => ∃ b12, zQ Z h0 3 = some b12 ∧ w_X2_leaveRing Z b4 b12 S11 (fun (S14 : zS) => Qp S14))) ∧ ((zI S2 b4 5) = 0 → Xp "java/lang/IllegalStateException" S2))) Xp
set_option maxHeartbeats 4000000 in
set_option maxRecDepth 100000 in
theorem a_X6_crash (l : Launch) (D : va_G) (cy : Nat → ClassId) (Z : zZ) (S : zS) (sz : Nat) (h0 : Nat) (p0 : Int32) (Qp : zS → Prop) (Xp : String → zS → Prop) (hl0 : l.stackTraces = false) (hw : w_X6_crash Z h0 p0 S Qp Xp) : zNv l yX6_crash wsX6_crash rm_X6_crash D cy Z S sz [.ref h0, .int p0] Qp Xp := by
  unfold w_X6_crash at hw
  refine zNv_of (cc := cX6_crash) (maxL := 3) (rt := none) (by decide +kernel) rfl (Nat.le_of_ble_eq_true rfl) ?_
  intro p e s m args below meth c A C0 _ hT
  refine zg_lv (lv' := [(0, .ref h0), (1, .int p0)]) rfl ?_
  refine zg_aload_n (q := 1) C0 0 dX6_crash_0 rfl rfl ?_
  refine zg_iload_n (q := 2) C0 1 dX6_crash_1 rfl rfl ?_
  obtain ⟨hz1, hw⟩ := hw
  refine zgx_callVq (q := 5) (k := 1) (n := 6) C0 [.int p0] [] hT dX6_crash_2 (fun sz => a_X6_nodeAt l D cy Z S sz h0 p0 _ Xp hl0 hw) rfl gX6_crash_X6_nodeAt hdV_X6_nodeAt hz1 (zF_6 cy hz1) rfl rfl ⟨Nat.le_of_ble_eq_true rfl, Nat.le_of_ble_eq_true rfl⟩ (Nat.le_of_ble_eq_true rfl) ⟨Nat.le_of_ble_eq_true rfl, Nat.le_of_ble_eq_true rfl⟩ ⟨rfl, rfl⟩ ⟨Nat.le_of_ble_eq_true rfl, Nat.le_of_ble_eq_true rfl⟩ rfl (fun r3 S2 hw => ?_)
  obtain ⟨b4, hb5, hw⟩ := hw
  refine zg_nn hb5 ?_
  refine zg_astore_n (q := 6) (lv' := [(2, .ref b4), (0, .ref h0), (1, .int p0)]) C0 dX6_crash_5 (by decide) rfl rfl ?_
  refine zg_aload_n (q := 7) C0 0 dX6_crash_6 rfl rfl ?_
  obtain ⟨hz6, hw⟩ := hw
  refine zg_get (q := 10) (T := TX2) (k := 5) C0 dX6_crash_7 hz6 (zF_2 cy hz6) rfl (by decide) hX_X6_crash_2 (zwm (i := 3) rfl) rfl rfl rfl ?_
  refine zg_if_ne (q := 13) (tgt := 23) C0 dX6_crash_10 rfl rfl (fun c15 => ?_) (fun c15 => ?_)
  · have hw := hw.1 c15
    refine zg_aload_n (q := 24) C0 0 dX6_crash_23 rfl rfl ?_
    refine zg_iconst (q := 25) C0 dX6_crash_24 zc_iconst_0 rfl ?_
    refine zg_putI (q := 28) (T := TX2) (k := 5) (ty0 := tyX2) C0 dX6_crash_25 hz6 (zF_2 cy hz6) rfl (by decide) hX_X6_crash_2 tyX2_ok nmX2 (zwm (i := 3) rfl) rfl rfl (by decide) (by decide) (Nat.le_of_ble_eq_true rfl) (zF_2 cy hz6) (zP_2_5 Z S2 _ _) rfl (fun S7 eS7 => ?_)
    have hw := hw S7 eS7
    refine zg_aload_n (q := 29) C0 0 dX6_crash_28 rfl rfl ?_
    refine zg_get (q := 32) (T := TX2) (k := 1) C0 dX6_crash_29 hz6 (zF_2 cy hz6) rfl (by decide) hX_X6_crash_2 (zwm (i := 4) rfl) rfl rfl rfl ?_
    obtain ⟨b8, hb9, hw⟩ := hw
    refine zg_nn hb9 ?_
    obtain ⟨hz10, hw⟩ := hw
    refine zg_callVv (q := 35) C0 [] [] dX6_crash_32 (fun sz => a_X3_drop l D cy Z S7 sz b8 _ hw) rfl gX6_crash_X3_drop hdV_X3_drop hz10 (zF_3 cy hz10) rfl rfl ⟨Nat.le_of_ble_eq_true rfl, Nat.le_of_ble_eq_true rfl⟩ (Nat.le_of_ble_eq_true rfl) ⟨Nat.le_of_ble_eq_true rfl, Nat.le_of_ble_eq_true rfl⟩ ⟨rfl, rfl⟩ rfl (fun S11 hw => ?_)
    refine zg_aload_n (q := 36) C0 0 dX6_crash_35 rfl rfl ?_
    refine zg_aload_n (q := 37) C0 1 dX6_crash_36 rfl rfl ?_
    refine zg_get (q := 40) (T := TX6) (k := 3) C0 dX6_crash_37 hz1 (zF_6 cy hz1) rfl (by decide) hX_X6_crash_6 (zwm (i := 5) rfl) rfl rfl rfl ?_
    obtain ⟨b12, hb13, hw⟩ := hw
    refine zg_nn hb13 ?_
    refine zg_callVv (q := 43) C0 [.ref b12] [] dX6_crash_40 (fun sz => a_X2_leaveRing l D cy Z S11 sz b4 b12 _ hw) rfl gX6_crash_X2_leaveRing hdV_X2_leaveRing hz6 (zF_2 cy hz6) rfl rfl ⟨Nat.le_of_ble_eq_true rfl, Nat.le_of_ble_eq_true rfl⟩ (Nat.le_of_ble_eq_true rfl) ⟨Nat.le_of_ble_eq_true rfl, Nat.le_of_ble_eq_true rfl⟩ ⟨rfl, rfl⟩ rfl (fun S14 hw => ?_)
    refine zgx_v ?_
    exact zg_vret C0 dX6_crash_43 rfl (Nat.le_of_ble_eq_true rfl) (Nat.le_of_ble_eq_true rfl) hw
  · have hw := hw.2 c15
    exact zgx_throw C0 hl0 hT dX6_crash_13 dX6_crash_16 dX6_crash_17 dX6_crash_19 dX6_crash_22 rfl (by decide +kernel) (zwm (i := 1) rfl) (zwm (i := 2) rfl) (fun _ h => List.mem_cons_of_mem _ (List.mem_append_left _ (List.mem_append_right _ h))) zx2_68 zxg_68 (List.mem_of_getElem? (i := 2) rfl) (Nat.le_of_ble_eq_true rfl) (Nat.le_of_ble_eq_true rfl) ⟨Nat.le_of_ble_eq_true rfl, Nat.le_of_ble_eq_true rfl⟩ ⟨Nat.le_of_ble_eq_true rfl, Nat.le_of_ble_eq_true rfl⟩ hw
-- X6_restart
abbrev rm_X6_restart : Room := { frames := 7, cells := 2, slots := 12, locals := 121 }
theorem hX_X6_restart_2 : ∀ w ∈ u_ws RX2 TX2 13, w ∈ wsX6_restart := by decide +kernel
theorem hdV_X6_restart : yX6_restart.cls = RX6 ∧ yX6_restart.cls ≠ "java/lang/invoke/MethodHandle" ∧ yX6_restart.cls ≠ "java/lang/invoke/VarHandle" ∧ (parseMethodDescriptor yX6_restart.desc).map (fun d => d.parameters.length) = some 1 := by decide +kernel
def w_X6_restart (Z : zZ) (h0 : Nat) (p0 : Int32) (S : zS) (Qp : zS → Prop) (Xp : String → zS → Prop) : Prop :=
  zk Z h0 6 ∧ w_X6_nodeAt Z h0 p0 S (fun (r3 : Option Nat) (S2 : zS) => ∃ b4, r3 = some b4 ∧ zk Z b4 2 ∧ (((zI S2 b4 5) = 0 → ∀ S7 : zS, S7 = zsI S2 b4 5 1 → Qp S7) ∧ (¬ (zI S2 b4 5) = 0 → Xp "java/lang/IllegalStateException" S2))) Xp
set_option maxHeartbeats 4000000 in
set_option maxRecDepth 100000 in
theorem a_X6_restart (l : Launch) (D : va_G) (cy : Nat → ClassId) (Z : zZ) (S : zS) (sz : Nat) (h0 : Nat) (p0 : Int32) (Qp : zS → Prop) (Xp : String → zS → Prop) (hl0 : l.stackTraces = false) (hw : w_X6_restart Z h0 p0 S Qp Xp) : zNv l yX6_restart wsX6_restart rm_X6_restart D cy Z S sz [.ref h0, .int p0] Qp Xp := by
  unfold w_X6_restart at hw
  refine zNv_of (cc := cX6_restart) (maxL := 3) (rt := none) (by decide +kernel) rfl (Nat.le_of_ble_eq_true rfl) ?_
  intro p e s m args below meth c A C0 _ hT
  refine zg_lv (lv' := [(0, .ref h0), (1, .int p0)]) rfl ?_
  refine zg_aload_n (q := 1) C0 0 dX6_restart_0 rfl rfl ?_
  refine zg_iload_n (q := 2) C0 1 dX6_restart_1 rfl rfl ?_
  obtain ⟨hz1, hw⟩ := hw
  refine zgx_callVq (q := 5) (k := 1) (n := 6) C0 [.int p0] [] hT dX6_restart_2 (fun sz => a_X6_nodeAt l D cy Z S sz h0 p0 _ Xp hl0 hw) rfl gX6_restart_X6_nodeAt hdV_X6_nodeAt hz1 (zF_6 cy hz1) rfl rfl ⟨Nat.le_of_ble_eq_true rfl, Nat.le_of_ble_eq_true rfl⟩ (Nat.le_of_ble_eq_true rfl) ⟨Nat.le_of_ble_eq_true rfl, Nat.le_of_ble_eq_true rfl⟩ ⟨rfl, rfl⟩ ⟨Nat.le_of_ble_eq_true rfl, Nat.le_of_ble_eq_true rfl⟩ rfl (fun r3 S2 hw => ?_)
  obtain ⟨b4, hb5, hw⟩ := hw
  refine zg_nn hb5 ?_
  refine zg_astore_n (q := 6) (lv' := [(2, .ref b4), (0, .ref h0), (1, .int p0)]) C0 dX6_restart_5 (by decide) rfl rfl ?_
  refine zg_aload_n (q := 7) C0 0 dX6_restart_6 rfl rfl ?_
  obtain ⟨hz6, hw⟩ := hw
  refine zg_get (q := 10) (T := TX2) (k := 5) C0 dX6_restart_7 hz6 (zF_2 cy hz6) rfl (by decide) hX_X6_restart_2 (zwm (i := 3) rfl) rfl rfl rfl ?_
  refine zg_if_eq (q := 13) (tgt := 23) C0 dX6_restart_10 rfl rfl (fun c8 => ?_) (fun c8 => ?_)
  · have hw := hw.1 c8
    refine zg_aload_n (q := 24) C0 0 dX6_restart_23 rfl rfl ?_
    refine zg_iconst (q := 25) C0 dX6_restart_24 zc_iconst_1 rfl ?_
    refine zg_putI (q := 28) (T := TX2) (k := 5) (ty0 := tyX2) C0 dX6_restart_25 hz6 (zF_2 cy hz6) rfl (by decide) hX_X6_restart_2 tyX2_ok nmX2 (zwm (i := 3) rfl) rfl rfl (by decide) (by decide) (Nat.le_of_ble_eq_true rfl) (zF_2 cy hz6) (zP_2_5 Z S2 _ _) rfl (fun S7 eS7 => ?_)
    have hw := hw S7 eS7
    refine zgx_v ?_
    exact zg_vret C0 dX6_restart_28 rfl (Nat.le_of_ble_eq_true rfl) (Nat.le_of_ble_eq_true rfl) hw
  · have hw := hw.2 c8
    exact zgx_throw C0 hl0 hT dX6_restart_13 dX6_restart_16 dX6_restart_17 dX6_restart_19 dX6_restart_22 rfl (by decide +kernel) (zwm (i := 1) rfl) (zwm (i := 2) rfl) (fun _ h => List.mem_cons_of_mem _ (List.mem_append_left _ (List.mem_append_right _ h))) zx2_68 zxg_68 (List.mem_of_getElem? (i := 4) rfl) (Nat.le_of_ble_eq_true rfl) (Nat.le_of_ble_eq_true rfl) ⟨Nat.le_of_ble_eq_true rfl, Nat.le_of_ble_eq_true rfl⟩ ⟨Nat.le_of_ble_eq_true rfl, Nat.le_of_ble_eq_true rfl⟩ hw
-- X6_about
abbrev rm_X6_about : Room := { frames := 7, cells := 2, slots := 12, locals := 121 }
theorem hX_X6_about_0 : ∀ w ∈ u_ws RX0 TX0 2, w ∈ wsX6_about := by decide +kernel
theorem hX_X6_about_2 : ∀ w ∈ u_ws RX2 TX2 13, w ∈ wsX6_about := by decide +kernel
theorem hX_X6_about_3 : ∀ w ∈ u_ws RX3 TX3 2, w ∈ wsX6_about := by decide +kernel
theorem hX_X6_about_4 : ∀ w ∈ u_ws RX4 TX4 5, w ∈ wsX6_about := by decide +kernel
theorem hX_X6_about_5 : ∀ w ∈ u_ws RX5 TX5 6, w ∈ wsX6_about := by decide +kernel
theorem hdV_X6_about : yX6_about.cls = RX6 ∧ yX6_about.cls ≠ "java/lang/invoke/MethodHandle" ∧ yX6_about.cls ≠ "java/lang/invoke/VarHandle" ∧ (parseMethodDescriptor yX6_about.desc).map (fun d => d.parameters.length) = some 2 := by decide +kernel
def w_X6_about (Z : zZ) (h0 : Nat) (p0 : Int32) (p1 : Int32) (S : zS) (Qp : Int32 → zS → Prop) (Xp : String → zS → Prop) : Prop :=
  zk Z h0 6 ∧ w_X6_nodeAt Z h0 p0 S (fun (r3 : Option Nat) (S2 : zS) => ∃ b4, r3 = some b4 ∧ ((p1 = 0 → zk Z b4 2 ∧ (((zI S2 b4 5) = 0 → Qp 0 S2) ∧ (¬ (zI S2 b4 5) = 0 → Qp 1 S2))) ∧ (¬ p1 = 0 → ((p1 = 1 → zk Z b4 2 ∧ Qp (zI S2 b4 6) S2) ∧ (¬ p1 = 1 → ((p1 = 2 → zk Z b4 2 ∧ ∃ b12, zR S2 b4 7 = some b12 ∧ zk Z b12 5 ∧ Qp (zI S2 b12 2) S2) ∧ (¬ p1 = 2 → ((p1 = 3 → zk Z b4 2 ∧ ∃ b17, zR S2 b4 7 = some b17 ∧ zk Z b17 5 ∧ Qp (zI S2 b17 3) S2) ∧ (¬ p1 = 3 → ((p1 = 4 → zk Z b4 2 ∧ ∃ b22, zQ Z b4 1 = some b22 ∧ zk Z b22 3 ∧ Qp (zI S2 b22 1) S2) ∧ (¬ p1 = 4 → ((p1 = 5 → zk Z b4 2 ∧ w_X2_full Z b4 S2 (fun (v28 : Int32) (S27 : zS) => Qp v28 S27)) ∧ (¬ p1 = 5 → ((p1 = 6 → zk Z b4 2 ∧ Qp (zI S2 b4 11) S2) ∧ (¬ p1 = 6 → ((p1 = 7 → zk Z b4 2 ∧ Qp (zI S2 b4 12) S2) ∧ (¬ p1 = 7 → ((p1 = 8 → zk Z b4 2 ∧ ∃ b35, zQ Z b4 2 = some b35 ∧ zk Z b35 4 ∧ Qp (zI S2 b35 2) S2) ∧ (¬ p1 = 8 → ((p1 = 9 → zk Z b4 2 ∧ Qp (zI S2 b4 9) S2) ∧ (¬ p1 = 9 → ((p1 = 10 → zk Z b4 2 ∧ Qp (zI S2 b4 10) S2) ∧ (¬ p1 = 10 → ((p1 = 11 → zk Z b4 2 ∧ Qp (zI S2 b4 8) S2) ∧ (¬ p1 = 11 → ((p1 = 12 → zk Z b4 2 ∧ ∃ b46, zR S2 b4 7 = some b46 ∧ zk Z b46 5 ∧ ((¬ (zI S2 b46 4) = p0 → Qp 0 S2) ∧ ((zI S2 b46 4) = p0 → Qp 1 S2))) ∧ (¬ p1 = 12 → ((p1 = 13 → zk Z b4 2 ∧ ∃ b52, zQ Z b4 3 = some b52 ∧ zk Z b52 0 ∧ Qp (zI S2 b52 1) S2) ∧ (¬ p1 = 13 → Xp "java/lang/IllegalArgumentException" S2))))))))))))))))))))))))))))) Xp
set_option maxHeartbeats 4000000 in
set_option maxRecDepth 100000 in
theorem a_X6_about (l : Launch) (D : va_G) (cy : Nat → ClassId) (Z : zZ) (S : zS) (sz : Nat) (h0 : Nat) (p0 : Int32) (p1 : Int32) (Qp : Int32 → zS → Prop) (Xp : String → zS → Prop) (hl0 : l.stackTraces = false) (hw : w_X6_about Z h0 p0 p1 S Qp Xp) : zNi l yX6_about wsX6_about rm_X6_about D cy Z S sz [.ref h0, .int p0, .int p1] Qp Xp := by
  unfold w_X6_about at hw
  refine zNi_of (cc := cX6_about) (maxL := 4) (rt := (some .int)) (by decide +kernel) rfl (Nat.le_of_ble_eq_true rfl) ?_
  intro p e s m args below meth c A C0 _ hT
  refine zg_lv (lv' := [(0, .ref h0), (1, .int p0), (2, .int p1)]) rfl ?_
  refine zg_aload_n (q := 1) C0 0 dX6_about_0 rfl rfl ?_
  refine zg_iload_n (q := 2) C0 1 dX6_about_1 rfl rfl ?_
  obtain ⟨hz1, hw⟩ := hw
  refine zgx_callVq (q := 5) (k := 1) (n := 6) C0 [.int p0] [] hT dX6_about_2 (fun sz => a_X6_nodeAt l D cy Z S sz h0 p0 _ Xp hl0 hw) rfl gX6_about_X6_nodeAt hdV_X6_nodeAt hz1 (zF_6 cy hz1) rfl rfl ⟨Nat.le_of_ble_eq_true rfl, Nat.le_of_ble_eq_true rfl⟩ (Nat.le_of_ble_eq_true rfl) ⟨Nat.le_of_ble_eq_true rfl, Nat.le_of_ble_eq_true rfl⟩ ⟨rfl, rfl⟩ ⟨Nat.le_of_ble_eq_true rfl, Nat.le_of_ble_eq_true rfl⟩ rfl (fun r3 S2 hw => ?_)
  obtain ⟨b4, hb5, hw⟩ := hw
  refine zg_nn hb5 ?_
  refine zg_astore_n (q := 6) (lv' := [(3, .ref b4), (0, .ref h0), (1, .int p0), (2, .int p1)]) C0 dX6_about_5 (by decide) rfl rfl ?_
  refine zg_iload_n (q := 7) C0 3 dX6_about_6 rfl rfl ?_
  by_cases c8 : p1 = 0
  · have hw := hw.1 c8
    refine zg_tabIn (v := 0) (tgt := 76) C0 dX6_about_7 c8 (by decide) (by decide) rfl rfl ?_
    refine zg_aload_n (q := 77) C0 0 dX6_about_76 rfl rfl ?_
    obtain ⟨hz6, hw⟩ := hw
    refine zg_get (q := 80) (T := TX2) (k := 5) C0 dX6_about_77 hz6 (zF_2 cy hz6) rfl (by decide) hX_X6_about_2 (zwm (i := 3) rfl) rfl rfl rfl ?_
    refine zg_if_eq (q := 83) (tgt := 87) C0 dX6_about_80 rfl rfl (fun c7 => ?_) (fun c7 => ?_)
    · have hw := hw.1 c7
      refine zg_iconst (q := 88) C0 dX6_about_87 zc_iconst_0 rfl ?_
      refine zgx_i ?_
      exact zg_iret C0 dX6_about_88 rfl rfl (Nat.le_of_ble_eq_true rfl) (Nat.le_of_ble_eq_true rfl) hw
    · have hw := hw.2 c7
      refine zg_iconst (q := 84) C0 dX6_about_83 zc_iconst_1 rfl ?_
      refine zg_goto (tgt := 88) C0 dX6_about_84 rfl ?_
      refine zgx_i ?_
      exact zg_iret C0 dX6_about_88 rfl rfl (Nat.le_of_ble_eq_true rfl) (Nat.le_of_ble_eq_true rfl) hw
  · have hw := hw.2 c8
    by_cases c10 : p1 = 1
    · have hw := hw.1 c10
      refine zg_tabIn (v := 1) (tgt := 89) C0 dX6_about_7 c10 (by decide) (by decide) rfl rfl ?_
      refine zg_aload_n (q := 90) C0 0 dX6_about_89 rfl rfl ?_
      obtain ⟨hz9, hw⟩ := hw
      refine zg_get (q := 93) (T := TX2) (k := 6) C0 dX6_about_90 hz9 (zF_2 cy hz9) rfl (by decide) hX_X6_about_2 (zwm (i := 4) rfl) rfl rfl rfl ?_
      refine zgx_i ?_
      exact zg_iret C0 dX6_about_93 rfl rfl (Nat.le_of_ble_eq_true rfl) (Nat.le_of_ble_eq_true rfl) hw
    · have hw := hw.2 c10
      by_cases c15 : p1 = 2
      · have hw := hw.1 c15
        refine zg_tabIn (v := 2) (tgt := 94) C0 dX6_about_7 c15 (by decide) (by decide) rfl rfl ?_
        refine zg_aload_n (q := 95) C0 0 dX6_about_94 rfl rfl ?_
        obtain ⟨hz11, hw⟩ := hw
        refine zg_get (q := 98) (T := TX2) (k := 7) C0 dX6_about_95 hz11 (zF_2 cy hz11) rfl (by decide) hX_X6_about_2 (zwm (i := 5) rfl) rfl rfl rfl ?_
        obtain ⟨b12, hb13, hw⟩ := hw
        refine zg_nn hb13 ?_
        obtain ⟨hz14, hw⟩ := hw
        refine zg_get (q := 101) (T := TX5) (k := 2) C0 dX6_about_98 hz14 (zF_5 cy hz14) rfl (by decide) hX_X6_about_5 (zwm (i := 6) rfl) rfl rfl rfl ?_
        refine zgx_i ?_
        exact zg_iret C0 dX6_about_101 rfl rfl (Nat.le_of_ble_eq_true rfl) (Nat.le_of_ble_eq_true rfl) hw
      · have hw := hw.2 c15
        by_cases c20 : p1 = 3
        · have hw := hw.1 c20
          refine zg_tabIn (v := 3) (tgt := 102) C0 dX6_about_7 c20 (by decide) (by decide) rfl rfl ?_
          refine zg_aload_n (q := 103) C0 0 dX6_about_102 rfl rfl ?_
          obtain ⟨hz16, hw⟩ := hw
          refine zg_get (q := 106) (T := TX2) (k := 7) C0 dX6_about_103 hz16 (zF_2 cy hz16) rfl (by decide) hX_X6_about_2 (zwm (i := 5) rfl) rfl rfl rfl ?_
          obtain ⟨b17, hb18, hw⟩ := hw
          refine zg_nn hb18 ?_
          obtain ⟨hz19, hw⟩ := hw
          refine zg_get (q := 109) (T := TX5) (k := 3) C0 dX6_about_106 hz19 (zF_5 cy hz19) rfl (by decide) hX_X6_about_5 (zwm (i := 7) rfl) rfl rfl rfl ?_
          refine zgx_i ?_
          exact zg_iret C0 dX6_about_109 rfl rfl (Nat.le_of_ble_eq_true rfl) (Nat.le_of_ble_eq_true rfl) hw
        · have hw := hw.2 c20
          by_cases c25 : p1 = 4
          · have hw := hw.1 c25
            refine zg_tabIn (v := 4) (tgt := 110) C0 dX6_about_7 c25 (by decide) (by decide) rfl rfl ?_
            refine zg_aload_n (q := 111) C0 0 dX6_about_110 rfl rfl ?_
            obtain ⟨hz21, hw⟩ := hw
            refine zg_get (q := 114) (T := TX2) (k := 1) C0 dX6_about_111 hz21 (zF_2 cy hz21) rfl (by decide) hX_X6_about_2 (zwm (i := 8) rfl) rfl rfl rfl ?_
            obtain ⟨b22, hb23, hw⟩ := hw
            refine zg_nn hb23 ?_
            obtain ⟨hz24, hw⟩ := hw
            refine zg_get (q := 117) (T := TX3) (k := 1) C0 dX6_about_114 hz24 (zF_3 cy hz24) rfl (by decide) hX_X6_about_3 (zwm (i := 9) rfl) rfl rfl rfl ?_
            refine zgx_i ?_
            exact zg_iret C0 dX6_about_117 rfl rfl (Nat.le_of_ble_eq_true rfl) (Nat.le_of_ble_eq_true rfl) hw
          · have hw := hw.2 c25
            by_cases c29 : p1 = 5
            · have hw := hw.1 c29
              refine zg_tabIn (v := 5) (tgt := 118) C0 dX6_about_7 c29 (by decide) (by decide) rfl rfl ?_
              refine zg_aload_n (q := 119) C0 0 dX6_about_118 rfl rfl ?_
              obtain ⟨hz26, hw⟩ := hw
              refine zg_callVi (q := 122) C0 [] [] dX6_about_119 (fun sz => a_X2_full l D cy Z S2 sz b4 _ hw) rfl gX6_about_X2_full hdV_X2_full hz26 (zF_2 cy hz26) rfl rfl ⟨Nat.le_of_ble_eq_true rfl, Nat.le_of_ble_eq_true rfl⟩ (Nat.le_of_ble_eq_true rfl) ⟨Nat.le_of_ble_eq_true rfl, Nat.le_of_ble_eq_true rfl⟩ ⟨rfl, rfl⟩ rfl (fun v28 S27 hw => ?_)
              refine zgx_i ?_
              exact zg_iret C0 dX6_about_122 rfl rfl (Nat.le_of_ble_eq_true rfl) (Nat.le_of_ble_eq_true rfl) hw
            · have hw := hw.2 c29
              by_cases c31 : p1 = 6
              · have hw := hw.1 c31
                refine zg_tabIn (v := 6) (tgt := 123) C0 dX6_about_7 c31 (by decide) (by decide) rfl rfl ?_
                refine zg_aload_n (q := 124) C0 0 dX6_about_123 rfl rfl ?_
                obtain ⟨hz30, hw⟩ := hw
                refine zg_get (q := 127) (T := TX2) (k := 11) C0 dX6_about_124 hz30 (zF_2 cy hz30) rfl (by decide) hX_X6_about_2 (zwm (i := 10) rfl) rfl rfl rfl ?_
                refine zgx_i ?_
                exact zg_iret C0 dX6_about_127 rfl rfl (Nat.le_of_ble_eq_true rfl) (Nat.le_of_ble_eq_true rfl) hw
              · have hw := hw.2 c31
                by_cases c33 : p1 = 7
                · have hw := hw.1 c33
                  refine zg_tabIn (v := 7) (tgt := 128) C0 dX6_about_7 c33 (by decide) (by decide) rfl rfl ?_
                  refine zg_aload_n (q := 129) C0 0 dX6_about_128 rfl rfl ?_
                  obtain ⟨hz32, hw⟩ := hw
                  refine zg_get (q := 132) (T := TX2) (k := 12) C0 dX6_about_129 hz32 (zF_2 cy hz32) rfl (by decide) hX_X6_about_2 (zwm (i := 11) rfl) rfl rfl rfl ?_
                  refine zgx_i ?_
                  exact zg_iret C0 dX6_about_132 rfl rfl (Nat.le_of_ble_eq_true rfl) (Nat.le_of_ble_eq_true rfl) hw
                · have hw := hw.2 c33
                  by_cases c38 : p1 = 8
                  · have hw := hw.1 c38
                    refine zg_tabIn (v := 8) (tgt := 133) C0 dX6_about_7 c38 (by decide) (by decide) rfl rfl ?_
                    refine zg_aload_n (q := 134) C0 0 dX6_about_133 rfl rfl ?_
                    obtain ⟨hz34, hw⟩ := hw
                    refine zg_get (q := 137) (T := TX2) (k := 2) C0 dX6_about_134 hz34 (zF_2 cy hz34) rfl (by decide) hX_X6_about_2 (zwm (i := 12) rfl) rfl rfl rfl ?_
                    obtain ⟨b35, hb36, hw⟩ := hw
                    refine zg_nn hb36 ?_
                    obtain ⟨hz37, hw⟩ := hw
                    refine zg_get (q := 140) (T := TX4) (k := 2) C0 dX6_about_137 hz37 (zF_4 cy hz37) rfl (by decide) hX_X6_about_4 (zwm (i := 13) rfl) rfl rfl rfl ?_
                    refine zgx_i ?_
                    exact zg_iret C0 dX6_about_140 rfl rfl (Nat.le_of_ble_eq_true rfl) (Nat.le_of_ble_eq_true rfl) hw
                  · have hw := hw.2 c38
                    by_cases c40 : p1 = 9
                    · have hw := hw.1 c40
                      refine zg_tabIn (v := 9) (tgt := 141) C0 dX6_about_7 c40 (by decide) (by decide) rfl rfl ?_
                      refine zg_aload_n (q := 142) C0 0 dX6_about_141 rfl rfl ?_
                      obtain ⟨hz39, hw⟩ := hw
                      refine zg_get (q := 145) (T := TX2) (k := 9) C0 dX6_about_142 hz39 (zF_2 cy hz39) rfl (by decide) hX_X6_about_2 (zwm (i := 14) rfl) rfl rfl rfl ?_
                      refine zgx_i ?_
                      exact zg_iret C0 dX6_about_145 rfl rfl (Nat.le_of_ble_eq_true rfl) (Nat.le_of_ble_eq_true rfl) hw
                    · have hw := hw.2 c40
                      by_cases c42 : p1 = 10
                      · have hw := hw.1 c42
                        refine zg_tabIn (v := 10) (tgt := 146) C0 dX6_about_7 c42 (by decide) (by decide) rfl rfl ?_
                        refine zg_aload_n (q := 147) C0 0 dX6_about_146 rfl rfl ?_
                        obtain ⟨hz41, hw⟩ := hw
                        refine zg_get (q := 150) (T := TX2) (k := 10) C0 dX6_about_147 hz41 (zF_2 cy hz41) rfl (by decide) hX_X6_about_2 (zwm (i := 15) rfl) rfl rfl rfl ?_
                        refine zgx_i ?_
                        exact zg_iret C0 dX6_about_150 rfl rfl (Nat.le_of_ble_eq_true rfl) (Nat.le_of_ble_eq_true rfl) hw
                      · have hw := hw.2 c42
                        by_cases c44 : p1 = 11
                        · have hw := hw.1 c44
                          refine zg_tabIn (v := 11) (tgt := 151) C0 dX6_about_7 c44 (by decide) (by decide) rfl rfl ?_
                          refine zg_aload_n (q := 152) C0 0 dX6_about_151 rfl rfl ?_
                          obtain ⟨hz43, hw⟩ := hw
                          refine zg_get (q := 155) (T := TX2) (k := 8) C0 dX6_about_152 hz43 (zF_2 cy hz43) rfl (by decide) hX_X6_about_2 (zwm (i := 16) rfl) rfl rfl rfl ?_
                          refine zgx_i ?_
                          exact zg_iret C0 dX6_about_155 rfl rfl (Nat.le_of_ble_eq_true rfl) (Nat.le_of_ble_eq_true rfl) hw
                        · have hw := hw.2 c44
                          by_cases c50 : p1 = 12
                          · have hw := hw.1 c50
                            refine zg_tabIn (v := 12) (tgt := 156) C0 dX6_about_7 c50 (by decide) (by decide) rfl rfl ?_
                            refine zg_aload_n (q := 157) C0 0 dX6_about_156 rfl rfl ?_
                            obtain ⟨hz45, hw⟩ := hw
                            refine zg_get (q := 160) (T := TX2) (k := 7) C0 dX6_about_157 hz45 (zF_2 cy hz45) rfl (by decide) hX_X6_about_2 (zwm (i := 5) rfl) rfl rfl rfl ?_
                            obtain ⟨b46, hb47, hw⟩ := hw
                            refine zg_nn hb47 ?_
                            obtain ⟨hz48, hw⟩ := hw
                            refine zg_get (q := 163) (T := TX5) (k := 4) C0 dX6_about_160 hz48 (zF_5 cy hz48) rfl (by decide) hX_X6_about_5 (zwm (i := 17) rfl) rfl rfl rfl ?_
                            refine zg_iload_n (q := 164) C0 2 dX6_about_163 rfl rfl ?_
                            refine zg_icmp_ne (q := 167) (tgt := 171) C0 dX6_about_164 rfl rfl (fun c49 => ?_) (fun c49 => ?_)
                            · have hw := hw.1 c49
                              refine zg_iconst (q := 172) C0 dX6_about_171 zc_iconst_0 rfl ?_
                              refine zgx_i ?_
                              exact zg_iret C0 dX6_about_172 rfl rfl (Nat.le_of_ble_eq_true rfl) (Nat.le_of_ble_eq_true rfl) hw
                            · have hw := hw.2 c49
                              refine zg_iconst (q := 168) C0 dX6_about_167 zc_iconst_1 rfl ?_
                              refine zg_goto (tgt := 172) C0 dX6_about_168 rfl ?_
                              refine zgx_i ?_
                              exact zg_iret C0 dX6_about_172 rfl rfl (Nat.le_of_ble_eq_true rfl) (Nat.le_of_ble_eq_true rfl) hw
                          · have hw := hw.2 c50
                            by_cases c55 : p1 = 13
                            · have hw := hw.1 c55
                              refine zg_tabIn (v := 13) (tgt := 173) C0 dX6_about_7 c55 (by decide) (by decide) rfl rfl ?_
                              refine zg_aload_n (q := 174) C0 0 dX6_about_173 rfl rfl ?_
                              obtain ⟨hz51, hw⟩ := hw
                              refine zg_get (q := 177) (T := TX2) (k := 3) C0 dX6_about_174 hz51 (zF_2 cy hz51) rfl (by decide) hX_X6_about_2 (zwm (i := 18) rfl) rfl rfl rfl ?_
                              obtain ⟨b52, hb53, hw⟩ := hw
                              refine zg_nn hb53 ?_
                              obtain ⟨hz54, hw⟩ := hw
                              refine zg_get (q := 180) (T := TX0) (k := 1) C0 dX6_about_177 hz54 (zF_0 cy hz54) rfl (by decide) hX_X6_about_0 (zwm (i := 19) rfl) rfl rfl rfl ?_
                              refine zgx_i ?_
                              exact zg_iret C0 dX6_about_180 rfl rfl (Nat.le_of_ble_eq_true rfl) (Nat.le_of_ble_eq_true rfl) hw
                            · have hw := hw.2 c55
                              refine zg_tabOut (tgt := 181) C0 dX6_about_7 (by have n0 := zneT c8 (show (0 : Int32).toInt = 0 from by decide); have n1 := zneT c10 (show (1 : Int32).toInt = 1 from by decide); have n2 := zneT c15 (show (2 : Int32).toInt = 2 from by decide); have n3 := zneT c20 (show (3 : Int32).toInt = 3 from by decide); have n4 := zneT c25 (show (4 : Int32).toInt = 4 from by decide); have n5 := zneT c29 (show (5 : Int32).toInt = 5 from by decide); have n6 := zneT c31 (show (6 : Int32).toInt = 6 from by decide); have n7 := zneT c33 (show (7 : Int32).toInt = 7 from by decide); have n8 := zneT c38 (show (8 : Int32).toInt = 8 from by decide); have n9 := zneT c40 (show (9 : Int32).toInt = 9 from by decide); have n10 := zneT c42 (show (10 : Int32).toInt = 10 from by decide); have n11 := zneT c44 (show (11 : Int32).toInt = 11 from by decide); have n12 := zneT c50 (show (12 : Int32).toInt = 12 from by decide); have n13 := zneT c55 (show (13 : Int32).toInt = 13 from by decide); omega) rfl ?_
                              exact zgx_throw C0 hl0 hT dX6_about_181 dX6_about_184 dX6_about_185 dX6_about_187 dX6_about_190 rfl (by decide +kernel) (zwm (i := 1) rfl) (zwm (i := 2) rfl) (fun _ h => List.mem_cons_of_mem _ (List.mem_append_left _ (List.mem_append_right _ h))) zx2_160 zxg_160 (List.mem_of_getElem? (i := 5) rfl) (Nat.le_of_ble_eq_true rfl) (Nat.le_of_ble_eq_true rfl) ⟨Nat.le_of_ble_eq_true rfl, Nat.le_of_ble_eq_true rfl⟩ ⟨Nat.le_of_ble_eq_true rfl, Nat.le_of_ble_eq_true rfl⟩ hw
-- X6_table
abbrev rm_X6_table : Room := { frames := 7, cells := 2, slots := 12, locals := 121 }
theorem hX_X6_table_2 : ∀ w ∈ u_ws RX2 TX2 13, w ∈ wsX6_table := by decide +kernel
theorem hX_X6_table_4 : ∀ w ∈ u_ws RX4 TX4 5, w ∈ wsX6_table := by decide +kernel
theorem hdV_X6_table : yX6_table.cls = RX6 ∧ yX6_table.cls ≠ "java/lang/invoke/MethodHandle" ∧ yX6_table.cls ≠ "java/lang/invoke/VarHandle" ∧ (parseMethodDescriptor yX6_table.desc).map (fun d => d.parameters.length) = some 2 := by decide +kernel
def w_X6_table (Z : zZ) (h0 : Nat) (p0 : Int32) (p1 : Int32) (S : zS) (Qp : Int64 → zS → Prop) (Xp : String → zS → Prop) : Prop :=
  zk Z h0 6 ∧ w_X6_nodeAt Z h0 p0 S (fun (r3 : Option Nat) (S2 : zS) => ∃ b4, r3 = some b4 ∧ w_X6_checkKey Z p1 S2 (fun (S6 : zS) => zk Z b4 2 ∧ ∃ b8, zQ Z b4 2 = some b8 ∧ zk Z b8 4 ∧ ∃ b11, zQ Z b8 0 = some b11 ∧ zk Z b11 9 ∧ vp_in p1 (zN Z b11) ∧ Qp (zJ S6 b11 p1.toNatClampNeg) S6) Xp) Xp
set_option maxHeartbeats 4000000 in
set_option maxRecDepth 100000 in
theorem a_X6_table (l : Launch) (D : va_G) (cy : Nat → ClassId) (Z : zZ) (S : zS) (sz : Nat) (h0 : Nat) (p0 : Int32) (p1 : Int32) (Qp : Int64 → zS → Prop) (Xp : String → zS → Prop) (hl0 : l.stackTraces = false) (hw : w_X6_table Z h0 p0 p1 S Qp Xp) : zNl l yX6_table wsX6_table rm_X6_table D cy Z S sz [.ref h0, .int p0, .int p1] Qp Xp := by
  unfold w_X6_table at hw
  refine zNl_of (cc := cX6_table) (maxL := 4) (rt := (some .long)) (by decide +kernel) rfl (Nat.le_of_ble_eq_true rfl) ?_
  intro p e s m args below meth c A C0 _ hT
  refine zg_lv (lv' := [(0, .ref h0), (1, .int p0), (2, .int p1)]) rfl ?_
  refine zg_aload_n (q := 1) C0 0 dX6_table_0 rfl rfl ?_
  refine zg_iload_n (q := 2) C0 1 dX6_table_1 rfl rfl ?_
  obtain ⟨hz1, hw⟩ := hw
  refine zgx_callVq (q := 5) (k := 1) (n := 6) C0 [.int p0] [] hT dX6_table_2 (fun sz => a_X6_nodeAt l D cy Z S sz h0 p0 _ Xp hl0 hw) rfl gX6_table_X6_nodeAt hdV_X6_nodeAt hz1 (zF_6 cy hz1) rfl rfl ⟨Nat.le_of_ble_eq_true rfl, Nat.le_of_ble_eq_true rfl⟩ (Nat.le_of_ble_eq_true rfl) ⟨Nat.le_of_ble_eq_true rfl, Nat.le_of_ble_eq_true rfl⟩ ⟨rfl, rfl⟩ ⟨Nat.le_of_ble_eq_true rfl, Nat.le_of_ble_eq_true rfl⟩ rfl (fun r3 S2 hw => ?_)
  obtain ⟨b4, hb5, hw⟩ := hw
  refine zg_nn hb5 ?_
  refine zg_astore_n (q := 6) (lv' := [(3, .ref b4), (0, .ref h0), (1, .int p0), (2, .int p1)]) C0 dX6_table_5 (by decide) rfl rfl ?_
  refine zg_iload_n (q := 7) C0 3 dX6_table_6 rfl rfl ?_
  refine zgx_callSv (q := 10) (k := 2) (n := 12) C0 [.int p1] [] hT dX6_table_7 (fun sz => a_X6_checkKey l D cy Z S2 sz p1 _ Xp hl0 hw) rfl gX6_table_X6_checkKey hdS_X6_checkKey rfl ⟨Nat.le_of_ble_eq_true rfl, Nat.le_of_ble_eq_true rfl⟩ (Nat.le_of_ble_eq_true rfl) ⟨Nat.le_of_ble_eq_true rfl, Nat.le_of_ble_eq_true rfl⟩ ⟨rfl, rfl⟩ ⟨Nat.le_of_ble_eq_true rfl, Nat.le_of_ble_eq_true rfl⟩ rfl (fun S6 hw => ?_)
  refine zg_aload_n (q := 11) C0 0 dX6_table_10 rfl rfl ?_
  obtain ⟨hz7, hw⟩ := hw
  refine zg_get (q := 14) (T := TX2) (k := 2) C0 dX6_table_11 hz7 (zF_2 cy hz7) rfl (by decide) hX_X6_table_2 (zwm (i := 1) rfl) rfl rfl rfl ?_
  obtain ⟨b8, hb9, hw⟩ := hw
  refine zg_nn hb9 ?_
  obtain ⟨hz10, hw⟩ := hw
  refine zg_get (q := 17) (T := TX4) (k := 0) C0 dX6_table_14 hz10 (zF_4 cy hz10) rfl (by decide) hX_X6_table_4 (zwm (i := 2) rfl) rfl rfl rfl ?_
  obtain ⟨b11, hb12, hw⟩ := hw
  refine zg_nn hb12 ?_
  refine zg_iload_n (q := 18) C0 3 dX6_table_17 rfl rfl ?_
  obtain ⟨hz13, hw⟩ := hw
  obtain ⟨hi14, hw⟩ := hw
  refine zg_lald (q := 19) C0 dX6_table_18 hz13 hi14 rfl ?_
  refine zgx_l ?_
  exact zg_lret C0 dX6_table_19 rfl (Nat.le_of_ble_eq_true rfl) (Nat.le_of_ble_eq_true rfl) hw
-- X6_mark
abbrev rm_X6_mark : Room := { frames := 7, cells := 1, slots := 6, locals := 121 }
theorem hX_X6_mark_2 : ∀ w ∈ u_ws RX2 TX2 13, w ∈ wsX6_mark := by decide +kernel
theorem hX_X6_mark_4 : ∀ w ∈ u_ws RX4 TX4 5, w ∈ wsX6_mark := by decide +kernel
theorem hdV_X6_mark : yX6_mark.cls = RX6 ∧ yX6_mark.cls ≠ "java/lang/invoke/MethodHandle" ∧ yX6_mark.cls ≠ "java/lang/invoke/VarHandle" ∧ (parseMethodDescriptor yX6_mark.desc).map (fun d => d.parameters.length) = some 1 := by decide +kernel
def w_X6_mark (Z : zZ) (h0 : Nat) (p0 : Int32) (S : zS) (Qp : Int64 → zS → Prop) (Xp : String → zS → Prop) : Prop :=
  zk Z h0 6 ∧ w_X6_nodeAt Z h0 p0 S (fun (r3 : Option Nat) (S2 : zS) => ∃ b4, r3 = some b4 ∧ zk Z b4 2 ∧ ∃ b7, zQ Z b4 2 = some b7 ∧ zk Z b7 4 ∧ Qp (zJ S2 b7 3) S2) Xp
set_option maxHeartbeats 4000000 in
set_option maxRecDepth 100000 in
theorem a_X6_mark (l : Launch) (D : va_G) (cy : Nat → ClassId) (Z : zZ) (S : zS) (sz : Nat) (h0 : Nat) (p0 : Int32) (Qp : Int64 → zS → Prop) (Xp : String → zS → Prop) (hl0 : l.stackTraces = false) (hw : w_X6_mark Z h0 p0 S Qp Xp) : zNl l yX6_mark wsX6_mark rm_X6_mark D cy Z S sz [.ref h0, .int p0] Qp Xp := by
  unfold w_X6_mark at hw
  refine zNl_of (cc := cX6_mark) (maxL := 2) (rt := (some .long)) (by decide +kernel) rfl (Nat.le_of_ble_eq_true rfl) ?_
  intro p e s m args below meth c A C0 _ hT
  refine zg_lv (lv' := [(0, .ref h0), (1, .int p0)]) rfl ?_
  refine zg_aload_n (q := 1) C0 0 dX6_mark_0 rfl rfl ?_
  refine zg_iload_n (q := 2) C0 1 dX6_mark_1 rfl rfl ?_
  obtain ⟨hz1, hw⟩ := hw
  refine zgx_callVq (q := 5) (k := 1) (n := 6) C0 [.int p0] [] hT dX6_mark_2 (fun sz => a_X6_nodeAt l D cy Z S sz h0 p0 _ Xp hl0 hw) rfl gX6_mark_X6_nodeAt hdV_X6_nodeAt hz1 (zF_6 cy hz1) rfl rfl ⟨Nat.le_of_ble_eq_true rfl, Nat.le_of_ble_eq_true rfl⟩ (Nat.le_of_ble_eq_true rfl) ⟨Nat.le_of_ble_eq_true rfl, Nat.le_of_ble_eq_true rfl⟩ ⟨rfl, rfl⟩ ⟨Nat.le_of_ble_eq_true rfl, Nat.le_of_ble_eq_true rfl⟩ rfl (fun r3 S2 hw => ?_)
  obtain ⟨b4, hb5, hw⟩ := hw
  refine zg_nn hb5 ?_
  obtain ⟨hz6, hw⟩ := hw
  refine zg_get (q := 8) (T := TX2) (k := 2) C0 dX6_mark_5 hz6 (zF_2 cy hz6) rfl (by decide) hX_X6_mark_2 (zwm (i := 1) rfl) rfl rfl rfl ?_
  obtain ⟨b7, hb8, hw⟩ := hw
  refine zg_nn hb8 ?_
  obtain ⟨hz9, hw⟩ := hw
  refine zg_get (q := 11) (T := TX4) (k := 3) C0 dX6_mark_8 hz9 (zF_4 cy hz9) rfl (by decide) hX_X6_mark_4 (zwm (i := 2) rfl) rfl rfl rfl ?_
  refine zgx_l ?_
  exact zg_lret C0 dX6_mark_11 rfl (Nat.le_of_ble_eq_true rfl) (Nat.le_of_ble_eq_true rfl) hw
-- X6_entry
abbrev rm_X6_entry : Room := { frames := 7, cells := 2, slots := 12, locals := 121 }
theorem hX_X6_entry_2 : ∀ w ∈ u_ws RX2 TX2 13, w ∈ wsX6_entry := by decide +kernel
theorem hdV_X6_entry : yX6_entry.cls = RX6 ∧ yX6_entry.cls ≠ "java/lang/invoke/MethodHandle" ∧ yX6_entry.cls ≠ "java/lang/invoke/VarHandle" ∧ (parseMethodDescriptor yX6_entry.desc).map (fun d => d.parameters.length) = some 3 := by decide +kernel
def wJ_X6_entry_23 (Z : zZ) (Qp : Int64 → zS → Prop) (Xp : String → zS → Prop)   (S : zS) : Prop :=
  Xp "java/lang/IndexOutOfBoundsException" S
set_option maxHeartbeats 4000000 in
set_option maxRecDepth 100000 in
theorem aJ_X6_entry_23 {p : Program} {l : Launch} {e : Env} {s : State} {m : MethodId} {args : Array Value} {below : List Frame} {meth : Method} {c : Code} {D : va_G} {cy : Nat → ClassId} {A : Nat → Prop} {Z : zZ} (C0 : zC p s m args meth c cX6_entry 5 wsX6_entry RX6 D cy A (some .long)) (hl0 : l.stackTraces = false) (hT : ∀ x ∈ c.exceptionTable.toList, False) {Qp : Int64 → zS → Prop} {Xp : String → zS → Prop}     {S : zS} (hw : wJ_X6_entry_23 Z Qp Xp   S) : zG p l e rm_X6_entry s m args below meth c D cy A 5 1 6 (zXl below D cy A Z Qp Xp args s rm_X6_entry.cells rm_X6_entry.slots) Z S 23 [] [] := by
  unfold wJ_X6_entry_23 at hw
  exact zgx_throw C0 hl0 hT dX6_entry_23 dX6_entry_26 dX6_entry_27 dX6_entry_29 dX6_entry_32 rfl (by decide +kernel) (zwm (i := 1) rfl) (zwm (i := 2) rfl) (fun _ h => List.mem_cons_of_mem _ (List.mem_append_left _ (List.mem_append_right _ h))) zx2_223 zxg_223 (List.mem_of_getElem? (i := 6) rfl) (Nat.le_of_ble_eq_true rfl) (Nat.le_of_ble_eq_true rfl) ⟨Nat.le_of_ble_eq_true rfl, Nat.le_of_ble_eq_true rfl⟩ ⟨Nat.le_of_ble_eq_true rfl, Nat.le_of_ble_eq_true rfl⟩ hw
def wJ_X6_entry_43 (Z : zZ) (Qp : Int64 → zS → Prop) (Xp : String → zS → Prop)   (S : zS) : Prop :=
  Xp "java/lang/IllegalArgumentException" S
set_option maxHeartbeats 4000000 in
set_option maxRecDepth 100000 in
theorem aJ_X6_entry_43 {p : Program} {l : Launch} {e : Env} {s : State} {m : MethodId} {args : Array Value} {below : List Frame} {meth : Method} {c : Code} {D : va_G} {cy : Nat → ClassId} {A : Nat → Prop} {Z : zZ} (C0 : zC p s m args meth c cX6_entry 5 wsX6_entry RX6 D cy A (some .long)) (hl0 : l.stackTraces = false) (hT : ∀ x ∈ c.exceptionTable.toList, False) {Qp : Int64 → zS → Prop} {Xp : String → zS → Prop}     {S : zS} (hw : wJ_X6_entry_43 Z Qp Xp   S) : zG p l e rm_X6_entry s m args below meth c D cy A 5 1 6 (zXl below D cy A Z Qp Xp args s rm_X6_entry.cells rm_X6_entry.slots) Z S 43 [] [] := by
  unfold wJ_X6_entry_43 at hw
  exact zgx_throw C0 hl0 hT dX6_entry_43 dX6_entry_46 dX6_entry_47 dX6_entry_49 dX6_entry_52 rfl (by decide +kernel) (zwm (i := 3) rfl) (zwm (i := 4) rfl) (fun _ h => List.mem_cons_of_mem _ (List.mem_append_right _ h)) zx2_160 zxg_160 (List.mem_of_getElem? (i := 7) rfl) (Nat.le_of_ble_eq_true rfl) (Nat.le_of_ble_eq_true rfl) ⟨Nat.le_of_ble_eq_true rfl, Nat.le_of_ble_eq_true rfl⟩ ⟨Nat.le_of_ble_eq_true rfl, Nat.le_of_ble_eq_true rfl⟩ hw
def w_X6_entry (Z : zZ) (h0 : Nat) (p0 : Int32) (p1 : Int32) (p2 : Int32) (S : zS) (Qp : Int64 → zS → Prop) (Xp : String → zS → Prop) : Prop :=
  zk Z h0 6 ∧ w_X6_nodeAt Z h0 p0 S (fun (r3 : Option Nat) (S2 : zS) => ∃ b4, r3 = some b4 ∧ zk Z b4 2 ∧ ∃ b7, zQ Z b4 3 = some b7 ∧ ((p1 < 0 → wJ_X6_entry_23 Z Qp Xp   S2) ∧ (¬ p1 < 0 → zk Z b7 0 ∧ w_X0_size Z b7 S2 (fun (v11 : Int32) (S10 : zS) => ((p1 < v11 → ((p2 < 0 → wJ_X6_entry_43 Z Qp Xp   S10) ∧ (¬ p2 < 0 → ((p2 < 6 → w_X0_cell Z b7 p1 p2 S10 (fun (v13 : Int64) (S12 : zS) => Qp v13 S12)) ∧ (¬ p2 < 6 → wJ_X6_entry_43 Z Qp Xp   S10))))) ∧ (¬ p1 < v11 → wJ_X6_entry_23 Z Qp Xp   S10)))))) Xp
set_option maxHeartbeats 4000000 in
set_option maxRecDepth 100000 in
theorem a_X6_entry (l : Launch) (D : va_G) (cy : Nat → ClassId) (Z : zZ) (S : zS) (sz : Nat) (h0 : Nat) (p0 : Int32) (p1 : Int32) (p2 : Int32) (Qp : Int64 → zS → Prop) (Xp : String → zS → Prop) (hl0 : l.stackTraces = false) (hw : w_X6_entry Z h0 p0 p1 p2 S Qp Xp) : zNl l yX6_entry wsX6_entry rm_X6_entry D cy Z S sz [.ref h0, .int p0, .int p1, .int p2] Qp Xp := by
  unfold w_X6_entry at hw
  refine zNl_of (cc := cX6_entry) (maxL := 5) (rt := (some .long)) (by decide +kernel) rfl (Nat.le_of_ble_eq_true rfl) ?_
  intro p e s m args below meth c A C0 _ hT
  refine zg_lv (lv' := [(0, .ref h0), (1, .int p0), (2, .int p1), (3, .int p2)]) rfl ?_
  refine zg_aload_n (q := 1) C0 0 dX6_entry_0 rfl rfl ?_
  refine zg_iload_n (q := 2) C0 1 dX6_entry_1 rfl rfl ?_
  obtain ⟨hz1, hw⟩ := hw
  refine zgx_callVq (q := 5) (k := 1) (n := 6) C0 [.int p0] [] hT dX6_entry_2 (fun sz => a_X6_nodeAt l D cy Z S sz h0 p0 _ Xp hl0 hw) rfl gX6_entry_X6_nodeAt hdV_X6_nodeAt hz1 (zF_6 cy hz1) rfl rfl ⟨Nat.le_of_ble_eq_true rfl, Nat.le_of_ble_eq_true rfl⟩ (Nat.le_of_ble_eq_true rfl) ⟨Nat.le_of_ble_eq_true rfl, Nat.le_of_ble_eq_true rfl⟩ ⟨rfl, rfl⟩ ⟨Nat.le_of_ble_eq_true rfl, Nat.le_of_ble_eq_true rfl⟩ rfl (fun r3 S2 hw => ?_)
  obtain ⟨b4, hb5, hw⟩ := hw
  refine zg_nn hb5 ?_
  obtain ⟨hz6, hw⟩ := hw
  refine zg_get (q := 8) (T := TX2) (k := 3) C0 dX6_entry_5 hz6 (zF_2 cy hz6) rfl (by decide) hX_X6_entry_2 (zwm (i := 5) rfl) rfl rfl rfl ?_
  obtain ⟨b7, hb8, hw⟩ := hw
  refine zg_nn hb8 ?_
  refine zg_astore (q := 10) (lv' := [(4, .ref b7), (0, .ref h0), (1, .int p0), (2, .int p1), (3, .int p2)]) C0 dX6_entry_8 (by decide) rfl rfl ?_
  refine zg_iload_n (q := 11) C0 3 dX6_entry_10 rfl rfl ?_
  refine zg_if_lt (q := 14) (tgt := 23) C0 dX6_entry_11 rfl rfl (fun c17 => ?_) (fun c17 => ?_)
  · have hw := hw.1 c17
    refine zg_sub [] rfl ?_
    exact aJ_X6_entry_23 C0 hl0 hT  hw
  · have hw := hw.2 c17
    refine zg_iload_n (q := 15) C0 3 dX6_entry_14 rfl rfl ?_
    refine zg_aload (q := 17) C0 0 dX6_entry_15 rfl rfl ?_
    obtain ⟨hz9, hw⟩ := hw
    refine zg_callVi (q := 20) C0 [] [.int p1] dX6_entry_17 (fun sz => a_X0_size l D cy Z S2 sz b7 _ hw) rfl gX6_entry_X0_size hdV_X0_size hz9 (zF_0 cy hz9) rfl rfl ⟨Nat.le_of_ble_eq_true rfl, Nat.le_of_ble_eq_true rfl⟩ (Nat.le_of_ble_eq_true rfl) ⟨Nat.le_of_ble_eq_true rfl, Nat.le_of_ble_eq_true rfl⟩ ⟨rfl, rfl⟩ rfl (fun v11 S10 hw => ?_)
    refine zg_icmp_lt (q := 23) (tgt := 33) C0 dX6_entry_20 rfl rfl (fun c16 => ?_) (fun c16 => ?_)
    · have hw := hw.1 c16
      refine zg_iload_n (q := 34) C0 4 dX6_entry_33 rfl rfl ?_
      refine zg_if_lt (q := 37) (tgt := 43) C0 dX6_entry_34 rfl rfl (fun c15 => ?_) (fun c15 => ?_)
      · have hw := hw.1 c15
        refine zg_sub [] rfl ?_
        exact aJ_X6_entry_43 C0 hl0 hT  hw
      · have hw := hw.2 c15
        refine zg_iload_n (q := 38) C0 4 dX6_entry_37 rfl rfl ?_
        refine zg_bipush (q := 40) C0 dX6_entry_38 zc_bipush_6 rfl ?_
        refine zg_icmp_lt (q := 43) (tgt := 53) C0 dX6_entry_40 rfl rfl (fun c14 => ?_) (fun c14 => ?_)
        · have hw := hw.1 c14
          refine zg_aload (q := 55) C0 0 dX6_entry_53 rfl rfl ?_
          refine zg_iload_n (q := 56) C0 3 dX6_entry_55 rfl rfl ?_
          refine zg_iload_n (q := 57) C0 4 dX6_entry_56 rfl rfl ?_
          refine zg_callVl (q := 60) C0 [.int p1, .int p2] [] dX6_entry_57 (fun sz => a_X0_cell l D cy Z S10 sz b7 p1 p2 _ hw) rfl gX6_entry_X0_cell hdV_X0_cell hz9 (zF_0 cy hz9) rfl rfl ⟨Nat.le_of_ble_eq_true rfl, Nat.le_of_ble_eq_true rfl⟩ (Nat.le_of_ble_eq_true rfl) ⟨Nat.le_of_ble_eq_true rfl, Nat.le_of_ble_eq_true rfl⟩ ⟨rfl, rfl⟩ rfl (fun v13 S12 hw => ?_)
          refine zgx_l ?_
          exact zg_lret C0 dX6_entry_60 rfl (Nat.le_of_ble_eq_true rfl) (Nat.le_of_ble_eq_true rfl) hw
        · have hw := hw.2 c14
          refine zg_sub [] rfl ?_
          exact aJ_X6_entry_43 C0 hl0 hT  hw
    · have hw := hw.2 c16
      refine zg_sub [] rfl ?_
      exact aJ_X6_entry_23 C0 hl0 hT  hw
-- X6_primary
abbrev rm_X6_primary : Room := { frames := 7, cells := 1, slots := 6, locals := 121 }
theorem hdV_X6_primary : yX6_primary.cls = RX6 ∧ yX6_primary.cls ≠ "java/lang/invoke/MethodHandle" ∧ yX6_primary.cls ≠ "java/lang/invoke/VarHandle" ∧ (parseMethodDescriptor yX6_primary.desc).map (fun d => d.parameters.length) = some 1 := by decide +kernel
def w_X6_primary (Z : zZ) (h0 : Nat) (p0 : Int32) (S : zS) (Qp : Int32 → zS → Prop) (Xp : String → zS → Prop) : Prop :=
  zk Z h0 6 ∧ w_X6_nodeAt Z h0 p0 S (fun (r3 : Option Nat) (S2 : zS) => ∃ b4, r3 = some b4 ∧ zk Z b4 2 ∧ w_X2_isOfPrimary Z b4 S2 (fun (v8 : Int32) (S7 : zS) => zb v8 ∧ Qp v8 S7)) Xp
set_option maxHeartbeats 4000000 in
set_option maxRecDepth 100000 in
theorem a_X6_primary (l : Launch) (D : va_G) (cy : Nat → ClassId) (Z : zZ) (S : zS) (sz : Nat) (h0 : Nat) (p0 : Int32) (Qp : Int32 → zS → Prop) (Xp : String → zS → Prop) (hl0 : l.stackTraces = false) (hw : w_X6_primary Z h0 p0 S Qp Xp) : zNi l yX6_primary wsX6_primary rm_X6_primary D cy Z S sz [.ref h0, .int p0] Qp Xp := by
  unfold w_X6_primary at hw
  refine zNi_of (cc := cX6_primary) (maxL := 2) (rt := (some .boolean)) (by decide +kernel) rfl (Nat.le_of_ble_eq_true rfl) ?_
  intro p e s m args below meth c A C0 _ hT
  refine zg_lv (lv' := [(0, .ref h0), (1, .int p0)]) rfl ?_
  refine zg_aload_n (q := 1) C0 0 dX6_primary_0 rfl rfl ?_
  refine zg_iload_n (q := 2) C0 1 dX6_primary_1 rfl rfl ?_
  obtain ⟨hz1, hw⟩ := hw
  refine zgx_callVq (q := 5) (k := 1) (n := 6) C0 [.int p0] [] hT dX6_primary_2 (fun sz => a_X6_nodeAt l D cy Z S sz h0 p0 _ Xp hl0 hw) rfl gX6_primary_X6_nodeAt hdV_X6_nodeAt hz1 (zF_6 cy hz1) rfl rfl ⟨Nat.le_of_ble_eq_true rfl, Nat.le_of_ble_eq_true rfl⟩ (Nat.le_of_ble_eq_true rfl) ⟨Nat.le_of_ble_eq_true rfl, Nat.le_of_ble_eq_true rfl⟩ ⟨rfl, rfl⟩ ⟨Nat.le_of_ble_eq_true rfl, Nat.le_of_ble_eq_true rfl⟩ rfl (fun r3 S2 hw => ?_)
  obtain ⟨b4, hb5, hw⟩ := hw
  refine zg_nn hb5 ?_
  obtain ⟨hz6, hw⟩ := hw
  refine zg_callVi (q := 8) C0 [] [] dX6_primary_5 (fun sz => a_X2_isOfPrimary l D cy Z S2 sz b4 _ hw) rfl gX6_primary_X2_isOfPrimary hdV_X2_isOfPrimary hz6 (zF_2 cy hz6) rfl rfl ⟨Nat.le_of_ble_eq_true rfl, Nat.le_of_ble_eq_true rfl⟩ (Nat.le_of_ble_eq_true rfl) ⟨Nat.le_of_ble_eq_true rfl, Nat.le_of_ble_eq_true rfl⟩ ⟨rfl, rfl⟩ rfl (fun v8 S7 hw => ?_)
  refine zgx_i ?_
  obtain ⟨hb9, hw⟩ := hw
  exact zg_iret C0 dX6_primary_8 rfl (zb_n hb9) (Nat.le_of_ble_eq_true rfl) (Nat.le_of_ble_eq_true rfl) hw
