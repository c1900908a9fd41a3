-- L_send
abbrev rm_L_send : Room := { frames := 8, cells := 3, slots := 18, locals := 147 }
theorem hdS_L_send : yL_send.cls ≠ "java/lang/invoke/MethodHandle" ∧ yL_send.cls ≠ "java/lang/invoke/VarHandle" ∧ (parseMethodDescriptor yL_send.desc).map (fun d => d.parameters.length) = some 6 := by decide +kernel
def w_L_send (Z : zZ) (p0 : Nat) (p1 : Int32) (p2 : Int32) (p3 : Int64) (p4 : Int32) (p5 : Nat) (S : zS) (Qp : Int32 → zZ → zS → Prop) : Prop :=
  zk Z p0 6 ∧ w_X6_send Z p0 p1 p2 p3 p4 S (fun (v3 : Int32) (Z4 : zZ) (S2 : zS) => zk Z4 p5 9 ∧ vp_in 0 (zN Z4 p5) ∧ ∀ S7 : zS, S7 = zsJ S2 p5 (0 : Int32).toNatClampNeg ((v3 : Int32).toInt64) → Qp 0 Z4 S7) (fun (E : String) (Sx : zS) => (E = "java/lang/IndexOutOfBoundsException" ∧ Qp 1 Z Sx) ∨ (E = "java/lang/IllegalStateException" ∧ Qp 2 Z Sx))
set_option maxHeartbeats 4000000 in
set_option maxRecDepth 100000 in
theorem a_L_send (l : Launch) (D : va_G) (cy : Nat → ClassId) (Z : zZ) (S : zS) (sz : Nat) (p0 : Nat) (p1 : Int32) (p2 : Int32) (p3 : Int64) (p4 : Int32) (p5 : Nat) (Qp : Int32 → zZ → zS → Prop) (hl0 : l.stackTraces = false) (hw : w_L_send Z p0 p1 p2 p3 p4 p5 S Qp) : zNz l yL_send wsL_send rm_L_send D cy Z S sz [.ref p0, .int p1, .int p2, .long p3, .int p4, .ref p5] Qp (fun _ _ => False) := by
  unfold w_L_send at hw
  refine zNz_ofH (hh := [(0, 14, 17, 13), (0, 14, 21, 15)]) (cc := cL_send) (maxL := 8) (rt := (some .int)) (by decide +kernel) rfl (Nat.le_of_ble_eq_true rfl) ?_
  intro p e s m args below meth c A C0 hH
  refine zg_lv (lv' := [(0, .ref p0), (1, .int p1), (2, .int p2), (3, .long p3), (5, .int p4), (6, .ref p5)]) rfl ?_
  refine zg_aload (q := 2) C0 5 dL_send_0 rfl rfl ?_
  refine zg_iconst (q := 3) C0 dL_send_2 zc_iconst_0 rfl ?_
  refine zg_aload_n (q := 4) C0 0 dL_send_3 rfl rfl ?_
  refine zg_iload_n (q := 5) C0 1 dL_send_4 rfl rfl ?_
  refine zg_iload_n (q := 6) C0 2 dL_send_5 rfl rfl ?_
  refine zg_lload_n (q := 7) C0 3 dL_send_6 rfl rfl ?_
  refine zg_iload (q := 9) C0 4 dL_send_7 rfl rfl ?_
  obtain ⟨hz1, hw⟩ := hw
  refine zgc_call2z (q := 12) (k := 3) (n := 18) C0 [.int p1, .int p2, .long p3, .int p4] [.int 0, .ref p5] hH (by decide) (by decide) (by decide) (zwm (i := 1) rfl) (zwm (i := 8) rfl) (by decide) (zwm (i := 2) rfl) (zwm (i := 7) rfl) C0.2.1.2.2.2.2.2.2.2.2.1 dL_send_9 (fun sz => a_X6_send l D cy Z S sz p0 p1 p2 p3 p4 _ _ hl0 hw) rfl gL_send_X6_send hdV_X6_send hz1 (zF_6 cy hz1) rfl rfl ⟨Nat.le_of_ble_eq_true rfl, Nat.le_of_ble_eq_true rfl⟩ (Nat.le_of_ble_eq_true rfl) ⟨Nat.le_of_ble_eq_true rfl, Nat.le_of_ble_eq_true rfl⟩ ⟨rfl, rfl⟩ rfl (fun E Sx hX => ?_) (fun v3 Z4 S2 hw => ?_)
  · rcases hX with ⟨hE, hw⟩ | ⟨hE, hw⟩
    · refine Or.inl ⟨hE, fun xq => ?_⟩
      refine zg_astore (q := 19) (lv' := [(7, .ref xq), (0, .ref p0), (1, .int p1), (2, .int p2), (3, .long p3), (5, .int p4), (6, .ref p5)]) C0 dL_send_17 (by decide) rfl rfl ?_
      refine zg_iconst (q := 20) C0 dL_send_19 zc_iconst_1 rfl ?_
      exact zgx_iretz C0 dL_send_20 rfl (Nat.le_of_ble_eq_true rfl) (Nat.le_of_ble_eq_true rfl) hw
    · refine Or.inr ⟨hE, fun xq => ?_⟩
      refine zg_astore (q := 23) (lv' := [(7, .ref xq), (0, .ref p0), (1, .int p1), (2, .int p2), (3, .long p3), (5, .int p4), (6, .ref p5)]) C0 dL_send_21 (by decide) rfl rfl ?_
      refine zg_iconst (q := 24) C0 dL_send_23 zc_iconst_2 rfl ?_
      exact zgx_iretz C0 dL_send_24 rfl (Nat.le_of_ble_eq_true rfl) (Nat.le_of_ble_eq_true rfl) hw
  · refine zg_i2l (q := 13) C0 dL_send_12 rfl ?_
    obtain ⟨hz5, hw⟩ := hw
    obtain ⟨hi6, hw⟩ := hw
    refine zg_last (q := 14) C0 dL_send_13 hz5 hi6 rfl (fun S7 eS7 => ?_)
    have hw := hw S7 eS7
    refine zg_goto (tgt := 25) C0 dL_send_14 rfl ?_
    refine zg_iconst (q := 26) C0 dL_send_25 zc_iconst_0 rfl ?_
    exact zgx_iretz C0 dL_send_26 rfl (Nat.le_of_ble_eq_true rfl) (Nat.le_of_ble_eq_true rfl) hw
-- L_pass
abbrev rm_L_pass : Room := { frames := 8, cells := 2, slots := 12, locals := 147 }
theorem hdS_L_pass : yL_pass.cls ≠ "java/lang/invoke/MethodHandle" ∧ yL_pass.cls ≠ "java/lang/invoke/VarHandle" ∧ (parseMethodDescriptor yL_pass.desc).map (fun d => d.parameters.length) = some 4 := by decide +kernel
def w_L_pass (Z : zZ) (p0 : Nat) (p1 : Int32) (p2 : Int32) (p3 : Nat) (S : zS) (Qp : Int32 → zS → Prop) : Prop :=
  zk Z p0 6 ∧ w_X6_pass Z p0 p1 p2 S (fun (v3 : Int32) (S2 : zS) => zk Z p3 9 ∧ vp_in 0 (zN Z p3) ∧ ∀ S6 : zS, S6 = zsJ S2 p3 (0 : Int32).toNatClampNeg ((v3 : Int32).toInt64) → Qp 0 S6) (fun (E : String) (Sx : zS) => (E = "java/lang/IndexOutOfBoundsException" ∧ Qp 1 Sx) ∨ (E = "java/lang/IllegalStateException" ∧ Qp 2 Sx))
set_option maxHeartbeats 4000000 in
set_option maxRecDepth 100000 in
theorem a_L_pass (l : Launch) (D : va_G) (cy : Nat → ClassId) (Z : zZ) (S : zS) (sz : Nat) (p0 : Nat) (p1 : Int32) (p2 : Int32) (p3 : Nat) (Qp : Int32 → zS → Prop) (hl0 : l.stackTraces = false) (hw : w_L_pass Z p0 p1 p2 p3 S Qp) : zNi l yL_pass wsL_pass rm_L_pass D cy Z S sz [.ref p0, .int p1, .int p2, .ref p3] Qp (fun _ _ => False) := by
  unfold w_L_pass at hw
  refine zNi_ofH (hh := [(0, 10, 13, 13), (0, 10, 17, 15)]) (cc := cL_pass) (maxL := 5) (rt := (some .int)) (by decide +kernel) rfl (Nat.le_of_ble_eq_true rfl) ?_
  intro p e s m args below meth c A C0 hH
  refine zg_lv (lv' := [(0, .ref p0), (1, .int p1), (2, .int p2), (3, .ref p3)]) rfl ?_
  refine zg_aload_n (q := 1) C0 3 dL_pass_0 rfl rfl ?_
  refine zg_iconst (q := 2) C0 dL_pass_1 zc_iconst_0 rfl ?_
  refine zg_aload_n (q := 3) C0 0 dL_pass_2 rfl rfl ?_
  refine zg_iload_n (q := 4) C0 1 dL_pass_3 rfl rfl ?_
  refine zg_iload_n (q := 5) C0 2 dL_pass_4 rfl rfl ?_
  obtain ⟨hz1, hw⟩ := hw
  refine zgc_call2i (q := 8) (k := 2) (n := 12) C0 [.int p1, .int p2] [.int 0, .ref p3] hH (by decide) (by decide) (by decide) (zwm (i := 1) rfl) (zwm (i := 8) rfl) (by decide) (zwm (i := 2) rfl) (zwm (i := 7) rfl) C0.2.1.2.2.2.2.2.2.2.2.1 dL_pass_5 (fun sz => a_X6_pass l D cy Z S sz p0 p1 p2 _ _ hl0 hw) rfl gL_pass_X6_pass hdV_X6_pass hz1 (zF_6 cy hz1) rfl rfl ⟨Nat.le_of_ble_eq_true rfl, Nat.le_of_ble_eq_true rfl⟩ (Nat.le_of_ble_eq_true rfl) ⟨Nat.le_of_ble_eq_true rfl, Nat.le_of_ble_eq_true rfl⟩ ⟨rfl, rfl⟩ rfl (fun E Sx hX => ?_) (fun v3 S2 hw => ?_)
  · rcases hX with ⟨hE, hw⟩ | ⟨hE, hw⟩
    · refine Or.inl ⟨hE, fun xq => ?_⟩
      refine zg_astore (q := 15) (lv' := [(4, .ref xq), (0, .ref p0), (1, .int p1), (2, .int p2), (3, .ref p3)]) C0 dL_pass_13 (by decide) rfl rfl ?_
      refine zg_iconst (q := 16) C0 dL_pass_15 zc_iconst_1 rfl ?_
      refine zgx_i ?_
      exact zg_iret C0 dL_pass_16 rfl rfl (Nat.le_of_ble_eq_true rfl) (Nat.le_of_ble_eq_true rfl) hw
    · refine Or.inr ⟨hE, fun xq => ?_⟩
      refine zg_astore (q := 19) (lv' := [(4, .ref xq), (0, .ref p0), (1, .int p1), (2, .int p2), (3, .ref p3)]) C0 dL_pass_17 (by decide) rfl rfl ?_
      refine zg_iconst (q := 20) C0 dL_pass_19 zc_iconst_2 rfl ?_
      refine zgx_i ?_
      exact zg_iret C0 dL_pass_20 rfl rfl (Nat.le_of_ble_eq_true rfl) (Nat.le_of_ble_eq_true rfl) hw
  · refine zg_i2l (q := 9) C0 dL_pass_8 rfl ?_
    obtain ⟨hz4, hw⟩ := hw
    obtain ⟨hi5, hw⟩ := hw
    refine zg_last (q := 10) C0 dL_pass_9 hz4 hi5 rfl (fun S6 eS6 => ?_)
    have hw := hw S6 eS6
    refine zg_goto (tgt := 21) C0 dL_pass_10 rfl ?_
    refine zg_iconst (q := 22) C0 dL_pass_21 zc_iconst_0 rfl ?_
    refine zgx_i ?_
    exact zg_iret C0 dL_pass_22 rfl rfl (Nat.le_of_ble_eq_true rfl) (Nat.le_of_ble_eq_true rfl) hw
-- L_gather
abbrev rm_L_gather : Room := { frames := 8, cells := 2, slots := 12, locals := 171 }
theorem hdS_L_gather : yL_gather.cls ≠ "java/lang/invoke/MethodHandle" ∧ yL_gather.cls ≠ "java/lang/invoke/VarHandle" ∧ (parseMethodDescriptor yL_gather.desc).map (fun d => d.parameters.length) = some 3 := by decide +kernel
def w_L_gather (Z : zZ) (p0 : Nat) (p1 : Int32) (p2 : Nat) (S : zS) (Qp : Int32 → zS → Prop) : Prop :=
  zk Z p0 6 ∧ w_X6_gather Z p0 p1 S (fun (v3 : Int32) (S2 : zS) => zk Z p2 9 ∧ vp_in 0 (zN Z p2) ∧ ∀ S6 : zS, S6 = zsJ S2 p2 (0 : Int32).toNatClampNeg ((v3 : Int32).toInt64) → Qp 0 S6) (fun (E : String) (Sx : zS) => (E = "java/lang/IndexOutOfBoundsException" ∧ Qp 1 Sx) ∨ (E = "java/lang/IllegalStateException" ∧ Qp 2 Sx))
set_option maxHeartbeats 4000000 in
set_option maxRecDepth 100000 in
theorem a_L_gather (l : Launch) (D : va_G) (cy : Nat → ClassId) (Z : zZ) (S : zS) (sz : Nat) (p0 : Nat) (p1 : Int32) (p2 : Nat) (Qp : Int32 → zS → Prop) (hl0 : l.stackTraces = false) (hw : w_L_gather Z p0 p1 p2 S Qp) : zNi l yL_gather wsL_gather rm_L_gather D cy Z S sz [.ref p0, .int p1, .ref p2] Qp (fun _ _ => False) := by
  unfold w_L_gather at hw
  refine zNi_ofH (hh := [(0, 9, 12, 13), (0, 9, 15, 15)]) (cc := cL_gather) (maxL := 4) (rt := (some .int)) (by decide +kernel) rfl (Nat.le_of_ble_eq_true rfl) ?_
  intro p e s m args below meth c A C0 hH
  refine zg_lv (lv' := [(0, .ref p0), (1, .int p1), (2, .ref p2)]) rfl ?_
  refine zg_aload_n (q := 1) C0 2 dL_gather_0 rfl rfl ?_
  refine zg_iconst (q := 2) C0 dL_gather_1 zc_iconst_0 rfl ?_
  refine zg_aload_n (q := 3) C0 0 dL_gather_2 rfl rfl ?_
  refine zg_iload_n (q := 4) C0 1 dL_gather_3 rfl rfl ?_
  obtain ⟨hz1, hw⟩ := hw
  refine zgc_call2i (q := 7) (k := 2) (n := 12) C0 [.int p1] [.int 0, .ref p2] hH (by decide) (by decide) (by decide) (zwm (i := 1) rfl) (zwm (i := 8) rfl) (by decide) (zwm (i := 2) rfl) (zwm (i := 7) rfl) C0.2.1.2.2.2.2.2.2.2.2.1 dL_gather_4 (fun sz => a_X6_gather l D cy Z S sz p0 p1 _ _ hl0 hw) rfl gL_gather_X6_gather hdV_X6_gather hz1 (zF_6 cy hz1) rfl rfl ⟨Nat.le_of_ble_eq_true rfl, Nat.le_of_ble_eq_true rfl⟩ (Nat.le_of_ble_eq_true rfl) ⟨Nat.le_of_ble_eq_true rfl, Nat.le_of_ble_eq_true rfl⟩ ⟨rfl, rfl⟩ rfl (fun E Sx hX => ?_) (fun v3 S2 hw => ?_)
  · rcases hX with ⟨hE, hw⟩ | ⟨hE, hw⟩
    · refine Or.inl ⟨hE, fun xq => ?_⟩
      refine zg_astore_n (q := 13) (lv' := [(3, .ref xq), (0, .ref p0), (1, .int p1), (2, .ref p2)]) C0 dL_gather_12 (by decide) rfl rfl ?_
      refine zg_iconst (q := 14) C0 dL_gather_13 zc_iconst_1 rfl ?_
      refine zgx_i ?_
      exact zg_iret C0 dL_gather_14 rfl rfl (Nat.le_of_ble_eq_true rfl) (Nat.le_of_ble_eq_true rfl) hw
    · refine Or.inr ⟨hE, fun xq => ?_⟩
      refine zg_astore_n (q := 16) (lv' := [(3, .ref xq), (0, .ref p0), (1, .int p1), (2, .ref p2)]) C0 dL_gather_15 (by decide) rfl rfl ?_
      refine zg_iconst (q := 17) C0 dL_gather_16 zc_iconst_2 rfl ?_
      refine zgx_i ?_
      exact zg_iret C0 dL_gather_17 rfl rfl (Nat.le_of_ble_eq_true rfl) (Nat.le_of_ble_eq_true rfl) hw
  · refine zg_i2l (q := 8) C0 dL_gather_7 rfl ?_
    obtain ⟨hz4, hw⟩ := hw
    obtain ⟨hi5, hw⟩ := hw
    refine zg_last (q := 9) C0 dL_gather_8 hz4 hi5 rfl (fun S6 eS6 => ?_)
    have hw := hw S6 eS6
    refine zg_goto (tgt := 18) C0 dL_gather_9 rfl ?_
    refine zg_iconst (q := 19) C0 dL_gather_18 zc_iconst_0 rfl ?_
    refine zgx_i ?_
    exact zg_iret C0 dL_gather_19 rfl rfl (Nat.le_of_ble_eq_true rfl) (Nat.le_of_ble_eq_true rfl) hw
-- L_part
abbrev rm_L_part : Room := { frames := 8, cells := 2, slots := 12, locals := 144 }
theorem hdS_L_part : yL_part.cls ≠ "java/lang/invoke/MethodHandle" ∧ yL_part.cls ≠ "java/lang/invoke/VarHandle" ∧ (parseMethodDescriptor yL_part.desc).map (fun d => d.parameters.length) = some 3 := by decide +kernel
def w_L_part (Z : zZ) (p0 : Nat) (p1 : Int32) (p2 : Int32) (S : zS) (Qp : Int32 → zS → Prop) : Prop :=
  zk Z p0 6 ∧ w_X6_part Z p0 p1 p2 S (fun (S2 : zS) => Qp 0 S2) (fun (E : String) (Sx : zS) => (E = "java/lang/IndexOutOfBoundsException" ∧ Qp 1 Sx) ∨ (E = "java/lang/IllegalArgumentException" ∧ Qp 2 Sx))
set_option maxHeartbeats 4000000 in
set_option maxRecDepth 100000 in
theorem a_L_part (l : Launch) (D : va_G) (cy : Nat → ClassId) (Z : zZ) (S : zS) (sz : Nat) (p0 : Nat) (p1 : Int32) (p2 : Int32) (Qp : Int32 → zS → Prop) (hl0 : l.stackTraces = false) (hw : w_L_part Z p0 p1 p2 S Qp) : zNi l yL_part wsL_part rm_L_part D cy Z S sz [.ref p0, .int p1, .int p2] Qp (fun _ _ => False) := by
  unfold w_L_part at hw
  refine zNi_ofH (hh := [(0, 6, 9, 13), (0, 6, 12, 29)]) (cc := cL_part) (maxL := 4) (rt := (some .int)) (by decide +kernel) rfl (Nat.le_of_ble_eq_true rfl) ?_
  intro p e s m args below meth c A C0 hH
  refine zg_lv (lv' := [(0, .ref p0), (1, .int p1), (2, .int p2)]) rfl ?_
  refine zg_aload_n (q := 1) C0 0 dL_part_0 rfl rfl ?_
  refine zg_iload_n (q := 2) C0 1 dL_part_1 rfl rfl ?_
  refine zg_iload_n (q := 3) C0 2 dL_part_2 rfl rfl ?_
  obtain ⟨hz1, hw⟩ := hw
  refine zgc_call2v (q := 6) (k := 2) (n := 12) C0 [.int p1, .int p2] [] hH (by decide) (by decide) (by decide) (zwm (i := 1) rfl) (zwm (i := 8) rfl) (by decide) (zwm (i := 2) rfl) (zwm (i := 9) rfl) C0.2.1.2.2.2.2.2.2.2.2.2 dL_part_3 (fun sz => a_X6_part l D cy Z S sz p0 p1 p2 _ _ hl0 hw) rfl gL_part_X6_part hdV_X6_part hz1 (zF_6 cy hz1) rfl rfl ⟨Nat.le_of_ble_eq_true rfl, Nat.le_of_ble_eq_true rfl⟩ (Nat.le_of_ble_eq_true rfl) ⟨Nat.le_of_ble_eq_true rfl, Nat.le_of_ble_eq_true rfl⟩ ⟨rfl, rfl⟩ rfl (fun E Sx hX => ?_) (fun S2 hw => ?_)
  · rcases hX with ⟨hE, hw⟩ | ⟨hE, hw⟩
    · refine Or.inl ⟨hE, fun xq => ?_⟩
      refine zg_astore_n (q := 10) (lv' := [(3, .ref xq), (0, .ref p0), (1, .int p1), (2, .int p2)]) C0 dL_part_9 (by decide) rfl rfl ?_
      refine zg_iconst (q := 11) C0 dL_part_10 zc_iconst_1 rfl ?_
      refine zgx_i ?_
      exact zg_iret C0 dL_part_11 rfl rfl (Nat.le_of_ble_eq_true rfl) (Nat.le_of_ble_eq_true rfl) hw
    · refine Or.inr ⟨hE, fun xq => ?_⟩
      refine zg_astore_n (q := 13) (lv' := [(3, .ref xq), (0, .ref p0), (1, .int p1), (2, .int p2)]) C0 dL_part_12 (by decide) rfl rfl ?_
      refine zg_iconst (q := 14) C0 dL_part_13 zc_iconst_2 rfl ?_
      refine zgx_i ?_
      exact zg_iret C0 dL_part_14 rfl rfl (Nat.le_of_ble_eq_true rfl) (Nat.le_of_ble_eq_true rfl) hw
  · refine zg_goto (tgt := 15) C0 dL_part_6 rfl ?_
    refine zg_iconst (q := 16) C0 dL_part_15 zc_iconst_0 rfl ?_
    refine zgx_i ?_
    exact zg_iret C0 dL_part_16 rfl rfl (Nat.le_of_ble_eq_true rfl) (Nat.le_of_ble_eq_true rfl) hw
-- L_crash
abbrev rm_L_crash : Room := { frames := 8, cells := 2, slots := 12, locals := 143 }
theorem hdS_L_crash : yL_crash.cls ≠ "java/lang/invoke/MethodHandle" ∧ yL_crash.cls ≠ "java/lang/invoke/VarHandle" ∧ (parseMethodDescriptor yL_crash.desc).map (fun d => d.parameters.length) = some 2 := by decide +kernel
def w_L_crash (Z : zZ) (p0 : Nat) (p1 : Int32) (S : zS) (Qp : Int32 → zS → Prop) : Prop :=
  zk Z p0 6 ∧ w_X6_crash Z p0 p1 S (fun (S2 : zS) => Qp 0 S2) (fun (E : String) (Sx : zS) => (E = "java/lang/IndexOutOfBoundsException" ∧ Qp 1 Sx) ∨ (E = "java/lang/IllegalStateException" ∧ Qp 2 Sx))
set_option maxHeartbeats 4000000 in
set_option maxRecDepth 100000 in
theorem a_L_crash (l : Launch) (D : va_G) (cy : Nat → ClassId) (Z : zZ) (S : zS) (sz : Nat) (p0 : Nat) (p1 : Int32) (Qp : Int32 → zS → Prop) (hl0 : l.stackTraces = false) (hw : w_L_crash Z p0 p1 S Qp) : zNi l yL_crash wsL_crash rm_L_crash D cy Z S sz [.ref p0, .int p1] Qp (fun _ _ => False) := by
  unfold w_L_crash at hw
  refine zNi_ofH (hh := [(0, 5, 8, 13), (0, 5, 11, 15)]) (cc := cL_crash) (maxL := 3) (rt := (some .int)) (by decide +kernel) rfl (Nat.le_of_ble_eq_true rfl) ?_
  intro p e s m args below meth c A C0 hH
  refine zg_lv (lv' := [(0, .ref p0), (1, .int p1)]) rfl ?_
  refine zg_aload_n (q := 1) C0 0 dL_crash_0 rfl rfl ?_
  refine zg_iload_n (q := 2) C0 1 dL_crash_1 rfl rfl ?_
  obtain ⟨hz1, hw⟩ := hw
  refine zgc_call2v (q := 5) (k := 2) (n := 12) C0 [.int p1] [] hH (by decide) (by decide) (by decide) (zwm (i := 1) rfl) (zwm (i := 8) rfl) (by decide) (zwm (i := 2) rfl) (zwm (i := 7) rfl) C0.2.1.2.2.2.2.2.2.2.2.1 dL_crash_2 (fun sz => a_X6_crash l D cy Z S sz p0 p1 _ _ hl0 hw) rfl gL_crash_X6_crash hdV_X6_crash hz1 (zF_6 cy hz1) rfl rfl ⟨Nat.le_of_ble_eq_true rfl, Nat.le_of_ble_eq_true rfl⟩ (Nat.le_of_ble_eq_true rfl) ⟨Nat.le_of_ble_eq_true rfl, Nat.le_of_ble_eq_true rfl⟩ ⟨rfl, rfl⟩ rfl (fun E Sx hX => ?_) (fun S2 hw => ?_)
  · rcases hX with ⟨hE, hw⟩ | ⟨hE, hw⟩
    · refine Or.inl ⟨hE, fun xq => ?_⟩
      refine zg_astore_n (q := 9) (lv' := [(2, .ref xq), (0, .ref p0), (1, .int p1)]) C0 dL_crash_8 (by decide) rfl rfl ?_
      refine zg_iconst (q := 10) C0 dL_crash_9 zc_iconst_1 rfl ?_
      refine zgx_i ?_
      exact zg_iret C0 dL_crash_10 rfl rfl (Nat.le_of_ble_eq_true rfl) (Nat.le_of_ble_eq_true rfl) hw
    · refine Or.inr ⟨hE, fun xq => ?_⟩
      refine zg_astore_n (q := 12) (lv' := [(2, .ref xq), (0, .ref p0), (1, .int p1)]) C0 dL_crash_11 (by decide) rfl rfl ?_
      refine zg_iconst (q := 13) C0 dL_crash_12 zc_iconst_2 rfl ?_
      refine zgx_i ?_
      exact zg_iret C0 dL_crash_13 rfl rfl (Nat.le_of_ble_eq_true rfl) (Nat.le_of_ble_eq_true rfl) hw
  · refine zg_goto (tgt := 14) C0 dL_crash_5 rfl ?_
    refine zg_iconst (q := 15) C0 dL_crash_14 zc_iconst_0 rfl ?_
    refine zgx_i ?_
    exact zg_iret C0 dL_crash_15 rfl rfl (Nat.le_of_ble_eq_true rfl) (Nat.le_of_ble_eq_true rfl) hw
-- L_restart
abbrev rm_L_restart : Room := { frames := 8, cells := 2, slots := 12, locals := 143 }
theorem hdS_L_restart : yL_restart.cls ≠ "java/lang/invoke/MethodHandle" ∧ yL_restart.cls ≠ "java/lang/invoke/VarHandle" ∧ (parseMethodDescriptor yL_restart.desc).map (fun d => d.parameters.length) = some 2 := by decide +kernel
def w_L_restart (Z : zZ) (p0 : Nat) (p1 : Int32) (S : zS) (Qp : Int32 → zS → Prop) : Prop :=
  zk Z p0 6 ∧ w_X6_restart Z p0 p1 S (fun (S2 : zS) => Qp 0 S2) (fun (E : String) (Sx : zS) => (E = "java/lang/IndexOutOfBoundsException" ∧ Qp 1 Sx) ∨ (E = "java/lang/IllegalStateException" ∧ Qp 2 Sx))
set_option maxHeartbeats 4000000 in
set_option maxRecDepth 100000 in
theorem a_L_restart (l : Launch) (D : va_G) (cy : Nat → ClassId) (Z : zZ) (S : zS) (sz : Nat) (p0 : Nat) (p1 : Int32) (Qp : Int32 → zS → Prop) (hl0 : l.stackTraces = false) (hw : w_L_restart Z p0 p1 S Qp) : zNi l yL_restart wsL_restart rm_L_restart D cy Z S sz [.ref p0, .int p1] Qp (fun _ _ => False) := by
  unfold w_L_restart at hw
  refine zNi_ofH (hh := [(0, 5, 8, 13), (0, 5, 11, 15)]) (cc := cL_restart) (maxL := 3) (rt := (some .int)) (by decide +kernel) rfl (Nat.le_of_ble_eq_true rfl) ?_
  intro p e s m args below meth c A C0 hH
  refine zg_lv (lv' := [(0, .ref p0), (1, .int p1)]) rfl ?_
  refine zg_aload_n (q := 1) C0 0 dL_restart_0 rfl rfl ?_
  refine zg_iload_n (q := 2) C0 1 dL_restart_1 rfl rfl ?_
  obtain ⟨hz1, hw⟩ := hw
  refine zgc_call2v (q := 5) (k := 2) (n := 12) C0 [.int p1] [] hH (by decide) (by decide) (by decide) (zwm (i := 1) rfl) (zwm (i := 8) rfl) (by decide) (zwm (i := 2) rfl) (zwm (i := 7) rfl) C0.2.1.2.2.2.2.2.2.2.2.1 dL_restart_2 (fun sz => a_X6_restart l D cy Z S sz p0 p1 _ _ hl0 hw) rfl gL_restart_X6_restart hdV_X6_restart hz1 (zF_6 cy hz1) rfl rfl ⟨Nat.le_of_ble_eq_true rfl, Nat.le_of_ble_eq_true rfl⟩ (Nat.le_of_ble_eq_true rfl) ⟨Nat.le_of_ble_eq_true rfl, Nat.le_of_ble_eq_true rfl⟩ ⟨rfl, rfl⟩ rfl (fun E Sx hX => ?_) (fun S2 hw => ?_)
  · rcases hX with ⟨hE, hw⟩ | ⟨hE, hw⟩
    · refine Or.inl ⟨hE, fun xq => ?_⟩
      refine zg_astore_n (q := 9) (lv' := [(2, .ref xq), (0, .ref p0), (1, .int p1)]) C0 dL_restart_8 (by decide) rfl rfl ?_
      refine zg_iconst (q := 10) C0 dL_restart_9 zc_iconst_1 rfl ?_
      refine zgx_i ?_
      exact zg_iret C0 dL_restart_10 rfl rfl (Nat.le_of_ble_eq_true rfl) (Nat.le_of_ble_eq_true rfl) hw
    · refine Or.inr ⟨hE, fun xq => ?_⟩
      refine zg_astore_n (q := 12) (lv' := [(2, .ref xq), (0, .ref p0), (1, .int p1)]) C0 dL_restart_11 (by decide) rfl rfl ?_
      refine zg_iconst (q := 13) C0 dL_restart_12 zc_iconst_2 rfl ?_
      refine zgx_i ?_
      exact zg_iret C0 dL_restart_13 rfl rfl (Nat.le_of_ble_eq_true rfl) (Nat.le_of_ble_eq_true rfl) hw
  · refine zg_goto (tgt := 14) C0 dL_restart_5 rfl ?_
    refine zg_iconst (q := 15) C0 dL_restart_14 zc_iconst_0 rfl ?_
    refine zgx_i ?_
    exact zg_iret C0 dL_restart_15 rfl rfl (Nat.le_of_ble_eq_true rfl) (Nat.le_of_ble_eq_true rfl) hw
-- L_about
abbrev rm_L_about : Room := { frames := 8, cells := 2, slots := 12, locals := 144 }
theorem hdS_L_about : yL_about.cls ≠ "java/lang/invoke/MethodHandle" ∧ yL_about.cls ≠ "java/lang/invoke/VarHandle" ∧ (parseMethodDescriptor yL_about.desc).map (fun d => d.parameters.length) = some 4 := by decide +kernel
def w_L_about (Z : zZ) (p0 : Nat) (p1 : Int32) (p2 : Int32) (p3 : Nat) (S : zS) (Qp : Int32 → zS → Prop) : Prop :=
  zk Z p0 6 ∧ w_X6_about Z p0 p1 p2 S (fun (v3 : Int32) (S2 : zS) => zk Z p3 9 ∧ vp_in 0 (zN Z p3) ∧ ∀ S6 : zS, S6 = zsJ S2 p3 (0 : Int32).toNatClampNeg ((v3 : Int32).toInt64) → Qp 0 S6) (fun (E : String) (Sx : zS) => (E = "java/lang/IndexOutOfBoundsException" ∧ Qp 1 Sx) ∨ (E = "java/lang/IllegalArgumentException" ∧ Qp 2 Sx))
set_option maxHeartbeats 4000000 in
set_option maxRecDepth 100000 in
theorem a_L_about (l : Launch) (D : va_G) (cy : Nat → ClassId) (Z : zZ) (S : zS) (sz : Nat) (p0 : Nat) (p1 : Int32) (p2 : Int32) (p3 : Nat) (Qp : Int32 → zS → Prop) (hl0 : l.stackTraces = false) (hw : w_L_about Z p0 p1 p2 p3 S Qp) : zNi l yL_about wsL_about rm_L_about D cy Z S sz [.ref p0, .int p1, .int p2, .ref p3] Qp (fun _ _ => False) := by
  unfold w_L_about at hw
  refine zNi_ofH (hh := [(0, 10, 13, 13), (0, 10, 17, 29)]) (cc := cL_about) (maxL := 5) (rt := (some .int)) (by decide +kernel) rfl (Nat.le_of_ble_eq_true rfl) ?_
  intro p e s m args below meth c A C0 hH
  refine zg_lv (lv' := [(0, .ref p0), (1, .int p1), (2, .int p2), (3, .ref p3)]) rfl ?_
  refine zg_aload_n (q := 1) C0 3 dL_about_0 rfl rfl ?_
  refine zg_iconst (q := 2) C0 dL_about_1 zc_iconst_0 rfl ?_
  refine zg_aload_n (q := 3) C0 0 dL_about_2 rfl rfl ?_
  refine zg_iload_n (q := 4) C0 1 dL_about_3 rfl rfl ?_
  refine zg_iload_n (q := 5) C0 2 dL_about_4 rfl rfl ?_
  obtain ⟨hz1, hw⟩ := hw
  refine zgc_call2i (q := 8) (k := 2) (n := 12) C0 [.int p1, .int p2] [.int 0, .ref p3] hH (by decide) (by decide) (by decide) (zwm (i := 1) rfl) (zwm (i := 8) rfl) (by decide) (zwm (i := 2) rfl) (zwm (i := 9) rfl) C0.2.1.2.2.2.2.2.2.2.2.2 dL_about_5 (fun sz => a_X6_about l D cy Z S sz p0 p1 p2 _ _ hl0 hw) rfl gL_about_X6_about hdV_X6_about hz1 (zF_6 cy hz1) rfl rfl ⟨Nat.le_of_ble_eq_true rfl, Nat.le_of_ble_eq_true rfl⟩ (Nat.le_of_ble_eq_true rfl) ⟨Nat.le_of_ble_eq_true rfl, Nat.le_of_ble_eq_true rfl⟩ ⟨rfl, rfl⟩ rfl (fun E Sx hX => ?_) (fun v3 S2 hw => ?_)
  · rcases hX with ⟨hE, hw⟩ | ⟨hE, hw⟩
    · refine Or.inl ⟨hE, fun xq => ?_⟩
      refine zg_astore (q := 15) (lv' := [(4, .ref xq), (0, .ref p0), (1, .int p1), (2, .int p2), (3, .ref p3)]) C0 dL_about_13 (by decide) rfl rfl ?_
      refine zg_iconst (q := 16) C0 dL_about_15 zc_iconst_1 rfl ?_
      refine zgx_i ?_
      exact zg_iret C0 dL_about_16 rfl rfl (Nat.le_of_ble_eq_true rfl) (Nat.le_of_ble_eq_true rfl) hw
    · refine Or.inr ⟨hE, fun xq => ?_⟩
      refine zg_astore (q := 19) (lv' := [(4, .ref xq), (0, .ref p0), (1, .int p1), (2, .int p2), (3, .ref p3)]) C0 dL_about_17 (by decide) rfl rfl ?_
      refine zg_iconst (q := 20) C0 dL_about_19 zc_iconst_2 rfl ?_
      refine zgx_i ?_
      exact zg_iret C0 dL_about_20 rfl rfl (Nat.le_of_ble_eq_true rfl) (Nat.le_of_ble_eq_true rfl) hw
  · refine zg_i2l (q := 9) C0 dL_about_8 rfl ?_
    obtain ⟨hz4, hw⟩ := hw
    obtain ⟨hi5, hw⟩ := hw
    refine zg_last (q := 10) C0 dL_about_9 hz4 hi5 rfl (fun S6 eS6 => ?_)
    have hw := hw S6 eS6
    refine zg_goto (tgt := 21) C0 dL_about_10 rfl ?_
    refine zg_iconst (q := 22) C0 dL_about_21 zc_iconst_0 rfl ?_
    refine zgx_i ?_
    exact zg_iret C0 dL_about_22 rfl rfl (Nat.le_of_ble_eq_true rfl) (Nat.le_of_ble_eq_true rfl) hw
-- L_table
abbrev rm_L_table : Room := { frames := 8, cells := 2, slots := 12, locals := 144 }
theorem hdS_L_table : yL_table.cls ≠ "java/lang/invoke/MethodHandle" ∧ yL_table.cls ≠ "java/lang/invoke/VarHandle" ∧ (parseMethodDescriptor yL_table.desc).map (fun d => d.parameters.length) = some 4 := by decide +kernel
def w_L_table (Z : zZ) (p0 : Nat) (p1 : Int32) (p2 : Int32) (p3 : Nat) (S : zS) (Qp : Int32 → zS → Prop) : Prop :=
  zk Z p0 6 ∧ w_X6_table Z p0 p1 p2 S (fun (v3 : Int64) (S2 : zS) => zk Z p3 9 ∧ vp_in 0 (zN Z p3) ∧ ∀ S6 : zS, S6 = zsJ S2 p3 (0 : Int32).toNatClampNeg v3 → Qp 0 S6) (fun (E : String) (Sx : zS) => (E = "java/lang/IndexOutOfBoundsException" ∧ Qp 1 Sx))
set_option maxHeartbeats 4000000 in
set_option maxRecDepth 100000 in
theorem a_L_table (l : Launch) (D : va_G) (cy : Nat → ClassId) (Z : zZ) (S : zS) (sz : Nat) (p0 : Nat) (p1 : Int32) (p2 : Int32) (p3 : Nat) (Qp : Int32 → zS → Prop) (hl0 : l.stackTraces = false) (hw : w_L_table Z p0 p1 p2 p3 S Qp) : zNi l yL_table wsL_table rm_L_table D cy Z S sz [.ref p0, .int p1, .int p2, .ref p3] Qp (fun _ _ => False) := by
  unfold w_L_table at hw
  refine zNi_ofH (hh := [(0, 9, 12, 13)]) (cc := cL_table) (maxL := 5) (rt := (some .int)) (by decide +kernel) rfl (Nat.le_of_ble_eq_true rfl) ?_
  intro p e s m args below meth c A C0 hH
  refine zg_lv (lv' := [(0, .ref p0), (1, .int p1), (2, .int p2), (3, .ref p3)]) rfl ?_
  refine zg_aload_n (q := 1) C0 3 dL_table_0 rfl rfl ?_
  refine zg_iconst (q := 2) C0 dL_table_1 zc_iconst_0 rfl ?_
  refine zg_aload_n (q := 3) C0 0 dL_table_2 rfl rfl ?_
  refine zg_iload_n (q := 4) C0 1 dL_table_3 rfl rfl ?_
  refine zg_iload_n (q := 5) C0 2 dL_table_4 rfl rfl ?_
  obtain ⟨hz1, hw⟩ := hw
  refine zgc_call1l (q := 8) (k := 2) (n := 12) C0 [.int p1, .int p2] [.int 0, .ref p3] hH (by decide) (by decide) (zwm (i := 1) rfl) (zwm (i := 8) rfl) dL_table_5 (fun sz => a_X6_table l D cy Z S sz p0 p1 p2 _ _ hl0 hw) rfl gL_table_X6_table hdV_X6_table hz1 (zF_6 cy hz1) rfl rfl ⟨Nat.le_of_ble_eq_true rfl, Nat.le_of_ble_eq_true rfl⟩ (Nat.le_of_ble_eq_true rfl) ⟨Nat.le_of_ble_eq_true rfl, Nat.le_of_ble_eq_true rfl⟩ ⟨rfl, rfl⟩ rfl (fun E Sx hX => ?_) (fun v3 S2 hw => ?_)
  · obtain ⟨hE, hw⟩ := hX
    refine ⟨hE, fun xq => ?_⟩
    refine zg_astore (q := 14) (lv' := [(4, .ref xq), (0, .ref p0), (1, .int p1), (2, .int p2), (3, .ref p3)]) C0 dL_table_12 (by decide) rfl rfl ?_
    refine zg_iconst (q := 15) C0 dL_table_14 zc_iconst_1 rfl ?_
    refine zgx_i ?_
    exact zg_iret C0 dL_table_15 rfl rfl (Nat.le_of_ble_eq_true rfl) (Nat.le_of_ble_eq_true rfl) hw
  · obtain ⟨hz4, hw⟩ := hw
    obtain ⟨hi5, hw⟩ := hw
    refine zg_last (q := 9) C0 dL_table_8 hz4 hi5 rfl (fun S6 eS6 => ?_)
    have hw := hw S6 eS6
    refine zg_goto (tgt := 16) C0 dL_table_9 rfl ?_
    refine zg_iconst (q := 17) C0 dL_table_16 zc_iconst_0 rfl ?_
    refine zgx_i ?_
    exact zg_iret C0 dL_table_17 rfl rfl (Nat.le_of_ble_eq_true rfl) (Nat.le_of_ble_eq_true rfl) hw
-- L_mark
abbrev rm_L_mark : Room := { frames := 8, cells := 1, slots := 6, locals := 142 }
theorem hdS_L_mark : yL_mark.cls ≠ "java/lang/invoke/MethodHandle" ∧ yL_mark.cls ≠ "java/lang/invoke/VarHandle" ∧ (parseMethodDescriptor yL_mark.desc).map (fun d => d.parameters.length) = some 3 := by decide +kernel
def w_L_mark (Z : zZ) (p0 : Nat) (p1 : Int32) (p2 : Nat) (S : zS) (Qp : Int32 → zS → Prop) : Prop :=
  zk Z p0 6 ∧ w_X6_mark Z p0 p1 S (fun (v3 : Int64) (S2 : zS) => zk Z p2 9 ∧ vp_in 0 (zN Z p2) ∧ ∀ S6 : zS, S6 = zsJ S2 p2 (0 : Int32).toNatClampNeg v3 → Qp 0 S6) (fun (E : String) (Sx : zS) => (E = "java/lang/IndexOutOfBoundsException" ∧ Qp 1 Sx))
set_option maxHeartbeats 4000000 in
set_option maxRecDepth 100000 in
theorem a_L_mark (l : Launch) (D : va_G) (cy : Nat → ClassId) (Z : zZ) (S : zS) (sz : Nat) (p0 : Nat) (p1 : Int32) (p2 : Nat) (Qp : Int32 → zS → Prop) (hl0 : l.stackTraces = false) (hw : w_L_mark Z p0 p1 p2 S Qp) : zNi l yL_mark wsL_mark rm_L_mark D cy Z S sz [.ref p0, .int p1, .ref p2] Qp (fun _ _ => False) := by
  unfold w_L_mark at hw
  refine zNi_ofH (hh := [(0, 8, 11, 13)]) (cc := cL_mark) (maxL := 4) (rt := (some .int)) (by decide +kernel) rfl (Nat.le_of_ble_eq_true rfl) ?_
  intro p e s m args below meth c A C0 hH
  refine zg_lv (lv' := [(0, .ref p0), (1, .int p1), (2, .ref p2)]) rfl ?_
  refine zg_aload_n (q := 1) C0 2 dL_mark_0 rfl rfl ?_
  refine zg_iconst (q := 2) C0 dL_mark_1 zc_iconst_0 rfl ?_
  refine zg_aload_n (q := 3) C0 0 dL_mark_2 rfl rfl ?_
  refine zg_iload_n (q := 4) C0 1 dL_mark_3 rfl rfl ?_
  obtain ⟨hz1, hw⟩ := hw
  refine zgc_call1l (q := 7) (k := 1) (n := 6) C0 [.int p1] [.int 0, .ref p2] hH (by decide) (by decide) (zwm (i := 1) rfl) (zwm (i := 8) rfl) dL_mark_4 (fun sz => a_X6_mark l D cy Z S sz p0 p1 _ _ hl0 hw) rfl gL_mark_X6_mark hdV_X6_mark hz1 (zF_6 cy hz1) rfl rfl ⟨Nat.le_of_ble_eq_true rfl, Nat.le_of_ble_eq_true rfl⟩ (Nat.le_of_ble_eq_true rfl) ⟨Nat.le_of_ble_eq_true rfl, Nat.le_of_ble_eq_true rfl⟩ ⟨rfl, rfl⟩ rfl (fun E Sx hX => ?_) (fun v3 S2 hw => ?_)
  · obtain ⟨hE, hw⟩ := hX
    refine ⟨hE, fun xq => ?_⟩
    refine zg_astore_n (q := 12) (lv' := [(3, .ref xq), (0, .ref p0), (1, .int p1), (2, .ref p2)]) C0 dL_mark_11 (by decide) rfl rfl ?_
    refine zg_iconst (q := 13) C0 dL_mark_12 zc_iconst_1 rfl ?_
    refine zgx_i ?_
    exact zg_iret C0 dL_mark_13 rfl rfl (Nat.le_of_ble_eq_true rfl) (Nat.le_of_ble_eq_true rfl) hw
  · obtain ⟨hz4, hw⟩ := hw
    obtain ⟨hi5, hw⟩ := hw
    refine zg_last (q := 8) C0 dL_mark_7 hz4 hi5 rfl (fun S6 eS6 => ?_)
    have hw := hw S6 eS6
    refine zg_goto (tgt := 14) C0 dL_mark_8 rfl ?_
    refine zg_iconst (q := 15) C0 dL_mark_14 zc_iconst_0 rfl ?_
    refine zgx_i ?_
    exact zg_iret C0 dL_mark_15 rfl rfl (Nat.le_of_ble_eq_true rfl) (Nat.le_of_ble_eq_true rfl) hw
-- L_entry
abbrev rm_L_entry : Room := { frames := 8, cells := 2, slots := 12, locals := 145 }
theorem hdS_L_entry : yL_entry.cls ≠ "java/lang/invoke/MethodHandle" ∧ yL_entry.cls ≠ "java/lang/invoke/VarHandle" ∧ (parseMethodDescriptor yL_entry.desc).map (fun d => d.parameters.length) = some 5 := by decide +kernel
def w_L_entry (Z : zZ) (p0 : Nat) (p1 : Int32) (p2 : Int32) (p3 : Int32) (p4 : Nat) (S : zS) (Qp : Int32 → zS → Prop) : Prop :=
  zk Z p0 6 ∧ w_X6_entry Z p0 p1 p2 p3 S (fun (v3 : Int64) (S2 : zS) => zk Z p4 9 ∧ vp_in 0 (zN Z p4) ∧ ∀ S6 : zS, S6 = zsJ S2 p4 (0 : Int32).toNatClampNeg v3 → Qp 0 S6) (fun (E : String) (Sx : zS) => (E = "java/lang/IndexOutOfBoundsException" ∧ Qp 1 Sx) ∨ (E = "java/lang/IllegalArgumentException" ∧ Qp 2 Sx))
set_option maxHeartbeats 4000000 in
set_option maxRecDepth 100000 in
theorem a_L_entry (l : Launch) (D : va_G) (cy : Nat → ClassId) (Z : zZ) (S : zS) (sz : Nat) (p0 : Nat) (p1 : Int32) (p2 : Int32) (p3 : Int32) (p4 : Nat) (Qp : Int32 → zS → Prop) (hl0 : l.stackTraces = false) (hw : w_L_entry Z p0 p1 p2 p3 p4 S Qp) : zNi l yL_entry wsL_entry rm_L_entry D cy Z S sz [.ref p0, .int p1, .int p2, .int p3, .ref p4] Qp (fun _ _ => False) := by
  unfold w_L_entry at hw
  refine zNi_ofH (hh := [(0, 11, 14, 13), (0, 11, 18, 29)]) (cc := cL_entry) (maxL := 6) (rt := (some .int)) (by decide +kernel) rfl (Nat.le_of_ble_eq_true rfl) ?_
  intro p e s m args below meth c A C0 hH
  refine zg_lv (lv' := [(0, .ref p0), (1, .int p1), (2, .int p2), (3, .int p3), (4, .ref p4)]) rfl ?_
  refine zg_aload (q := 2) C0 4 dL_entry_0 rfl rfl ?_
  refine zg_iconst (q := 3) C0 dL_entry_2 zc_iconst_0 rfl ?_
  refine zg_aload_n (q := 4) C0 0 dL_entry_3 rfl rfl ?_
  refine zg_iload_n (q := 5) C0 1 dL_entry_4 rfl rfl ?_
  refine zg_iload_n (q := 6) C0 2 dL_entry_5 rfl rfl ?_
  refine zg_iload_n (q := 7) C0 3 dL_entry_6 rfl rfl ?_
  obtain ⟨hz1, hw⟩ := hw
  refine zgc_call2l (q := 10) (k := 2) (n := 12) C0 [.int p1, .int p2, .int p3] [.int 0, .ref p4] hH (by decide) (by decide) (by decide) (zwm (i := 1) rfl) (zwm (i := 8) rfl) (by decide) (zwm (i := 2) rfl) (zwm (i := 9) rfl) C0.2.1.2.2.2.2.2.2.2.2.2 dL_entry_7 (fun sz => a_X6_entry l D cy Z S sz p0 p1 p2 p3 _ _ hl0 hw) rfl gL_entry_X6_entry hdV_X6_entry hz1 (zF_6 cy hz1) rfl rfl ⟨Nat.le_of_ble_eq_true rfl, Nat.le_of_ble_eq_true rfl⟩ (Nat.le_of_ble_eq_true rfl) ⟨Nat.le_of_ble_eq_true rfl, Nat.le_of_ble_eq_true rfl⟩ ⟨rfl, rfl⟩ rfl (fun E Sx hX => ?_) (fun v3 S2 hw => ?_)
  · rcases hX with ⟨hE, hw⟩ | ⟨hE, hw⟩
    · refine Or.inl ⟨hE, fun xq => ?_⟩
      refine zg_astore (q := 16) (lv' := [(5, .ref xq), (0, .ref p0), (1, .int p1), (2, .int p2), (3, .int p3), (4, .ref p4)]) C0 dL_entry_14 (by decide) rfl rfl ?_
      refine zg_iconst (q := 17) C0 dL_entry_16 zc_iconst_1 rfl ?_
      refine zgx_i ?_
      exact zg_iret C0 dL_entry_17 rfl rfl (Nat.le_of_ble_eq_true rfl) (Nat.le_of_ble_eq_true rfl) hw
    · refine Or.inr ⟨hE, fun xq => ?_⟩
      refine zg_astore (q := 20) (lv' := [(5, .ref xq), (0, .ref p0), (1, .int p1), (2, .int p2), (3, .int p3), (4, .ref p4)]) C0 dL_entry_18 (by decide) rfl rfl ?_
      refine zg_iconst (q := 21) C0 dL_entry_20 zc_iconst_2 rfl ?_
      refine zgx_i ?_
      exact zg_iret C0 dL_entry_21 rfl rfl (Nat.le_of_ble_eq_true rfl) (Nat.le_of_ble_eq_true rfl) hw
  · obtain ⟨hz4, hw⟩ := hw
    obtain ⟨hi5, hw⟩ := hw
    refine zg_last (q := 11) C0 dL_entry_10 hz4 hi5 rfl (fun S6 eS6 => ?_)
    have hw := hw S6 eS6
    refine zg_goto (tgt := 22) C0 dL_entry_11 rfl ?_
    refine zg_iconst (q := 23) C0 dL_entry_22 zc_iconst_0 rfl ?_
    refine zgx_i ?_
    exact zg_iret C0 dL_entry_23 rfl rfl (Nat.le_of_ble_eq_true rfl) (Nat.le_of_ble_eq_true rfl) hw
-- L_primary
abbrev rm_L_primary : Room := { frames := 8, cells := 1, slots := 6, locals := 142 }
theorem hdS_L_primary : yL_primary.cls ≠ "java/lang/invoke/MethodHandle" ∧ yL_primary.cls ≠ "java/lang/invoke/VarHandle" ∧ (parseMethodDescriptor yL_primary.desc).map (fun d => d.parameters.length) = some 3 := by decide +kernel
def w_L_primary (Z : zZ) (p0 : Nat) (p1 : Int32) (p2 : Nat) (S : zS) (Qp : Int32 → zS → Prop) : Prop :=
  zk Z p0 6 ∧ w_X6_primary Z p0 p1 S (fun (v3 : Int32) (S2 : zS) => ((v3 = 0 → zk Z p2 9 ∧ vp_in 0 (zN Z p2) ∧ ∀ S6 : zS, S6 = zsJ S2 p2 (0 : Int32).toNatClampNeg 0 → Qp 0 S6) ∧ (¬ v3 = 0 → zk Z p2 9 ∧ vp_in 0 (zN Z p2) ∧ ∀ S9 : zS, S9 = zsJ S2 p2 (0 : Int32).toNatClampNeg 1 → Qp 0 S9))) (fun (E : String) (Sx : zS) => (E = "java/lang/IndexOutOfBoundsException" ∧ Qp 1 Sx))
set_option maxHeartbeats 4000000 in
set_option maxRecDepth 100000 in
theorem a_L_primary (l : Launch) (D : va_G) (cy : Nat → ClassId) (Z : zZ) (S : zS) (sz : Nat) (p0 : Nat) (p1 : Int32) (p2 : Nat) (Qp : Int32 → zS → Prop) (hl0 : l.stackTraces = false) (hw : w_L_primary Z p0 p1 p2 S Qp) : zNi l yL_primary wsL_primary rm_L_primary D cy Z S sz [.ref p0, .int p1, .ref p2] Qp (fun _ _ => False) := by
  unfold w_L_primary at hw
  refine zNi_ofH (hh := [(0, 16, 19, 13)]) (cc := cL_primary) (maxL := 4) (rt := (some .int)) (by decide +kernel) rfl (Nat.le_of_ble_eq_true rfl) ?_
  intro p e s m args below meth c A C0 hH
  refine zg_lv (lv' := [(0, .ref p0), (1, .int p1), (2, .ref p2)]) rfl ?_
  refine zg_aload_n (q := 1) C0 2 dL_primary_0 rfl rfl ?_
  refine zg_iconst (q := 2) C0 dL_primary_1 zc_iconst_0 rfl ?_
  refine zg_aload_n (q := 3) C0 0 dL_primary_2 rfl rfl ?_
  refine zg_iload_n (q := 4) C0 1 dL_primary_3 rfl rfl ?_
  obtain ⟨hz1, hw⟩ := hw
  refine zgc_call1i (q := 7) (k := 1) (n := 6) C0 [.int p1] [.int 0, .ref p2] hH (by decide) (by decide) (zwm (i := 1) rfl) (zwm (i := 8) rfl) dL_primary_4 (fun sz => a_X6_primary l D cy Z S sz p0 p1 _ _ hl0 hw) rfl gL_primary_X6_primary hdV_X6_primary hz1 (zF_6 cy hz1) rfl rfl ⟨Nat.le_of_ble_eq_true rfl, Nat.le_of_ble_eq_true rfl⟩ (Nat.le_of_ble_eq_true rfl) ⟨Nat.le_of_ble_eq_true rfl, Nat.le_of_ble_eq_true rfl⟩ ⟨rfl, rfl⟩ rfl (fun E Sx hX => ?_) (fun v3 S2 hw => ?_)
  · obtain ⟨hE, hw⟩ := hX
    refine ⟨hE, fun xq => ?_⟩
    refine zg_astore_n (q := 20) (lv' := [(3, .ref xq), (0, .ref p0), (1, .int p1), (2, .ref p2)]) C0 dL_primary_19 (by decide) rfl rfl ?_
    refine zg_iconst (q := 21) C0 dL_primary_20 zc_iconst_1 rfl ?_
    refine zgx_i ?_
    exact zg_iret C0 dL_primary_21 rfl rfl (Nat.le_of_ble_eq_true rfl) (Nat.le_of_ble_eq_true rfl) hw
  · refine zg_if_eq (q := 10) (tgt := 14) C0 dL_primary_7 rfl rfl (fun c10 => ?_) (fun c10 => ?_)
    · have hw := hw.1 c10
      refine zg_lconst (q := 15) (v := 0) C0 dL_primary_14 (by decide) rfl ?_
      obtain ⟨hz4, hw⟩ := hw
      obtain ⟨hi5, hw⟩ := hw
      refine zg_last (q := 16) C0 dL_primary_15 hz4 hi5 rfl (fun S6 eS6 => ?_)
      have hw := hw S6 eS6
      refine zg_goto (tgt := 22) C0 dL_primary_16 rfl ?_
      refine zg_iconst (q := 23) C0 dL_primary_22 zc_iconst_0 rfl ?_
      refine zgx_i ?_
      exact zg_iret C0 dL_primary_23 rfl rfl (Nat.le_of_ble_eq_true rfl) (Nat.le_of_ble_eq_true rfl) hw
    · have hw := hw.2 c10
      refine zg_lconst (q := 11) (v := 1) C0 dL_primary_10 (by decide) rfl ?_
      refine zg_goto (tgt := 15) C0 dL_primary_11 rfl ?_
      obtain ⟨hz7, hw⟩ := hw
      obtain ⟨hi8, hw⟩ := hw
      refine zg_last (q := 16) C0 dL_primary_15 hz7 hi8 rfl (fun S9 eS9 => ?_)
      have hw := hw S9 eS9
      refine zg_goto (tgt := 22) C0 dL_primary_16 rfl ?_
      refine zg_iconst (q := 23) C0 dL_primary_22 zc_iconst_0 rfl ?_
      refine zgx_i ?_
      exact zg_iret C0 dL_primary_23 rfl rfl (Nat.le_of_ble_eq_true rfl) (Nat.le_of_ble_eq_true rfl) hw
