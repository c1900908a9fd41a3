-- X0_init
abbrev rm_X0_init : Room := { frames := 1, cells := 1, slots := 600, locals := 24 }
theorem hX_X0_init_0 : ∀ w ∈ u_ws RX0 TX0 2, w ∈ wsX0_init := by decide +kernel
theorem hdS_X0_init : yX0_init.cls ≠ "java/lang/invoke/MethodHandle" ∧ yX0_init.cls ≠ "java/lang/invoke/VarHandle" ∧ (parseMethodDescriptor yX0_init.desc).map (fun d => d.parameters.length) = some 0 := by decide +kernel
def w_X0_init (Z : zZ) (h0 : Nat) (S : zS) (Qp : zZ → zS → Prop) : Prop :=
  ∀ b1, b1 ∉ zL Z → ∀ (Z3 : zZ) (S4 : zS), Z3 = zalZ Z b1 9 600 → S4 = zalS S b1 → zk Z3 h0 0 ∧ ∀ Z7 : zZ, Z7 = zsQ Z3 h0 0 (some b1) → Qp Z7 S4
set_option maxHeartbeats 4000000 in
set_option maxRecDepth 100000 in
theorem a_X0_init (l : Launch) (D : va_G) (cy : Nat → ClassId) (Z : zZ) (S : zS) (sz : Nat) (h0 : Nat) (Qp : zZ → zS → Prop) (hw : w_X0_init Z h0 S Qp) : zMz l yX0_init wsX0_init rm_X0_init D cy Z S sz [.ref h0] Qp := by
  unfold w_X0_init at hw
  refine zMz_of (cc := cX0_init) (maxL := 1) (rt := none) (by decide +kernel) rfl (Nat.le_of_ble_eq_true rfl) ?_
  intro p e s m args below meth c A C0 hnm0
  refine zg_lv (lv' := [(0, .ref h0)]) rfl ?_
  refine zg_aload_n (q := 1) C0 0 dX0_init_0 rfl rfl ?_
  refine zg_objInit (q := 4) C0 dX0_init_1 (zwm (i := 1) rfl) (zwm (i := 2) rfl) (zwm (i := 3) rfl) (Nat.le_of_ble_eq_true rfl) (Nat.le_of_ble_eq_true rfl) rfl rfl ?_
  refine zg_aload_n (q := 5) C0 0 dX0_init_4 rfl rfl ?_
  refine zg_sipush (q := 8) C0 dX0_init_5 zc_sipush_600 rfl ?_
  refine zg_newaJ (q := 10) (N' := 600) (k := 1) (j := 600) C0 dX0_init_8 (zwm (i := 4) rfl) (by decide) (by decide) (by decide) ⟨rfl, rfl⟩ ⟨Nat.le_of_ble_eq_true rfl, Nat.le_of_ble_eq_true rfl⟩ rfl (fun b1 ha2 Z3 S4 eZ3 eS4 => ?_)
  have hw := hw b1 ha2 Z3 S4 eZ3 eS4
  have hz5 := zk_al' eZ3
  obtain ⟨hz6, hw⟩ := hw
  refine zg_putfQ (q := 13) (v := b1) (T := TX0) (k := 0) (ty0 := tyX0) C0 hnm0 dX0_init_10 hz6 (zF_0 cy hz6) rfl (by decide) hX_X0_init_0 tyX0_ok nmX0 (zwm (i := 5) rfl) rfl rfl rfl rfl rfl (Nat.le_of_ble_eq_true rfl) (zF_0 cy (zk_sQ hz6)) (zP_0_0 Z3 S4 _ (some _)) rfl (fun Z7 eZ7 => ?_)
  have hw := hw Z7 eZ7
  have hz8 := zk_sQ' eZ7 hz5
  have hz9 := zk_sQ' eZ7 hz6
  exact zg_vretz C0 dX0_init_13 rfl (Nat.le_of_ble_eq_true rfl) (Nat.le_of_ble_eq_true rfl) hw
-- X3_init
abbrev rm_X3_init : Room := { frames := 1, cells := 1, slots := 12, locals := 24 }
theorem hX_X3_init_3 : ∀ w ∈ u_ws RX3 TX3 2, w ∈ wsX3_init := by decide +kernel
theorem hdS_X3_init : yX3_init.cls ≠ "java/lang/invoke/MethodHandle" ∧ yX3_init.cls ≠ "java/lang/invoke/VarHandle" ∧ (parseMethodDescriptor yX3_init.desc).map (fun d => d.parameters.length) = some 0 := by decide +kernel
def w_X3_init (Z : zZ) (h0 : Nat) (S : zS) (Qp : zZ → zS → Prop) : Prop :=
  ∀ b1, b1 ∉ zL Z → ∀ (Z3 : zZ) (S4 : zS), Z3 = zalZ Z b1 11 12 → S4 = zalS S b1 → zk Z3 h0 3 ∧ ∀ Z7 : zZ, Z7 = zsQ Z3 h0 0 (some b1) → Qp Z7 S4
set_option maxHeartbeats 4000000 in
set_option maxRecDepth 100000 in
theorem a_X3_init (l : Launch) (D : va_G) (cy : Nat → ClassId) (Z : zZ) (S : zS) (sz : Nat) (h0 : Nat) (Qp : zZ → zS → Prop) (hw : w_X3_init Z h0 S Qp) : zMz l yX3_init wsX3_init rm_X3_init D cy Z S sz [.ref h0] Qp := by
  unfold w_X3_init at hw
  refine zMz_of (cc := cX3_init) (maxL := 1) (rt := none) (by decide +kernel) rfl (Nat.le_of_ble_eq_true rfl) ?_
  intro p e s m args below meth c A C0 hnm0
  refine zg_lv (lv' := [(0, .ref h0)]) rfl ?_
  refine zg_aload_n (q := 1) C0 0 dX3_init_0 rfl rfl ?_
  refine zg_objInit (q := 4) C0 dX3_init_1 (zwm (i := 1) rfl) (zwm (i := 2) rfl) (zwm (i := 3) rfl) (Nat.le_of_ble_eq_true rfl) (Nat.le_of_ble_eq_true rfl) rfl rfl ?_
  refine zg_aload_n (q := 5) C0 0 dX3_init_4 rfl rfl ?_
  refine zg_bipush (q := 7) C0 dX3_init_5 zc_bipush_12 rfl ?_
  refine zg_newq11 (q := 10) (N' := 12) (k := 1) (j := 12) C0 dX3_init_7 (zwm (i := 4) rfl) (by decide) (by decide) (by decide) ⟨rfl, rfl⟩ ⟨Nat.le_of_ble_eq_true rfl, Nat.le_of_ble_eq_true rfl⟩ rfl (fun b1 ha2 Z3 S4 eZ3 eS4 => ?_)
  have hw := hw b1 ha2 Z3 S4 eZ3 eS4
  have hz5 := zk_al' eZ3
  obtain ⟨hz6, hw⟩ := hw
  refine zg_putfQ (q := 13) (v := b1) (T := TX3) (k := 0) (ty0 := tyX3) C0 hnm0 dX3_init_10 hz6 (zF_3 cy hz6) rfl (by decide) hX_X3_init_3 tyX3_ok nmX3 (zwm (i := 5) rfl) rfl rfl rfl rfl rfl (Nat.le_of_ble_eq_true rfl) (zF_3 cy (zk_sQ hz6)) (zP_3_0 Z3 S4 _ (some _)) rfl (fun Z7 eZ7 => ?_)
  have hw := hw Z7 eZ7
  have hz8 := zk_sQ' eZ7 hz5
  have hz9 := zk_sQ' eZ7 hz6
  exact zg_vretz C0 dX3_init_13 rfl (Nat.le_of_ble_eq_true rfl) (Nat.le_of_ble_eq_true rfl) hw
-- X4_init
abbrev rm_X4_init : Room := { frames := 1, cells := 2, slots := 117, locals := 24 }
theorem hX_X4_init_4 : ∀ w ∈ u_ws RX4 TX4 5, w ∈ wsX4_init := by decide +kernel
theorem hdS_X4_init : yX4_init.cls ≠ "java/lang/invoke/MethodHandle" ∧ yX4_init.cls ≠ "java/lang/invoke/VarHandle" ∧ (parseMethodDescriptor yX4_init.desc).map (fun d => d.parameters.length) = some 0 := by decide +kernel
def w_X4_init (Z : zZ) (h0 : Nat) (S : zS) (Qp : zZ → zS → Prop) : Prop :=
  ∀ b1, b1 ∉ zL Z → ∀ (Z3 : zZ) (S4 : zS), Z3 = zalZ Z b1 9 16 → S4 = zalS S b1 → zk Z3 h0 4 ∧ ∀ Z7 : zZ, Z7 = zsQ Z3 h0 0 (some b1) → ∀ b10, b10 ∉ zL Z7 → ∀ (Z12 : zZ) (S13 : zS), Z12 = zalZ Z7 b10 11 101 → S13 = zalS S4 b10 → ∀ Z17 : zZ, Z17 = zsQ Z12 h0 1 (some b10) → Qp Z17 S13
set_option maxHeartbeats 4000000 in
set_option maxRecDepth 100000 in
theorem a_X4_init (l : Launch) (D : va_G) (cy : Nat → ClassId) (Z : zZ) (S : zS) (sz : Nat) (h0 : Nat) (Qp : zZ → zS → Prop) (hw : w_X4_init Z h0 S Qp) : zMz l yX4_init wsX4_init rm_X4_init D cy Z S sz [.ref h0] Qp := by
  unfold w_X4_init at hw
  refine zMz_of (cc := cX4_init) (maxL := 1) (rt := none) (by decide +kernel) rfl (Nat.le_of_ble_eq_true rfl) ?_
  intro p e s m args below meth c A C0 hnm0
  refine zg_lv (lv' := [(0, .ref h0)]) rfl ?_
  refine zg_aload_n (q := 1) C0 0 dX4_init_0 rfl rfl ?_
  refine zg_objInit (q := 4) C0 dX4_init_1 (zwm (i := 1) rfl) (zwm (i := 2) rfl) (zwm (i := 3) rfl) (Nat.le_of_ble_eq_true rfl) (Nat.le_of_ble_eq_true rfl) rfl rfl ?_
  refine zg_aload_n (q := 5) C0 0 dX4_init_4 rfl rfl ?_
  refine zg_bipush (q := 7) C0 dX4_init_5 zc_bipush_16 rfl ?_
  refine zg_newaJ (q := 9) (N' := 16) (k := 1) (j := 16) C0 dX4_init_7 (zwm (i := 4) rfl) (by decide) (by decide) (by decide) ⟨rfl, rfl⟩ ⟨Nat.le_of_ble_eq_true rfl, Nat.le_of_ble_eq_true rfl⟩ rfl (fun b1 ha2 Z3 S4 eZ3 eS4 => ?_)
  have hw := hw b1 ha2 Z3 S4 eZ3 eS4
  have hz5 := zk_al' eZ3
  obtain ⟨hz6, hw⟩ := hw
  refine zg_putfQ (q := 12) (v := b1) (T := TX4) (k := 0) (ty0 := tyX4) C0 hnm0 dX4_init_9 hz6 (zF_4 cy hz6) rfl (by decide) hX_X4_init_4 tyX4_ok nmX4 (zwm (i := 5) rfl) rfl rfl rfl rfl rfl (Nat.le_of_ble_eq_true rfl) (zF_4 cy (zk_sQ hz6)) (zP_4_0 Z3 S4 _ (some _)) rfl (fun Z7 eZ7 => ?_)
  have hw := hw Z7 eZ7
  have hz8 := zk_sQ' eZ7 hz5
  have hz9 := zk_sQ' eZ7 hz6
  refine zg_aload_n (q := 13) C0 0 dX4_init_12 rfl rfl ?_
  refine zg_bipush (q := 15) C0 dX4_init_13 zc_bipush_101 rfl ?_
  refine zg_newq11 (q := 18) (N' := 101) (k := 2) (j := 117) C0 dX4_init_15 (zwm (i := 6) rfl) (by decide) (by decide) (by decide) ⟨rfl, rfl⟩ ⟨Nat.le_of_ble_eq_true rfl, Nat.le_of_ble_eq_true rfl⟩ rfl (fun b10 ha11 Z12 S13 eZ12 eS13 => ?_)
  have hw := hw b10 ha11 Z12 S13 eZ12 eS13
  have hz14 := zk_old' eZ12 hz8 ha11
  have hz15 := zk_old' eZ12 hz9 ha11
  have hz16 := zk_al' eZ12
  refine zg_putfQ (q := 21) (v := b10) (T := TX4) (k := 1) (ty0 := tyX4) C0 hnm0 dX4_init_18 hz15 (zF_4 cy hz15) rfl (by decide) hX_X4_init_4 tyX4_ok nmX4 (zwm (i := 7) rfl) rfl rfl rfl rfl rfl (Nat.le_of_ble_eq_true rfl) (zF_4 cy (zk_sQ hz15)) (zP_4_1 Z12 S13 _ (some _)) rfl (fun Z17 eZ17 => ?_)
  have hw := hw Z17 eZ17
  have hz18 := zk_sQ' eZ17 hz14
  have hz19 := zk_sQ' eZ17 hz15
  have hz20 := zk_sQ' eZ17 hz16
  exact zg_vretz C0 dX4_init_21 rfl (Nat.le_of_ble_eq_true rfl) (Nat.le_of_ble_eq_true rfl) hw
-- X1_init
abbrev rm_X1_init : Room := { frames := 1, cells := 0, slots := 0, locals := 24 }
theorem hX_X1_init_1 : ∀ w ∈ u_ws RX1 TX1 4, w ∈ wsX1_init := by decide +kernel
theorem hdS_X1_init : yX1_init.cls ≠ "java/lang/invoke/MethodHandle" ∧ yX1_init.cls ≠ "java/lang/invoke/VarHandle" ∧ (parseMethodDescriptor yX1_init.desc).map (fun d => d.parameters.length) = some 4 := by decide +kernel
def w_X1_init (Z : zZ) (h0 : Nat) (p0 : Int32) (p1 : Int32) (p2 : Int64) (p3 : Int32) (S : zS) (Qp : zZ → zS → Prop) : Prop :=
  zk Z h0 1 ∧ ∀ S2 : zS, S2 = zsI S h0 0 p0 → ∀ S3 : zS, S3 = zsI S2 h0 1 p1 → ∀ S4 : zS, S4 = zsJ S3 h0 2 p2 → zb p3 ∧ ∀ S5 : zS, S5 = zsI S4 h0 3 p3 → Qp Z S5
set_option maxHeartbeats 4000000 in
set_option maxRecDepth 100000 in
theorem a_X1_init (l : Launch) (D : va_G) (cy : Nat → ClassId) (Z : zZ) (S : zS) (sz : Nat) (h0 : Nat) (p0 : Int32) (p1 : Int32) (p2 : Int64) (p3 : Int32) (Qp : zZ → zS → Prop) (hw : w_X1_init Z h0 p0 p1 p2 p3 S Qp) : zMz l yX1_init wsX1_init rm_X1_init D cy Z S sz [.ref h0, .int p0, .int p1, .long p2, .int p3] Qp := by
  unfold w_X1_init at hw
  refine zMz_of (cc := cX1_init) (maxL := 6) (rt := none) (by decide +kernel) rfl (Nat.le_of_ble_eq_true rfl) ?_
  intro p e s m args below meth c A C0 hnm0
  refine zg_lv (lv' := [(0, .ref h0), (1, .int p0), (2, .int p1), (3, .long p2), (5, .int p3)]) rfl ?_
  refine zg_aload_n (q := 1) C0 0 dX1_init_0 rfl rfl ?_
  refine zg_objInit (q := 4) C0 dX1_init_1 (zwm (i := 1) rfl) (zwm (i := 2) rfl) (zwm (i := 3) rfl) (Nat.le_of_ble_eq_true rfl) (Nat.le_of_ble_eq_true rfl) rfl rfl ?_
  refine zg_aload_n (q := 5) C0 0 dX1_init_4 rfl rfl ?_
  refine zg_iload_n (q := 6) C0 1 dX1_init_5 rfl rfl ?_
  obtain ⟨hz1, hw⟩ := hw
  refine zg_putfI (q := 9) (T := TX1) (k := 0) (ty0 := tyX1) C0 hnm0 dX1_init_6 hz1 (zF_1 cy hz1) rfl (by decide) hX_X1_init_1 tyX1_ok nmX1 (zwm (i := 4) rfl) rfl rfl rfl rfl rfl (Nat.le_of_ble_eq_true rfl) (zF_1 cy hz1) (zP_1_0 Z S _ _) rfl (fun S2 eS2 => ?_)
  have hw := hw S2 eS2
  refine zg_aload_n (q := 10) C0 0 dX1_init_9 rfl rfl ?_
  refine zg_iload_n (q := 11) C0 2 dX1_init_10 rfl rfl ?_
  refine zg_putfI (q := 14) (T := TX1) (k := 1) (ty0 := tyX1) C0 hnm0 dX1_init_11 hz1 (zF_1 cy hz1) rfl (by decide) hX_X1_init_1 tyX1_ok nmX1 (zwm (i := 5) rfl) rfl rfl rfl rfl rfl (Nat.le_of_ble_eq_true rfl) (zF_1 cy hz1) (zP_1_1 Z S2 _ _) rfl (fun S3 eS3 => ?_)
  have hw := hw S3 eS3
  refine zg_aload_n (q := 15) C0 0 dX1_init_14 rfl rfl ?_
  refine zg_lload_n (q := 16) C0 3 dX1_init_15 rfl rfl ?_
  refine zg_putfJ (q := 19) (T := TX1) (k := 2) (ty0 := tyX1) C0 hnm0 dX1_init_16 hz1 (zF_1 cy hz1) rfl (by decide) hX_X1_init_1 tyX1_ok nmX1 (zwm (i := 6) rfl) rfl rfl rfl rfl rfl (Nat.le_of_ble_eq_true rfl) (zF_1 cy hz1) (zP_1_2 Z S3 _ _) rfl (fun S4 eS4 => ?_)
  have hw := hw S4 eS4
  refine zg_aload_n (q := 20) C0 0 dX1_init_19 rfl rfl ?_
  refine zg_iload (q := 22) C0 4 dX1_init_20 rfl rfl ?_
  obtain ⟨hb6, hw⟩ := hw
  refine zg_putfI (q := 25) (T := TX1) (k := 3) (ty0 := tyX1) C0 hnm0 dX1_init_22 hz1 (zF_1 cy hz1) rfl (by decide) hX_X1_init_1 tyX1_ok nmX1 (zwm (i := 7) rfl) rfl rfl rfl (zb_n hb6) (zb_f hb6) (Nat.le_of_ble_eq_true rfl) (zF_1 cy hz1) (zP_1_3 Z S4 _ _) rfl (fun S5 eS5 => ?_)
  have hw := hw S5 eS5
  exact zg_vretz C0 dX1_init_25 rfl (Nat.le_of_ble_eq_true rfl) (Nat.le_of_ble_eq_true rfl) hw
-- X5_init
abbrev rm_X5_init : Room := { frames := 1, cells := 2, slots := 109, locals := 24 }
theorem hX_X5_init_5 : ∀ w ∈ u_ws RX5 TX5 6, w ∈ wsX5_init := by decide +kernel
theorem hdS_X5_init : yX5_init.cls ≠ "java/lang/invoke/MethodHandle" ∧ yX5_init.cls ≠ "java/lang/invoke/VarHandle" ∧ (parseMethodDescriptor yX5_init.desc).map (fun d => d.parameters.length) = some 0 := by decide +kernel
def w_X5_init (Z : zZ) (h0 : Nat) (S : zS) (Qp : zZ → zS → Prop) : Prop :=
  ∀ b1, b1 ∉ zL Z → ∀ (Z3 : zZ) (S4 : zS), Z3 = zalZ Z b1 10 101 → S4 = zalS S b1 → zk Z3 h0 5 ∧ ∀ Z7 : zZ, Z7 = zsQ Z3 h0 0 (some b1) → ∀ b10, b10 ∉ zL Z7 → ∀ (Z12 : zZ) (S13 : zS), Z12 = zalZ Z7 b10 8 8 → S13 = zalS S4 b10 → ∀ Z17 : zZ, Z17 = zsQ Z12 h0 1 (some b10) → ∀ S21 : zS, S21 = zsI S13 h0 4 (-1) → Qp Z17 S21
set_option maxHeartbeats 4000000 in
set_option maxRecDepth 100000 in
theorem a_X5_init (l : Launch) (D : va_G) (cy : Nat → ClassId) (Z : zZ) (S : zS) (sz : Nat) (h0 : Nat) (Qp : zZ → zS → Prop) (hw : w_X5_init Z h0 S Qp) : zMz l yX5_init wsX5_init rm_X5_init D cy Z S sz [.ref h0] Qp := by
  unfold w_X5_init at hw
  refine zMz_of (cc := cX5_init) (maxL := 1) (rt := none) (by decide +kernel) rfl (Nat.le_of_ble_eq_true rfl) ?_
  intro p e s m args below meth c A C0 hnm0
  refine zg_lv (lv' := [(0, .ref h0)]) rfl ?_
  refine zg_aload_n (q := 1) C0 0 dX5_init_0 rfl rfl ?_
  refine zg_objInit (q := 4) C0 dX5_init_1 (zwm (i := 1) rfl) (zwm (i := 2) rfl) (zwm (i := 3) rfl) (Nat.le_of_ble_eq_true rfl) (Nat.le_of_ble_eq_true rfl) rfl rfl ?_
  refine zg_aload_n (q := 5) C0 0 dX5_init_4 rfl rfl ?_
  refine zg_bipush (q := 7) C0 dX5_init_5 zc_bipush_101 rfl ?_
  refine zg_newaZ (q := 9) (N' := 101) (k := 1) (j := 101) C0 dX5_init_7 (zwm (i := 4) rfl) (by decide) (by decide) (by decide) ⟨rfl, rfl⟩ ⟨Nat.le_of_ble_eq_true rfl, Nat.le_of_ble_eq_true rfl⟩ rfl (fun b1 ha2 Z3 S4 eZ3 eS4 => ?_)
  have hw := hw b1 ha2 Z3 S4 eZ3 eS4
  have hz5 := zk_al' eZ3
  obtain ⟨hz6, hw⟩ := hw
  refine zg_putfQ (q := 12) (v := b1) (T := TX5) (k := 0) (ty0 := tyX5) C0 hnm0 dX5_init_9 hz6 (zF_5 cy hz6) rfl (by decide) hX_X5_init_5 tyX5_ok nmX5 (zwm (i := 5) rfl) rfl rfl rfl rfl rfl (Nat.le_of_ble_eq_true rfl) (zF_5 cy (zk_sQ hz6)) (zP_5_0 Z3 S4 _ (some _)) rfl (fun Z7 eZ7 => ?_)
  have hw := hw Z7 eZ7
  have hz8 := zk_sQ' eZ7 hz5
  have hz9 := zk_sQ' eZ7 hz6
  refine zg_aload_n (q := 13) C0 0 dX5_init_12 rfl rfl ?_
  refine zg_bipush (q := 15) C0 dX5_init_13 zc_bipush_8 rfl ?_
  refine zg_newaI (q := 17) (N' := 8) (k := 2) (j := 109) C0 dX5_init_15 (zwm (i := 6) rfl) (by decide) (by decide) (by decide) ⟨rfl, rfl⟩ ⟨Nat.le_of_ble_eq_true rfl, Nat.le_of_ble_eq_true rfl⟩ rfl (fun b10 ha11 Z12 S13 eZ12 eS13 => ?_)
  have hw := hw b10 ha11 Z12 S13 eZ12 eS13
  have hz14 := zk_old' eZ12 hz8 ha11
  have hz15 := zk_old' eZ12 hz9 ha11
  have hz16 := zk_al' eZ12
  refine zg_putfQ (q := 20) (v := b10) (T := TX5) (k := 1) (ty0 := tyX5) C0 hnm0 dX5_init_17 hz15 (zF_5 cy hz15) rfl (by decide) hX_X5_init_5 tyX5_ok nmX5 (zwm (i := 7) rfl) rfl rfl rfl rfl rfl (Nat.le_of_ble_eq_true rfl) (zF_5 cy (zk_sQ hz15)) (zP_5_1 Z12 S13 _ (some _)) rfl (fun Z17 eZ17 => ?_)
  have hw := hw Z17 eZ17
  have hz18 := zk_sQ' eZ17 hz14
  have hz19 := zk_sQ' eZ17 hz15
  have hz20 := zk_sQ' eZ17 hz16
  refine zg_aload_n (q := 21) C0 0 dX5_init_20 rfl rfl ?_
  refine zg_iconst (q := 22) C0 dX5_init_21 zc_iconst_m1 rfl ?_
  refine zg_putI (q := 25) (T := TX5) (k := 4) (ty0 := tyX5) C0 dX5_init_22 hz19 (zF_5 cy hz19) rfl (by decide) hX_X5_init_5 tyX5_ok nmX5 (zwm (i := 8) rfl) rfl rfl rfl rfl (Nat.le_of_ble_eq_true rfl) (zF_5 cy hz19) (zP_5_4 Z17 S13 _ _) rfl (fun S21 eS21 => ?_)
  have hw := hw S21 eS21
  exact zg_vretz C0 dX5_init_25 rfl (Nat.le_of_ble_eq_true rfl) (Nat.le_of_ble_eq_true rfl) hw
-- X2_init
abbrev rm_X2_init : Room := { frames := 2, cells := 8, slots := 839, locals := 44 }
theorem hX_X2_init_0 : ∀ w ∈ u_ws RX0 TX0 2, w ∈ wsX2_init := by decide +kernel
theorem hX_X2_init_2 : ∀ w ∈ u_ws RX2 TX2 13, w ∈ wsX2_init := by decide +kernel
theorem hX_X2_init_3 : ∀ w ∈ u_ws RX3 TX3 2, w ∈ wsX2_init := by decide +kernel
theorem hX_X2_init_4 : ∀ w ∈ u_ws RX4 TX4 5, w ∈ wsX2_init := by decide +kernel
theorem hdS_X2_init : yX2_init.cls ≠ "java/lang/invoke/MethodHandle" ∧ yX2_init.cls ≠ "java/lang/invoke/VarHandle" ∧ (parseMethodDescriptor yX2_init.desc).map (fun d => d.parameters.length) = some 3 := by decide +kernel
def w_X2_init (Z : zZ) (h0 : Nat) (p0 : Int32) (p1 : Int32) (p2 : Nat) (S : zS) (Qp : zZ → zS → Prop) : Prop :=
  ∀ b1, b1 ∉ zL Z → ∀ (Z3 : zZ) (S4 : zS), Z3 = zalZ Z b1 3 2 → S4 = zalS S b1 → w_X3_init Z3 b1 S4 (fun (Z7 : zZ) (S6 : zS) => zk Z7 h0 2 ∧ ∀ Z9 : zZ, Z9 = zsQ Z7 h0 1 (some b1) → ∀ b11, b11 ∉ zL Z9 → ∀ (Z13 : zZ) (S14 : zS), Z13 = zalZ Z9 b11 4 5 → S14 = zalS S6 b11 → w_X4_init Z13 b11 S14 (fun (Z18 : zZ) (S17 : zS) => zk Z18 h0 2 ∧ ∀ Z20 : zZ, Z20 = zsQ Z18 h0 2 (some b11) → ∀ b22, b22 ∉ zL Z20 → ∀ (Z24 : zZ) (S25 : zS), Z24 = zalZ Z20 b22 0 2 → S25 = zalS S17 b22 → w_X0_init Z24 b22 S25 (fun (Z29 : zZ) (S28 : zS) => zk Z29 h0 2 ∧ ∀ Z31 : zZ, Z31 = zsQ Z29 h0 3 (some b22) → ∀ b33, b33 ∉ zL Z31 → ∀ (Z35 : zZ) (S36 : zS), Z35 = zalZ Z31 b33 11 101 → S36 = zalS S28 b33 → ∀ Z39 : zZ, Z39 = zsQ Z35 h0 4 (some b33) → ∀ S42 : zS, S42 = zsI S36 h0 5 1 → ∀ S43 : zS, S43 = zsI S42 h0 0 p0 → ∀ S44 : zS, S44 = zsI S43 h0 10 p1 → ∀ S45 : zS, S45 = zsR S44 h0 7 (some p2) → Qp Z39 S45)))
set_option maxHeartbeats 4000000 in
set_option maxRecDepth 100000 in
theorem a_X2_init (l : Launch) (D : va_G) (cy : Nat → ClassId) (Z : zZ) (S : zS) (sz : Nat) (h0 : Nat) (p0 : Int32) (p1 : Int32) (p2 : Nat) (Qp : zZ → zS → Prop) (hw : w_X2_init Z h0 p0 p1 p2 S Qp) : zMz l yX2_init wsX2_init rm_X2_init D cy Z S sz [.ref h0, .int p0, .int p1, .ref p2] Qp := by
  unfold w_X2_init at hw
  refine zMz_of (cc := cX2_init) (maxL := 4) (rt := none) (by decide +kernel) rfl (Nat.le_of_ble_eq_true rfl) ?_
  intro p e s m args below meth c A C0 hnm0
  refine zg_lv (lv' := [(0, .ref h0), (1, .int p0), (2, .int p1), (3, .ref p2)]) rfl ?_
  refine zg_aload_n (q := 1) C0 0 dX2_init_0 rfl rfl ?_
  refine zg_objInit (q := 4) C0 dX2_init_1 (zwm (i := 1) rfl) (zwm (i := 2) rfl) (zwm (i := 3) rfl) (Nat.le_of_ble_eq_true rfl) (Nat.le_of_ble_eq_true rfl) rfl rfl ?_
  refine zg_aload_n (q := 5) C0 0 dX2_init_4 rfl rfl ?_
  refine zg_new3 (q := 8) (k := 1) (j := 2) C0 dX2_init_5 (zwm (i := 4) rfl) (zwm (i := 5) rfl) (zwm (i := 6) rfl) hX_X2_init_3 ⟨rfl, rfl⟩ ⟨Nat.le_of_ble_eq_true rfl, Nat.le_of_ble_eq_true rfl⟩ rfl (fun b1 ha2 Z3 S4 eZ3 eS4 => ?_)
  have hw := hw b1 ha2 Z3 S4 eZ3 eS4
  have hz5 := zk_al' eZ3
  refine zg_dup (q := 9) C0 dX2_init_8 rfl rfl ?_
  refine zg_makeIN (q := 12) (k := 2) (n := 14) C0 [] [.ref b1, .ref h0] dX2_init_9 (fun sz => a_X3_init l D cy Z3 S4 sz b1 _ hw) rfl gX2_init_X3_init_n11 hdS_X3_init (zwm (i := 1) rfl) (zwm (i := 6) rfl) (zwm (i := 22) rfl) rfl rfl ⟨Nat.le_of_ble_eq_true rfl, Nat.le_of_ble_eq_true rfl⟩ (Nat.le_of_ble_eq_true rfl) ⟨Nat.le_of_ble_eq_true rfl, Nat.le_of_ble_eq_true rfl⟩ ⟨rfl, rfl⟩ rfl (fun Z7 S6 hw => ?_)
  obtain ⟨hz8, hw⟩ := hw
  refine zg_putfQ (q := 15) (v := b1) (T := TX2) (k := 1) (ty0 := tyX2) C0 hnm0 dX2_init_12 hz8 (zF_2 cy hz8) rfl (by decide) hX_X2_init_2 tyX2_ok nmX2 (zwm (i := 7) rfl) rfl rfl rfl rfl rfl (Nat.le_of_ble_eq_true rfl) (zF_2 cy (zk_sQ hz8)) (zP_2_1 Z7 S6 _ (some _)) rfl (fun Z9 eZ9 => ?_)
  have hw := hw Z9 eZ9
  have hz10 := zk_sQ' eZ9 hz8
  refine zg_aload_n (q := 16) C0 0 dX2_init_15 rfl rfl ?_
  refine zg_new4 (q := 19) (k := 3) (j := 19) C0 dX2_init_16 (zwm (i := 8) rfl) (zwm (i := 9) rfl) (zwm (i := 10) rfl) hX_X2_init_4 ⟨rfl, rfl⟩ ⟨Nat.le_of_ble_eq_true rfl, Nat.le_of_ble_eq_true rfl⟩ rfl (fun b11 ha12 Z13 S14 eZ13 eS14 => ?_)
  have hw := hw b11 ha12 Z13 S14 eZ13 eS14
  have hz15 := zk_old' eZ13 hz10 ha12
  have hz16 := zk_al' eZ13
  refine zg_dup (q := 20) C0 dX2_init_19 rfl rfl ?_
  refine zg_makeIN (q := 23) (k := 5) (n := 136) C0 [] [.ref b11, .ref h0] dX2_init_20 (fun sz => a_X4_init l D cy Z13 S14 sz b11 _ hw) rfl gX2_init_X4_init_n20 hdS_X4_init (zwm (i := 2) rfl) (zwm (i := 10) rfl) (zwm (i := 27) rfl) rfl rfl ⟨Nat.le_of_ble_eq_true rfl, Nat.le_of_ble_eq_true rfl⟩ (Nat.le_of_ble_eq_true rfl) ⟨Nat.le_of_ble_eq_true rfl, Nat.le_of_ble_eq_true rfl⟩ ⟨rfl, rfl⟩ rfl (fun Z18 S17 hw => ?_)
  obtain ⟨hz19, hw⟩ := hw
  refine zg_putfQ (q := 26) (v := b11) (T := TX2) (k := 2) (ty0 := tyX2) C0 hnm0 dX2_init_23 hz19 (zF_2 cy hz19) rfl (by decide) hX_X2_init_2 tyX2_ok nmX2 (zwm (i := 11) rfl) rfl rfl rfl rfl rfl (Nat.le_of_ble_eq_true rfl) (zF_2 cy (zk_sQ hz19)) (zP_2_2 Z18 S17 _ (some _)) rfl (fun Z20 eZ20 => ?_)
  have hw := hw Z20 eZ20
  have hz21 := zk_sQ' eZ20 hz19
  refine zg_aload_n (q := 27) C0 0 dX2_init_26 rfl rfl ?_
  refine zg_new0 (q := 30) (k := 6) (j := 138) C0 dX2_init_27 (zwm (i := 12) rfl) (zwm (i := 13) rfl) (zwm (i := 14) rfl) hX_X2_init_0 ⟨rfl, rfl⟩ ⟨Nat.le_of_ble_eq_true rfl, Nat.le_of_ble_eq_true rfl⟩ rfl (fun b22 ha23 Z24 S25 eZ24 eS25 => ?_)
  have hw := hw b22 ha23 Z24 S25 eZ24 eS25
  have hz26 := zk_old' eZ24 hz21 ha23
  have hz27 := zk_al' eZ24
  refine zg_dup (q := 31) C0 dX2_init_30 rfl rfl ?_
  refine zg_makeIN (q := 34) (k := 7) (n := 738) C0 [] [.ref b22, .ref h0] dX2_init_31 (fun sz => a_X0_init l D cy Z24 S25 sz b22 _ hw) rfl gX2_init_X0_init_n27 hdS_X0_init (zwm (i := 3) rfl) (zwm (i := 14) rfl) (zwm (i := 34) rfl) rfl rfl ⟨Nat.le_of_ble_eq_true rfl, Nat.le_of_ble_eq_true rfl⟩ (Nat.le_of_ble_eq_true rfl) ⟨Nat.le_of_ble_eq_true rfl, Nat.le_of_ble_eq_true rfl⟩ ⟨rfl, rfl⟩ rfl (fun Z29 S28 hw => ?_)
  obtain ⟨hz30, hw⟩ := hw
  refine zg_putfQ (q := 37) (v := b22) (T := TX2) (k := 3) (ty0 := tyX2) C0 hnm0 dX2_init_34 hz30 (zF_2 cy hz30) rfl (by decide) hX_X2_init_2 tyX2_ok nmX2 (zwm (i := 15) rfl) rfl rfl rfl rfl rfl (Nat.le_of_ble_eq_true rfl) (zF_2 cy (zk_sQ hz30)) (zP_2_3 Z29 S28 _ (some _)) rfl (fun Z31 eZ31 => ?_)
  have hw := hw Z31 eZ31
  have hz32 := zk_sQ' eZ31 hz30
  refine zg_aload_n (q := 38) C0 0 dX2_init_37 rfl rfl ?_
  refine zg_bipush (q := 40) C0 dX2_init_38 zc_bipush_101 rfl ?_
  refine zg_newq11 (q := 43) (N' := 101) (k := 8) (j := 839) C0 dX2_init_40 (zwm (i := 16) rfl) (by decide) (by decide) (by decide) ⟨rfl, rfl⟩ ⟨Nat.le_of_ble_eq_true rfl, Nat.le_of_ble_eq_true rfl⟩ rfl (fun b33 ha34 Z35 S36 eZ35 eS36 => ?_)
  have hw := hw b33 ha34 Z35 S36 eZ35 eS36
  have hz37 := zk_old' eZ35 hz32 ha34
  have hz38 := zk_al' eZ35
  refine zg_putfQ (q := 46) (v := b33) (T := TX2) (k := 4) (ty0 := tyX2) C0 hnm0 dX2_init_43 hz37 (zF_2 cy hz37) rfl (by decide) hX_X2_init_2 tyX2_ok nmX2 (zwm (i := 17) rfl) rfl rfl rfl rfl rfl (Nat.le_of_ble_eq_true rfl) (zF_2 cy (zk_sQ hz37)) (zP_2_4 Z35 S36 _ (some _)) rfl (fun Z39 eZ39 => ?_)
  have hw := hw Z39 eZ39
  have hz40 := zk_sQ' eZ39 hz37
  have hz41 := zk_sQ' eZ39 hz38
  refine zg_aload_n (q := 47) C0 0 dX2_init_46 rfl rfl ?_
  refine zg_iconst (q := 48) C0 dX2_init_47 zc_iconst_1 rfl ?_
  refine zg_putI (q := 51) (T := TX2) (k := 5) (ty0 := tyX2) C0 dX2_init_48 hz40 (zF_2 cy hz40) rfl (by decide) hX_X2_init_2 tyX2_ok nmX2 (zwm (i := 18) rfl) rfl rfl (by decide) (by decide) (Nat.le_of_ble_eq_true rfl) (zF_2 cy hz40) (zP_2_5 Z39 S36 _ _) rfl (fun S42 eS42 => ?_)
  have hw := hw S42 eS42
  refine zg_aload_n (q := 52) C0 0 dX2_init_51 rfl rfl ?_
  refine zg_iload_n (q := 53) C0 1 dX2_init_52 rfl rfl ?_
  refine zg_putfI (q := 56) (T := TX2) (k := 0) (ty0 := tyX2) C0 hnm0 dX2_init_53 hz40 (zF_2 cy hz40) rfl (by decide) hX_X2_init_2 tyX2_ok nmX2 (zwm (i := 19) rfl) rfl rfl rfl rfl rfl (Nat.le_of_ble_eq_true rfl) (zF_2 cy hz40) (zP_2_0 Z39 S42 _ _) rfl (fun S43 eS43 => ?_)
  have hw := hw S43 eS43
  refine zg_aload_n (q := 57) C0 0 dX2_init_56 rfl rfl ?_
  refine zg_iload_n (q := 58) C0 2 dX2_init_57 rfl rfl ?_
  refine zg_putI (q := 61) (T := TX2) (k := 10) (ty0 := tyX2) C0 dX2_init_58 hz40 (zF_2 cy hz40) rfl (by decide) hX_X2_init_2 tyX2_ok nmX2 (zwm (i := 20) rfl) rfl rfl rfl rfl (Nat.le_of_ble_eq_true rfl) (zF_2 cy hz40) (zP_2_10 Z39 S43 _ _) rfl (fun S44 eS44 => ?_)
  have hw := hw S44 eS44
  refine zg_aload_n (q := 62) C0 0 dX2_init_61 rfl rfl ?_
  refine zg_aload_n (q := 63) C0 3 dX2_init_62 rfl rfl ?_
  refine zg_putR (q := 66) (v := some p2) (T := TX2) (k := 7) (ty0 := tyX2) C0 dX2_init_63 hz40 (zF_2 cy hz40) rfl (by decide) hX_X2_init_2 tyX2_ok nmX2 (zwm (i := 21) rfl) rfl rfl rfl rfl (Nat.le_of_ble_eq_true rfl) (zF_2 cy hz40) (zP_2_7 Z39 S44 _ _) rfl (fun S45 eS45 => ?_)
  have hw := hw S45 eS45
  exact zg_vretz C0 dX2_init_66 rfl (Nat.le_of_ble_eq_true rfl) (Nat.le_of_ble_eq_true rfl) hw
-- X7_init
abbrev rm_X7_init : Room := { frames := 1, cells := 33, slots := 17648, locals := 24 }
theorem hX_X7_init_7 : ∀ w ∈ u_ws RX7 TX7 36, w ∈ wsX7_init := by decide +kernel
theorem hdS_X7_init : yX7_init.cls ≠ "java/lang/invoke/MethodHandle" ∧ yX7_init.cls ≠ "java/lang/invoke/VarHandle" ∧ (parseMethodDescriptor yX7_init.desc).map (fun d => d.parameters.length) = some 2 := by decide +kernel
def wJ_X7_init_356 (Z : zZ) (Qp : zZ → zS → Prop) (K : zS → Prop) (rec : Int32 → zS → Prop) (x0 : Nat) (x3 : Int32) (t0 : Int32) (t1 : Int32) (t2 : Nat) (S : zS) : Prop :=
  zk Z t2 10 ∧ vp_in t1 (zN Z t2) ∧ zb t0 ∧ ∀ S1363 : zS, S1363 = zsI S t2 t1.toNatClampNeg t0 → zk Z x0 7 ∧ ∃ b1366, zQ Z x0 5 = some b1366 ∧ zk Z b1366 8 ∧ vp_in x3 (zN Z b1366) ∧ ∀ S1370 : zS, S1370 = zsI S1363 b1366 x3.toNatClampNeg (-1) → ∃ b1371, zQ Z x0 11 = some b1371 ∧ zk Z b1371 8 ∧ vp_in x3 (zN Z b1371) ∧ ∀ S1375 : zS, S1375 = zsI S1370 b1371 x3.toNatClampNeg ((1 <<< ((zI S1370 x0 1) &&& 31)) - 1) → ∀ y1376 : Int32, y1376 = x3 + 1 → rec y1376 S1375
set_option maxHeartbeats 4000000 in
set_option maxRecDepth 100000 in
theorem aJ_X7_init_356 {p : Program} {l : Launch} {e : Env} {s : State} {m : MethodId} {args : Array Value} {below : List Frame} {meth : Method} {c : Code} {D : va_G} {cy : Nat → ClassId} {A : Nat → Prop} {Q : State → Prop} {Z : zZ} (C0 : zC p s m args meth c cX7_init 4 wsX7_init RX7 D cy A none) {Qp : zZ → zS → Prop} {x0 : Nat} {x3 : Int32} {t0 : Int32} {t1 : Int32} {t2 : Nat}  {K : zS → Prop} {rec : Int32 → zS → Prop} (hK : ∀  S, K  S → zG p l e rm_X7_init s m args below meth c D cy A 4 33 17648 Q Z S 384 [] []) (hrec : ∀ x3 S, rec x3 S → zG p l e rm_X7_init s m args below meth c D cy A 4 33 17648 Q Z S 332 [(0, .ref x0), (3, .int x3)] []) {S : zS} (hw : wJ_X7_init_356 Z Qp K rec x0 x3 t0 t1 t2 S) : zG p l e rm_X7_init s m args below meth c D cy A 4 33 17648 Q Z S 356 [(0, .ref x0), (3, .int x3)] [.int t0, .int t1, .ref t2] := by
  unfold wJ_X7_init_356 at hw
  obtain ⟨hz1361, hw⟩ := hw
  obtain ⟨hi1362, hw⟩ := hw
  obtain ⟨hb1364, hw⟩ := hw
  refine zg_zast (q := 357) C0 dX7_init_356 hz1361 hi1362 (zb_v hb1364) rfl (fun S1363 eS1363 => ?_)
  have hw := hw S1363 eS1363
  refine zg_aload_n (q := 358) C0 0 dX7_init_357 rfl rfl ?_
  obtain ⟨hz1365, hw⟩ := hw
  refine zg_get (q := 361) (T := TX7) (k := 5) C0 dX7_init_358 hz1365 (zF_7 cy hz1365) rfl (by decide) hX_X7_init_7 (zwm (i := 8) rfl) rfl rfl rfl ?_
  obtain ⟨b1366, hb1367, hw⟩ := hw
  refine zg_nn hb1367 ?_
  refine zg_iload_n (q := 362) C0 1 dX7_init_361 rfl rfl ?_
  refine zg_iconst (q := 363) C0 dX7_init_362 zc_iconst_m1 rfl ?_
  obtain ⟨hz1368, hw⟩ := hw
  obtain ⟨hi1369, hw⟩ := hw
  refine zg_iast (q := 364) C0 dX7_init_363 hz1368 hi1369 rfl (fun S1370 eS1370 => ?_)
  have hw := hw S1370 eS1370
  refine zg_aload_n (q := 365) C0 0 dX7_init_364 rfl rfl ?_
  refine zg_get (q := 368) (T := TX7) (k := 11) C0 dX7_init_365 hz1365 (zF_7 cy hz1365) rfl (by decide) hX_X7_init_7 (zwm (i := 15) rfl) rfl rfl rfl ?_
  obtain ⟨b1371, hb1372, hw⟩ := hw
  refine zg_nn hb1372 ?_
  refine zg_iload_n (q := 369) C0 1 dX7_init_368 rfl rfl ?_
  refine zg_iconst (q := 370) C0 dX7_init_369 zc_iconst_1 rfl ?_
  refine zg_aload_n (q := 371) C0 0 dX7_init_370 rfl rfl ?_
  refine zg_get (q := 374) (T := TX7) (k := 1) C0 dX7_init_371 hz1365 (zF_7 cy hz1365) rfl (by decide) hX_X7_init_7 (zwm (i := 40) rfl) rfl rfl rfl ?_
  refine zg_ishl (q := 375) C0 dX7_init_374 rfl ?_
  refine zg_iconst (q := 376) C0 dX7_init_375 zc_iconst_1 rfl ?_
  refine zg_isub (q := 377) C0 dX7_init_376 rfl ?_
  obtain ⟨hz1373, hw⟩ := hw
  obtain ⟨hi1374, hw⟩ := hw
  refine zg_iast (q := 378) C0 dX7_init_377 hz1373 hi1374 rfl (fun S1375 eS1375 => ?_)
  have hw := hw S1375 eS1375
  refine zg_iinc (q := 381) C0 1 dX7_init_378 rfl (by decide) zc_iconst_1 rfl (fun y1376 ey1376 => ?_)
  have hw := hw y1376 ey1376
  refine zg_lv (lv' := [(3, .int y1376), (0, .ref x0)]) rfl ?_
  refine zg_goto (tgt := 332) C0 dX7_init_381 rfl ?_
  refine zg_sub [1, 0] rfl ?_
  exact hrec _ _ hw
def wb_X7_init_332 (Z : zZ) (x0 : Nat) (Qp : zZ → zS → Prop) (K : zS → Prop) (rec : Int32 → zS → Prop) (x3 : Int32) (S : zS) : Prop :=
  ((8 ≤ x3 → K S) ∧ (¬ 8 ≤ x3 → zk Z x0 7 ∧ ∃ b1359, zQ Z x0 3 = some b1359 ∧ (((zI S x0 1) ≤ x3 → wJ_X7_init_356 Z Qp K rec x0 x3 0 x3 b1359 S) ∧ (¬ (zI S x0 1) ≤ x3 → wJ_X7_init_356 Z Qp K rec x0 x3 1 x3 b1359 S))))
def wL_X7_init_332 (Z : zZ) (x0 : Nat) (Qp : zZ → zS → Prop) (K : zS → Prop) (x3 : Int32) (S : zS) : Prop := ∃ n, zit2 (wb_X7_init_332 Z x0 Qp K) n x3 S
set_option maxHeartbeats 4000000 in
set_option maxRecDepth 100000 in
theorem ab_X7_init_332 {p : Program} {l : Launch} {e : Env} {s : State} {m : MethodId} {args : Array Value} {below : List Frame} {meth : Method} {c : Code} {D : va_G} {cy : Nat → ClassId} {A : Nat → Prop} {Q : State → Prop} {Z : zZ} (C0 : zC p s m args meth c cX7_init 4 wsX7_init RX7 D cy A none) {x0 : Nat} {Qp : zZ → zS → Prop} {K : zS → Prop} (hK : ∀  S, K  S → zG p l e rm_X7_init s m args below meth c D cy A 4 33 17648 Q Z S 384 [] []) {rec : Int32 → zS → Prop} (hrec : ∀ x3 S, rec x3 S → zG p l e rm_X7_init s m args below meth c D cy A 4 33 17648 Q Z S 332 [(0, .ref x0), (3, .int x3)] []) {x3 : Int32} {S : zS} (hw : wb_X7_init_332 Z x0 Qp K rec x3 S) : zG p l e rm_X7_init s m args below meth c D cy A 4 33 17648 Q Z S 332 [(0, .ref x0), (3, .int x3)] [] := by
  unfold wb_X7_init_332 at hw
  refine zg_iload_n (q := 333) C0 1 dX7_init_332 rfl rfl ?_
  refine zg_bipush (q := 335) C0 dX7_init_333 zc_bipush_8 rfl ?_
  refine zg_icmp_ge (q := 338) (tgt := 384) C0 dX7_init_335 rfl rfl (fun c1378 => ?_) (fun c1378 => ?_)
  · have hw := hw.1 c1378
    refine zg_sub [] rfl ?_
    exact hK  _ hw
  · have hw := hw.2 c1378
    refine zg_aload_n (q := 339) C0 0 dX7_init_338 rfl rfl ?_
    obtain ⟨hz1358, hw⟩ := hw
    refine zg_get (q := 342) (T := TX7) (k := 3) C0 dX7_init_339 hz1358 (zF_7 cy hz1358) rfl (by decide) hX_X7_init_7 (zwm (i := 5) rfl) rfl rfl rfl ?_
    obtain ⟨b1359, hb1360, hw⟩ := hw
    refine zg_nn hb1360 ?_
    refine zg_iload_n (q := 343) C0 1 dX7_init_342 rfl rfl ?_
    refine zg_iload_n (q := 344) C0 1 dX7_init_343 rfl rfl ?_
    refine zg_aload_n (q := 345) C0 0 dX7_init_344 rfl rfl ?_
    refine zg_get (q := 348) (T := TX7) (k := 1) C0 dX7_init_345 hz1358 (zF_7 cy hz1358) rfl (by decide) hX_X7_init_7 (zwm (i := 40) rfl) rfl rfl rfl ?_
    refine zg_icmp_ge (q := 351) (tgt := 355) C0 dX7_init_348 rfl rfl (fun c1377 => ?_) (fun c1377 => ?_)
    · have hw := hw.1 c1377
      refine zg_iconst (q := 356) C0 dX7_init_355 zc_iconst_0 rfl ?_
      refine zg_sub [0, 1] rfl ?_
      exact aJ_X7_init_356 C0 hK hrec hw
    · have hw := hw.2 c1377
      refine zg_iconst (q := 352) C0 dX7_init_351 zc_iconst_1 rfl ?_
      refine zg_goto (tgt := 356) C0 dX7_init_352 rfl ?_
      refine zg_sub [0, 1] rfl ?_
      exact aJ_X7_init_356 C0 hK hrec hw
theorem aL_X7_init_332 {p : Program} {l : Launch} {e : Env} {s : State} {m : MethodId} {args : Array Value} {below : List Frame} {meth : Method} {c : Code} {D : va_G} {cy : Nat → ClassId} {A : Nat → Prop} {Q : State → Prop} {Z : zZ} (C0 : zC p s m args meth c cX7_init 4 wsX7_init RX7 D cy A none) {x0 : Nat} {Qp : zZ → zS → Prop} {K : zS → Prop} (hK : ∀  S, K  S → zG p l e rm_X7_init s m args below meth c D cy A 4 33 17648 Q Z S 384 [] []) : ∀ x3 S, wL_X7_init_332 Z x0 Qp K x3 S → zG p l e rm_X7_init s m args below meth c D cy A 4 33 17648 Q Z S 332 [(0, .ref x0), (3, .int x3)] [] := by
  intro x3 S hw
  obtain ⟨n, hw⟩ := hw
  induction n generalizing x3 S with
  | zero => exact hw.elim
  | succ n ih => exact ab_X7_init_332 C0 hK (fun x3 S hw => ih x3 S hw) hw
def wJ_X7_init_302 (Z : zZ) (Qp : zZ → zS → Prop)  (x0 : Nat) (x2 : Int32) (t0 : Int32) (t1 : Nat) (S : zS) : Prop :=
  zk Z t1 7 ∧ ∀ S1355 : zS, S1355 = zsI S t1 1 t0 → ((1 ≤ x2 → ((x2 ≤ 8 → zk Z x0 7 ∧ ∀ S1357 : zS, S1357 = zsI S1355 x0 2 x2 → wL_X7_init_332 Z x0 Qp (fun  (S1379 : zS) => Qp Z S1379) 0 S1357) ∧ (¬ x2 ≤ 8 → zk Z x0 7 ∧ ∀ S1381 : zS, S1381 = zsI S1355 x0 2 8 → wL_X7_init_332 Z x0 Qp (fun  (S1382 : zS) => Qp Z S1382) 0 S1381))) ∧ (¬ 1 ≤ x2 → zk Z x0 7 ∧ ∀ S1385 : zS, S1385 = zsI S1355 x0 2 1 → wL_X7_init_332 Z x0 Qp (fun  (S1386 : zS) => Qp Z S1386) 0 S1385))
set_option maxHeartbeats 4000000 in
set_option maxRecDepth 100000 in
theorem aJ_X7_init_302 {p : Program} {l : Launch} {e : Env} {s : State} {m : MethodId} {args : Array Value} {below : List Frame} {meth : Method} {c : Code} {D : va_G} {cy : Nat → ClassId} {A : Nat → Prop} {Z : zZ} (C0 : zC p s m args meth c cX7_init 4 wsX7_init RX7 D cy A none) {Qp : zZ → zS → Prop} {x0 : Nat} {x2 : Int32} {t0 : Int32} {t1 : Nat}    {S : zS} (hw : wJ_X7_init_302 Z Qp  x0 x2 t0 t1 S) : zG p l e rm_X7_init s m args below meth c D cy A 4 33 17648 (zQz below D cy A Qp args s rm_X7_init.cells rm_X7_init.slots) Z S 302 [(0, .ref x0), (2, .int x2)] [.int t0, .ref t1] := by
  unfold wJ_X7_init_302 at hw
  obtain ⟨hz1354, hw⟩ := hw
  refine zg_putI (q := 305) (T := TX7) (k := 1) (ty0 := tyX7) C0 dX7_init_302 hz1354 (zF_7 cy hz1354) rfl (by decide) hX_X7_init_7 tyX7_ok nmX7 (zwm (i := 40) rfl) rfl rfl rfl rfl (Nat.le_of_ble_eq_true rfl) (zF_7 cy hz1354) (zP_7_1 Z S _ _) rfl (fun S1355 eS1355 => ?_)
  have hw := hw S1355 eS1355
  refine zg_aload_n (q := 306) C0 0 dX7_init_305 rfl rfl ?_
  refine zg_iload_n (q := 307) C0 1 dX7_init_306 rfl rfl ?_
  refine zg_iconst (q := 308) C0 dX7_init_307 zc_iconst_1 rfl ?_
  refine zg_icmp_ge (q := 311) (tgt := 315) C0 dX7_init_308 rfl rfl (fun c1387 => ?_) (fun c1387 => ?_)
  · have hw := hw.1 c1387
    refine zg_iload_n (q := 316) C0 1 dX7_init_315 rfl rfl ?_
    refine zg_bipush (q := 318) C0 dX7_init_316 zc_bipush_8 rfl ?_
    refine zg_icmp_le (q := 321) (tgt := 326) C0 dX7_init_318 rfl rfl (fun c1383 => ?_) (fun c1383 => ?_)
    · have hw := hw.1 c1383
      refine zg_iload_n (q := 327) C0 1 dX7_init_326 rfl rfl ?_
      obtain ⟨hz1356, hw⟩ := hw
      refine zg_putI (q := 330) (T := TX7) (k := 2) (ty0 := tyX7) C0 dX7_init_327 hz1356 (zF_7 cy hz1356) rfl (by decide) hX_X7_init_7 tyX7_ok nmX7 (zwm (i := 41) rfl) rfl rfl rfl rfl (Nat.le_of_ble_eq_true rfl) (zF_7 cy hz1356) (zP_7_2 Z S1355 _ _) rfl (fun S1357 eS1357 => ?_)
      have hw := hw S1357 eS1357
      refine zg_iconst (q := 331) C0 dX7_init_330 zc_iconst_0 rfl ?_
      refine zg_istore_n (q := 332) (lv' := [(3, .int 0), (0, .ref x0), (2, .int x2)]) C0 dX7_init_331 (by decide) rfl rfl ?_
      refine zg_sub [1, 0] rfl ?_
      refine aL_X7_init_332 C0 (fun  S1379 hw => ?_) _ _ hw
      exact zg_vretz C0 dX7_init_384 rfl (Nat.le_of_ble_eq_true rfl) (Nat.le_of_ble_eq_true rfl) hw
    · have hw := hw.2 c1383
      refine zg_bipush (q := 323) C0 dX7_init_321 zc_bipush_8 rfl ?_
      refine zg_goto (tgt := 327) C0 dX7_init_323 rfl ?_
      obtain ⟨hz1380, hw⟩ := hw
      refine zg_putI (q := 330) (T := TX7) (k := 2) (ty0 := tyX7) C0 dX7_init_327 hz1380 (zF_7 cy hz1380) rfl (by decide) hX_X7_init_7 tyX7_ok nmX7 (zwm (i := 41) rfl) rfl rfl rfl rfl (Nat.le_of_ble_eq_true rfl) (zF_7 cy hz1380) (zP_7_2 Z S1355 _ _) rfl (fun S1381 eS1381 => ?_)
      have hw := hw S1381 eS1381
      refine zg_iconst (q := 331) C0 dX7_init_330 zc_iconst_0 rfl ?_
      refine zg_istore_n (q := 332) (lv' := [(3, .int 0), (0, .ref x0), (2, .int x2)]) C0 dX7_init_331 (by decide) rfl rfl ?_
      refine zg_sub [1, 0] rfl ?_
      refine aL_X7_init_332 C0 (fun  S1382 hw => ?_) _ _ hw
      exact zg_vretz C0 dX7_init_384 rfl (Nat.le_of_ble_eq_true rfl) (Nat.le_of_ble_eq_true rfl) hw
  · have hw := hw.2 c1387
    refine zg_iconst (q := 312) C0 dX7_init_311 zc_iconst_1 rfl ?_
    refine zg_goto (tgt := 327) C0 dX7_init_312 rfl ?_
    obtain ⟨hz1384, hw⟩ := hw
    refine zg_putI (q := 330) (T := TX7) (k := 2) (ty0 := tyX7) C0 dX7_init_327 hz1384 (zF_7 cy hz1384) rfl (by decide) hX_X7_init_7 tyX7_ok nmX7 (zwm (i := 41) rfl) rfl rfl rfl rfl (Nat.le_of_ble_eq_true rfl) (zF_7 cy hz1384) (zP_7_2 Z S1355 _ _) rfl (fun S1385 eS1385 => ?_)
    have hw := hw S1385 eS1385
    refine zg_iconst (q := 331) C0 dX7_init_330 zc_iconst_0 rfl ?_
    refine zg_istore_n (q := 332) (lv' := [(3, .int 0), (0, .ref x0), (2, .int x2)]) C0 dX7_init_331 (by decide) rfl rfl ?_
    refine zg_sub [1, 0] rfl ?_
    refine aL_X7_init_332 C0 (fun  S1386 hw => ?_) _ _ hw
    exact zg_vretz C0 dX7_init_384 rfl (Nat.le_of_ble_eq_true rfl) (Nat.le_of_ble_eq_true rfl) hw
def w_X7_init (Z : zZ) (h0 : Nat) (p0 : Int32) (p1 : Int32) (S : zS) (Qp : zZ → zS → Prop) : Prop :=
  ∀ b1, b1 ∉ zL Z → ∀ (Z3 : zZ) (S4 : zS), Z3 = zalZ Z b1 10 8 → S4 = zalS S b1 → zk Z3 h0 7 ∧ ∀ Z7 : zZ, Z7 = zsQ Z3 h0 3 (some b1) → ∀ b10, b10 ∉ zL Z7 → ∀ (Z12 : zZ) (S13 : zS), Z12 = zalZ Z7 b10 8 8 → S13 = zalS S4 b10 → ∀ Z17 : zZ, Z17 = zsQ Z12 h0 4 (some b10) → ∀ b21, b21 ∉ zL Z17 → ∀ (Z23 : zZ) (S24 : zS), Z23 = zalZ Z17 b21 8 8 → S24 = zalS S13 b21 → ∀ Z29 : zZ, Z29 = zsQ Z23 h0 5 (some b21) → ∀ b34, b34 ∉ zL Z29 → ∀ (Z36 : zZ) (S37 : zS), Z36 = zalZ Z29 b34 8 8 → S37 = zalS S24 b34 → ∀ Z43 : zZ, Z43 = zsQ Z36 h0 6 (some b34) → ∀ b49, b49 ∉ zL Z43 → ∀ (Z51 : zZ) (S52 : zS), Z51 = zalZ Z43 b49 9 128 → S52 = zalS S37 b49 → ∀ Z59 : zZ, Z59 = zsQ Z51 h0 7 (some b49) → ∀ b66, b66 ∉ zL Z59 → ∀ (Z68 : zZ) (S69 : zS), Z68 = zalZ Z59 b66 8 8 → S69 = zalS S52 b66 → ∀ Z77 : zZ, Z77 = zsQ Z68 h0 8 (some b66) → ∀ b85, b85 ∉ zL Z77 → ∀ (Z87 : zZ) (S88 : zS), Z87 = zalZ Z77 b85 9 8 → S88 = zalS S69 b85 → ∀ Z97 : zZ, Z97 = zsQ Z87 h0 9 (some b85) → ∀ b106, b106 ∉ zL Z97 → ∀ (Z108 : zZ) (S109 : zS), Z108 = zalZ Z97 b106 8 8 → S109 = zalS S88 b106 → ∀ Z119 : zZ, Z119 = zsQ Z108 h0 10 (some b106) → ∀ b129, b129 ∉ zL Z119 → ∀ (Z131 : zZ) (S132 : zS), Z131 = zalZ Z119 b129 8 8 → S132 = zalS S109 b129 → ∀ Z143 : zZ, Z143 = zsQ Z131 h0 11 (some b129) → ∀ b154, b154 ∉ zL Z143 → ∀ (Z156 : zZ) (S157 : zS), Z156 = zalZ Z143 b154 8 8 → S157 = zalS S132 b154 → ∀ Z169 : zZ, Z169 = zsQ Z156 h0 12 (some b154) → ∀ b181, b181 ∉ zL Z169 → ∀ (Z183 : zZ) (S184 : zS), Z183 = zalZ Z169 b181 8 96 → S184 = zalS S157 b181 → ∀ Z197 : zZ, Z197 = zsQ Z183 h0 13 (some b181) → ∀ b210, b210 ∉ zL Z197 → ∀ (Z212 : zZ) (S213 : zS), Z212 = zalZ Z197 b210 9 96 → S213 = zalS S184 b210 → ∀ Z227 : zZ, Z227 = zsQ Z212 h0 14 (some b210) → ∀ b241, b241 ∉ zL Z227 → ∀ (Z243 : zZ) (S244 : zS), Z243 = zalZ Z227 b241 10 96 → S244 = zalS S213 b241 → ∀ Z259 : zZ, Z259 = zsQ Z243 h0 15 (some b241) → ∀ b274, b274 ∉ zL Z259 → ∀ (Z276 : zZ) (S277 : zS), Z276 = zalZ Z259 b274 8 8 → S277 = zalS S244 b274 → ∀ Z293 : zZ, Z293 = zsQ Z276 h0 16 (some b274) → ∀ b309, b309 ∉ zL Z293 → ∀ (Z311 : zZ) (S312 : zS), Z311 = zalZ Z293 b309 8 8 → S312 = zalS S277 b309 → ∀ Z329 : zZ, Z329 = zsQ Z311 h0 17 (some b309) → ∀ b346, b346 ∉ zL Z329 → ∀ (Z348 : zZ) (S349 : zS), Z348 = zalZ Z329 b346 8 8 → S349 = zalS S312 b346 → ∀ Z367 : zZ, Z367 = zsQ Z348 h0 18 (some b346) → ∀ b385, b385 ∉ zL Z367 → ∀ (Z387 : zZ) (S388 : zS), Z387 = zalZ Z367 b385 10 808 → S388 = zalS S349 b385 → ∀ Z407 : zZ, Z407 = zsQ Z387 h0 19 (some b385) → ∀ b426, b426 ∉ zL Z407 → ∀ (Z428 : zZ) (S429 : zS), Z428 = zalZ Z407 b426 8 808 → S429 = zalS S388 b426 → ∀ Z449 : zZ, Z449 = zsQ Z428 h0 20 (some b426) → ∀ b469, b469 ∉ zL Z449 → ∀ (Z471 : zZ) (S472 : zS), Z471 = zalZ Z449 b469 9 808 → S472 = zalS S429 b469 → ∀ Z493 : zZ, Z493 = zsQ Z471 h0 21 (some b469) → ∀ b514, b514 ∉ zL Z493 → ∀ (Z516 : zZ) (S517 : zS), Z516 = zalZ Z493 b514 8 8 → S517 = zalS S472 b514 → ∀ Z539 : zZ, Z539 = zsQ Z516 h0 22 (some b514) → ∀ b561, b561 ∉ zL Z539 → ∀ (Z563 : zZ) (S564 : zS), Z563 = zalZ Z539 b561 9 4800 → S564 = zalS S517 b561 → ∀ Z587 : zZ, Z587 = zsQ Z563 h0 23 (some b561) → ∀ b610, b610 ∉ zL Z587 → ∀ (Z612 : zZ) (S613 : zS), Z612 = zalZ Z587 b610 8 16 → S613 = zalS S564 b610 → ∀ Z637 : zZ, Z637 = zsQ Z612 h0 24 (some b610) → ∀ b661, b661 ∉ zL Z637 → ∀ (Z663 : zZ) (S664 : zS), Z663 = zalZ Z637 b661 8 16 → S664 = zalS S613 b661 → ∀ Z689 : zZ, Z689 = zsQ Z663 h0 25 (some b661) → ∀ b714, b714 ∉ zL Z689 → ∀ (Z716 : zZ) (S717 : zS), Z716 = zalZ Z689 b714 10 16 → S717 = zalS S664 b714 → ∀ Z743 : zZ, Z743 = zsQ Z716 h0 26 (some b714) → ∀ b769, b769 ∉ zL Z743 → ∀ (Z771 : zZ) (S772 : zS), Z771 = zalZ Z743 b769 8 16 → S772 = zalS S717 b769 → ∀ Z799 : zZ, Z799 = zsQ Z771 h0 27 (some b769) → ∀ b826, b826 ∉ zL Z799 → ∀ (Z828 : zZ) (S829 : zS), Z828 = zalZ Z799 b826 8 16 → S829 = zalS S772 b826 → ∀ Z857 : zZ, Z857 = zsQ Z828 h0 28 (some b826) → ∀ b885, b885 ∉ zL Z857 → ∀ (Z887 : zZ) (S888 : zS), Z887 = zalZ Z857 b885 8 1616 → S888 = zalS S829 b885 → ∀ Z917 : zZ, Z917 = zsQ Z887 h0 29 (some b885) → ∀ b946, b946 ∉ zL Z917 → ∀ (Z948 : zZ) (S949 : zS), Z948 = zalZ Z917 b946 8 1616 → S949 = zalS S888 b946 → ∀ Z979 : zZ, Z979 = zsQ Z948 h0 30 (some b946) → ∀ b1009, b1009 ∉ zL Z979 → ∀ (Z1011 : zZ) (S1012 : zS), Z1011 = zalZ Z979 b1009 9 1616 → S1012 = zalS S949 b1009 → ∀ Z1043 : zZ, Z1043 = zsQ Z1011 h0 31 (some b1009) → ∀ b1074, b1074 ∉ zL Z1043 → ∀ (Z1076 : zZ) (S1077 : zS), Z1076 = zalZ Z1043 b1074 10 1616 → S1077 = zalS S1012 b1074 → ∀ Z1109 : zZ, Z1109 = zsQ Z1076 h0 32 (some b1074) → ∀ b1141, b1141 ∉ zL Z1109 → ∀ (Z1143 : zZ) (S1144 : zS), Z1143 = zalZ Z1109 b1141 8 1616 → S1144 = zalS S1077 b1141 → ∀ Z1177 : zZ, Z1177 = zsQ Z1143 h0 33 (some b1141) → ∀ b1210, b1210 ∉ zL Z1177 → ∀ (Z1212 : zZ) (S1213 : zS), Z1212 = zalZ Z1177 b1210 10 1616 → S1213 = zalS S1144 b1210 → ∀ Z1247 : zZ, Z1247 = zsQ Z1212 h0 34 (some b1210) → ∀ b1281, b1281 ∉ zL Z1247 → ∀ (Z1283 : zZ) (S1284 : zS), Z1283 = zalZ Z1247 b1281 8 128 → S1284 = zalS S1213 b1281 → ∀ Z1319 : zZ, Z1319 = zsQ Z1283 h0 35 (some b1281) → ((2 ≤ p0 → ((p0 ≤ 8 → wJ_X7_init_302 Z1319 Qp  h0 p1 p0 h0 S1284) ∧ (¬ p0 ≤ 8 → wJ_X7_init_302 Z1319 Qp  h0 p1 8 h0 S1284))) ∧ (¬ 2 ≤ p0 → wJ_X7_init_302 Z1319 Qp  h0 p1 2 h0 S1284))
set_option maxHeartbeats 4000000 in
set_option maxRecDepth 100000 in
theorem a_X7_init (l : Launch) (D : va_G) (cy : Nat → ClassId) (Z : zZ) (S : zS) (sz : Nat) (h0 : Nat) (p0 : Int32) (p1 : Int32) (Qp : zZ → zS → Prop) (hw : w_X7_init Z h0 p0 p1 S Qp) : zMz l yX7_init wsX7_init rm_X7_init D cy Z S sz [.ref h0, .int p0, .int p1] Qp := by
  unfold w_X7_init at hw
  refine zMz_of (cc := cX7_init) (maxL := 4) (rt := none) (by decide +kernel) rfl (Nat.le_of_ble_eq_true rfl) ?_
  intro p e s m args below meth c A C0 hnm0
  refine zg_lv (lv' := [(0, .ref h0), (1, .int p0), (2, .int p1)]) rfl ?_
  refine zg_aload_n (q := 1) C0 0 dX7_init_0 rfl rfl ?_
  refine zg_objInit (q := 4) C0 dX7_init_1 (zwm (i := 1) rfl) (zwm (i := 2) rfl) (zwm (i := 3) rfl) (Nat.le_of_ble_eq_true rfl) (Nat.le_of_ble_eq_true rfl) rfl rfl ?_
  refine zg_aload_n (q := 5) C0 0 dX7_init_4 rfl rfl ?_
  refine zg_bipush (q := 7) C0 dX7_init_5 zc_bipush_8 rfl ?_
  refine zg_newaZ (q := 9) (N' := 8) (k := 1) (j := 8) C0 dX7_init_7 (zwm (i := 4) rfl) (by decide) (by decide) (by decide) ⟨rfl, rfl⟩ ⟨Nat.le_of_ble_eq_true rfl, Nat.le_of_ble_eq_true rfl⟩ rfl (fun b1 ha2 Z3 S4 eZ3 eS4 => ?_)
  have hw := hw b1 ha2 Z3 S4 eZ3 eS4
  have hz5 := zk_al' eZ3
  obtain ⟨hz6, hw⟩ := hw
  refine zg_putfQ (q := 12) (v := b1) (T := TX7) (k := 3) (ty0 := tyX7) C0 hnm0 dX7_init_9 hz6 (zF_7 cy hz6) rfl (by decide) hX_X7_init_7 tyX7_ok nmX7 (zwm (i := 5) rfl) rfl rfl rfl rfl rfl (Nat.le_of_ble_eq_true rfl) (zF_7 cy (zk_sQ hz6)) (zP_7_3 Z3 S4 _ (some _)) rfl (fun Z7 eZ7 => ?_)
  have hw := hw Z7 eZ7
  have hz8 := zk_sQ' eZ7 hz5
  have hz9 := zk_sQ' eZ7 hz6
  refine zg_aload_n (q := 13) C0 0 dX7_init_12 rfl rfl ?_
  refine zg_bipush (q := 15) C0 dX7_init_13 zc_bipush_8 rfl ?_
  refine zg_newaI (q := 17) (N' := 8) (k := 2) (j := 16) C0 dX7_init_15 (zwm (i := 6) rfl) (by decide) (by decide) (by decide) ⟨rfl, rfl⟩ ⟨Nat.le_of_ble_eq_true rfl, Nat.le_of_ble_eq_true rfl⟩ rfl (fun b10 ha11 Z12 S13 eZ12 eS13 => ?_)
  have hw := hw b10 ha11 Z12 S13 eZ12 eS13
  have hz14 := zk_old' eZ12 hz8 ha11
  have hz15 := zk_old' eZ12 hz9 ha11
  have hz16 := zk_al' eZ12
  refine zg_putfQ (q := 20) (v := b10) (T := TX7) (k := 4) (ty0 := tyX7) C0 hnm0 dX7_init_17 hz15 (zF_7 cy hz15) rfl (by decide) hX_X7_init_7 tyX7_ok nmX7 (zwm (i := 7) rfl) rfl rfl rfl rfl rfl (Nat.le_of_ble_eq_true rfl) (zF_7 cy (zk_sQ hz15)) (zP_7_4 Z12 S13 _ (some _)) rfl (fun Z17 eZ17 => ?_)
  have hw := hw Z17 eZ17
  have hz18 := zk_sQ' eZ17 hz14
  have hz19 := zk_sQ' eZ17 hz15
  have hz20 := zk_sQ' eZ17 hz16
  refine zg_aload_n (q := 21) C0 0 dX7_init_20 rfl rfl ?_
  refine zg_bipush (q := 23) C0 dX7_init_21 zc_bipush_8 rfl ?_
  refine zg_newaI (q := 25) (N' := 8) (k := 3) (j := 24) C0 dX7_init_23 (zwm (i := 6) rfl) (by decide) (by decide) (by decide) ⟨rfl, rfl⟩ ⟨Nat.le_of_ble_eq_true rfl, Nat.le_of_ble_eq_true rfl⟩ rfl (fun b21 ha22 Z23 S24 eZ23 eS24 => ?_)
  have hw := hw b21 ha22 Z23 S24 eZ23 eS24
  have hz25 := zk_old' eZ23 hz18 ha22
  have hz26 := zk_old' eZ23 hz19 ha22
  have hz27 := zk_old' eZ23 hz20 ha22
  have hz28 := zk_al' eZ23
  refine zg_putfQ (q := 28) (v := b21) (T := TX7) (k := 5) (ty0 := tyX7) C0 hnm0 dX7_init_25 hz26 (zF_7 cy hz26) rfl (by decide) hX_X7_init_7 tyX7_ok nmX7 (zwm (i := 8) rfl) rfl rfl rfl rfl rfl (Nat.le_of_ble_eq_true rfl) (zF_7 cy (zk_sQ hz26)) (zP_7_5 Z23 S24 _ (some _)) rfl (fun Z29 eZ29 => ?_)
  have hw := hw Z29 eZ29
  have hz30 := zk_sQ' eZ29 hz25
  have hz31 := zk_sQ' eZ29 hz26
  have hz32 := zk_sQ' eZ29 hz27
  have hz33 := zk_sQ' eZ29 hz28
  refine zg_aload_n (q := 29) C0 0 dX7_init_28 rfl rfl ?_
  refine zg_bipush (q := 31) C0 dX7_init_29 zc_bipush_8 rfl ?_
  refine zg_newaI (q := 33) (N' := 8) (k := 4) (j := 32) C0 dX7_init_31 (zwm (i := 6) rfl) (by decide) (by decide) (by decide) ⟨rfl, rfl⟩ ⟨Nat.le_of_ble_eq_true rfl, Nat.le_of_ble_eq_true rfl⟩ rfl (fun b34 ha35 Z36 S37 eZ36 eS37 => ?_)
  have hw := hw b34 ha35 Z36 S37 eZ36 eS37
  have hz38 := zk_old' eZ36 hz30 ha35
  have hz39 := zk_old' eZ36 hz31 ha35
  have hz40 := zk_old' eZ36 hz32 ha35
  have hz41 := zk_old' eZ36 hz33 ha35
  have hz42 := zk_al' eZ36
  refine zg_putfQ (q := 36) (v := b34) (T := TX7) (k := 6) (ty0 := tyX7) C0 hnm0 dX7_init_33 hz39 (zF_7 cy hz39) rfl (by decide) hX_X7_init_7 tyX7_ok nmX7 (zwm (i := 9) rfl) rfl rfl rfl rfl rfl (Nat.le_of_ble_eq_true rfl) (zF_7 cy (zk_sQ hz39)) (zP_7_6 Z36 S37 _ (some _)) rfl (fun Z43 eZ43 => ?_)
  have hw := hw Z43 eZ43
  have hz44 := zk_sQ' eZ43 hz38
  have hz45 := zk_sQ' eZ43 hz39
  have hz46 := zk_sQ' eZ43 hz40
  have hz47 := zk_sQ' eZ43 hz41
  have hz48 := zk_sQ' eZ43 hz42
  refine zg_aload_n (q := 37) C0 0 dX7_init_36 rfl rfl ?_
  refine zg_sipush (q := 40) C0 dX7_init_37 zc_sipush_128 rfl ?_
  refine zg_newaJ (q := 42) (N' := 128) (k := 5) (j := 160) C0 dX7_init_40 (zwm (i := 10) rfl) (by decide) (by decide) (by decide) ⟨rfl, rfl⟩ ⟨Nat.le_of_ble_eq_true rfl, Nat.le_of_ble_eq_true rfl⟩ rfl (fun b49 ha50 Z51 S52 eZ51 eS52 => ?_)
  have hw := hw b49 ha50 Z51 S52 eZ51 eS52
  have hz53 := zk_old' eZ51 hz44 ha50
  have hz54 := zk_old' eZ51 hz45 ha50
  have hz55 := zk_old' eZ51 hz46 ha50
  have hz56 := zk_old' eZ51 hz47 ha50
  have hz57 := zk_old' eZ51 hz48 ha50
  have hz58 := zk_al' eZ51
  refine zg_putfQ (q := 45) (v := b49) (T := TX7) (k := 7) (ty0 := tyX7) C0 hnm0 dX7_init_42 hz54 (zF_7 cy hz54) rfl (by decide) hX_X7_init_7 tyX7_ok nmX7 (zwm (i := 11) rfl) rfl rfl rfl rfl rfl (Nat.le_of_ble_eq_true rfl) (zF_7 cy (zk_sQ hz54)) (zP_7_7 Z51 S52 _ (some _)) rfl (fun Z59 eZ59 => ?_)
  have hw := hw Z59 eZ59
  have hz60 := zk_sQ' eZ59 hz53
  have hz61 := zk_sQ' eZ59 hz54
  have hz62 := zk_sQ' eZ59 hz55
  have hz63 := zk_sQ' eZ59 hz56
  have hz64 := zk_sQ' eZ59 hz57
  have hz65 := zk_sQ' eZ59 hz58
  refine zg_aload_n (q := 46) C0 0 dX7_init_45 rfl rfl ?_
  refine zg_bipush (q := 48) C0 dX7_init_46 zc_bipush_8 rfl ?_
  refine zg_newaI (q := 50) (N' := 8) (k := 6) (j := 168) C0 dX7_init_48 (zwm (i := 6) rfl) (by decide) (by decide) (by decide) ⟨rfl, rfl⟩ ⟨Nat.le_of_ble_eq_true rfl, Nat.le_of_ble_eq_true rfl⟩ rfl (fun b66 ha67 Z68 S69 eZ68 eS69 => ?_)
  have hw := hw b66 ha67 Z68 S69 eZ68 eS69
  have hz70 := zk_old' eZ68 hz60 ha67
  have hz71 := zk_old' eZ68 hz61 ha67
  have hz72 := zk_old' eZ68 hz62 ha67
  have hz73 := zk_old' eZ68 hz63 ha67
  have hz74 := zk_old' eZ68 hz64 ha67
  have hz75 := zk_old' eZ68 hz65 ha67
  have hz76 := zk_al' eZ68
  refine zg_putfQ (q := 53) (v := b66) (T := TX7) (k := 8) (ty0 := tyX7) C0 hnm0 dX7_init_50 hz71 (zF_7 cy hz71) rfl (by decide) hX_X7_init_7 tyX7_ok nmX7 (zwm (i := 12) rfl) rfl rfl rfl rfl rfl (Nat.le_of_ble_eq_true rfl) (zF_7 cy (zk_sQ hz71)) (zP_7_8 Z68 S69 _ (some _)) rfl (fun Z77 eZ77 => ?_)
  have hw := hw Z77 eZ77
  have hz78 := zk_sQ' eZ77 hz70
  have hz79 := zk_sQ' eZ77 hz71
  have hz80 := zk_sQ' eZ77 hz72
  have hz81 := zk_sQ' eZ77 hz73
  have hz82 := zk_sQ' eZ77 hz74
  have hz83 := zk_sQ' eZ77 hz75
  have hz84 := zk_sQ' eZ77 hz76
  refine zg_aload_n (q := 54) C0 0 dX7_init_53 rfl rfl ?_
  refine zg_bipush (q := 56) C0 dX7_init_54 zc_bipush_8 rfl ?_
  refine zg_newaJ (q := 58) (N' := 8) (k := 7) (j := 176) C0 dX7_init_56 (zwm (i := 10) rfl) (by decide) (by decide) (by decide) ⟨rfl, rfl⟩ ⟨Nat.le_of_ble_eq_true rfl, Nat.le_of_ble_eq_true rfl⟩ rfl (fun b85 ha86 Z87 S88 eZ87 eS88 => ?_)
  have hw := hw b85 ha86 Z87 S88 eZ87 eS88
  have hz89 := zk_old' eZ87 hz78 ha86
  have hz90 := zk_old' eZ87 hz79 ha86
  have hz91 := zk_old' eZ87 hz80 ha86
  have hz92 := zk_old' eZ87 hz81 ha86
  have hz93 := zk_old' eZ87 hz82 ha86
  have hz94 := zk_old' eZ87 hz83 ha86
  have hz95 := zk_old' eZ87 hz84 ha86
  have hz96 := zk_al' eZ87
  refine zg_putfQ (q := 61) (v := b85) (T := TX7) (k := 9) (ty0 := tyX7) C0 hnm0 dX7_init_58 hz90 (zF_7 cy hz90) rfl (by decide) hX_X7_init_7 tyX7_ok nmX7 (zwm (i := 13) rfl) rfl rfl rfl rfl rfl (Nat.le_of_ble_eq_true rfl) (zF_7 cy (zk_sQ hz90)) (zP_7_9 Z87 S88 _ (some _)) rfl (fun Z97 eZ97 => ?_)
  have hw := hw Z97 eZ97
  have hz98 := zk_sQ' eZ97 hz89
  have hz99 := zk_sQ' eZ97 hz90
  have hz100 := zk_sQ' eZ97 hz91
  have hz101 := zk_sQ' eZ97 hz92
  have hz102 := zk_sQ' eZ97 hz93
  have hz103 := zk_sQ' eZ97 hz94
  have hz104 := zk_sQ' eZ97 hz95
  have hz105 := zk_sQ' eZ97 hz96
  refine zg_aload_n (q := 62) C0 0 dX7_init_61 rfl rfl ?_
  refine zg_bipush (q := 64) C0 dX7_init_62 zc_bipush_8 rfl ?_
  refine zg_newaI (q := 66) (N' := 8) (k := 8) (j := 184) C0 dX7_init_64 (zwm (i := 6) rfl) (by decide) (by decide) (by decide) ⟨rfl, rfl⟩ ⟨Nat.le_of_ble_eq_true rfl, Nat.le_of_ble_eq_true rfl⟩ rfl (fun b106 ha107 Z108 S109 eZ108 eS109 => ?_)
  have hw := hw b106 ha107 Z108 S109 eZ108 eS109
  have hz110 := zk_old' eZ108 hz98 ha107
  have hz111 := zk_old' eZ108 hz99 ha107
  have hz112 := zk_old' eZ108 hz100 ha107
  have hz113 := zk_old' eZ108 hz101 ha107
  have hz114 := zk_old' eZ108 hz102 ha107
  have hz115 := zk_old' eZ108 hz103 ha107
  have hz116 := zk_old' eZ108 hz104 ha107
  have hz117 := zk_old' eZ108 hz105 ha107
  have hz118 := zk_al' eZ108
  refine zg_putfQ (q := 69) (v := b106) (T := TX7) (k := 10) (ty0 := tyX7) C0 hnm0 dX7_init_66 hz111 (zF_7 cy hz111) rfl (by decide) hX_X7_init_7 tyX7_ok nmX7 (zwm (i := 14) rfl) rfl rfl rfl rfl rfl (Nat.le_of_ble_eq_true rfl) (zF_7 cy (zk_sQ hz111)) (zP_7_10 Z108 S109 _ (some _)) rfl (fun Z119 eZ119 => ?_)
  have hw := hw Z119 eZ119
  have hz120 := zk_sQ' eZ119 hz110
  have hz121 := zk_sQ' eZ119 hz111
  have hz122 := zk_sQ' eZ119 hz112
  have hz123 := zk_sQ' eZ119 hz113
  have hz124 := zk_sQ' eZ119 hz114
  have hz125 := zk_sQ' eZ119 hz115
  have hz126 := zk_sQ' eZ119 hz116
  have hz127 := zk_sQ' eZ119 hz117
  have hz128 := zk_sQ' eZ119 hz118
  refine zg_aload_n (q := 70) C0 0 dX7_init_69 rfl rfl ?_
  refine zg_bipush (q := 72) C0 dX7_init_70 zc_bipush_8 rfl ?_
  refine zg_newaI (q := 74) (N' := 8) (k := 9) (j := 192) C0 dX7_init_72 (zwm (i := 6) rfl) (by decide) (by decide) (by decide) ⟨rfl, rfl⟩ ⟨Nat.le_of_ble_eq_true rfl, Nat.le_of_ble_eq_true rfl⟩ rfl (fun b129 ha130 Z131 S132 eZ131 eS132 => ?_)
  have hw := hw b129 ha130 Z131 S132 eZ131 eS132
  have hz133 := zk_old' eZ131 hz120 ha130
  have hz134 := zk_old' eZ131 hz121 ha130
  have hz135 := zk_old' eZ131 hz122 ha130
  have hz136 := zk_old' eZ131 hz123 ha130
  have hz137 := zk_old' eZ131 hz124 ha130
  have hz138 := zk_old' eZ131 hz125 ha130
  have hz139 := zk_old' eZ131 hz126 ha130
  have hz140 := zk_old' eZ131 hz127 ha130
  have hz141 := zk_old' eZ131 hz128 ha130
  have hz142 := zk_al' eZ131
  refine zg_putfQ (q := 77) (v := b129) (T := TX7) (k := 11) (ty0 := tyX7) C0 hnm0 dX7_init_74 hz134 (zF_7 cy hz134) rfl (by decide) hX_X7_init_7 tyX7_ok nmX7 (zwm (i := 15) rfl) rfl rfl rfl rfl rfl (Nat.le_of_ble_eq_true rfl) (zF_7 cy (zk_sQ hz134)) (zP_7_11 Z131 S132 _ (some _)) rfl (fun Z143 eZ143 => ?_)
  have hw := hw Z143 eZ143
  have hz144 := zk_sQ' eZ143 hz133
  have hz145 := zk_sQ' eZ143 hz134
  have hz146 := zk_sQ' eZ143 hz135
  have hz147 := zk_sQ' eZ143 hz136
  have hz148 := zk_sQ' eZ143 hz137
  have hz149 := zk_sQ' eZ143 hz138
  have hz150 := zk_sQ' eZ143 hz139
  have hz151 := zk_sQ' eZ143 hz140
  have hz152 := zk_sQ' eZ143 hz141
  have hz153 := zk_sQ' eZ143 hz142
  refine zg_aload_n (q := 78) C0 0 dX7_init_77 rfl rfl ?_
  refine zg_bipush (q := 80) C0 dX7_init_78 zc_bipush_8 rfl ?_
  refine zg_newaI (q := 82) (N' := 8) (k := 10) (j := 200) C0 dX7_init_80 (zwm (i := 6) rfl) (by decide) (by decide) (by decide) ⟨rfl, rfl⟩ ⟨Nat.le_of_ble_eq_true rfl, Nat.le_of_ble_eq_true rfl⟩ rfl (fun b154 ha155 Z156 S157 eZ156 eS157 => ?_)
  have hw := hw b154 ha155 Z156 S157 eZ156 eS157
  have hz158 := zk_old' eZ156 hz144 ha155
  have hz159 := zk_old' eZ156 hz145 ha155
  have hz160 := zk_old' eZ156 hz146 ha155
  have hz161 := zk_old' eZ156 hz147 ha155
  have hz162 := zk_old' eZ156 hz148 ha155
  have hz163 := zk_old' eZ156 hz149 ha155
  have hz164 := zk_old' eZ156 hz150 ha155
  have hz165 := zk_old' eZ156 hz151 ha155
  have hz166 := zk_old' eZ156 hz152 ha155
  have hz167 := zk_old' eZ156 hz153 ha155
  have hz168 := zk_al' eZ156
  refine zg_putfQ (q := 85) (v := b154) (T := TX7) (k := 12) (ty0 := tyX7) C0 hnm0 dX7_init_82 hz159 (zF_7 cy hz159) rfl (by decide) hX_X7_init_7 tyX7_ok nmX7 (zwm (i := 16) rfl) rfl rfl rfl rfl rfl (Nat.le_of_ble_eq_true rfl) (zF_7 cy (zk_sQ hz159)) (zP_7_12 Z156 S157 _ (some _)) rfl (fun Z169 eZ169 => ?_)
  have hw := hw Z169 eZ169
  have hz170 := zk_sQ' eZ169 hz158
  have hz171 := zk_sQ' eZ169 hz159
  have hz172 := zk_sQ' eZ169 hz160
  have hz173 := zk_sQ' eZ169 hz161
  have hz174 := zk_sQ' eZ169 hz162
  have hz175 := zk_sQ' eZ169 hz163
  have hz176 := zk_sQ' eZ169 hz164
  have hz177 := zk_sQ' eZ169 hz165
  have hz178 := zk_sQ' eZ169 hz166
  have hz179 := zk_sQ' eZ169 hz167
  have hz180 := zk_sQ' eZ169 hz168
  refine zg_aload_n (q := 86) C0 0 dX7_init_85 rfl rfl ?_
  refine zg_bipush (q := 88) C0 dX7_init_86 zc_bipush_96 rfl ?_
  refine zg_newaI (q := 90) (N' := 96) (k := 11) (j := 296) C0 dX7_init_88 (zwm (i := 6) rfl) (by decide) (by decide) (by decide) ⟨rfl, rfl⟩ ⟨Nat.le_of_ble_eq_true rfl, Nat.le_of_ble_eq_true rfl⟩ rfl (fun b181 ha182 Z183 S184 eZ183 eS184 => ?_)
  have hw := hw b181 ha182 Z183 S184 eZ183 eS184
  have hz185 := zk_old' eZ183 hz170 ha182
  have hz186 := zk_old' eZ183 hz171 ha182
  have hz187 := zk_old' eZ183 hz172 ha182
  have hz188 := zk_old' eZ183 hz173 ha182
  have hz189 := zk_old' eZ183 hz174 ha182
  have hz190 := zk_old' eZ183 hz175 ha182
  have hz191 := zk_old' eZ183 hz176 ha182
  have hz192 := zk_old' eZ183 hz177 ha182
  have hz193 := zk_old' eZ183 hz178 ha182
  have hz194 := zk_old' eZ183 hz179 ha182
  have hz195 := zk_old' eZ183 hz180 ha182
  have hz196 := zk_al' eZ183
  refine zg_putfQ (q := 93) (v := b181) (T := TX7) (k := 13) (ty0 := tyX7) C0 hnm0 dX7_init_90 hz186 (zF_7 cy hz186) rfl (by decide) hX_X7_init_7 tyX7_ok nmX7 (zwm (i := 17) rfl) rfl rfl rfl rfl rfl (Nat.le_of_ble_eq_true rfl) (zF_7 cy (zk_sQ hz186)) (zP_7_13 Z183 S184 _ (some _)) rfl (fun Z197 eZ197 => ?_)
  have hw := hw Z197 eZ197
  have hz198 := zk_sQ' eZ197 hz185
  have hz199 := zk_sQ' eZ197 hz186
  have hz200 := zk_sQ' eZ197 hz187
  have hz201 := zk_sQ' eZ197 hz188
  have hz202 := zk_sQ' eZ197 hz189
  have hz203 := zk_sQ' eZ197 hz190
  have hz204 := zk_sQ' eZ197 hz191
  have hz205 := zk_sQ' eZ197 hz192
  have hz206 := zk_sQ' eZ197 hz193
  have hz207 := zk_sQ' eZ197 hz194
  have hz208 := zk_sQ' eZ197 hz195
  have hz209 := zk_sQ' eZ197 hz196
  refine zg_aload_n (q := 94) C0 0 dX7_init_93 rfl rfl ?_
  refine zg_bipush (q := 96) C0 dX7_init_94 zc_bipush_96 rfl ?_
  refine zg_newaJ (q := 98) (N' := 96) (k := 12) (j := 392) C0 dX7_init_96 (zwm (i := 10) rfl) (by decide) (by decide) (by decide) ⟨rfl, rfl⟩ ⟨Nat.le_of_ble_eq_true rfl, Nat.le_of_ble_eq_true rfl⟩ rfl (fun b210 ha211 Z212 S213 eZ212 eS213 => ?_)
  have hw := hw b210 ha211 Z212 S213 eZ212 eS213
  have hz214 := zk_old' eZ212 hz198 ha211
  have hz215 := zk_old' eZ212 hz199 ha211
  have hz216 := zk_old' eZ212 hz200 ha211
  have hz217 := zk_old' eZ212 hz201 ha211
  have hz218 := zk_old' eZ212 hz202 ha211
  have hz219 := zk_old' eZ212 hz203 ha211
  have hz220 := zk_old' eZ212 hz204 ha211
  have hz221 := zk_old' eZ212 hz205 ha211
  have hz222 := zk_old' eZ212 hz206 ha211
  have hz223 := zk_old' eZ212 hz207 ha211
  have hz224 := zk_old' eZ212 hz208 ha211
  have hz225 := zk_old' eZ212 hz209 ha211
  have hz226 := zk_al' eZ212
  refine zg_putfQ (q := 101) (v := b210) (T := TX7) (k := 14) (ty0 := tyX7) C0 hnm0 dX7_init_98 hz215 (zF_7 cy hz215) rfl (by decide) hX_X7_init_7 tyX7_ok nmX7 (zwm (i := 18) rfl) rfl rfl rfl rfl rfl (Nat.le_of_ble_eq_true rfl) (zF_7 cy (zk_sQ hz215)) (zP_7_14 Z212 S213 _ (some _)) rfl (fun Z227 eZ227 => ?_)
  have hw := hw Z227 eZ227
  have hz228 := zk_sQ' eZ227 hz214
  have hz229 := zk_sQ' eZ227 hz215
  have hz230 := zk_sQ' eZ227 hz216
  have hz231 := zk_sQ' eZ227 hz217
  have hz232 := zk_sQ' eZ227 hz218
  have hz233 := zk_sQ' eZ227 hz219
  have hz234 := zk_sQ' eZ227 hz220
  have hz235 := zk_sQ' eZ227 hz221
  have hz236 := zk_sQ' eZ227 hz222
  have hz237 := zk_sQ' eZ227 hz223
  have hz238 := zk_sQ' eZ227 hz224
  have hz239 := zk_sQ' eZ227 hz225
  have hz240 := zk_sQ' eZ227 hz226
  refine zg_aload_n (q := 102) C0 0 dX7_init_101 rfl rfl ?_
  refine zg_bipush (q := 104) C0 dX7_init_102 zc_bipush_96 rfl ?_
  refine zg_newaZ (q := 106) (N' := 96) (k := 13) (j := 488) C0 dX7_init_104 (zwm (i := 4) rfl) (by decide) (by decide) (by decide) ⟨rfl, rfl⟩ ⟨Nat.le_of_ble_eq_true rfl, Nat.le_of_ble_eq_true rfl⟩ rfl (fun b241 ha242 Z243 S244 eZ243 eS244 => ?_)
  have hw := hw b241 ha242 Z243 S244 eZ243 eS244
  have hz245 := zk_old' eZ243 hz228 ha242
  have hz246 := zk_old' eZ243 hz229 ha242
  have hz247 := zk_old' eZ243 hz230 ha242
  have hz248 := zk_old' eZ243 hz231 ha242
  have hz249 := zk_old' eZ243 hz232 ha242
  have hz250 := zk_old' eZ243 hz233 ha242
  have hz251 := zk_old' eZ243 hz234 ha242
  have hz252 := zk_old' eZ243 hz235 ha242
  have hz253 := zk_old' eZ243 hz236 ha242
  have hz254 := zk_old' eZ243 hz237 ha242
  have hz255 := zk_old' eZ243 hz238 ha242
  have hz256 := zk_old' eZ243 hz239 ha242
  have hz257 := zk_old' eZ243 hz240 ha242
  have hz258 := zk_al' eZ243
  refine zg_putfQ (q := 109) (v := b241) (T := TX7) (k := 15) (ty0 := tyX7) C0 hnm0 dX7_init_106 hz246 (zF_7 cy hz246) rfl (by decide) hX_X7_init_7 tyX7_ok nmX7 (zwm (i := 19) rfl) rfl rfl rfl rfl rfl (Nat.le_of_ble_eq_true rfl) (zF_7 cy (zk_sQ hz246)) (zP_7_15 Z243 S244 _ (some _)) rfl (fun Z259 eZ259 => ?_)
  have hw := hw Z259 eZ259
  have hz260 := zk_sQ' eZ259 hz245
  have hz261 := zk_sQ' eZ259 hz246
  have hz262 := zk_sQ' eZ259 hz247
  have hz263 := zk_sQ' eZ259 hz248
  have hz264 := zk_sQ' eZ259 hz249
  have hz265 := zk_sQ' eZ259 hz250
  have hz266 := zk_sQ' eZ259 hz251
  have hz267 := zk_sQ' eZ259 hz252
  have hz268 := zk_sQ' eZ259 hz253
  have hz269 := zk_sQ' eZ259 hz254
  have hz270 := zk_sQ' eZ259 hz255
  have hz271 := zk_sQ' eZ259 hz256
  have hz272 := zk_sQ' eZ259 hz257
  have hz273 := zk_sQ' eZ259 hz258
  refine zg_aload_n (q := 110) C0 0 dX7_init_109 rfl rfl ?_
  refine zg_bipush (q := 112) C0 dX7_init_110 zc_bipush_8 rfl ?_
  refine zg_newaI (q := 114) (N' := 8) (k := 14) (j := 496) C0 dX7_init_112 (zwm (i := 6) rfl) (by decide) (by decide) (by decide) ⟨rfl, rfl⟩ ⟨Nat.le_of_ble_eq_true rfl, Nat.le_of_ble_eq_true rfl⟩ rfl (fun b274 ha275 Z276 S277 eZ276 eS277 => ?_)
  have hw := hw b274 ha275 Z276 S277 eZ276 eS277
  have hz278 := zk_old' eZ276 hz260 ha275
  have hz279 := zk_old' eZ276 hz261 ha275
  have hz280 := zk_old' eZ276 hz262 ha275
  have hz281 := zk_old' eZ276 hz263 ha275
  have hz282 := zk_old' eZ276 hz264 ha275
  have hz283 := zk_old' eZ276 hz265 ha275
  have hz284 := zk_old' eZ276 hz266 ha275
  have hz285 := zk_old' eZ276 hz267 ha275
  have hz286 := zk_old' eZ276 hz268 ha275
  have hz287 := zk_old' eZ276 hz269 ha275
  have hz288 := zk_old' eZ276 hz270 ha275
  have hz289 := zk_old' eZ276 hz271 ha275
  have hz290 := zk_old' eZ276 hz272 ha275
  have hz291 := zk_old' eZ276 hz273 ha275
  have hz292 := zk_al' eZ276
  refine zg_putfQ (q := 117) (v := b274) (T := TX7) (k := 16) (ty0 := tyX7) C0 hnm0 dX7_init_114 hz279 (zF_7 cy hz279) rfl (by decide) hX_X7_init_7 tyX7_ok nmX7 (zwm (i := 20) rfl) rfl rfl rfl rfl rfl (Nat.le_of_ble_eq_true rfl) (zF_7 cy (zk_sQ hz279)) (zP_7_16 Z276 S277 _ (some _)) rfl (fun Z293 eZ293 => ?_)
  have hw := hw Z293 eZ293
  have hz294 := zk_sQ' eZ293 hz278
  have hz295 := zk_sQ' eZ293 hz279
  have hz296 := zk_sQ' eZ293 hz280
  have hz297 := zk_sQ' eZ293 hz281
  have hz298 := zk_sQ' eZ293 hz282
  have hz299 := zk_sQ' eZ293 hz283
  have hz300 := zk_sQ' eZ293 hz284
  have hz301 := zk_sQ' eZ293 hz285
  have hz302 := zk_sQ' eZ293 hz286
  have hz303 := zk_sQ' eZ293 hz287
  have hz304 := zk_sQ' eZ293 hz288
  have hz305 := zk_sQ' eZ293 hz289
  have hz306 := zk_sQ' eZ293 hz290
  have hz307 := zk_sQ' eZ293 hz291
  have hz308 := zk_sQ' eZ293 hz292
  refine zg_aload_n (q := 118) C0 0 dX7_init_117 rfl rfl ?_
  refine zg_bipush (q := 120) C0 dX7_init_118 zc_bipush_8 rfl ?_
  refine zg_newaI (q := 122) (N' := 8) (k := 15) (j := 504) C0 dX7_init_120 (zwm (i := 6) rfl) (by decide) (by decide) (by decide) ⟨rfl, rfl⟩ ⟨Nat.le_of_ble_eq_true rfl, Nat.le_of_ble_eq_true rfl⟩ rfl (fun b309 ha310 Z311 S312 eZ311 eS312 => ?_)
  have hw := hw b309 ha310 Z311 S312 eZ311 eS312
  have hz313 := zk_old' eZ311 hz294 ha310
  have hz314 := zk_old' eZ311 hz295 ha310
  have hz315 := zk_old' eZ311 hz296 ha310
  have hz316 := zk_old' eZ311 hz297 ha310
  have hz317 := zk_old' eZ311 hz298 ha310
  have hz318 := zk_old' eZ311 hz299 ha310
  have hz319 := zk_old' eZ311 hz300 ha310
  have hz320 := zk_old' eZ311 hz301 ha310
  have hz321 := zk_old' eZ311 hz302 ha310
  have hz322 := zk_old' eZ311 hz303 ha310
  have hz323 := zk_old' eZ311 hz304 ha310
  have hz324 := zk_old' eZ311 hz305 ha310
  have hz325 := zk_old' eZ311 hz306 ha310
  have hz326 := zk_old' eZ311 hz307 ha310
  have hz327 := zk_old' eZ311 hz308 ha310
  have hz328 := zk_al' eZ311
  refine zg_putfQ (q := 125) (v := b309) (T := TX7) (k := 17) (ty0 := tyX7) C0 hnm0 dX7_init_122 hz314 (zF_7 cy hz314) rfl (by decide) hX_X7_init_7 tyX7_ok nmX7 (zwm (i := 21) rfl) rfl rfl rfl rfl rfl (Nat.le_of_ble_eq_true rfl) (zF_7 cy (zk_sQ hz314)) (zP_7_17 Z311 S312 _ (some _)) rfl (fun Z329 eZ329 => ?_)
  have hw := hw Z329 eZ329
  have hz330 := zk_sQ' eZ329 hz313
  have hz331 := zk_sQ' eZ329 hz314
  have hz332 := zk_sQ' eZ329 hz315
  have hz333 := zk_sQ' eZ329 hz316
  have hz334 := zk_sQ' eZ329 hz317
  have hz335 := zk_sQ' eZ329 hz318
  have hz336 := zk_sQ' eZ329 hz319
  have hz337 := zk_sQ' eZ329 hz320
  have hz338 := zk_sQ' eZ329 hz321
  have hz339 := zk_sQ' eZ329 hz322
  have hz340 := zk_sQ' eZ329 hz323
  have hz341 := zk_sQ' eZ329 hz324
  have hz342 := zk_sQ' eZ329 hz325
  have hz343 := zk_sQ' eZ329 hz326
  have hz344 := zk_sQ' eZ329 hz327
  have hz345 := zk_sQ' eZ329 hz328
  refine zg_aload_n (q := 126) C0 0 dX7_init_125 rfl rfl ?_
  refine zg_bipush (q := 128) C0 dX7_init_126 zc_bipush_8 rfl ?_
  refine zg_newaI (q := 130) (N' := 8) (k := 16) (j := 512) C0 dX7_init_128 (zwm (i := 6) rfl) (by decide) (by decide) (by decide) ⟨rfl, rfl⟩ ⟨Nat.le_of_ble_eq_true rfl, Nat.le_of_ble_eq_true rfl⟩ rfl (fun b346 ha347 Z348 S349 eZ348 eS349 => ?_)
  have hw := hw b346 ha347 Z348 S349 eZ348 eS349
  have hz350 := zk_old' eZ348 hz330 ha347
  have hz351 := zk_old' eZ348 hz331 ha347
  have hz352 := zk_old' eZ348 hz332 ha347
  have hz353 := zk_old' eZ348 hz333 ha347
  have hz354 := zk_old' eZ348 hz334 ha347
  have hz355 := zk_old' eZ348 hz335 ha347
  have hz356 := zk_old' eZ348 hz336 ha347
  have hz357 := zk_old' eZ348 hz337 ha347
  have hz358 := zk_old' eZ348 hz338 ha347
  have hz359 := zk_old' eZ348 hz339 ha347
  have hz360 := zk_old' eZ348 hz340 ha347
  have hz361 := zk_old' eZ348 hz341 ha347
  have hz362 := zk_old' eZ348 hz342 ha347
  have hz363 := zk_old' eZ348 hz343 ha347
  have hz364 := zk_old' eZ348 hz344 ha347
  have hz365 := zk_old' eZ348 hz345 ha347
  have hz366 := zk_al' eZ348
  refine zg_putfQ (q := 133) (v := b346) (T := TX7) (k := 18) (ty0 := tyX7) C0 hnm0 dX7_init_130 hz351 (zF_7 cy hz351) rfl (by decide) hX_X7_init_7 tyX7_ok nmX7 (zwm (i := 22) rfl) rfl rfl rfl rfl rfl (Nat.le_of_ble_eq_true rfl) (zF_7 cy (zk_sQ hz351)) (zP_7_18 Z348 S349 _ (some _)) rfl (fun Z367 eZ367 => ?_)
  have hw := hw Z367 eZ367
  have hz368 := zk_sQ' eZ367 hz350
  have hz369 := zk_sQ' eZ367 hz351
  have hz370 := zk_sQ' eZ367 hz352
  have hz371 := zk_sQ' eZ367 hz353
  have hz372 := zk_sQ' eZ367 hz354
  have hz373 := zk_sQ' eZ367 hz355
  have hz374 := zk_sQ' eZ367 hz356
  have hz375 := zk_sQ' eZ367 hz357
  have hz376 := zk_sQ' eZ367 hz358
  have hz377 := zk_sQ' eZ367 hz359
  have hz378 := zk_sQ' eZ367 hz360
  have hz379 := zk_sQ' eZ367 hz361
  have hz380 := zk_sQ' eZ367 hz362
  have hz381 := zk_sQ' eZ367 hz363
  have hz382 := zk_sQ' eZ367 hz364
  have hz383 := zk_sQ' eZ367 hz365
  have hz384 := zk_sQ' eZ367 hz366
  refine zg_aload_n (q := 134) C0 0 dX7_init_133 rfl rfl ?_
  refine zg_sipush (q := 137) C0 dX7_init_134 zc_sipush_808 rfl ?_
  refine zg_newaZ (q := 139) (N' := 808) (k := 17) (j := 1320) C0 dX7_init_137 (zwm (i := 4) rfl) (by decide) (by decide) (by decide) ⟨rfl, rfl⟩ ⟨Nat.le_of_ble_eq_true rfl, Nat.le_of_ble_eq_true rfl⟩ rfl (fun b385 ha386 Z387 S388 eZ387 eS388 => ?_)
  have hw := hw b385 ha386 Z387 S388 eZ387 eS388
  have hz389 := zk_old' eZ387 hz368 ha386
  have hz390 := zk_old' eZ387 hz369 ha386
  have hz391 := zk_old' eZ387 hz370 ha386
  have hz392 := zk_old' eZ387 hz371 ha386
  have hz393 := zk_old' eZ387 hz372 ha386
  have hz394 := zk_old' eZ387 hz373 ha386
  have hz395 := zk_old' eZ387 hz374 ha386
  have hz396 := zk_old' eZ387 hz375 ha386
  have hz397 := zk_old' eZ387 hz376 ha386
  have hz398 := zk_old' eZ387 hz377 ha386
  have hz399 := zk_old' eZ387 hz378 ha386
  have hz400 := zk_old' eZ387 hz379 ha386
  have hz401 := zk_old' eZ387 hz380 ha386
  have hz402 := zk_old' eZ387 hz381 ha386
  have hz403 := zk_old' eZ387 hz382 ha386
  have hz404 := zk_old' eZ387 hz383 ha386
  have hz405 := zk_old' eZ387 hz384 ha386
  have hz406 := zk_al' eZ387
  refine zg_putfQ (q := 142) (v := b385) (T := TX7) (k := 19) (ty0 := tyX7) C0 hnm0 dX7_init_139 hz390 (zF_7 cy hz390) rfl (by decide) hX_X7_init_7 tyX7_ok nmX7 (zwm (i := 23) rfl) rfl rfl rfl rfl rfl (Nat.le_of_ble_eq_true rfl) (zF_7 cy (zk_sQ hz390)) (zP_7_19 Z387 S388 _ (some _)) rfl (fun Z407 eZ407 => ?_)
  have hw := hw Z407 eZ407
  have hz408 := zk_sQ' eZ407 hz389
  have hz409 := zk_sQ' eZ407 hz390
  have hz410 := zk_sQ' eZ407 hz391
  have hz411 := zk_sQ' eZ407 hz392
  have hz412 := zk_sQ' eZ407 hz393
  have hz413 := zk_sQ' eZ407 hz394
  have hz414 := zk_sQ' eZ407 hz395
  have hz415 := zk_sQ' eZ407 hz396
  have hz416 := zk_sQ' eZ407 hz397
  have hz417 := zk_sQ' eZ407 hz398
  have hz418 := zk_sQ' eZ407 hz399
  have hz419 := zk_sQ' eZ407 hz400
  have hz420 := zk_sQ' eZ407 hz401
  have hz421 := zk_sQ' eZ407 hz402
  have hz422 := zk_sQ' eZ407 hz403
  have hz423 := zk_sQ' eZ407 hz404
  have hz424 := zk_sQ' eZ407 hz405
  have hz425 := zk_sQ' eZ407 hz406
  refine zg_aload_n (q := 143) C0 0 dX7_init_142 rfl rfl ?_
  refine zg_sipush (q := 146) C0 dX7_init_143 zc_sipush_808 rfl ?_
  refine zg_newaI (q := 148) (N' := 808) (k := 18) (j := 2128) C0 dX7_init_146 (zwm (i := 6) rfl) (by decide) (by decide) (by decide) ⟨rfl, rfl⟩ ⟨Nat.le_of_ble_eq_true rfl, Nat.le_of_ble_eq_true rfl⟩ rfl (fun b426 ha427 Z428 S429 eZ428 eS429 => ?_)
  have hw := hw b426 ha427 Z428 S429 eZ428 eS429
  have hz430 := zk_old' eZ428 hz408 ha427
  have hz431 := zk_old' eZ428 hz409 ha427
  have hz432 := zk_old' eZ428 hz410 ha427
  have hz433 := zk_old' eZ428 hz411 ha427
  have hz434 := zk_old' eZ428 hz412 ha427
  have hz435 := zk_old' eZ428 hz413 ha427
  have hz436 := zk_old' eZ428 hz414 ha427
  have hz437 := zk_old' eZ428 hz415 ha427
  have hz438 := zk_old' eZ428 hz416 ha427
  have hz439 := zk_old' eZ428 hz417 ha427
  have hz440 := zk_old' eZ428 hz418 ha427
  have hz441 := zk_old' eZ428 hz419 ha427
  have hz442 := zk_old' eZ428 hz420 ha427
  have hz443 := zk_old' eZ428 hz421 ha427
  have hz444 := zk_old' eZ428 hz422 ha427
  have hz445 := zk_old' eZ428 hz423 ha427
  have hz446 := zk_old' eZ428 hz424 ha427
  have hz447 := zk_old' eZ428 hz425 ha427
  have hz448 := zk_al' eZ428
  refine zg_putfQ (q := 151) (v := b426) (T := TX7) (k := 20) (ty0 := tyX7) C0 hnm0 dX7_init_148 hz431 (zF_7 cy hz431) rfl (by decide) hX_X7_init_7 tyX7_ok nmX7 (zwm (i := 24) rfl) rfl rfl rfl rfl rfl (Nat.le_of_ble_eq_true rfl) (zF_7 cy (zk_sQ hz431)) (zP_7_20 Z428 S429 _ (some _)) rfl (fun Z449 eZ449 => ?_)
  have hw := hw Z449 eZ449
  have hz450 := zk_sQ' eZ449 hz430
  have hz451 := zk_sQ' eZ449 hz431
  have hz452 := zk_sQ' eZ449 hz432
  have hz453 := zk_sQ' eZ449 hz433
  have hz454 := zk_sQ' eZ449 hz434
  have hz455 := zk_sQ' eZ449 hz435
  have hz456 := zk_sQ' eZ449 hz436
  have hz457 := zk_sQ' eZ449 hz437
  have hz458 := zk_sQ' eZ449 hz438
  have hz459 := zk_sQ' eZ449 hz439
  have hz460 := zk_sQ' eZ449 hz440
  have hz461 := zk_sQ' eZ449 hz441
  have hz462 := zk_sQ' eZ449 hz442
  have hz463 := zk_sQ' eZ449 hz443
  have hz464 := zk_sQ' eZ449 hz444
  have hz465 := zk_sQ' eZ449 hz445
  have hz466 := zk_sQ' eZ449 hz446
  have hz467 := zk_sQ' eZ449 hz447
  have hz468 := zk_sQ' eZ449 hz448
  refine zg_aload_n (q := 152) C0 0 dX7_init_151 rfl rfl ?_
  refine zg_sipush (q := 155) C0 dX7_init_152 zc_sipush_808 rfl ?_
  refine zg_newaJ (q := 157) (N' := 808) (k := 19) (j := 2936) C0 dX7_init_155 (zwm (i := 10) rfl) (by decide) (by decide) (by decide) ⟨rfl, rfl⟩ ⟨Nat.le_of_ble_eq_true rfl, Nat.le_of_ble_eq_true rfl⟩ rfl (fun b469 ha470 Z471 S472 eZ471 eS472 => ?_)
  have hw := hw b469 ha470 Z471 S472 eZ471 eS472
  have hz473 := zk_old' eZ471 hz450 ha470
  have hz474 := zk_old' eZ471 hz451 ha470
  have hz475 := zk_old' eZ471 hz452 ha470
  have hz476 := zk_old' eZ471 hz453 ha470
  have hz477 := zk_old' eZ471 hz454 ha470
  have hz478 := zk_old' eZ471 hz455 ha470
  have hz479 := zk_old' eZ471 hz456 ha470
  have hz480 := zk_old' eZ471 hz457 ha470
  have hz481 := zk_old' eZ471 hz458 ha470
  have hz482 := zk_old' eZ471 hz459 ha470
  have hz483 := zk_old' eZ471 hz460 ha470
  have hz484 := zk_old' eZ471 hz461 ha470
  have hz485 := zk_old' eZ471 hz462 ha470
  have hz486 := zk_old' eZ471 hz463 ha470
  have hz487 := zk_old' eZ471 hz464 ha470
  have hz488 := zk_old' eZ471 hz465 ha470
  have hz489 := zk_old' eZ471 hz466 ha470
  have hz490 := zk_old' eZ471 hz467 ha470
  have hz491 := zk_old' eZ471 hz468 ha470
  have hz492 := zk_al' eZ471
  refine zg_putfQ (q := 160) (v := b469) (T := TX7) (k := 21) (ty0 := tyX7) C0 hnm0 dX7_init_157 hz474 (zF_7 cy hz474) rfl (by decide) hX_X7_init_7 tyX7_ok nmX7 (zwm (i := 25) rfl) rfl rfl rfl rfl rfl (Nat.le_of_ble_eq_true rfl) (zF_7 cy (zk_sQ hz474)) (zP_7_21 Z471 S472 _ (some _)) rfl (fun Z493 eZ493 => ?_)
  have hw := hw Z493 eZ493
  have hz494 := zk_sQ' eZ493 hz473
  have hz495 := zk_sQ' eZ493 hz474
  have hz496 := zk_sQ' eZ493 hz475
  have hz497 := zk_sQ' eZ493 hz476
  have hz498 := zk_sQ' eZ493 hz477
  have hz499 := zk_sQ' eZ493 hz478
  have hz500 := zk_sQ' eZ493 hz479
  have hz501 := zk_sQ' eZ493 hz480
  have hz502 := zk_sQ' eZ493 hz481
  have hz503 := zk_sQ' eZ493 hz482
  have hz504 := zk_sQ' eZ493 hz483
  have hz505 := zk_sQ' eZ493 hz484
  have hz506 := zk_sQ' eZ493 hz485
  have hz507 := zk_sQ' eZ493 hz486
  have hz508 := zk_sQ' eZ493 hz487
  have hz509 := zk_sQ' eZ493 hz488
  have hz510 := zk_sQ' eZ493 hz489
  have hz511 := zk_sQ' eZ493 hz490
  have hz512 := zk_sQ' eZ493 hz491
  have hz513 := zk_sQ' eZ493 hz492
  refine zg_aload_n (q := 161) C0 0 dX7_init_160 rfl rfl ?_
  refine zg_bipush (q := 163) C0 dX7_init_161 zc_bipush_8 rfl ?_
  refine zg_newaI (q := 165) (N' := 8) (k := 20) (j := 2944) C0 dX7_init_163 (zwm (i := 6) rfl) (by decide) (by decide) (by decide) ⟨rfl, rfl⟩ ⟨Nat.le_of_ble_eq_true rfl, Nat.le_of_ble_eq_true rfl⟩ rfl (fun b514 ha515 Z516 S517 eZ516 eS517 => ?_)
  have hw := hw b514 ha515 Z516 S517 eZ516 eS517
  have hz518 := zk_old' eZ516 hz494 ha515
  have hz519 := zk_old' eZ516 hz495 ha515
  have hz520 := zk_old' eZ516 hz496 ha515
  have hz521 := zk_old' eZ516 hz497 ha515
  have hz522 := zk_old' eZ516 hz498 ha515
  have hz523 := zk_old' eZ516 hz499 ha515
  have hz524 := zk_old' eZ516 hz500 ha515
  have hz525 := zk_old' eZ516 hz501 ha515
  have hz526 := zk_old' eZ516 hz502 ha515
  have hz527 := zk_old' eZ516 hz503 ha515
  have hz528 := zk_old' eZ516 hz504 ha515
  have hz529 := zk_old' eZ516 hz505 ha515
  have hz530 := zk_old' eZ516 hz506 ha515
  have hz531 := zk_old' eZ516 hz507 ha515
  have hz532 := zk_old' eZ516 hz508 ha515
  have hz533 := zk_old' eZ516 hz509 ha515
  have hz534 := zk_old' eZ516 hz510 ha515
  have hz535 := zk_old' eZ516 hz511 ha515
  have hz536 := zk_old' eZ516 hz512 ha515
  have hz537 := zk_old' eZ516 hz513 ha515
  have hz538 := zk_al' eZ516
  refine zg_putfQ (q := 168) (v := b514) (T := TX7) (k := 22) (ty0 := tyX7) C0 hnm0 dX7_init_165 hz519 (zF_7 cy hz519) rfl (by decide) hX_X7_init_7 tyX7_ok nmX7 (zwm (i := 26) rfl) rfl rfl rfl rfl rfl (Nat.le_of_ble_eq_true rfl) (zF_7 cy (zk_sQ hz519)) (zP_7_22 Z516 S517 _ (some _)) rfl (fun Z539 eZ539 => ?_)
  have hw := hw Z539 eZ539
  have hz540 := zk_sQ' eZ539 hz518
  have hz541 := zk_sQ' eZ539 hz519
  have hz542 := zk_sQ' eZ539 hz520
  have hz543 := zk_sQ' eZ539 hz521
  have hz544 := zk_sQ' eZ539 hz522
  have hz545 := zk_sQ' eZ539 hz523
  have hz546 := zk_sQ' eZ539 hz524
  have hz547 := zk_sQ' eZ539 hz525
  have hz548 := zk_sQ' eZ539 hz526
  have hz549 := zk_sQ' eZ539 hz527
  have hz550 := zk_sQ' eZ539 hz528
  have hz551 := zk_sQ' eZ539 hz529
  have hz552 := zk_sQ' eZ539 hz530
  have hz553 := zk_sQ' eZ539 hz531
  have hz554 := zk_sQ' eZ539 hz532
  have hz555 := zk_sQ' eZ539 hz533
  have hz556 := zk_sQ' eZ539 hz534
  have hz557 := zk_sQ' eZ539 hz535
  have hz558 := zk_sQ' eZ539 hz536
  have hz559 := zk_sQ' eZ539 hz537
  have hz560 := zk_sQ' eZ539 hz538
  refine zg_aload_n (q := 169) C0 0 dX7_init_168 rfl rfl ?_
  refine zg_sipush (q := 172) C0 dX7_init_169 zc_sipush_4800 rfl ?_
  refine zg_newaJ (q := 174) (N' := 4800) (k := 21) (j := 7744) C0 dX7_init_172 (zwm (i := 10) rfl) (by decide) (by decide) (by decide) ⟨rfl, rfl⟩ ⟨Nat.le_of_ble_eq_true rfl, Nat.le_of_ble_eq_true rfl⟩ rfl (fun b561 ha562 Z563 S564 eZ563 eS564 => ?_)
  have hw := hw b561 ha562 Z563 S564 eZ563 eS564
  have hz565 := zk_old' eZ563 hz540 ha562
  have hz566 := zk_old' eZ563 hz541 ha562
  have hz567 := zk_old' eZ563 hz542 ha562
  have hz568 := zk_old' eZ563 hz543 ha562
  have hz569 := zk_old' eZ563 hz544 ha562
  have hz570 := zk_old' eZ563 hz545 ha562
  have hz571 := zk_old' eZ563 hz546 ha562
  have hz572 := zk_old' eZ563 hz547 ha562
  have hz573 := zk_old' eZ563 hz548 ha562
  have hz574 := zk_old' eZ563 hz549 ha562
  have hz575 := zk_old' eZ563 hz550 ha562
  have hz576 := zk_old' eZ563 hz551 ha562
  have hz577 := zk_old' eZ563 hz552 ha562
  have hz578 := zk_old' eZ563 hz553 ha562
  have hz579 := zk_old' eZ563 hz554 ha562
  have hz580 := zk_old' eZ563 hz555 ha562
  have hz581 := zk_old' eZ563 hz556 ha562
  have hz582 := zk_old' eZ563 hz557 ha562
  have hz583 := zk_old' eZ563 hz558 ha562
  have hz584 := zk_old' eZ563 hz559 ha562
  have hz585 := zk_old' eZ563 hz560 ha562
  have hz586 := zk_al' eZ563
  refine zg_putfQ (q := 177) (v := b561) (T := TX7) (k := 23) (ty0 := tyX7) C0 hnm0 dX7_init_174 hz566 (zF_7 cy hz566) rfl (by decide) hX_X7_init_7 tyX7_ok nmX7 (zwm (i := 27) rfl) rfl rfl rfl rfl rfl (Nat.le_of_ble_eq_true rfl) (zF_7 cy (zk_sQ hz566)) (zP_7_23 Z563 S564 _ (some _)) rfl (fun Z587 eZ587 => ?_)
  have hw := hw Z587 eZ587
  have hz588 := zk_sQ' eZ587 hz565
  have hz589 := zk_sQ' eZ587 hz566
  have hz590 := zk_sQ' eZ587 hz567
  have hz591 := zk_sQ' eZ587 hz568
  have hz592 := zk_sQ' eZ587 hz569
  have hz593 := zk_sQ' eZ587 hz570
  have hz594 := zk_sQ' eZ587 hz571
  have hz595 := zk_sQ' eZ587 hz572
  have hz596 := zk_sQ' eZ587 hz573
  have hz597 := zk_sQ' eZ587 hz574
  have hz598 := zk_sQ' eZ587 hz575
  have hz599 := zk_sQ' eZ587 hz576
  have hz600 := zk_sQ' eZ587 hz577
  have hz601 := zk_sQ' eZ587 hz578
  have hz602 := zk_sQ' eZ587 hz579
  have hz603 := zk_sQ' eZ587 hz580
  have hz604 := zk_sQ' eZ587 hz581
  have hz605 := zk_sQ' eZ587 hz582
  have hz606 := zk_sQ' eZ587 hz583
  have hz607 := zk_sQ' eZ587 hz584
  have hz608 := zk_sQ' eZ587 hz585
  have hz609 := zk_sQ' eZ587 hz586
  refine zg_aload_n (q := 178) C0 0 dX7_init_177 rfl rfl ?_
  refine zg_bipush (q := 180) C0 dX7_init_178 zc_bipush_16 rfl ?_
  refine zg_newaI (q := 182) (N' := 16) (k := 22) (j := 7760) C0 dX7_init_180 (zwm (i := 6) rfl) (by decide) (by decide) (by decide) ⟨rfl, rfl⟩ ⟨Nat.le_of_ble_eq_true rfl, Nat.le_of_ble_eq_true rfl⟩ rfl (fun b610 ha611 Z612 S613 eZ612 eS613 => ?_)
  have hw := hw b610 ha611 Z612 S613 eZ612 eS613
  have hz614 := zk_old' eZ612 hz588 ha611
  have hz615 := zk_old' eZ612 hz589 ha611
  have hz616 := zk_old' eZ612 hz590 ha611
  have hz617 := zk_old' eZ612 hz591 ha611
  have hz618 := zk_old' eZ612 hz592 ha611
  have hz619 := zk_old' eZ612 hz593 ha611
  have hz620 := zk_old' eZ612 hz594 ha611
  have hz621 := zk_old' eZ612 hz595 ha611
  have hz622 := zk_old' eZ612 hz596 ha611
  have hz623 := zk_old' eZ612 hz597 ha611
  have hz624 := zk_old' eZ612 hz598 ha611
  have hz625 := zk_old' eZ612 hz599 ha611
  have hz626 := zk_old' eZ612 hz600 ha611
  have hz627 := zk_old' eZ612 hz601 ha611
  have hz628 := zk_old' eZ612 hz602 ha611
  have hz629 := zk_old' eZ612 hz603 ha611
  have hz630 := zk_old' eZ612 hz604 ha611
  have hz631 := zk_old' eZ612 hz605 ha611
  have hz632 := zk_old' eZ612 hz606 ha611
  have hz633 := zk_old' eZ612 hz607 ha611
  have hz634 := zk_old' eZ612 hz608 ha611
  have hz635 := zk_old' eZ612 hz609 ha611
  have hz636 := zk_al' eZ612
  refine zg_putfQ (q := 185) (v := b610) (T := TX7) (k := 24) (ty0 := tyX7) C0 hnm0 dX7_init_182 hz615 (zF_7 cy hz615) rfl (by decide) hX_X7_init_7 tyX7_ok nmX7 (zwm (i := 28) rfl) rfl rfl rfl rfl rfl (Nat.le_of_ble_eq_true rfl) (zF_7 cy (zk_sQ hz615)) (zP_7_24 Z612 S613 _ (some _)) rfl (fun Z637 eZ637 => ?_)
  have hw := hw Z637 eZ637
  have hz638 := zk_sQ' eZ637 hz614
  have hz639 := zk_sQ' eZ637 hz615
  have hz640 := zk_sQ' eZ637 hz616
  have hz641 := zk_sQ' eZ637 hz617
  have hz642 := zk_sQ' eZ637 hz618
  have hz643 := zk_sQ' eZ637 hz619
  have hz644 := zk_sQ' eZ637 hz620
  have hz645 := zk_sQ' eZ637 hz621
  have hz646 := zk_sQ' eZ637 hz622
  have hz647 := zk_sQ' eZ637 hz623
  have hz648 := zk_sQ' eZ637 hz624
  have hz649 := zk_sQ' eZ637 hz625
  have hz650 := zk_sQ' eZ637 hz626
  have hz651 := zk_sQ' eZ637 hz627
  have hz652 := zk_sQ' eZ637 hz628
  have hz653 := zk_sQ' eZ637 hz629
  have hz654 := zk_sQ' eZ637 hz630
  have hz655 := zk_sQ' eZ637 hz631
  have hz656 := zk_sQ' eZ637 hz632
  have hz657 := zk_sQ' eZ637 hz633
  have hz658 := zk_sQ' eZ637 hz634
  have hz659 := zk_sQ' eZ637 hz635
  have hz660 := zk_sQ' eZ637 hz636
  refine zg_aload_n (q := 186) C0 0 dX7_init_185 rfl rfl ?_
  refine zg_bipush (q := 188) C0 dX7_init_186 zc_bipush_16 rfl ?_
  refine zg_newaI (q := 190) (N' := 16) (k := 23) (j := 7776) C0 dX7_init_188 (zwm (i := 6) rfl) (by decide) (by decide) (by decide) ⟨rfl, rfl⟩ ⟨Nat.le_of_ble_eq_true rfl, Nat.le_of_ble_eq_true rfl⟩ rfl (fun b661 ha662 Z663 S664 eZ663 eS664 => ?_)
  have hw := hw b661 ha662 Z663 S664 eZ663 eS664
  have hz665 := zk_old' eZ663 hz638 ha662
  have hz666 := zk_old' eZ663 hz639 ha662
  have hz667 := zk_old' eZ663 hz640 ha662
  have hz668 := zk_old' eZ663 hz641 ha662
  have hz669 := zk_old' eZ663 hz642 ha662
  have hz670 := zk_old' eZ663 hz643 ha662
  have hz671 := zk_old' eZ663 hz644 ha662
  have hz672 := zk_old' eZ663 hz645 ha662
  have hz673 := zk_old' eZ663 hz646 ha662
  have hz674 := zk_old' eZ663 hz647 ha662
  have hz675 := zk_old' eZ663 hz648 ha662
  have hz676 := zk_old' eZ663 hz649 ha662
  have hz677 := zk_old' eZ663 hz650 ha662
  have hz678 := zk_old' eZ663 hz651 ha662
  have hz679 := zk_old' eZ663 hz652 ha662
  have hz680 := zk_old' eZ663 hz653 ha662
  have hz681 := zk_old' eZ663 hz654 ha662
  have hz682 := zk_old' eZ663 hz655 ha662
  have hz683 := zk_old' eZ663 hz656 ha662
  have hz684 := zk_old' eZ663 hz657 ha662
  have hz685 := zk_old' eZ663 hz658 ha662
  have hz686 := zk_old' eZ663 hz659 ha662
  have hz687 := zk_old' eZ663 hz660 ha662
  have hz688 := zk_al' eZ663
  refine zg_putfQ (q := 193) (v := b661) (T := TX7) (k := 25) (ty0 := tyX7) C0 hnm0 dX7_init_190 hz666 (zF_7 cy hz666) rfl (by decide) hX_X7_init_7 tyX7_ok nmX7 (zwm (i := 29) rfl) rfl rfl rfl rfl rfl (Nat.le_of_ble_eq_true rfl) (zF_7 cy (zk_sQ hz666)) (zP_7_25 Z663 S664 _ (some _)) rfl (fun Z689 eZ689 => ?_)
  have hw := hw Z689 eZ689
  have hz690 := zk_sQ' eZ689 hz665
  have hz691 := zk_sQ' eZ689 hz666
  have hz692 := zk_sQ' eZ689 hz667
  have hz693 := zk_sQ' eZ689 hz668
  have hz694 := zk_sQ' eZ689 hz669
  have hz695 := zk_sQ' eZ689 hz670
  have hz696 := zk_sQ' eZ689 hz671
  have hz697 := zk_sQ' eZ689 hz672
  have hz698 := zk_sQ' eZ689 hz673
  have hz699 := zk_sQ' eZ689 hz674
  have hz700 := zk_sQ' eZ689 hz675
  have hz701 := zk_sQ' eZ689 hz676
  have hz702 := zk_sQ' eZ689 hz677
  have hz703 := zk_sQ' eZ689 hz678
  have hz704 := zk_sQ' eZ689 hz679
  have hz705 := zk_sQ' eZ689 hz680
  have hz706 := zk_sQ' eZ689 hz681
  have hz707 := zk_sQ' eZ689 hz682
  have hz708 := zk_sQ' eZ689 hz683
  have hz709 := zk_sQ' eZ689 hz684
  have hz710 := zk_sQ' eZ689 hz685
  have hz711 := zk_sQ' eZ689 hz686
  have hz712 := zk_sQ' eZ689 hz687
  have hz713 := zk_sQ' eZ689 hz688
  refine zg_aload_n (q := 194) C0 0 dX7_init_193 rfl rfl ?_
  refine zg_bipush (q := 196) C0 dX7_init_194 zc_bipush_16 rfl ?_
  refine zg_newaZ (q := 198) (N' := 16) (k := 24) (j := 7792) C0 dX7_init_196 (zwm (i := 4) rfl) (by decide) (by decide) (by decide) ⟨rfl, rfl⟩ ⟨Nat.le_of_ble_eq_true rfl, Nat.le_of_ble_eq_true rfl⟩ rfl (fun b714 ha715 Z716 S717 eZ716 eS717 => ?_)
  have hw := hw b714 ha715 Z716 S717 eZ716 eS717
  have hz718 := zk_old' eZ716 hz690 ha715
  have hz719 := zk_old' eZ716 hz691 ha715
  have hz720 := zk_old' eZ716 hz692 ha715
  have hz721 := zk_old' eZ716 hz693 ha715
  have hz722 := zk_old' eZ716 hz694 ha715
  have hz723 := zk_old' eZ716 hz695 ha715
  have hz724 := zk_old' eZ716 hz696 ha715
  have hz725 := zk_old' eZ716 hz697 ha715
  have hz726 := zk_old' eZ716 hz698 ha715
  have hz727 := zk_old' eZ716 hz699 ha715
  have hz728 := zk_old' eZ716 hz700 ha715
  have hz729 := zk_old' eZ716 hz701 ha715
  have hz730 := zk_old' eZ716 hz702 ha715
  have hz731 := zk_old' eZ716 hz703 ha715
  have hz732 := zk_old' eZ716 hz704 ha715
  have hz733 := zk_old' eZ716 hz705 ha715
  have hz734 := zk_old' eZ716 hz706 ha715
  have hz735 := zk_old' eZ716 hz707 ha715
  have hz736 := zk_old' eZ716 hz708 ha715
  have hz737 := zk_old' eZ716 hz709 ha715
  have hz738 := zk_old' eZ716 hz710 ha715
  have hz739 := zk_old' eZ716 hz711 ha715
  have hz740 := zk_old' eZ716 hz712 ha715
  have hz741 := zk_old' eZ716 hz713 ha715
  have hz742 := zk_al' eZ716
  refine zg_putfQ (q := 201) (v := b714) (T := TX7) (k := 26) (ty0 := tyX7) C0 hnm0 dX7_init_198 hz719 (zF_7 cy hz719) rfl (by decide) hX_X7_init_7 tyX7_ok nmX7 (zwm (i := 30) rfl) rfl rfl rfl rfl rfl (Nat.le_of_ble_eq_true rfl) (zF_7 cy (zk_sQ hz719)) (zP_7_26 Z716 S717 _ (some _)) rfl (fun Z743 eZ743 => ?_)
  have hw := hw Z743 eZ743
  have hz744 := zk_sQ' eZ743 hz718
  have hz745 := zk_sQ' eZ743 hz719
  have hz746 := zk_sQ' eZ743 hz720
  have hz747 := zk_sQ' eZ743 hz721
  have hz748 := zk_sQ' eZ743 hz722
  have hz749 := zk_sQ' eZ743 hz723
  have hz750 := zk_sQ' eZ743 hz724
  have hz751 := zk_sQ' eZ743 hz725
  have hz752 := zk_sQ' eZ743 hz726
  have hz753 := zk_sQ' eZ743 hz727
  have hz754 := zk_sQ' eZ743 hz728
  have hz755 := zk_sQ' eZ743 hz729
  have hz756 := zk_sQ' eZ743 hz730
  have hz757 := zk_sQ' eZ743 hz731
  have hz758 := zk_sQ' eZ743 hz732
  have hz759 := zk_sQ' eZ743 hz733
  have hz760 := zk_sQ' eZ743 hz734
  have hz761 := zk_sQ' eZ743 hz735
  have hz762 := zk_sQ' eZ743 hz736
  have hz763 := zk_sQ' eZ743 hz737
  have hz764 := zk_sQ' eZ743 hz738
  have hz765 := zk_sQ' eZ743 hz739
  have hz766 := zk_sQ' eZ743 hz740
  have hz767 := zk_sQ' eZ743 hz741
  have hz768 := zk_sQ' eZ743 hz742
  refine zg_aload_n (q := 202) C0 0 dX7_init_201 rfl rfl ?_
  refine zg_bipush (q := 204) C0 dX7_init_202 zc_bipush_16 rfl ?_
  refine zg_newaI (q := 206) (N' := 16) (k := 25) (j := 7808) C0 dX7_init_204 (zwm (i := 6) rfl) (by decide) (by decide) (by decide) ⟨rfl, rfl⟩ ⟨Nat.le_of_ble_eq_true rfl, Nat.le_of_ble_eq_true rfl⟩ rfl (fun b769 ha770 Z771 S772 eZ771 eS772 => ?_)
  have hw := hw b769 ha770 Z771 S772 eZ771 eS772
  have hz773 := zk_old' eZ771 hz744 ha770
  have hz774 := zk_old' eZ771 hz745 ha770
  have hz775 := zk_old' eZ771 hz746 ha770
  have hz776 := zk_old' eZ771 hz747 ha770
  have hz777 := zk_old' eZ771 hz748 ha770
  have hz778 := zk_old' eZ771 hz749 ha770
  have hz779 := zk_old' eZ771 hz750 ha770
  have hz780 := zk_old' eZ771 hz751 ha770
  have hz781 := zk_old' eZ771 hz752 ha770
  have hz782 := zk_old' eZ771 hz753 ha770
  have hz783 := zk_old' eZ771 hz754 ha770
  have hz784 := zk_old' eZ771 hz755 ha770
  have hz785 := zk_old' eZ771 hz756 ha770
  have hz786 := zk_old' eZ771 hz757 ha770
  have hz787 := zk_old' eZ771 hz758 ha770
  have hz788 := zk_old' eZ771 hz759 ha770
  have hz789 := zk_old' eZ771 hz760 ha770
  have hz790 := zk_old' eZ771 hz761 ha770
  have hz791 := zk_old' eZ771 hz762 ha770
  have hz792 := zk_old' eZ771 hz763 ha770
  have hz793 := zk_old' eZ771 hz764 ha770
  have hz794 := zk_old' eZ771 hz765 ha770
  have hz795 := zk_old' eZ771 hz766 ha770
  have hz796 := zk_old' eZ771 hz767 ha770
  have hz797 := zk_old' eZ771 hz768 ha770
  have hz798 := zk_al' eZ771
  refine zg_putfQ (q := 209) (v := b769) (T := TX7) (k := 27) (ty0 := tyX7) C0 hnm0 dX7_init_206 hz774 (zF_7 cy hz774) rfl (by decide) hX_X7_init_7 tyX7_ok nmX7 (zwm (i := 31) rfl) rfl rfl rfl rfl rfl (Nat.le_of_ble_eq_true rfl) (zF_7 cy (zk_sQ hz774)) (zP_7_27 Z771 S772 _ (some _)) rfl (fun Z799 eZ799 => ?_)
  have hw := hw Z799 eZ799
  have hz800 := zk_sQ' eZ799 hz773
  have hz801 := zk_sQ' eZ799 hz774
  have hz802 := zk_sQ' eZ799 hz775
  have hz803 := zk_sQ' eZ799 hz776
  have hz804 := zk_sQ' eZ799 hz777
  have hz805 := zk_sQ' eZ799 hz778
  have hz806 := zk_sQ' eZ799 hz779
  have hz807 := zk_sQ' eZ799 hz780
  have hz808 := zk_sQ' eZ799 hz781
  have hz809 := zk_sQ' eZ799 hz782
  have hz810 := zk_sQ' eZ799 hz783
  have hz811 := zk_sQ' eZ799 hz784
  have hz812 := zk_sQ' eZ799 hz785
  have hz813 := zk_sQ' eZ799 hz786
  have hz814 := zk_sQ' eZ799 hz787
  have hz815 := zk_sQ' eZ799 hz788
  have hz816 := zk_sQ' eZ799 hz789
  have hz817 := zk_sQ' eZ799 hz790
  have hz818 := zk_sQ' eZ799 hz791
  have hz819 := zk_sQ' eZ799 hz792
  have hz820 := zk_sQ' eZ799 hz793
  have hz821 := zk_sQ' eZ799 hz794
  have hz822 := zk_sQ' eZ799 hz795
  have hz823 := zk_sQ' eZ799 hz796
  have hz824 := zk_sQ' eZ799 hz797
  have hz825 := zk_sQ' eZ799 hz798
  refine zg_aload_n (q := 210) C0 0 dX7_init_209 rfl rfl ?_
  refine zg_bipush (q := 212) C0 dX7_init_210 zc_bipush_16 rfl ?_
  refine zg_newaI (q := 214) (N' := 16) (k := 26) (j := 7824) C0 dX7_init_212 (zwm (i := 6) rfl) (by decide) (by decide) (by decide) ⟨rfl, rfl⟩ ⟨Nat.le_of_ble_eq_true rfl, Nat.le_of_ble_eq_true rfl⟩ rfl (fun b826 ha827 Z828 S829 eZ828 eS829 => ?_)
  have hw := hw b826 ha827 Z828 S829 eZ828 eS829
  have hz830 := zk_old' eZ828 hz800 ha827
  have hz831 := zk_old' eZ828 hz801 ha827
  have hz832 := zk_old' eZ828 hz802 ha827
  have hz833 := zk_old' eZ828 hz803 ha827
  have hz834 := zk_old' eZ828 hz804 ha827
  have hz835 := zk_old' eZ828 hz805 ha827
  have hz836 := zk_old' eZ828 hz806 ha827
  have hz837 := zk_old' eZ828 hz807 ha827
  have hz838 := zk_old' eZ828 hz808 ha827
  have hz839 := zk_old' eZ828 hz809 ha827
  have hz840 := zk_old' eZ828 hz810 ha827
  have hz841 := zk_old' eZ828 hz811 ha827
  have hz842 := zk_old' eZ828 hz812 ha827
  have hz843 := zk_old' eZ828 hz813 ha827
  have hz844 := zk_old' eZ828 hz814 ha827
  have hz845 := zk_old' eZ828 hz815 ha827
  have hz846 := zk_old' eZ828 hz816 ha827
  have hz847 := zk_old' eZ828 hz817 ha827
  have hz848 := zk_old' eZ828 hz818 ha827
  have hz849 := zk_old' eZ828 hz819 ha827
  have hz850 := zk_old' eZ828 hz820 ha827
  have hz851 := zk_old' eZ828 hz821 ha827
  have hz852 := zk_old' eZ828 hz822 ha827
  have hz853 := zk_old' eZ828 hz823 ha827
  have hz854 := zk_old' eZ828 hz824 ha827
  have hz855 := zk_old' eZ828 hz825 ha827
  have hz856 := zk_al' eZ828
  refine zg_putfQ (q := 217) (v := b826) (T := TX7) (k := 28) (ty0 := tyX7) C0 hnm0 dX7_init_214 hz831 (zF_7 cy hz831) rfl (by decide) hX_X7_init_7 tyX7_ok nmX7 (zwm (i := 32) rfl) rfl rfl rfl rfl rfl (Nat.le_of_ble_eq_true rfl) (zF_7 cy (zk_sQ hz831)) (zP_7_28 Z828 S829 _ (some _)) rfl (fun Z857 eZ857 => ?_)
  have hw := hw Z857 eZ857
  have hz858 := zk_sQ' eZ857 hz830
  have hz859 := zk_sQ' eZ857 hz831
  have hz860 := zk_sQ' eZ857 hz832
  have hz861 := zk_sQ' eZ857 hz833
  have hz862 := zk_sQ' eZ857 hz834
  have hz863 := zk_sQ' eZ857 hz835
  have hz864 := zk_sQ' eZ857 hz836
  have hz865 := zk_sQ' eZ857 hz837
  have hz866 := zk_sQ' eZ857 hz838
  have hz867 := zk_sQ' eZ857 hz839
  have hz868 := zk_sQ' eZ857 hz840
  have hz869 := zk_sQ' eZ857 hz841
  have hz870 := zk_sQ' eZ857 hz842
  have hz871 := zk_sQ' eZ857 hz843
  have hz872 := zk_sQ' eZ857 hz844
  have hz873 := zk_sQ' eZ857 hz845
  have hz874 := zk_sQ' eZ857 hz846
  have hz875 := zk_sQ' eZ857 hz847
  have hz876 := zk_sQ' eZ857 hz848
  have hz877 := zk_sQ' eZ857 hz849
  have hz878 := zk_sQ' eZ857 hz850
  have hz879 := zk_sQ' eZ857 hz851
  have hz880 := zk_sQ' eZ857 hz852
  have hz881 := zk_sQ' eZ857 hz853
  have hz882 := zk_sQ' eZ857 hz854
  have hz883 := zk_sQ' eZ857 hz855
  have hz884 := zk_sQ' eZ857 hz856
  refine zg_aload_n (q := 218) C0 0 dX7_init_217 rfl rfl ?_
  refine zg_sipush (q := 221) C0 dX7_init_218 zc_sipush_1616 rfl ?_
  refine zg_newaI (q := 223) (N' := 1616) (k := 27) (j := 9440) C0 dX7_init_221 (zwm (i := 6) rfl) (by decide) (by decide) (by decide) ⟨rfl, rfl⟩ ⟨Nat.le_of_ble_eq_true rfl, Nat.le_of_ble_eq_true rfl⟩ rfl (fun b885 ha886 Z887 S888 eZ887 eS888 => ?_)
  have hw := hw b885 ha886 Z887 S888 eZ887 eS888
  have hz889 := zk_old' eZ887 hz858 ha886
  have hz890 := zk_old' eZ887 hz859 ha886
  have hz891 := zk_old' eZ887 hz860 ha886
  have hz892 := zk_old' eZ887 hz861 ha886
  have hz893 := zk_old' eZ887 hz862 ha886
  have hz894 := zk_old' eZ887 hz863 ha886
  have hz895 := zk_old' eZ887 hz864 ha886
  have hz896 := zk_old' eZ887 hz865 ha886
  have hz897 := zk_old' eZ887 hz866 ha886
  have hz898 := zk_old' eZ887 hz867 ha886
  have hz899 := zk_old' eZ887 hz868 ha886
  have hz900 := zk_old' eZ887 hz869 ha886
  have hz901 := zk_old' eZ887 hz870 ha886
  have hz902 := zk_old' eZ887 hz871 ha886
  have hz903 := zk_old' eZ887 hz872 ha886
  have hz904 := zk_old' eZ887 hz873 ha886
  have hz905 := zk_old' eZ887 hz874 ha886
  have hz906 := zk_old' eZ887 hz875 ha886
  have hz907 := zk_old' eZ887 hz876 ha886
  have hz908 := zk_old' eZ887 hz877 ha886
  have hz909 := zk_old' eZ887 hz878 ha886
  have hz910 := zk_old' eZ887 hz879 ha886
  have hz911 := zk_old' eZ887 hz880 ha886
  have hz912 := zk_old' eZ887 hz881 ha886
  have hz913 := zk_old' eZ887 hz882 ha886
  have hz914 := zk_old' eZ887 hz883 ha886
  have hz915 := zk_old' eZ887 hz884 ha886
  have hz916 := zk_al' eZ887
  refine zg_putfQ (q := 226) (v := b885) (T := TX7) (k := 29) (ty0 := tyX7) C0 hnm0 dX7_init_223 hz890 (zF_7 cy hz890) rfl (by decide) hX_X7_init_7 tyX7_ok nmX7 (zwm (i := 33) rfl) rfl rfl rfl rfl rfl (Nat.le_of_ble_eq_true rfl) (zF_7 cy (zk_sQ hz890)) (zP_7_29 Z887 S888 _ (some _)) rfl (fun Z917 eZ917 => ?_)
  have hw := hw Z917 eZ917
  have hz918 := zk_sQ' eZ917 hz889
  have hz919 := zk_sQ' eZ917 hz890
  have hz920 := zk_sQ' eZ917 hz891
  have hz921 := zk_sQ' eZ917 hz892
  have hz922 := zk_sQ' eZ917 hz893
  have hz923 := zk_sQ' eZ917 hz894
  have hz924 := zk_sQ' eZ917 hz895
  have hz925 := zk_sQ' eZ917 hz896
  have hz926 := zk_sQ' eZ917 hz897
  have hz927 := zk_sQ' eZ917 hz898
  have hz928 := zk_sQ' eZ917 hz899
  have hz929 := zk_sQ' eZ917 hz900
  have hz930 := zk_sQ' eZ917 hz901
  have hz931 := zk_sQ' eZ917 hz902
  have hz932 := zk_sQ' eZ917 hz903
  have hz933 := zk_sQ' eZ917 hz904
  have hz934 := zk_sQ' eZ917 hz905
  have hz935 := zk_sQ' eZ917 hz906
  have hz936 := zk_sQ' eZ917 hz907
  have hz937 := zk_sQ' eZ917 hz908
  have hz938 := zk_sQ' eZ917 hz909
  have hz939 := zk_sQ' eZ917 hz910
  have hz940 := zk_sQ' eZ917 hz911
  have hz941 := zk_sQ' eZ917 hz912
  have hz942 := zk_sQ' eZ917 hz913
  have hz943 := zk_sQ' eZ917 hz914
  have hz944 := zk_sQ' eZ917 hz915
  have hz945 := zk_sQ' eZ917 hz916
  refine zg_aload_n (q := 227) C0 0 dX7_init_226 rfl rfl ?_
  refine zg_sipush (q := 230) C0 dX7_init_227 zc_sipush_1616 rfl ?_
  refine zg_newaI (q := 232) (N' := 1616) (k := 28) (j := 11056) C0 dX7_init_230 (zwm (i := 6) rfl) (by decide) (by decide) (by decide) ⟨rfl, rfl⟩ ⟨Nat.le_of_ble_eq_true rfl, Nat.le_of_ble_eq_true rfl⟩ rfl (fun b946 ha947 Z948 S949 eZ948 eS949 => ?_)
  have hw := hw b946 ha947 Z948 S949 eZ948 eS949
  have hz950 := zk_old' eZ948 hz918 ha947
  have hz951 := zk_old' eZ948 hz919 ha947
  have hz952 := zk_old' eZ948 hz920 ha947
  have hz953 := zk_old' eZ948 hz921 ha947
  have hz954 := zk_old' eZ948 hz922 ha947
  have hz955 := zk_old' eZ948 hz923 ha947
  have hz956 := zk_old' eZ948 hz924 ha947
  have hz957 := zk_old' eZ948 hz925 ha947
  have hz958 := zk_old' eZ948 hz926 ha947
  have hz959 := zk_old' eZ948 hz927 ha947
  have hz960 := zk_old' eZ948 hz928 ha947
  have hz961 := zk_old' eZ948 hz929 ha947
  have hz962 := zk_old' eZ948 hz930 ha947
  have hz963 := zk_old' eZ948 hz931 ha947
  have hz964 := zk_old' eZ948 hz932 ha947
  have hz965 := zk_old' eZ948 hz933 ha947
  have hz966 := zk_old' eZ948 hz934 ha947
  have hz967 := zk_old' eZ948 hz935 ha947
  have hz968 := zk_old' eZ948 hz936 ha947
  have hz969 := zk_old' eZ948 hz937 ha947
  have hz970 := zk_old' eZ948 hz938 ha947
  have hz971 := zk_old' eZ948 hz939 ha947
  have hz972 := zk_old' eZ948 hz940 ha947
  have hz973 := zk_old' eZ948 hz941 ha947
  have hz974 := zk_old' eZ948 hz942 ha947
  have hz975 := zk_old' eZ948 hz943 ha947
  have hz976 := zk_old' eZ948 hz944 ha947
  have hz977 := zk_old' eZ948 hz945 ha947
  have hz978 := zk_al' eZ948
  refine zg_putfQ (q := 235) (v := b946) (T := TX7) (k := 30) (ty0 := tyX7) C0 hnm0 dX7_init_232 hz951 (zF_7 cy hz951) rfl (by decide) hX_X7_init_7 tyX7_ok nmX7 (zwm (i := 34) rfl) rfl rfl rfl rfl rfl (Nat.le_of_ble_eq_true rfl) (zF_7 cy (zk_sQ hz951)) (zP_7_30 Z948 S949 _ (some _)) rfl (fun Z979 eZ979 => ?_)
  have hw := hw Z979 eZ979
  have hz980 := zk_sQ' eZ979 hz950
  have hz981 := zk_sQ' eZ979 hz951
  have hz982 := zk_sQ' eZ979 hz952
  have hz983 := zk_sQ' eZ979 hz953
  have hz984 := zk_sQ' eZ979 hz954
  have hz985 := zk_sQ' eZ979 hz955
  have hz986 := zk_sQ' eZ979 hz956
  have hz987 := zk_sQ' eZ979 hz957
  have hz988 := zk_sQ' eZ979 hz958
  have hz989 := zk_sQ' eZ979 hz959
  have hz990 := zk_sQ' eZ979 hz960
  have hz991 := zk_sQ' eZ979 hz961
  have hz992 := zk_sQ' eZ979 hz962
  have hz993 := zk_sQ' eZ979 hz963
  have hz994 := zk_sQ' eZ979 hz964
  have hz995 := zk_sQ' eZ979 hz965
  have hz996 := zk_sQ' eZ979 hz966
  have hz997 := zk_sQ' eZ979 hz967
  have hz998 := zk_sQ' eZ979 hz968
  have hz999 := zk_sQ' eZ979 hz969
  have hz1000 := zk_sQ' eZ979 hz970
  have hz1001 := zk_sQ' eZ979 hz971
  have hz1002 := zk_sQ' eZ979 hz972
  have hz1003 := zk_sQ' eZ979 hz973
  have hz1004 := zk_sQ' eZ979 hz974
  have hz1005 := zk_sQ' eZ979 hz975
  have hz1006 := zk_sQ' eZ979 hz976
  have hz1007 := zk_sQ' eZ979 hz977
  have hz1008 := zk_sQ' eZ979 hz978
  refine zg_aload_n (q := 236) C0 0 dX7_init_235 rfl rfl ?_
  refine zg_sipush (q := 239) C0 dX7_init_236 zc_sipush_1616 rfl ?_
  refine zg_newaJ (q := 241) (N' := 1616) (k := 29) (j := 12672) C0 dX7_init_239 (zwm (i := 10) rfl) (by decide) (by decide) (by decide) ⟨rfl, rfl⟩ ⟨Nat.le_of_ble_eq_true rfl, Nat.le_of_ble_eq_true rfl⟩ rfl (fun b1009 ha1010 Z1011 S1012 eZ1011 eS1012 => ?_)
  have hw := hw b1009 ha1010 Z1011 S1012 eZ1011 eS1012
  have hz1013 := zk_old' eZ1011 hz980 ha1010
  have hz1014 := zk_old' eZ1011 hz981 ha1010
  have hz1015 := zk_old' eZ1011 hz982 ha1010
  have hz1016 := zk_old' eZ1011 hz983 ha1010
  have hz1017 := zk_old' eZ1011 hz984 ha1010
  have hz1018 := zk_old' eZ1011 hz985 ha1010
  have hz1019 := zk_old' eZ1011 hz986 ha1010
  have hz1020 := zk_old' eZ1011 hz987 ha1010
  have hz1021 := zk_old' eZ1011 hz988 ha1010
  have hz1022 := zk_old' eZ1011 hz989 ha1010
  have hz1023 := zk_old' eZ1011 hz990 ha1010
  have hz1024 := zk_old' eZ1011 hz991 ha1010
  have hz1025 := zk_old' eZ1011 hz992 ha1010
  have hz1026 := zk_old' eZ1011 hz993 ha1010
  have hz1027 := zk_old' eZ1011 hz994 ha1010
  have hz1028 := zk_old' eZ1011 hz995 ha1010
  have hz1029 := zk_old' eZ1011 hz996 ha1010
  have hz1030 := zk_old' eZ1011 hz997 ha1010
  have hz1031 := zk_old' eZ1011 hz998 ha1010
  have hz1032 := zk_old' eZ1011 hz999 ha1010
  have hz1033 := zk_old' eZ1011 hz1000 ha1010
  have hz1034 := zk_old' eZ1011 hz1001 ha1010
  have hz1035 := zk_old' eZ1011 hz1002 ha1010
  have hz1036 := zk_old' eZ1011 hz1003 ha1010
  have hz1037 := zk_old' eZ1011 hz1004 ha1010
  have hz1038 := zk_old' eZ1011 hz1005 ha1010
  have hz1039 := zk_old' eZ1011 hz1006 ha1010
  have hz1040 := zk_old' eZ1011 hz1007 ha1010
  have hz1041 := zk_old' eZ1011 hz1008 ha1010
  have hz1042 := zk_al' eZ1011
  refine zg_putfQ (q := 244) (v := b1009) (T := TX7) (k := 31) (ty0 := tyX7) C0 hnm0 dX7_init_241 hz1014 (zF_7 cy hz1014) rfl (by decide) hX_X7_init_7 tyX7_ok nmX7 (zwm (i := 35) rfl) rfl rfl rfl rfl rfl (Nat.le_of_ble_eq_true rfl) (zF_7 cy (zk_sQ hz1014)) (zP_7_31 Z1011 S1012 _ (some _)) rfl (fun Z1043 eZ1043 => ?_)
  have hw := hw Z1043 eZ1043
  have hz1044 := zk_sQ' eZ1043 hz1013
  have hz1045 := zk_sQ' eZ1043 hz1014
  have hz1046 := zk_sQ' eZ1043 hz1015
  have hz1047 := zk_sQ' eZ1043 hz1016
  have hz1048 := zk_sQ' eZ1043 hz1017
  have hz1049 := zk_sQ' eZ1043 hz1018
  have hz1050 := zk_sQ' eZ1043 hz1019
  have hz1051 := zk_sQ' eZ1043 hz1020
  have hz1052 := zk_sQ' eZ1043 hz1021
  have hz1053 := zk_sQ' eZ1043 hz1022
  have hz1054 := zk_sQ' eZ1043 hz1023
  have hz1055 := zk_sQ' eZ1043 hz1024
  have hz1056 := zk_sQ' eZ1043 hz1025
  have hz1057 := zk_sQ' eZ1043 hz1026
  have hz1058 := zk_sQ' eZ1043 hz1027
  have hz1059 := zk_sQ' eZ1043 hz1028
  have hz1060 := zk_sQ' eZ1043 hz1029
  have hz1061 := zk_sQ' eZ1043 hz1030
  have hz1062 := zk_sQ' eZ1043 hz1031
  have hz1063 := zk_sQ' eZ1043 hz1032
  have hz1064 := zk_sQ' eZ1043 hz1033
  have hz1065 := zk_sQ' eZ1043 hz1034
  have hz1066 := zk_sQ' eZ1043 hz1035
  have hz1067 := zk_sQ' eZ1043 hz1036
  have hz1068 := zk_sQ' eZ1043 hz1037
  have hz1069 := zk_sQ' eZ1043 hz1038
  have hz1070 := zk_sQ' eZ1043 hz1039
  have hz1071 := zk_sQ' eZ1043 hz1040
  have hz1072 := zk_sQ' eZ1043 hz1041
  have hz1073 := zk_sQ' eZ1043 hz1042
  refine zg_aload_n (q := 245) C0 0 dX7_init_244 rfl rfl ?_
  refine zg_sipush (q := 248) C0 dX7_init_245 zc_sipush_1616 rfl ?_
  refine zg_newaZ (q := 250) (N' := 1616) (k := 30) (j := 14288) C0 dX7_init_248 (zwm (i := 4) rfl) (by decide) (by decide) (by decide) ⟨rfl, rfl⟩ ⟨Nat.le_of_ble_eq_true rfl, Nat.le_of_ble_eq_true rfl⟩ rfl (fun b1074 ha1075 Z1076 S1077 eZ1076 eS1077 => ?_)
  have hw := hw b1074 ha1075 Z1076 S1077 eZ1076 eS1077
  have hz1078 := zk_old' eZ1076 hz1044 ha1075
  have hz1079 := zk_old' eZ1076 hz1045 ha1075
  have hz1080 := zk_old' eZ1076 hz1046 ha1075
  have hz1081 := zk_old' eZ1076 hz1047 ha1075
  have hz1082 := zk_old' eZ1076 hz1048 ha1075
  have hz1083 := zk_old' eZ1076 hz1049 ha1075
  have hz1084 := zk_old' eZ1076 hz1050 ha1075
  have hz1085 := zk_old' eZ1076 hz1051 ha1075
  have hz1086 := zk_old' eZ1076 hz1052 ha1075
  have hz1087 := zk_old' eZ1076 hz1053 ha1075
  have hz1088 := zk_old' eZ1076 hz1054 ha1075
  have hz1089 := zk_old' eZ1076 hz1055 ha1075
  have hz1090 := zk_old' eZ1076 hz1056 ha1075
  have hz1091 := zk_old' eZ1076 hz1057 ha1075
  have hz1092 := zk_old' eZ1076 hz1058 ha1075
  have hz1093 := zk_old' eZ1076 hz1059 ha1075
  have hz1094 := zk_old' eZ1076 hz1060 ha1075
  have hz1095 := zk_old' eZ1076 hz1061 ha1075
  have hz1096 := zk_old' eZ1076 hz1062 ha1075
  have hz1097 := zk_old' eZ1076 hz1063 ha1075
  have hz1098 := zk_old' eZ1076 hz1064 ha1075
  have hz1099 := zk_old' eZ1076 hz1065 ha1075
  have hz1100 := zk_old' eZ1076 hz1066 ha1075
  have hz1101 := zk_old' eZ1076 hz1067 ha1075
  have hz1102 := zk_old' eZ1076 hz1068 ha1075
  have hz1103 := zk_old' eZ1076 hz1069 ha1075
  have hz1104 := zk_old' eZ1076 hz1070 ha1075
  have hz1105 := zk_old' eZ1076 hz1071 ha1075
  have hz1106 := zk_old' eZ1076 hz1072 ha1075
  have hz1107 := zk_old' eZ1076 hz1073 ha1075
  have hz1108 := zk_al' eZ1076
  refine zg_putfQ (q := 253) (v := b1074) (T := TX7) (k := 32) (ty0 := tyX7) C0 hnm0 dX7_init_250 hz1079 (zF_7 cy hz1079) rfl (by decide) hX_X7_init_7 tyX7_ok nmX7 (zwm (i := 36) rfl) rfl rfl rfl rfl rfl (Nat.le_of_ble_eq_true rfl) (zF_7 cy (zk_sQ hz1079)) (zP_7_32 Z1076 S1077 _ (some _)) rfl (fun Z1109 eZ1109 => ?_)
  have hw := hw Z1109 eZ1109
  have hz1110 := zk_sQ' eZ1109 hz1078
  have hz1111 := zk_sQ' eZ1109 hz1079
  have hz1112 := zk_sQ' eZ1109 hz1080
  have hz1113 := zk_sQ' eZ1109 hz1081
  have hz1114 := zk_sQ' eZ1109 hz1082
  have hz1115 := zk_sQ' eZ1109 hz1083
  have hz1116 := zk_sQ' eZ1109 hz1084
  have hz1117 := zk_sQ' eZ1109 hz1085
  have hz1118 := zk_sQ' eZ1109 hz1086
  have hz1119 := zk_sQ' eZ1109 hz1087
  have hz1120 := zk_sQ' eZ1109 hz1088
  have hz1121 := zk_sQ' eZ1109 hz1089
  have hz1122 := zk_sQ' eZ1109 hz1090
  have hz1123 := zk_sQ' eZ1109 hz1091
  have hz1124 := zk_sQ' eZ1109 hz1092
  have hz1125 := zk_sQ' eZ1109 hz1093
  have hz1126 := zk_sQ' eZ1109 hz1094
  have hz1127 := zk_sQ' eZ1109 hz1095
  have hz1128 := zk_sQ' eZ1109 hz1096
  have hz1129 := zk_sQ' eZ1109 hz1097
  have hz1130 := zk_sQ' eZ1109 hz1098
  have hz1131 := zk_sQ' eZ1109 hz1099
  have hz1132 := zk_sQ' eZ1109 hz1100
  have hz1133 := zk_sQ' eZ1109 hz1101
  have hz1134 := zk_sQ' eZ1109 hz1102
  have hz1135 := zk_sQ' eZ1109 hz1103
  have hz1136 := zk_sQ' eZ1109 hz1104
  have hz1137 := zk_sQ' eZ1109 hz1105
  have hz1138 := zk_sQ' eZ1109 hz1106
  have hz1139 := zk_sQ' eZ1109 hz1107
  have hz1140 := zk_sQ' eZ1109 hz1108
  refine zg_aload_n (q := 254) C0 0 dX7_init_253 rfl rfl ?_
  refine zg_sipush (q := 257) C0 dX7_init_254 zc_sipush_1616 rfl ?_
  refine zg_newaI (q := 259) (N' := 1616) (k := 31) (j := 15904) C0 dX7_init_257 (zwm (i := 6) rfl) (by decide) (by decide) (by decide) ⟨rfl, rfl⟩ ⟨Nat.le_of_ble_eq_true rfl, Nat.le_of_ble_eq_true rfl⟩ rfl (fun b1141 ha1142 Z1143 S1144 eZ1143 eS1144 => ?_)
  have hw := hw b1141 ha1142 Z1143 S1144 eZ1143 eS1144
  have hz1145 := zk_old' eZ1143 hz1110 ha1142
  have hz1146 := zk_old' eZ1143 hz1111 ha1142
  have hz1147 := zk_old' eZ1143 hz1112 ha1142
  have hz1148 := zk_old' eZ1143 hz1113 ha1142
  have hz1149 := zk_old' eZ1143 hz1114 ha1142
  have hz1150 := zk_old' eZ1143 hz1115 ha1142
  have hz1151 := zk_old' eZ1143 hz1116 ha1142
  have hz1152 := zk_old' eZ1143 hz1117 ha1142
  have hz1153 := zk_old' eZ1143 hz1118 ha1142
  have hz1154 := zk_old' eZ1143 hz1119 ha1142
  have hz1155 := zk_old' eZ1143 hz1120 ha1142
  have hz1156 := zk_old' eZ1143 hz1121 ha1142
  have hz1157 := zk_old' eZ1143 hz1122 ha1142
  have hz1158 := zk_old' eZ1143 hz1123 ha1142
  have hz1159 := zk_old' eZ1143 hz1124 ha1142
  have hz1160 := zk_old' eZ1143 hz1125 ha1142
  have hz1161 := zk_old' eZ1143 hz1126 ha1142
  have hz1162 := zk_old' eZ1143 hz1127 ha1142
  have hz1163 := zk_old' eZ1143 hz1128 ha1142
  have hz1164 := zk_old' eZ1143 hz1129 ha1142
  have hz1165 := zk_old' eZ1143 hz1130 ha1142
  have hz1166 := zk_old' eZ1143 hz1131 ha1142
  have hz1167 := zk_old' eZ1143 hz1132 ha1142
  have hz1168 := zk_old' eZ1143 hz1133 ha1142
  have hz1169 := zk_old' eZ1143 hz1134 ha1142
  have hz1170 := zk_old' eZ1143 hz1135 ha1142
  have hz1171 := zk_old' eZ1143 hz1136 ha1142
  have hz1172 := zk_old' eZ1143 hz1137 ha1142
  have hz1173 := zk_old' eZ1143 hz1138 ha1142
  have hz1174 := zk_old' eZ1143 hz1139 ha1142
  have hz1175 := zk_old' eZ1143 hz1140 ha1142
  have hz1176 := zk_al' eZ1143
  refine zg_putfQ (q := 262) (v := b1141) (T := TX7) (k := 33) (ty0 := tyX7) C0 hnm0 dX7_init_259 hz1146 (zF_7 cy hz1146) rfl (by decide) hX_X7_init_7 tyX7_ok nmX7 (zwm (i := 37) rfl) rfl rfl rfl rfl rfl (Nat.le_of_ble_eq_true rfl) (zF_7 cy (zk_sQ hz1146)) (zP_7_33 Z1143 S1144 _ (some _)) rfl (fun Z1177 eZ1177 => ?_)
  have hw := hw Z1177 eZ1177
  have hz1178 := zk_sQ' eZ1177 hz1145
  have hz1179 := zk_sQ' eZ1177 hz1146
  have hz1180 := zk_sQ' eZ1177 hz1147
  have hz1181 := zk_sQ' eZ1177 hz1148
  have hz1182 := zk_sQ' eZ1177 hz1149
  have hz1183 := zk_sQ' eZ1177 hz1150
  have hz1184 := zk_sQ' eZ1177 hz1151
  have hz1185 := zk_sQ' eZ1177 hz1152
  have hz1186 := zk_sQ' eZ1177 hz1153
  have hz1187 := zk_sQ' eZ1177 hz1154
  have hz1188 := zk_sQ' eZ1177 hz1155
  have hz1189 := zk_sQ' eZ1177 hz1156
  have hz1190 := zk_sQ' eZ1177 hz1157
  have hz1191 := zk_sQ' eZ1177 hz1158
  have hz1192 := zk_sQ' eZ1177 hz1159
  have hz1193 := zk_sQ' eZ1177 hz1160
  have hz1194 := zk_sQ' eZ1177 hz1161
  have hz1195 := zk_sQ' eZ1177 hz1162
  have hz1196 := zk_sQ' eZ1177 hz1163
  have hz1197 := zk_sQ' eZ1177 hz1164
  have hz1198 := zk_sQ' eZ1177 hz1165
  have hz1199 := zk_sQ' eZ1177 hz1166
  have hz1200 := zk_sQ' eZ1177 hz1167
  have hz1201 := zk_sQ' eZ1177 hz1168
  have hz1202 := zk_sQ' eZ1177 hz1169
  have hz1203 := zk_sQ' eZ1177 hz1170
  have hz1204 := zk_sQ' eZ1177 hz1171
  have hz1205 := zk_sQ' eZ1177 hz1172
  have hz1206 := zk_sQ' eZ1177 hz1173
  have hz1207 := zk_sQ' eZ1177 hz1174
  have hz1208 := zk_sQ' eZ1177 hz1175
  have hz1209 := zk_sQ' eZ1177 hz1176
  refine zg_aload_n (q := 263) C0 0 dX7_init_262 rfl rfl ?_
  refine zg_sipush (q := 266) C0 dX7_init_263 zc_sipush_1616 rfl ?_
  refine zg_newaZ (q := 268) (N' := 1616) (k := 32) (j := 17520) C0 dX7_init_266 (zwm (i := 4) rfl) (by decide) (by decide) (by decide) ⟨rfl, rfl⟩ ⟨Nat.le_of_ble_eq_true rfl, Nat.le_of_ble_eq_true rfl⟩ rfl (fun b1210 ha1211 Z1212 S1213 eZ1212 eS1213 => ?_)
  have hw := hw b1210 ha1211 Z1212 S1213 eZ1212 eS1213
  have hz1214 := zk_old' eZ1212 hz1178 ha1211
  have hz1215 := zk_old' eZ1212 hz1179 ha1211
  have hz1216 := zk_old' eZ1212 hz1180 ha1211
  have hz1217 := zk_old' eZ1212 hz1181 ha1211
  have hz1218 := zk_old' eZ1212 hz1182 ha1211
  have hz1219 := zk_old' eZ1212 hz1183 ha1211
  have hz1220 := zk_old' eZ1212 hz1184 ha1211
  have hz1221 := zk_old' eZ1212 hz1185 ha1211
  have hz1222 := zk_old' eZ1212 hz1186 ha1211
  have hz1223 := zk_old' eZ1212 hz1187 ha1211
  have hz1224 := zk_old' eZ1212 hz1188 ha1211
  have hz1225 := zk_old' eZ1212 hz1189 ha1211
  have hz1226 := zk_old' eZ1212 hz1190 ha1211
  have hz1227 := zk_old' eZ1212 hz1191 ha1211
  have hz1228 := zk_old' eZ1212 hz1192 ha1211
  have hz1229 := zk_old' eZ1212 hz1193 ha1211
  have hz1230 := zk_old' eZ1212 hz1194 ha1211
  have hz1231 := zk_old' eZ1212 hz1195 ha1211
  have hz1232 := zk_old' eZ1212 hz1196 ha1211
  have hz1233 := zk_old' eZ1212 hz1197 ha1211
  have hz1234 := zk_old' eZ1212 hz1198 ha1211
  have hz1235 := zk_old' eZ1212 hz1199 ha1211
  have hz1236 := zk_old' eZ1212 hz1200 ha1211
  have hz1237 := zk_old' eZ1212 hz1201 ha1211
  have hz1238 := zk_old' eZ1212 hz1202 ha1211
  have hz1239 := zk_old' eZ1212 hz1203 ha1211
  have hz1240 := zk_old' eZ1212 hz1204 ha1211
  have hz1241 := zk_old' eZ1212 hz1205 ha1211
  have hz1242 := zk_old' eZ1212 hz1206 ha1211
  have hz1243 := zk_old' eZ1212 hz1207 ha1211
  have hz1244 := zk_old' eZ1212 hz1208 ha1211
  have hz1245 := zk_old' eZ1212 hz1209 ha1211
  have hz1246 := zk_al' eZ1212
  refine zg_putfQ (q := 271) (v := b1210) (T := TX7) (k := 34) (ty0 := tyX7) C0 hnm0 dX7_init_268 hz1215 (zF_7 cy hz1215) rfl (by decide) hX_X7_init_7 tyX7_ok nmX7 (zwm (i := 38) rfl) rfl rfl rfl rfl rfl (Nat.le_of_ble_eq_true rfl) (zF_7 cy (zk_sQ hz1215)) (zP_7_34 Z1212 S1213 _ (some _)) rfl (fun Z1247 eZ1247 => ?_)
  have hw := hw Z1247 eZ1247
  have hz1248 := zk_sQ' eZ1247 hz1214
  have hz1249 := zk_sQ' eZ1247 hz1215
  have hz1250 := zk_sQ' eZ1247 hz1216
  have hz1251 := zk_sQ' eZ1247 hz1217
  have hz1252 := zk_sQ' eZ1247 hz1218
  have hz1253 := zk_sQ' eZ1247 hz1219
  have hz1254 := zk_sQ' eZ1247 hz1220
  have hz1255 := zk_sQ' eZ1247 hz1221
  have hz1256 := zk_sQ' eZ1247 hz1222
  have hz1257 := zk_sQ' eZ1247 hz1223
  have hz1258 := zk_sQ' eZ1247 hz1224
  have hz1259 := zk_sQ' eZ1247 hz1225
  have hz1260 := zk_sQ' eZ1247 hz1226
  have hz1261 := zk_sQ' eZ1247 hz1227
  have hz1262 := zk_sQ' eZ1247 hz1228
  have hz1263 := zk_sQ' eZ1247 hz1229
  have hz1264 := zk_sQ' eZ1247 hz1230
  have hz1265 := zk_sQ' eZ1247 hz1231
  have hz1266 := zk_sQ' eZ1247 hz1232
  have hz1267 := zk_sQ' eZ1247 hz1233
  have hz1268 := zk_sQ' eZ1247 hz1234
  have hz1269 := zk_sQ' eZ1247 hz1235
  have hz1270 := zk_sQ' eZ1247 hz1236
  have hz1271 := zk_sQ' eZ1247 hz1237
  have hz1272 := zk_sQ' eZ1247 hz1238
  have hz1273 := zk_sQ' eZ1247 hz1239
  have hz1274 := zk_sQ' eZ1247 hz1240
  have hz1275 := zk_sQ' eZ1247 hz1241
  have hz1276 := zk_sQ' eZ1247 hz1242
  have hz1277 := zk_sQ' eZ1247 hz1243
  have hz1278 := zk_sQ' eZ1247 hz1244
  have hz1279 := zk_sQ' eZ1247 hz1245
  have hz1280 := zk_sQ' eZ1247 hz1246
  refine zg_aload_n (q := 272) C0 0 dX7_init_271 rfl rfl ?_
  refine zg_sipush (q := 275) C0 dX7_init_272 zc_sipush_128 rfl ?_
  refine zg_newaI (q := 277) (N' := 128) (k := 33) (j := 17648) C0 dX7_init_275 (zwm (i := 6) rfl) (by decide) (by decide) (by decide) ⟨rfl, rfl⟩ ⟨Nat.le_of_ble_eq_true rfl, Nat.le_of_ble_eq_true rfl⟩ rfl (fun b1281 ha1282 Z1283 S1284 eZ1283 eS1284 => ?_)
  have hw := hw b1281 ha1282 Z1283 S1284 eZ1283 eS1284
  have hz1285 := zk_old' eZ1283 hz1248 ha1282
  have hz1286 := zk_old' eZ1283 hz1249 ha1282
  have hz1287 := zk_old' eZ1283 hz1250 ha1282
  have hz1288 := zk_old' eZ1283 hz1251 ha1282
  have hz1289 := zk_old' eZ1283 hz1252 ha1282
  have hz1290 := zk_old' eZ1283 hz1253 ha1282
  have hz1291 := zk_old' eZ1283 hz1254 ha1282
  have hz1292 := zk_old' eZ1283 hz1255 ha1282
  have hz1293 := zk_old' eZ1283 hz1256 ha1282
  have hz1294 := zk_old' eZ1283 hz1257 ha1282
  have hz1295 := zk_old' eZ1283 hz1258 ha1282
  have hz1296 := zk_old' eZ1283 hz1259 ha1282
  have hz1297 := zk_old' eZ1283 hz1260 ha1282
  have hz1298 := zk_old' eZ1283 hz1261 ha1282
  have hz1299 := zk_old' eZ1283 hz1262 ha1282
  have hz1300 := zk_old' eZ1283 hz1263 ha1282
  have hz1301 := zk_old' eZ1283 hz1264 ha1282
  have hz1302 := zk_old' eZ1283 hz1265 ha1282
  have hz1303 := zk_old' eZ1283 hz1266 ha1282
  have hz1304 := zk_old' eZ1283 hz1267 ha1282
  have hz1305 := zk_old' eZ1283 hz1268 ha1282
  have hz1306 := zk_old' eZ1283 hz1269 ha1282
  have hz1307 := zk_old' eZ1283 hz1270 ha1282
  have hz1308 := zk_old' eZ1283 hz1271 ha1282
  have hz1309 := zk_old' eZ1283 hz1272 ha1282
  have hz1310 := zk_old' eZ1283 hz1273 ha1282
  have hz1311 := zk_old' eZ1283 hz1274 ha1282
  have hz1312 := zk_old' eZ1283 hz1275 ha1282
  have hz1313 := zk_old' eZ1283 hz1276 ha1282
  have hz1314 := zk_old' eZ1283 hz1277 ha1282
  have hz1315 := zk_old' eZ1283 hz1278 ha1282
  have hz1316 := zk_old' eZ1283 hz1279 ha1282
  have hz1317 := zk_old' eZ1283 hz1280 ha1282
  have hz1318 := zk_al' eZ1283
  refine zg_putfQ (q := 280) (v := b1281) (T := TX7) (k := 35) (ty0 := tyX7) C0 hnm0 dX7_init_277 hz1286 (zF_7 cy hz1286) rfl (by decide) hX_X7_init_7 tyX7_ok nmX7 (zwm (i := 39) rfl) rfl rfl rfl rfl rfl (Nat.le_of_ble_eq_true rfl) (zF_7 cy (zk_sQ hz1286)) (zP_7_35 Z1283 S1284 _ (some _)) rfl (fun Z1319 eZ1319 => ?_)
  have hw := hw Z1319 eZ1319
  have hz1320 := zk_sQ' eZ1319 hz1285
  have hz1321 := zk_sQ' eZ1319 hz1286
  have hz1322 := zk_sQ' eZ1319 hz1287
  have hz1323 := zk_sQ' eZ1319 hz1288
  have hz1324 := zk_sQ' eZ1319 hz1289
  have hz1325 := zk_sQ' eZ1319 hz1290
  have hz1326 := zk_sQ' eZ1319 hz1291
  have hz1327 := zk_sQ' eZ1319 hz1292
  have hz1328 := zk_sQ' eZ1319 hz1293
  have hz1329 := zk_sQ' eZ1319 hz1294
  have hz1330 := zk_sQ' eZ1319 hz1295
  have hz1331 := zk_sQ' eZ1319 hz1296
  have hz1332 := zk_sQ' eZ1319 hz1297
  have hz1333 := zk_sQ' eZ1319 hz1298
  have hz1334 := zk_sQ' eZ1319 hz1299
  have hz1335 := zk_sQ' eZ1319 hz1300
  have hz1336 := zk_sQ' eZ1319 hz1301
  have hz1337 := zk_sQ' eZ1319 hz1302
  have hz1338 := zk_sQ' eZ1319 hz1303
  have hz1339 := zk_sQ' eZ1319 hz1304
  have hz1340 := zk_sQ' eZ1319 hz1305
  have hz1341 := zk_sQ' eZ1319 hz1306
  have hz1342 := zk_sQ' eZ1319 hz1307
  have hz1343 := zk_sQ' eZ1319 hz1308
  have hz1344 := zk_sQ' eZ1319 hz1309
  have hz1345 := zk_sQ' eZ1319 hz1310
  have hz1346 := zk_sQ' eZ1319 hz1311
  have hz1347 := zk_sQ' eZ1319 hz1312
  have hz1348 := zk_sQ' eZ1319 hz1313
  have hz1349 := zk_sQ' eZ1319 hz1314
  have hz1350 := zk_sQ' eZ1319 hz1315
  have hz1351 := zk_sQ' eZ1319 hz1316
  have hz1352 := zk_sQ' eZ1319 hz1317
  have hz1353 := zk_sQ' eZ1319 hz1318
  refine zg_aload_n (q := 281) C0 0 dX7_init_280 rfl rfl ?_
  refine zg_iload_n (q := 282) C0 1 dX7_init_281 rfl rfl ?_
  refine zg_iconst (q := 283) C0 dX7_init_282 zc_iconst_2 rfl ?_
  refine zg_icmp_ge (q := 286) (tgt := 290) C0 dX7_init_283 rfl rfl (fun c1389 => ?_) (fun c1389 => ?_)
  · have hw := hw.1 c1389
    refine zg_iload_n (q := 291) C0 1 dX7_init_290 rfl rfl ?_
    refine zg_bipush (q := 293) C0 dX7_init_291 zc_bipush_8 rfl ?_
    refine zg_icmp_le (q := 296) (tgt := 301) C0 dX7_init_293 rfl rfl (fun c1388 => ?_) (fun c1388 => ?_)
    · have hw := hw.1 c1388
      refine zg_iload_n (q := 302) C0 1 dX7_init_301 rfl rfl ?_
      refine zg_sub [0, 2] rfl ?_
      exact aJ_X7_init_302 C0  hw
    · have hw := hw.2 c1388
      refine zg_bipush (q := 298) C0 dX7_init_296 zc_bipush_8 rfl ?_
      refine zg_goto (tgt := 302) C0 dX7_init_298 rfl ?_
      refine zg_sub [0, 2] rfl ?_
      exact aJ_X7_init_302 C0  hw
  · have hw := hw.2 c1389
    refine zg_iconst (q := 287) C0 dX7_init_286 zc_iconst_2 rfl ?_
    refine zg_goto (tgt := 302) C0 dX7_init_287 rfl ?_
    refine zg_sub [0, 2] rfl ?_
    exact aJ_X7_init_302 C0  hw
