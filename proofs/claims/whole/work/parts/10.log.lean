theorem zc_bipush_6 : (Int8.ofInt 6).toInt32 = 6 := by decide
theorem zc_bipush_7 : (Int8.ofInt 7).toInt32 = 7 := by decide
theorem zc_bipush_8 : (Int8.ofInt 8).toInt32 = 8 := by decide
theorem zc_bipush_9 : (Int8.ofInt 9).toInt32 = 9 := by decide
theorem zc_bipush_10 : (Int8.ofInt 10).toInt32 = 10 := by decide
theorem zc_bipush_12 : (Int8.ofInt 12).toInt32 = 12 := by decide
theorem zc_bipush_13 : (Int8.ofInt 13).toInt32 = 13 := by decide
theorem zc_bipush_16 : (Int8.ofInt 16).toInt32 = 16 := by decide
theorem zc_bipush_17 : (Int8.ofInt 17).toInt32 = 17 := by decide
theorem zc_bipush_63 : (Int8.ofInt 63).toInt32 = 63 := by decide
theorem zc_bipush_100 : (Int8.ofInt 100).toInt32 = 100 := by decide
theorem zc_bipush_101 : (Int8.ofInt 101).toInt32 = 101 := by decide
theorem zc_iconst_m1 : Int32.ofInt (-1) = (-1) := by decide
theorem zc_iconst_0 : Int32.ofInt 0 = 0 := by decide
theorem zc_iconst_1 : Int32.ofInt 1 = 1 := by decide
theorem zc_iconst_2 : Int32.ofInt 2 = 2 := by decide
theorem zc_iconst_3 : Int32.ofInt 3 = 3 := by decide
theorem zc_iconst_4 : Int32.ofInt 4 = 4 := by decide
theorem zc_iconst_5 : Int32.ofInt 5 = 5 := by decide
-- J9_floorMod_7cf53
abbrev rm_J9_floorMod_7cf53 : Room := { frames := 0, cells := 0, slots := 0, locals := 0 }
theorem hdS_J9_floorMod_7cf53 : yJ9_floorMod_7cf53.cls ≠ "java/lang/invoke/MethodHandle" ∧ yJ9_floorMod_7cf53.cls ≠ "java/lang/invoke/VarHandle" ∧ (parseMethodDescriptor yJ9_floorMod_7cf53.desc).map (fun d => d.parameters.length) = some 2 := by decide +kernel
def w_J9_floorMod_7cf53 (Z : zZ) (p0 : Int32) (p1 : Int32) (S : zS) (Qp : Int32 → zS → Prop) : Prop :=
  ¬ p1 = 0 ∧ ∀ y2 : Int32, y2 = p0 - p0 / p1 * p1 → ((0 ≤ (p0 ^^^ p1) → Qp y2 S) ∧ (¬ 0 ≤ (p0 ^^^ p1) → ((y2 = 0 → Qp y2 S) ∧ (¬ y2 = 0 → Qp (y2 + p1) S))))
set_option maxHeartbeats 4000000 in
set_option maxRecDepth 100000 in
theorem a_J9_floorMod_7cf53 (l : Launch) (D : va_G) (cy : Nat → ClassId) (Z : zZ) (S : zS) (sz : Nat) (p0 : Int32) (p1 : Int32) (Qp : Int32 → zS → Prop) (hw : w_J9_floorMod_7cf53 Z p0 p1 S Qp) : zMi l yJ9_floorMod_7cf53 wsJ9_floorMod_7cf53 rm_J9_floorMod_7cf53 D cy Z S sz [.int p0, .int p1] Qp := by
  unfold w_J9_floorMod_7cf53 at hw
  refine zMi_ofF (cc := cJ9_floorMod_7cf53) (maxL := 3) (rt := (some .int)) (by decide +kernel) rfl (Nat.le_of_ble_eq_true rfl) ?_
  intro p e s m args below meth c A C0 _
  refine zg_lv (lv' := [(0, .int p0), (1, .int p1)]) rfl ?_
  refine zg_iload_n (q := 1) C0 0 dJ9_floorMod_7cf53_0 rfl rfl ?_
  refine zg_iload_n (q := 2) C0 1 dJ9_floorMod_7cf53_1 rfl rfl ?_
  obtain ⟨hn1, hw⟩ := hw
  refine zg_irem (q := 3) C0 dJ9_floorMod_7cf53_2 hn1 rfl ?_
  refine zg_ni (fun y2 ey2 => ?_)
  have hw := hw y2 ey2
  refine zg_istore_n (q := 4) (lv' := [(2, .int y2), (0, .int p0), (1, .int p1)]) C0 dJ9_floorMod_7cf53_3 (by decide) rfl rfl ?_
  refine zg_iload_n (q := 5) C0 1 dJ9_floorMod_7cf53_4 rfl rfl ?_
  refine zg_iload_n (q := 6) C0 2 dJ9_floorMod_7cf53_5 rfl rfl ?_
  refine zg_ixor (q := 7) C0 dJ9_floorMod_7cf53_6 rfl ?_
  refine zg_if_ge (q := 10) (tgt := 18) C0 dJ9_floorMod_7cf53_7 rfl rfl (fun c4 => ?_) (fun c4 => ?_)
  · have hw := hw.1 c4
    refine zg_iload_n (q := 19) C0 0 dJ9_floorMod_7cf53_18 rfl rfl ?_
    exact zg_iret C0 dJ9_floorMod_7cf53_19 rfl rfl (Nat.le_refl 0) (Nat.le_refl 0) hw
  · have hw := hw.2 c4
    refine zg_iload_n (q := 11) C0 0 dJ9_floorMod_7cf53_10 rfl rfl ?_
    refine zg_if_eq (q := 14) (tgt := 18) C0 dJ9_floorMod_7cf53_11 rfl rfl (fun c3 => ?_) (fun c3 => ?_)
    · have hw := hw.1 c3
      refine zg_iload_n (q := 19) C0 0 dJ9_floorMod_7cf53_18 rfl rfl ?_
      exact zg_iret C0 dJ9_floorMod_7cf53_19 rfl rfl (Nat.le_refl 0) (Nat.le_refl 0) hw
    · have hw := hw.2 c3
      refine zg_iload_n (q := 15) C0 0 dJ9_floorMod_7cf53_14 rfl rfl ?_
      refine zg_iload_n (q := 16) C0 2 dJ9_floorMod_7cf53_15 rfl rfl ?_
      refine zg_iadd (q := 17) C0 dJ9_floorMod_7cf53_16 rfl ?_
      exact zg_iret C0 dJ9_floorMod_7cf53_17 rfl rfl (Nat.le_refl 0) (Nat.le_refl 0) hw
-- X0_add
abbrev rm_X0_add : Room := { frames := 1, cells := 0, slots := 0, locals := 22 }
theorem hX_X0_add_0 : ∀ w ∈ u_ws RX0 TX0 2, w ∈ wsX0_add := by decide +kernel
theorem hdV_X0_add : yX0_add.cls = RX0 ∧ yX0_add.cls ≠ "java/lang/invoke/MethodHandle" ∧ yX0_add.cls ≠ "java/lang/invoke/VarHandle" ∧ (parseMethodDescriptor yX0_add.desc).map (fun d => d.parameters.length) = some 6 := by decide +kernel
def w_X0_add (Z : zZ) (h0 : Nat) (p0 : Int32) (p1 : Int32) (p2 : Int32) (p3 : Int32) (p4 : Int64) (p5 : Int32) (S : zS) (Qp : zS → Prop) : Prop :=
  zk Z h0 0 ∧ w_J9_floorMod_7cf53 Z (zI S h0 1) 100 S (fun (v3 : Int32) (S2 : zS) => ∀ y4 : Int32, y4 = v3 * 6 → ∃ b5, zQ Z h0 0 = some b5 ∧ zk Z b5 9 ∧ vp_in y4 (zN Z b5) ∧ ∀ S9 : zS, S9 = zsJ S2 b5 y4.toNatClampNeg ((p0 : Int32).toInt64) → vp_in (y4 + 1) (zN Z b5) ∧ ∀ S11 : zS, S11 = zsJ S9 b5 (y4 + 1).toNatClampNeg ((p1 : Int32).toInt64) → vp_in (y4 + 2) (zN Z b5) ∧ ∀ S13 : zS, S13 = zsJ S11 b5 (y4 + 2).toNatClampNeg ((p2 : Int32).toInt64) → vp_in (y4 + 3) (zN Z b5) ∧ ∀ S15 : zS, S15 = zsJ S13 b5 (y4 + 3).toNatClampNeg ((p3 : Int32).toInt64) → vp_in (y4 + 4) (zN Z b5) ∧ ∀ S17 : zS, S17 = zsJ S15 b5 (y4 + 4).toNatClampNeg p4 → vp_in (y4 + 5) (zN Z b5) ∧ ∀ S19 : zS, S19 = zsJ S17 b5 (y4 + 5).toNatClampNeg ((p5 : Int32).toInt64) → ∀ S20 : zS, S20 = zsI S19 h0 1 ((zI S19 h0 1) + 1) → Qp S20)
set_option maxHeartbeats 4000000 in
set_option maxRecDepth 100000 in
theorem a_X0_add (l : Launch) (D : va_G) (cy : Nat → ClassId) (Z : zZ) (S : zS) (sz : Nat) (h0 : Nat) (p0 : Int32) (p1 : Int32) (p2 : Int32) (p3 : Int32) (p4 : Int64) (p5 : Int32) (Qp : zS → Prop) (hw : w_X0_add Z h0 p0 p1 p2 p3 p4 p5 S Qp) : zMv l yX0_add wsX0_add rm_X0_add D cy Z S sz [.ref h0, .int p0, .int p1, .int p2, .int p3, .long p4, .int p5] Qp := by
  unfold w_X0_add at hw
  refine zMv_of (cc := cX0_add) (maxL := 9) (rt := none) (by decide +kernel) rfl (Nat.le_of_ble_eq_true rfl) ?_
  intro p e s m args below meth c A C0 _
  refine zg_lv (lv' := [(0, .ref h0), (1, .int p0), (2, .int p1), (3, .int p2), (4, .int p3), (5, .long p4), (7, .int p5)]) rfl ?_
  refine zg_aload_n (q := 1) C0 0 dX0_add_0 rfl rfl ?_
  obtain ⟨hz1, hw⟩ := hw
  refine zg_get (q := 4) (T := TX0) (k := 1) C0 dX0_add_1 hz1 (zF_0 cy hz1) rfl (by decide) hX_X0_add_0 (zwm (i := 1) rfl) rfl rfl rfl ?_
  refine zg_bipush (q := 6) C0 dX0_add_4 zc_bipush_100 rfl ?_
  refine zg_callSi (q := 9) C0 [.int (zI S h0 1), .int 100] [] dX0_add_6 (fun sz => a_J9_floorMod_7cf53 l D cy Z S sz (zI S h0 1) 100 _ hw) rfl gX0_add_J9_floorMod_7cf53 hdS_J9_floorMod_7cf53 rfl ⟨Nat.le_of_ble_eq_true rfl, Nat.le_of_ble_eq_true rfl⟩ (Nat.le_of_ble_eq_true rfl) ⟨Nat.zero_le _, Nat.zero_le _⟩ ⟨rfl, rfl⟩ rfl (fun v3 S2 hw => ?_)
  refine zg_bipush (q := 11) C0 dX0_add_9 zc_bipush_6 rfl ?_
  refine zg_imul (q := 12) C0 dX0_add_11 rfl ?_
  refine zg_ni (fun y4 ey4 => ?_)
  have hw := hw y4 ey4
  refine zg_istore (q := 14) (lv' := [(8, .int y4), (0, .ref h0), (1, .int p0), (2, .int p1), (3, .int p2), (4, .int p3), (5, .long p4), (7, .int p5)]) C0 dX0_add_12 (by decide) rfl rfl ?_
  refine zg_aload_n (q := 15) C0 1 dX0_add_14 rfl rfl ?_
  refine zg_get (q := 18) (T := TX0) (k := 0) C0 dX0_add_15 hz1 (zF_0 cy hz1) rfl (by decide) hX_X0_add_0 (zwm (i := 2) rfl) rfl rfl rfl ?_
  obtain ⟨b5, hb6, hw⟩ := hw
  refine zg_nn hb6 ?_
  refine zg_iload (q := 20) C0 0 dX0_add_18 rfl rfl ?_
  refine zg_iload_n (q := 21) C0 2 dX0_add_20 rfl rfl ?_
  refine zg_i2l (q := 22) C0 dX0_add_21 rfl ?_
  obtain ⟨hz7, hw⟩ := hw
  obtain ⟨hi8, hw⟩ := hw
  refine zg_last (q := 23) C0 dX0_add_22 hz7 hi8 rfl (fun S9 eS9 => ?_)
  have hw := hw S9 eS9
  refine zg_aload_n (q := 24) C0 1 dX0_add_23 rfl rfl ?_
  refine zg_get (q := 27) (T := TX0) (k := 0) C0 dX0_add_24 hz1 (zF_0 cy hz1) rfl (by decide) hX_X0_add_0 (zwm (i := 2) rfl) rfl rfl rfl ?_
  refine zg_nn hb6 ?_
  refine zg_iload (q := 29) C0 0 dX0_add_27 rfl rfl ?_
  refine zg_iconst (q := 30) C0 dX0_add_29 zc_iconst_1 rfl ?_
  refine zg_iadd (q := 31) C0 dX0_add_30 rfl ?_
  refine zg_iload_n (q := 32) C0 3 dX0_add_31 rfl rfl ?_
  refine zg_i2l (q := 33) C0 dX0_add_32 rfl ?_
  obtain ⟨hi10, hw⟩ := hw
  refine zg_last (q := 34) C0 dX0_add_33 hz7 hi10 rfl (fun S11 eS11 => ?_)
  have hw := hw S11 eS11
  refine zg_aload_n (q := 35) C0 1 dX0_add_34 rfl rfl ?_
  refine zg_get (q := 38) (T := TX0) (k := 0) C0 dX0_add_35 hz1 (zF_0 cy hz1) rfl (by decide) hX_X0_add_0 (zwm (i := 2) rfl) rfl rfl rfl ?_
  refine zg_nn hb6 ?_
  refine zg_iload (q := 40) C0 0 dX0_add_38 rfl rfl ?_
  refine zg_iconst (q := 41) C0 dX0_add_40 zc_iconst_2 rfl ?_
  refine zg_iadd (q := 42) C0 dX0_add_41 rfl ?_
  refine zg_iload_n (q := 43) C0 4 dX0_add_42 rfl rfl ?_
  refine zg_i2l (q := 44) C0 dX0_add_43 rfl ?_
  obtain ⟨hi12, hw⟩ := hw
  refine zg_last (q := 45) C0 dX0_add_44 hz7 hi12 rfl (fun S13 eS13 => ?_)
  have hw := hw S13 eS13
  refine zg_aload_n (q := 46) C0 1 dX0_add_45 rfl rfl ?_
  refine zg_get (q := 49) (T := TX0) (k := 0) C0 dX0_add_46 hz1 (zF_0 cy hz1) rfl (by decide) hX_X0_add_0 (zwm (i := 2) rfl) rfl rfl rfl ?_
  refine zg_nn hb6 ?_
  refine zg_iload (q := 51) C0 0 dX0_add_49 rfl rfl ?_
  refine zg_iconst (q := 52) C0 dX0_add_51 zc_iconst_3 rfl ?_
  refine zg_iadd (q := 53) C0 dX0_add_52 rfl ?_
  refine zg_iload (q := 55) C0 5 dX0_add_53 rfl rfl ?_
  refine zg_i2l (q := 56) C0 dX0_add_55 rfl ?_
  obtain ⟨hi14, hw⟩ := hw
  refine zg_last (q := 57) C0 dX0_add_56 hz7 hi14 rfl (fun S15 eS15 => ?_)
  have hw := hw S15 eS15
  refine zg_aload_n (q := 58) C0 1 dX0_add_57 rfl rfl ?_
  refine zg_get (q := 61) (T := TX0) (k := 0) C0 dX0_add_58 hz1 (zF_0 cy hz1) rfl (by decide) hX_X0_add_0 (zwm (i := 2) rfl) rfl rfl rfl ?_
  refine zg_nn hb6 ?_
  refine zg_iload (q := 63) C0 0 dX0_add_61 rfl rfl ?_
  refine zg_iconst (q := 64) C0 dX0_add_63 zc_iconst_4 rfl ?_
  refine zg_iadd (q := 65) C0 dX0_add_64 rfl ?_
  refine zg_lload (q := 67) C0 6 dX0_add_65 rfl rfl ?_
  obtain ⟨hi16, hw⟩ := hw
  refine zg_last (q := 68) C0 dX0_add_67 hz7 hi16 rfl (fun S17 eS17 => ?_)
  have hw := hw S17 eS17
  refine zg_aload_n (q := 69) C0 1 dX0_add_68 rfl rfl ?_
  refine zg_get (q := 72) (T := TX0) (k := 0) C0 dX0_add_69 hz1 (zF_0 cy hz1) rfl (by decide) hX_X0_add_0 (zwm (i := 2) rfl) rfl rfl rfl ?_
  refine zg_nn hb6 ?_
  refine zg_iload (q := 74) C0 0 dX0_add_72 rfl rfl ?_
  refine zg_iconst (q := 75) C0 dX0_add_74 zc_iconst_5 rfl ?_
  refine zg_iadd (q := 76) C0 dX0_add_75 rfl ?_
  refine zg_iload (q := 78) C0 7 dX0_add_76 rfl rfl ?_
  refine zg_i2l (q := 79) C0 dX0_add_78 rfl ?_
  obtain ⟨hi18, hw⟩ := hw
  refine zg_last (q := 80) C0 dX0_add_79 hz7 hi18 rfl (fun S19 eS19 => ?_)
  have hw := hw S19 eS19
  refine zg_aload_n (q := 81) C0 1 dX0_add_80 rfl rfl ?_
  refine zg_dup (q := 82) C0 dX0_add_81 rfl rfl ?_
  refine zg_get (q := 85) (T := TX0) (k := 1) C0 dX0_add_82 hz1 (zF_0 cy hz1) rfl (by decide) hX_X0_add_0 (zwm (i := 1) rfl) rfl rfl rfl ?_
  refine zg_iconst (q := 86) C0 dX0_add_85 zc_iconst_1 rfl ?_
  refine zg_iadd (q := 87) C0 dX0_add_86 rfl ?_
  refine zg_putI (q := 90) (T := TX0) (k := 1) (ty0 := tyX0) C0 dX0_add_87 hz1 (zF_0 cy hz1) rfl (by decide) hX_X0_add_0 tyX0_ok nmX0 (zwm (i := 1) rfl) rfl rfl rfl rfl (Nat.le_of_ble_eq_true rfl) (zF_0 cy hz1) (zP_0_1 Z S19 _ _) rfl (fun S20 eS20 => ?_)
  have hw := hw S20 eS20
  exact zg_vret C0 dX0_add_90 rfl (Nat.le_refl 0) (Nat.le_refl 0) hw
-- X0_size
abbrev rm_X0_size : Room := { frames := 1, cells := 0, slots := 0, locals := 24 }
theorem hX_X0_size_0 : ∀ w ∈ u_ws RX0 TX0 2, w ∈ wsX0_size := by decide +kernel
theorem hdV_X0_size : yX0_size.cls = RX0 ∧ yX0_size.cls ≠ "java/lang/invoke/MethodHandle" ∧ yX0_size.cls ≠ "java/lang/invoke/VarHandle" ∧ (parseMethodDescriptor yX0_size.desc).map (fun d => d.parameters.length) = some 0 := by decide +kernel
def w_X0_size (Z : zZ) (h0 : Nat) (S : zS) (Qp : Int32 → zS → Prop) : Prop :=
  zk Z h0 0 ∧ ∀ y2 : Int32, y2 = (if 100 < (zI S h0 1) then 100 else (zI S h0 1)) → Qp y2 S
set_option maxHeartbeats 4000000 in
set_option maxRecDepth 100000 in
theorem a_X0_size (l : Launch) (D : va_G) (cy : Nat → ClassId) (Z : zZ) (S : zS) (sz : Nat) (h0 : Nat) (Qp : Int32 → zS → Prop) (hw : w_X0_size Z h0 S Qp) : zMi l yX0_size wsX0_size rm_X0_size D cy Z S sz [.ref h0] Qp := by
  unfold w_X0_size at hw
  refine zMi_of (cc := cX0_size) (maxL := 1) (rt := (some .int)) (by decide +kernel) rfl (Nat.le_of_ble_eq_true rfl) ?_
  intro p e s m args below meth c A C0 _
  refine zg_lv (lv' := [(0, .ref h0)]) rfl ?_
  refine zg_aload_n (q := 1) C0 0 dX0_size_0 rfl rfl ?_
  obtain ⟨hz1, hw⟩ := hw
  refine zg_get (q := 4) (T := TX0) (k := 1) C0 dX0_size_1 hz1 (zF_0 cy hz1) rfl (by decide) hX_X0_size_0 (zwm (i := 1) rfl) rfl rfl rfl ?_
  refine zg_bipush (q := 6) C0 dX0_size_4 zc_bipush_100 rfl ?_
  refine zg_mmin (q := 9) C0 dX0_size_6 (zwm (i := 2) rfl) (zwm (i := 3) rfl) (zwm (i := 4) rfl) (zwm (i := 5) rfl) (Nat.le_of_ble_eq_true rfl) (Nat.le_of_ble_eq_true rfl) ⟨Nat.le_of_ble_eq_true rfl, Nat.le_of_ble_eq_true rfl⟩ rfl ?_
  refine zg_ni (fun y2 ey2 => ?_)
  have hw := hw y2 ey2
  exact zg_iret C0 dX0_size_9 rfl rfl (Nat.le_refl 0) (Nat.le_refl 0) hw
-- X0_cell
abbrev rm_X0_cell : Room := { frames := 2, cells := 0, slots := 0, locals := 44 }
theorem hX_X0_cell_0 : ∀ w ∈ u_ws RX0 TX0 2, w ∈ wsX0_cell := by decide +kernel
theorem hdV_X0_cell : yX0_cell.cls = RX0 ∧ yX0_cell.cls ≠ "java/lang/invoke/MethodHandle" ∧ yX0_cell.cls ≠ "java/lang/invoke/VarHandle" ∧ (parseMethodDescriptor yX0_cell.desc).map (fun d => d.parameters.length) = some 2 := by decide +kernel
def w_X0_cell (Z : zZ) (h0 : Nat) (p0 : Int32) (p1 : Int32) (S : zS) (Qp : Int64 → zS → Prop) : Prop :=
  zk Z h0 0 ∧ ∃ b2, zQ Z h0 0 = some b2 ∧ w_X0_size Z h0 S (fun (v5 : Int32) (S4 : zS) => w_J9_floorMod_7cf53 Z (((zI S h0 1) - v5) + p0) 100 S4 (fun (v7 : Int32) (S6 : zS) => zk Z b2 9 ∧ vp_in ((v7 * 6) + p1) (zN Z b2) ∧ Qp (zJ S6 b2 ((v7 * 6) + p1).toNatClampNeg) S6))
set_option maxHeartbeats 4000000 in
set_option maxRecDepth 100000 in
theorem a_X0_cell (l : Launch) (D : va_G) (cy : Nat → ClassId) (Z : zZ) (S : zS) (sz : Nat) (h0 : Nat) (p0 : Int32) (p1 : Int32) (Qp : Int64 → zS → Prop) (hw : w_X0_cell Z h0 p0 p1 S Qp) : zMl l yX0_cell wsX0_cell rm_X0_cell D cy Z S sz [.ref h0, .int p0, .int p1] Qp := by
  unfold w_X0_cell at hw
  refine zMl_of (cc := cX0_cell) (maxL := 3) (rt := (some .long)) (by decide +kernel) rfl (Nat.le_of_ble_eq_true rfl) ?_
  intro p e s m args below meth c A C0 _
  refine zg_lv (lv' := [(0, .ref h0), (1, .int p0), (2, .int p1)]) rfl ?_
  refine zg_aload_n (q := 1) C0 0 dX0_cell_0 rfl rfl ?_
  obtain ⟨hz1, hw⟩ := hw
  refine zg_get (q := 4) (T := TX0) (k := 0) C0 dX0_cell_1 hz1 (zF_0 cy hz1) rfl (by decide) hX_X0_cell_0 (zwm (i := 1) rfl) rfl rfl rfl ?_
  obtain ⟨b2, hb3, hw⟩ := hw
  refine zg_nn hb3 ?_
  refine zg_aload_n (q := 5) C0 0 dX0_cell_4 rfl rfl ?_
  refine zg_get (q := 8) (T := TX0) (k := 1) C0 dX0_cell_5 hz1 (zF_0 cy hz1) rfl (by decide) hX_X0_cell_0 (zwm (i := 2) rfl) rfl rfl rfl ?_
  refine zg_aload_n (q := 9) C0 0 dX0_cell_8 rfl rfl ?_
  refine zg_callVi (q := 12) C0 [] [.int (zI S h0 1), .ref b2] dX0_cell_9 (fun sz => a_X0_size l D cy Z S sz h0 _ hw) rfl gX0_cell_X0_size hdV_X0_size hz1 (zF_0 cy hz1) rfl rfl ⟨Nat.le_of_ble_eq_true rfl, Nat.le_of_ble_eq_true rfl⟩ (Nat.le_of_ble_eq_true rfl) ⟨Nat.zero_le _, Nat.zero_le _⟩ ⟨rfl, rfl⟩ rfl (fun v5 S4 hw => ?_)
  refine zg_isub (q := 13) C0 dX0_cell_12 rfl ?_
  refine zg_iload_n (q := 14) C0 1 dX0_cell_13 rfl rfl ?_
  refine zg_iadd (q := 15) C0 dX0_cell_14 rfl ?_
  refine zg_bipush (q := 17) C0 dX0_cell_15 zc_bipush_100 rfl ?_
  refine zg_callSi (q := 20) C0 [.int (((zI S h0 1) - v5) + p0), .int 100] [.ref b2] dX0_cell_17 (fun sz => a_J9_floorMod_7cf53 l D cy Z S4 sz (((zI S h0 1) - v5) + p0) 100 _ hw) rfl gX0_cell_J9_floorMod_7cf53 hdS_J9_floorMod_7cf53 rfl ⟨Nat.le_of_ble_eq_true rfl, Nat.le_of_ble_eq_true rfl⟩ (Nat.le_of_ble_eq_true rfl) ⟨Nat.zero_le _, Nat.zero_le _⟩ ⟨rfl, rfl⟩ rfl (fun v7 S6 hw => ?_)
  refine zg_bipush (q := 22) C0 dX0_cell_20 zc_bipush_6 rfl ?_
  refine zg_imul (q := 23) C0 dX0_cell_22 rfl ?_
  refine zg_iload_n (q := 24) C0 2 dX0_cell_23 rfl rfl ?_
  refine zg_iadd (q := 25) C0 dX0_cell_24 rfl ?_
  obtain ⟨hz8, hw⟩ := hw
  obtain ⟨hi9, hw⟩ := hw
  refine zg_lald (q := 26) C0 dX0_cell_25 hz8 hi9 rfl ?_
  exact zg_lret C0 dX0_cell_26 rfl (Nat.le_refl 0) (Nat.le_refl 0) hw
-- J6_bitCount_0f7a4
abbrev rm_J6_bitCount_0f7a4 : Room := { frames := 0, cells := 0, slots := 0, locals := 0 }
theorem hdS_J6_bitCount_0f7a4 : yJ6_bitCount_0f7a4.cls ≠ "java/lang/invoke/MethodHandle" ∧ yJ6_bitCount_0f7a4.cls ≠ "java/lang/invoke/VarHandle" ∧ (parseMethodDescriptor yJ6_bitCount_0f7a4.desc).map (fun d => d.parameters.length) = some 1 := by decide +kernel
def w_J6_bitCount_0f7a4 (Z : zZ) (p0 : Int32) (S : zS) (Qp : Int32 → zS → Prop) : Prop :=
  ∀ y1 : Int32, y1 = p0 - (((p0.toUInt32 >>> ((1 : Int32).toUInt32 &&& Int32.toUInt32 31)).toInt32) &&& 1431655765) → ∀ y2 : Int32, y2 = (y1 &&& 858993459) + (((y1.toUInt32 >>> ((2 : Int32).toUInt32 &&& Int32.toUInt32 31)).toInt32) &&& 858993459) → ∀ y3 : Int32, y3 = (y2 + ((y2.toUInt32 >>> ((4 : Int32).toUInt32 &&& Int32.toUInt32 31)).toInt32)) &&& 252645135 → ∀ y4 : Int32, y4 = y3 + ((y3.toUInt32 >>> ((8 : Int32).toUInt32 &&& Int32.toUInt32 31)).toInt32) → ∀ y5 : Int32, y5 = y4 + ((y4.toUInt32 >>> ((16 : Int32).toUInt32 &&& Int32.toUInt32 31)).toInt32) → Qp (y5 &&& 63) S
set_option maxHeartbeats 4000000 in
set_option maxRecDepth 100000 in
theorem a_J6_bitCount_0f7a4 (l : Launch) (D : va_G) (cy : Nat → ClassId) (Z : zZ) (S : zS) (sz : Nat) (p0 : Int32) (Qp : Int32 → zS → Prop) (hw : w_J6_bitCount_0f7a4 Z p0 S Qp) : zMi l yJ6_bitCount_0f7a4 wsJ6_bitCount_0f7a4 rm_J6_bitCount_0f7a4 D cy Z S sz [.int p0] Qp := by
  unfold w_J6_bitCount_0f7a4 at hw
  refine zMi_ofF (cc := cJ6_bitCount_0f7a4) (maxL := 1) (rt := (some .int)) (by decide +kernel) rfl (Nat.le_of_ble_eq_true rfl) ?_
  intro p e s m args below meth c A C0 _
  refine zg_lv (lv' := [(0, .int p0)]) rfl ?_
  refine zg_iload_n (q := 1) C0 0 dJ6_bitCount_0f7a4_0 rfl rfl ?_
  refine zg_iload_n (q := 2) C0 0 dJ6_bitCount_0f7a4_1 rfl rfl ?_
  refine zg_iconst (q := 3) C0 dJ6_bitCount_0f7a4_2 zc_iconst_1 rfl ?_
  refine zg_iushr (q := 4) C0 dJ6_bitCount_0f7a4_3 rfl ?_
  refine zg_ldcw (q := 7) (v := 1431655765) C0 dJ6_bitCount_0f7a4_4 (zwm (i := 1) rfl) rfl ?_
  refine zg_iand (q := 8) C0 dJ6_bitCount_0f7a4_7 rfl ?_
  refine zg_isub (q := 9) C0 dJ6_bitCount_0f7a4_8 rfl ?_
  refine zg_ni (fun y1 ey1 => ?_)
  have hw := hw y1 ey1
  refine zg_istore_n (q := 10) (lv' := [(0, .int y1)]) C0 dJ6_bitCount_0f7a4_9 (by decide) rfl rfl ?_
  refine zg_iload_n (q := 11) C0 0 dJ6_bitCount_0f7a4_10 rfl rfl ?_
  refine zg_ldcw (q := 14) (v := 858993459) C0 dJ6_bitCount_0f7a4_11 (zwm (i := 2) rfl) rfl ?_
  refine zg_iand (q := 15) C0 dJ6_bitCount_0f7a4_14 rfl ?_
  refine zg_iload_n (q := 16) C0 0 dJ6_bitCount_0f7a4_15 rfl rfl ?_
  refine zg_iconst (q := 17) C0 dJ6_bitCount_0f7a4_16 zc_iconst_2 rfl ?_
  refine zg_iushr (q := 18) C0 dJ6_bitCount_0f7a4_17 rfl ?_
  refine zg_ldcw (q := 21) (v := 858993459) C0 dJ6_bitCount_0f7a4_18 (zwm (i := 2) rfl) rfl ?_
  refine zg_iand (q := 22) C0 dJ6_bitCount_0f7a4_21 rfl ?_
  refine zg_iadd (q := 23) C0 dJ6_bitCount_0f7a4_22 rfl ?_
  refine zg_ni (fun y2 ey2 => ?_)
  have hw := hw y2 ey2
  refine zg_istore_n (q := 24) (lv' := [(0, .int y2)]) C0 dJ6_bitCount_0f7a4_23 (by decide) rfl rfl ?_
  refine zg_iload_n (q := 25) C0 0 dJ6_bitCount_0f7a4_24 rfl rfl ?_
  refine zg_iload_n (q := 26) C0 0 dJ6_bitCount_0f7a4_25 rfl rfl ?_
  refine zg_iconst (q := 27) C0 dJ6_bitCount_0f7a4_26 zc_iconst_4 rfl ?_
  refine zg_iushr (q := 28) C0 dJ6_bitCount_0f7a4_27 rfl ?_
  refine zg_iadd (q := 29) C0 dJ6_bitCount_0f7a4_28 rfl ?_
  refine zg_ldcw (q := 32) (v := 252645135) C0 dJ6_bitCount_0f7a4_29 (zwm (i := 3) rfl) rfl ?_
  refine zg_iand (q := 33) C0 dJ6_bitCount_0f7a4_32 rfl ?_
  refine zg_ni (fun y3 ey3 => ?_)
  have hw := hw y3 ey3
  refine zg_istore_n (q := 34) (lv' := [(0, .int y3)]) C0 dJ6_bitCount_0f7a4_33 (by decide) rfl rfl ?_
  refine zg_iload_n (q := 35) C0 0 dJ6_bitCount_0f7a4_34 rfl rfl ?_
  refine zg_iload_n (q := 36) C0 0 dJ6_bitCount_0f7a4_35 rfl rfl ?_
  refine zg_bipush (q := 38) C0 dJ6_bitCount_0f7a4_36 zc_bipush_8 rfl ?_
  refine zg_iushr (q := 39) C0 dJ6_bitCount_0f7a4_38 rfl ?_
  refine zg_iadd (q := 40) C0 dJ6_bitCount_0f7a4_39 rfl ?_
  refine zg_ni (fun y4 ey4 => ?_)
  have hw := hw y4 ey4
  refine zg_istore_n (q := 41) (lv' := [(0, .int y4)]) C0 dJ6_bitCount_0f7a4_40 (by decide) rfl rfl ?_
  refine zg_iload_n (q := 42) C0 0 dJ6_bitCount_0f7a4_41 rfl rfl ?_
  refine zg_iload_n (q := 43) C0 0 dJ6_bitCount_0f7a4_42 rfl rfl ?_
  refine zg_bipush (q := 45) C0 dJ6_bitCount_0f7a4_43 zc_bipush_16 rfl ?_
  refine zg_iushr (q := 46) C0 dJ6_bitCount_0f7a4_45 rfl ?_
  refine zg_iadd (q := 47) C0 dJ6_bitCount_0f7a4_46 rfl ?_
  refine zg_ni (fun y5 ey5 => ?_)
  have hw := hw y5 ey5
  refine zg_istore_n (q := 48) (lv' := [(0, .int y5)]) C0 dJ6_bitCount_0f7a4_47 (by decide) rfl rfl ?_
  refine zg_iload_n (q := 49) C0 0 dJ6_bitCount_0f7a4_48 rfl rfl ?_
  refine zg_bipush (q := 51) C0 dJ6_bitCount_0f7a4_49 zc_bipush_63 rfl ?_
  refine zg_iand (q := 52) C0 dJ6_bitCount_0f7a4_51 rfl ?_
  exact zg_iret C0 dJ6_bitCount_0f7a4_52 rfl rfl (Nat.le_refl 0) (Nat.le_refl 0) hw
-- X6_isIn
abbrev rm_X6_isIn : Room := { frames := 0, cells := 0, slots := 0, locals := 0 }
theorem hdS_X6_isIn : yX6_isIn.cls ≠ "java/lang/invoke/MethodHandle" ∧ yX6_isIn.cls ≠ "java/lang/invoke/VarHandle" ∧ (parseMethodDescriptor yX6_isIn.desc).map (fun d => d.parameters.length) = some 2 := by decide +kernel
def w_X6_isIn (Z : zZ) (p0 : Int32) (p1 : Int32) (S : zS) (Qp : Int32 → zS → Prop) : Prop :=
  (((p1 &&& (1 <<< (p0 &&& 31))) = 0 → Qp 0 S) ∧ (¬ (p1 &&& (1 <<< (p0 &&& 31))) = 0 → Qp 1 S))
set_option maxHeartbeats 4000000 in
set_option maxRecDepth 100000 in
theorem a_X6_isIn (l : Launch) (D : va_G) (cy : Nat → ClassId) (Z : zZ) (S : zS) (sz : Nat) (p0 : Int32) (p1 : Int32) (Qp : Int32 → zS → Prop) (hw : w_X6_isIn Z p0 p1 S Qp) : zMi l yX6_isIn wsX6_isIn rm_X6_isIn D cy Z S sz [.int p0, .int p1] Qp := by
  unfold w_X6_isIn at hw
  refine zMi_of (cc := cX6_isIn) (maxL := 2) (rt := (some .boolean)) (by decide +kernel) rfl (Nat.le_of_ble_eq_true rfl) ?_
  intro p e s m args below meth c A C0 _
  refine zg_lv (lv' := [(0, .int p0), (1, .int p1)]) rfl ?_
  refine zg_iload_n (q := 1) C0 1 dX6_isIn_0 rfl rfl ?_
  refine zg_iconst (q := 2) C0 dX6_isIn_1 zc_iconst_1 rfl ?_
  refine zg_iload_n (q := 3) C0 0 dX6_isIn_2 rfl rfl ?_
  refine zg_ishl (q := 4) C0 dX6_isIn_3 rfl ?_
  refine zg_iand (q := 5) C0 dX6_isIn_4 rfl ?_
  refine zg_if_eq (q := 8) (tgt := 12) C0 dX6_isIn_5 rfl rfl (fun c1 => ?_) (fun c1 => ?_)
  · have hw := hw.1 c1
    refine zg_iconst (q := 13) C0 dX6_isIn_12 zc_iconst_0 rfl ?_
    exact zg_iret C0 dX6_isIn_13 rfl (by decide) (Nat.le_refl 0) (Nat.le_refl 0) hw
  · have hw := hw.2 c1
    refine zg_iconst (q := 9) C0 dX6_isIn_8 zc_iconst_1 rfl ?_
    refine zg_goto (tgt := 13) C0 dX6_isIn_9 rfl ?_
    exact zg_iret C0 dX6_isIn_13 rfl (by decide) (Nat.le_refl 0) (Nat.le_refl 0) hw
-- X6_leastOf
abbrev rm_X6_leastOf : Room := { frames := 1, cells := 0, slots := 0, locals := 21 }
theorem hdS_X6_leastOf : yX6_leastOf.cls ≠ "java/lang/invoke/MethodHandle" ∧ yX6_leastOf.cls ≠ "java/lang/invoke/VarHandle" ∧ (parseMethodDescriptor yX6_leastOf.desc).map (fun d => d.parameters.length) = some 1 := by decide +kernel
def wb_X6_leastOf_2 (Z : zZ) (x0 : Int32) (Qp : Int32 → zS → Prop) (K : zS → Prop) (rec : Int32 → zS → Prop) (x1 : Int32) (S : zS) : Prop :=
  ((8 ≤ x1 → K S) ∧ (¬ 8 ≤ x1 → w_X6_isIn Z x1 x0 S (fun (v2 : Int32) (S1 : zS) => ((v2 = 0 → ∀ y3 : Int32, y3 = x1 + 1 → rec y3 S1) ∧ (¬ v2 = 0 → Qp x1 S1)))))
def wL_X6_leastOf_2 (Z : zZ) (x0 : Int32) (Qp : Int32 → zS → Prop) (K : zS → Prop) (x1 : Int32) (S : zS) : Prop := ∃ n, zit2 (wb_X6_leastOf_2 Z x0 Qp K) n x1 S
set_option maxHeartbeats 4000000 in
set_option maxRecDepth 100000 in
theorem ab_X6_leastOf_2 {p : Program} {l : Launch} {e : Env} {s : State} {m : MethodId} {args : Array Value} {below : List Frame} {meth : Method} {c : Code} {D : va_G} {cy : Nat → ClassId} {A : Nat → Prop} {Z : zZ} (C0 : zC p s m args meth c cX6_leastOf 2 wsX6_leastOf RX6 D cy A (some .int)) {x0 : Int32} {Qp : Int32 → zS → Prop} {K : zS → Prop} (hK : ∀  S, K  S → zG p l e rm_X6_leastOf s m args below meth c D cy A 2 0 0 (zQi below D cy A Z Qp args s 0 0) Z S 24 [] []) {rec : Int32 → zS → Prop} (hrec : ∀ x1 S, rec x1 S → zG p l e rm_X6_leastOf s m args below meth c D cy A 2 0 0 (zQi below D cy A Z Qp args s 0 0) Z S 2 [(0, .int x0), (1, .int x1)] []) {x1 : Int32} {S : zS} (hw : wb_X6_leastOf_2 Z x0 Qp K rec x1 S) : zG p l e rm_X6_leastOf s m args below meth c D cy A 2 0 0 (zQi below D cy A Z Qp args s 0 0) Z S 2 [(0, .int x0), (1, .int x1)] [] := by
  unfold wb_X6_leastOf_2 at hw
  refine zg_iload_n (q := 3) C0 1 dX6_leastOf_2 rfl rfl ?_
  refine zg_bipush (q := 5) C0 dX6_leastOf_3 zc_bipush_8 rfl ?_
  refine zg_icmp_ge (q := 8) (tgt := 24) C0 dX6_leastOf_5 rfl rfl (fun c5 => ?_) (fun c5 => ?_)
  · have hw := hw.1 c5
    refine zg_sub [] rfl ?_
    exact hK  _ hw
  · have hw := hw.2 c5
    refine zg_iload_n (q := 9) C0 1 dX6_leastOf_8 rfl rfl ?_
    refine zg_iload_n (q := 10) C0 0 dX6_leastOf_9 rfl rfl ?_
    refine zg_callSi (q := 13) C0 [.int x1, .int x0] [] dX6_leastOf_10 (fun sz => a_X6_isIn l D cy Z S sz x1 x0 _ hw) rfl gX6_leastOf_X6_isIn hdS_X6_isIn rfl ⟨Nat.le_of_ble_eq_true rfl, Nat.le_of_ble_eq_true rfl⟩ (Nat.le_of_ble_eq_true rfl) ⟨Nat.zero_le _, Nat.zero_le _⟩ ⟨rfl, rfl⟩ rfl (fun v2 S1 hw => ?_)
    refine zg_if_eq (q := 16) (tgt := 18) C0 dX6_leastOf_13 rfl rfl (fun c4 => ?_) (fun c4 => ?_)
    · have hw := hw.1 c4
      refine zg_iinc (q := 21) C0 1 dX6_leastOf_18 rfl (by decide) zc_iconst_1 rfl (fun y3 ey3 => ?_)
      have hw := hw y3 ey3
      refine zg_lv (lv' := [(1, .int y3), (0, .int x0)]) rfl ?_
      refine zg_goto (tgt := 2) C0 dX6_leastOf_21 rfl ?_
      refine zg_sub [1, 0] rfl ?_
      exact hrec _ _ hw
    · have hw := hw.2 c4
      refine zg_iload_n (q := 17) C0 1 dX6_leastOf_16 rfl rfl ?_
      exact zg_iret C0 dX6_leastOf_17 rfl rfl (Nat.le_refl 0) (Nat.le_refl 0) hw
theorem aL_X6_leastOf_2 {p : Program} {l : Launch} {e : Env} {s : State} {m : MethodId} {args : Array Value} {below : List Frame} {meth : Method} {c : Code} {D : va_G} {cy : Nat → ClassId} {A : Nat → Prop} {Z : zZ} (C0 : zC p s m args meth c cX6_leastOf 2 wsX6_leastOf RX6 D cy A (some .int)) {x0 : Int32} {Qp : Int32 → zS → Prop} {K : zS → Prop} (hK : ∀  S, K  S → zG p l e rm_X6_leastOf s m args below meth c D cy A 2 0 0 (zQi below D cy A Z Qp args s 0 0) Z S 24 [] []) : ∀ x1 S, wL_X6_leastOf_2 Z x0 Qp K x1 S → zG p l e rm_X6_leastOf s m args below meth c D cy A 2 0 0 (zQi below D cy A Z Qp args s 0 0) Z S 2 [(0, .int x0), (1, .int x1)] [] := by
  intro x1 S hw
  obtain ⟨n, hw⟩ := hw
  induction n generalizing x1 S with
  | zero => exact hw.elim
  | succ n ih => exact ab_X6_leastOf_2 C0 hK (fun x1 S hw => ih x1 S hw) hw
def w_X6_leastOf (Z : zZ) (p0 : Int32) (S : zS) (Qp : Int32 → zS → Prop) : Prop :=
  wL_X6_leastOf_2 Z p0 Qp (fun  (S6 : zS) => Qp (-1) S6) 0 S
set_option maxHeartbeats 4000000 in
set_option maxRecDepth 100000 in
theorem a_X6_leastOf (l : Launch) (D : va_G) (cy : Nat → ClassId) (Z : zZ) (S : zS) (sz : Nat) (p0 : Int32) (Qp : Int32 → zS → Prop) (hw : w_X6_leastOf Z p0 S Qp) : zMi l yX6_leastOf wsX6_leastOf rm_X6_leastOf D cy Z S sz [.int p0] Qp := by
  unfold w_X6_leastOf at hw
  refine zMi_of (cc := cX6_leastOf) (maxL := 2) (rt := (some .int)) (by decide +kernel) rfl (Nat.le_of_ble_eq_true rfl) ?_
  intro p e s m args below meth c A C0 _
  refine zg_lv (lv' := [(0, .int p0)]) rfl ?_
  refine zg_iconst (q := 1) C0 dX6_leastOf_0 zc_iconst_0 rfl ?_
  refine zg_istore_n (q := 2) (lv' := [(1, .int 0), (0, .int p0)]) C0 dX6_leastOf_1 (by decide) rfl rfl ?_
  refine zg_sub [1, 0] rfl ?_
  refine aL_X6_leastOf_2 C0 (fun  S6 hw => ?_) _ _ hw
  refine zg_iconst (q := 25) C0 dX6_leastOf_24 zc_iconst_m1 rfl ?_
  exact zg_iret C0 dX6_leastOf_25 rfl rfl (Nat.le_refl 0) (Nat.le_refl 0) hw
