-- X6_reaches
abbrev rm_X6_reaches : Room := { frames := 0, cells := 0, slots := 0, locals := 0 }
theorem hX_X6_reaches_2 : ∀ w ∈ u_ws RX2 TX2 13, w ∈ wsX6_reaches := by decide +kernel
theorem hdS_X6_reaches : yX6_reaches.cls ≠ "java/lang/invoke/MethodHandle" ∧ yX6_reaches.cls ≠ "java/lang/invoke/VarHandle" ∧ (parseMethodDescriptor yX6_reaches.desc).map (fun d => d.parameters.length) = some 2 := by decide +kernel
def w_X6_reaches (Z : zZ) (p0 : Nat) (p1 : Nat) (S : zS) (Qp : Int32 → zS → Prop) : Prop :=
  zk Z p1 2 ∧ (((zI S p1 5) = 0 → Qp 0 S) ∧ (¬ (zI S p1 5) = 0 → zk Z p0 2 ∧ ((¬ (zI S p1 6) = (zI S p0 6) → Qp 0 S) ∧ ((zI S p1 6) = (zI S p0 6) → ∃ b3, zR S p1 7 = some b3 ∧ ∃ b5, zR S p0 7 = some b5 ∧ ((¬ some b3 = some b5 → Qp 0 S) ∧ (some b3 = some b5 → Qp 1 S))))))
set_option maxHeartbeats 4000000 in
set_option maxRecDepth 100000 in
theorem a_X6_reaches (l : Launch) (D : va_G) (cy : Nat → ClassId) (Z : zZ) (S : zS) (sz : Nat) (p0 : Nat) (p1 : Nat) (Qp : Int32 → zS → Prop) (hw : w_X6_reaches Z p0 p1 S Qp) : zMi l yX6_reaches wsX6_reaches rm_X6_reaches D cy Z S sz [.ref p0, .ref p1] Qp := by
  unfold w_X6_reaches at hw
  refine zMi_of (cc := cX6_reaches) (maxL := 2) (rt := (some .boolean)) (by decide +kernel) rfl (Nat.le_of_ble_eq_true rfl) ?_
  intro p e s m args below meth c A C0 _
  refine zg_lv (lv' := [(0, .ref p0), (1, .ref p1)]) rfl ?_
  refine zg_aload_n (q := 1) C0 1 dX6_reaches_0 rfl rfl ?_
  obtain ⟨hz1, hw⟩ := hw
  refine zg_get (q := 4) (T := TX2) (k := 5) C0 dX6_reaches_1 hz1 (zF_2 cy hz1) rfl (by decide) hX_X6_reaches_2 (zwm (i := 1) rfl) rfl rfl rfl ?_
  refine zg_if_eq (q := 7) (tgt := 33) C0 dX6_reaches_4 rfl rfl (fun c9 => ?_) (fun c9 => ?_)
  · have hw := hw.1 c9
    refine zg_iconst (q := 34) C0 dX6_reaches_33 zc_iconst_0 rfl ?_
    exact zg_iret C0 dX6_reaches_34 rfl (by decide) (Nat.le_refl 0) (Nat.le_refl 0) hw
  · have hw := hw.2 c9
    refine zg_aload_n (q := 8) C0 1 dX6_reaches_7 rfl rfl ?_
    refine zg_get (q := 11) (T := TX2) (k := 6) C0 dX6_reaches_8 hz1 (zF_2 cy hz1) rfl (by decide) hX_X6_reaches_2 (zwm (i := 2) rfl) rfl rfl rfl ?_
    refine zg_aload_n (q := 12) C0 0 dX6_reaches_11 rfl rfl ?_
    obtain ⟨hz2, hw⟩ := hw
    refine zg_get (q := 15) (T := TX2) (k := 6) C0 dX6_reaches_12 hz2 (zF_2 cy hz2) rfl (by decide) hX_X6_reaches_2 (zwm (i := 2) rfl) rfl rfl rfl ?_
    refine zg_icmp_ne (q := 18) (tgt := 33) C0 dX6_reaches_15 rfl rfl (fun c8 => ?_) (fun c8 => ?_)
    · have hw := hw.1 c8
      refine zg_iconst (q := 34) C0 dX6_reaches_33 zc_iconst_0 rfl ?_
      exact zg_iret C0 dX6_reaches_34 rfl (by decide) (Nat.le_refl 0) (Nat.le_refl 0) hw
    · have hw := hw.2 c8
      refine zg_aload_n (q := 19) C0 1 dX6_reaches_18 rfl rfl ?_
      refine zg_get (q := 22) (T := TX2) (k := 7) C0 dX6_reaches_19 hz1 (zF_2 cy hz1) rfl (by decide) hX_X6_reaches_2 (zwm (i := 3) rfl) rfl rfl rfl ?_
      obtain ⟨b3, hb4, hw⟩ := hw
      refine zg_nn hb4 ?_
      refine zg_aload_n (q := 23) C0 0 dX6_reaches_22 rfl rfl ?_
      refine zg_get (q := 26) (T := TX2) (k := 7) C0 dX6_reaches_23 hz2 (zF_2 cy hz2) rfl (by decide) hX_X6_reaches_2 (zwm (i := 3) rfl) rfl rfl rfl ?_
      obtain ⟨b5, hb6, hw⟩ := hw
      refine zg_nn hb6 ?_
      refine zg_acmp_ne (a := some b3) (b := some b5) (q := 29) (tgt := 33) C0 dX6_reaches_26 rfl rfl rfl rfl (fun c7 => ?_) (fun c7 => ?_)
      · have hw := hw.1 c7
        refine zg_iconst (q := 34) C0 dX6_reaches_33 zc_iconst_0 rfl ?_
        exact zg_iret C0 dX6_reaches_34 rfl (by decide) (Nat.le_refl 0) (Nat.le_refl 0) hw
      · have hw := hw.2 c7
        refine zg_iconst (q := 30) C0 dX6_reaches_29 zc_iconst_1 rfl ?_
        refine zg_goto (tgt := 34) C0 dX6_reaches_30 rfl ?_
        exact zg_iret C0 dX6_reaches_34 rfl (by decide) (Nat.le_refl 0) (Nat.le_refl 0) hw
-- X6_handOn
abbrev rm_X6_handOn : Room := { frames := 2, cells := 0, slots := 0, locals := 44 }
theorem hX_X6_handOn_2 : ∀ w ∈ u_ws RX2 TX2 13, w ∈ wsX6_handOn := by decide +kernel
theorem hX_X6_handOn_5 : ∀ w ∈ u_ws RX5 TX5 6, w ∈ wsX6_handOn := by decide +kernel
theorem hX_X6_handOn_6 : ∀ w ∈ u_ws RX6 TX6 4, w ∈ wsX6_handOn := by decide +kernel
theorem hdV_X6_handOn : yX6_handOn.cls = RX6 ∧ yX6_handOn.cls ≠ "java/lang/invoke/MethodHandle" ∧ yX6_handOn.cls ≠ "java/lang/invoke/VarHandle" ∧ (parseMethodDescriptor yX6_handOn.desc).map (fun d => d.parameters.length) = some 1 := by decide +kernel
def w_X6_handOn (Z : zZ) (h0 : Nat) (p0 : Nat) (S : zS) (Qp : zS → Prop) : Prop :=
  zk Z p0 2 ∧ ∃ b2, zR S p0 7 = some b2 ∧ zk Z h0 6 ∧ ∃ b5, zQ Z h0 1 = some b5 ∧ zk Z b2 5 ∧ w_X5_memberBehind Z b2 (zI S p0 0) S (fun (v9 : Int32) (S8 : zS) => zk Z b5 12 ∧ vp_in v9 (zN Z b5) ∧ ∃ b12, zQ Z b5 v9.toNatClampNeg = some b12 ∧ w_X6_reaches Z p0 b12 S8 (fun (v15 : Int32) (S14 : zS) => ((v15 = 0 → ∀ S16 : zS, S16 = zsI S14 b2 4 (-1) → Qp S16) ∧ (¬ v15 = 0 → zk Z b12 2 ∧ ∀ S18 : zS, S18 = zsI S14 b2 4 (zI S14 b12 0) → Qp S18))))
set_option maxHeartbeats 4000000 in
set_option maxRecDepth 100000 in
theorem a_X6_handOn (l : Launch) (D : va_G) (cy : Nat → ClassId) (Z : zZ) (S : zS) (sz : Nat) (h0 : Nat) (p0 : Nat) (Qp : zS → Prop) (hw : w_X6_handOn Z h0 p0 S Qp) : zMv l yX6_handOn wsX6_handOn rm_X6_handOn D cy Z S sz [.ref h0, .ref p0] Qp := by
  unfold w_X6_handOn at hw
  refine zMv_of (cc := cX6_handOn) (maxL := 4) (rt := none) (by decide +kernel) rfl (Nat.le_of_ble_eq_true rfl) ?_
  intro p e s m args below meth c A C0 _
  refine zg_lv (lv' := [(0, .ref h0), (1, .ref p0)]) rfl ?_
  refine zg_aload_n (q := 1) C0 1 dX6_handOn_0 rfl rfl ?_
  obtain ⟨hz1, hw⟩ := hw
  refine zg_get (q := 4) (T := TX2) (k := 7) C0 dX6_handOn_1 hz1 (zF_2 cy hz1) rfl (by decide) hX_X6_handOn_2 (zwm (i := 1) rfl) rfl rfl rfl ?_
  obtain ⟨b2, hb3, hw⟩ := hw
  refine zg_nn hb3 ?_
  refine zg_astore_n (q := 5) (lv' := [(2, .ref b2), (0, .ref h0), (1, .ref p0)]) C0 dX6_handOn_4 (by decide) rfl rfl ?_
  refine zg_aload_n (q := 6) C0 1 dX6_handOn_5 rfl rfl ?_
  obtain ⟨hz4, hw⟩ := hw
  refine zg_get (q := 9) (T := TX6) (k := 1) C0 dX6_handOn_6 hz4 (zF_6 cy hz4) rfl (by decide) hX_X6_handOn_6 (zwm (i := 2) rfl) rfl rfl rfl ?_
  obtain ⟨b5, hb6, hw⟩ := hw
  refine zg_nn hb6 ?_
  refine zg_aload_n (q := 10) C0 0 dX6_handOn_9 rfl rfl ?_
  refine zg_aload_n (q := 11) C0 2 dX6_handOn_10 rfl rfl ?_
  refine zg_get (q := 14) (T := TX2) (k := 0) C0 dX6_handOn_11 hz1 (zF_2 cy hz1) rfl (by decide) hX_X6_handOn_2 (zwm (i := 3) rfl) rfl rfl rfl ?_
  obtain ⟨hz7, hw⟩ := hw
  refine zg_callVi (q := 17) C0 [.int (zI S p0 0)] [.ref b5] dX6_handOn_14 (fun sz => a_X5_memberBehind l D cy Z S sz b2 (zI S p0 0) _ hw) rfl gX6_handOn_X5_memberBehind hdV_X5_memberBehind hz7 (zF_5 cy hz7) rfl rfl ⟨Nat.le_of_ble_eq_true rfl, Nat.le_of_ble_eq_true rfl⟩ (Nat.le_of_ble_eq_true rfl) ⟨Nat.zero_le _, Nat.zero_le _⟩ ⟨rfl, rfl⟩ rfl (fun v9 S8 hw => ?_)
  obtain ⟨hz10, hw⟩ := hw
  obtain ⟨hi11, hw⟩ := hw
  refine zg_aald_12 (q := 18) C0 dX6_handOn_17 hz10 hi11 rfl ?_
  obtain ⟨b12, hb13, hw⟩ := hw
  refine zg_nn hb13 ?_
  refine zg_astore_n (q := 19) (lv' := [(3, .ref b12), (2, .ref b2), (0, .ref h0), (1, .ref p0)]) C0 dX6_handOn_18 (by decide) rfl rfl ?_
  refine zg_aload_n (q := 20) C0 1 dX6_handOn_19 rfl rfl ?_
  refine zg_aload_n (q := 21) C0 3 dX6_handOn_20 rfl rfl ?_
  refine zg_aload_n (q := 22) C0 0 dX6_handOn_21 rfl rfl ?_
  refine zg_callSi (q := 25) C0 [.ref p0, .ref b12] [.ref b2] dX6_handOn_22 (fun sz => a_X6_reaches l D cy Z S8 sz p0 b12 _ hw) rfl gX6_handOn_X6_reaches hdS_X6_reaches rfl ⟨Nat.le_of_ble_eq_true rfl, Nat.le_of_ble_eq_true rfl⟩ (Nat.le_of_ble_eq_true rfl) ⟨Nat.zero_le _, Nat.zero_le _⟩ ⟨rfl, rfl⟩ rfl (fun v15 S14 hw => ?_)
  refine zg_if_eq (q := 28) (tgt := 35) C0 dX6_handOn_25 rfl rfl (fun c19 => ?_) (fun c19 => ?_)
  · have hw := hw.1 c19
    refine zg_iconst (q := 36) C0 dX6_handOn_35 zc_iconst_m1 rfl ?_
    refine zg_putI (q := 39) (T := TX5) (k := 4) (ty0 := tyX5) C0 dX6_handOn_36 hz7 (zF_5 cy hz7) rfl (by decide) hX_X6_handOn_5 tyX5_ok nmX5 (zwm (i := 4) rfl) rfl rfl rfl rfl (Nat.le_of_ble_eq_true rfl) (zF_5 cy hz7) (zP_5_4 Z S14 _ _) rfl (fun S16 eS16 => ?_)
    have hw := hw S16 eS16
    exact zg_vret C0 dX6_handOn_39 rfl (Nat.le_refl 0) (Nat.le_refl 0) hw
  · have hw := hw.2 c19
    refine zg_aload_n (q := 29) C0 0 dX6_handOn_28 rfl rfl ?_
    obtain ⟨hz17, hw⟩ := hw
    refine zg_get (q := 32) (T := TX2) (k := 0) C0 dX6_handOn_29 hz17 (zF_2 cy hz17) rfl (by decide) hX_X6_handOn_2 (zwm (i := 3) rfl) rfl rfl rfl ?_
    refine zg_goto (tgt := 36) C0 dX6_handOn_32 rfl ?_
    refine zg_putI (q := 39) (T := TX5) (k := 4) (ty0 := tyX5) C0 dX6_handOn_36 hz7 (zF_5 cy hz7) rfl (by decide) hX_X6_handOn_5 tyX5_ok nmX5 (zwm (i := 4) rfl) rfl rfl rfl rfl (Nat.le_of_ble_eq_true rfl) (zF_5 cy hz7) (zP_5_4 Z S14 _ _) rfl (fun S18 eS18 => ?_)
    have hw := hw S18 eS18
    exact zg_vret C0 dX6_handOn_39 rfl (Nat.le_refl 0) (Nat.le_refl 0) hw
-- X6_receiversOf
abbrev rm_X6_receiversOf : Room := { frames := 1, cells := 0, slots := 0, locals := 21 }
theorem hX_X6_receiversOf_2 : ∀ w ∈ u_ws RX2 TX2 13, w ∈ wsX6_receiversOf := by decide +kernel
theorem hX_X6_receiversOf_6 : ∀ w ∈ u_ws RX6 TX6 4, w ∈ wsX6_receiversOf := by decide +kernel
theorem hdV_X6_receiversOf : yX6_receiversOf.cls = RX6 ∧ yX6_receiversOf.cls ≠ "java/lang/invoke/MethodHandle" ∧ yX6_receiversOf.cls ≠ "java/lang/invoke/VarHandle" ∧ (parseMethodDescriptor yX6_receiversOf.desc).map (fun d => d.parameters.length) = some 1 := by decide +kernel
def wb_X6_receiversOf_14 (Z : zZ) (x1 : Nat) (x3 : Nat) (x4 : Int32) (Qp : Int32 → zS → Prop) (K : Int32 → zS → Prop) (rec : Int32 → Int32 → zS → Prop) (x2 : Int32) (x5 : Int32) (S : zS) : Prop :=
  ((x4 ≤ x5 → K x2 S) ∧ (¬ x4 ≤ x5 → zk Z x3 12 ∧ vp_in x5 (zN Z x3) ∧ ∃ b8, zQ Z x3 x5.toNatClampNeg = some b8 ∧ ((some b8 = some x1 → ∀ y10 : Int32, y10 = x5 + 1 → rec x2 y10 S) ∧ (¬ some b8 = some x1 → w_X6_reaches Z x1 b8 S (fun (v12 : Int32) (S11 : zS) => ((v12 = 0 → ∀ y13 : Int32, y13 = x5 + 1 → rec x2 y13 S11) ∧ (¬ v12 = 0 → zk Z b8 2 ∧ ∀ y15 : Int32, y15 = x2 ||| (1 <<< ((zI S11 b8 0) &&& 31)) → ∀ y16 : Int32, y16 = x5 + 1 → rec y15 y16 S11)))))))
def wL_X6_receiversOf_14 (Z : zZ) (x1 : Nat) (x3 : Nat) (x4 : Int32) (Qp : Int32 → zS → Prop) (K : Int32 → zS → Prop) (x2 : Int32) (x5 : Int32) (S : zS) : Prop := ∃ n, zit3 (wb_X6_receiversOf_14 Z x1 x3 x4 Qp K) n x2 x5 S
set_option maxHeartbeats 4000000 in
set_option maxRecDepth 100000 in
theorem ab_X6_receiversOf_14 {p : Program} {l : Launch} {e : Env} {s : State} {m : MethodId} {args : Array Value} {below : List Frame} {meth : Method} {c : Code} {D : va_G} {cy : Nat → ClassId} {A : Nat → Prop} {Q : State → Prop} {Z : zZ} (C0 : zC p s m args meth c cX6_receiversOf 7 wsX6_receiversOf RX6 D cy A (some .int)) {x1 : Nat} {x3 : Nat} {x4 : Int32} {Qp : Int32 → zS → Prop} {K : Int32 → zS → Prop} (hK : ∀ x2 S, K x2 S → zG p l e rm_X6_receiversOf s m args below meth c D cy A 7 0 0 Q Z S 58 [(2, .int x2)] []) {rec : Int32 → Int32 → zS → Prop} (hrec : ∀ x2 x5 S, rec x2 x5 S → zG p l e rm_X6_receiversOf s m args below meth c D cy A 7 0 0 Q Z S 14 [(1, .ref x1), (2, .int x2), (3, .ref x3), (4, .int x4), (5, .int x5)] []) {x2 : Int32} {x5 : Int32} {S : zS} (hw : wb_X6_receiversOf_14 Z x1 x3 x4 Qp K rec x2 x5 S) : zG p l e rm_X6_receiversOf s m args below meth c D cy A 7 0 0 Q Z S 14 [(1, .ref x1), (2, .int x2), (3, .ref x3), (4, .int x4), (5, .int x5)] [] := by
  unfold wb_X6_receiversOf_14 at hw
  refine zg_iload (q := 16) C0 4 dX6_receiversOf_14 rfl rfl ?_
  refine zg_iload (q := 18) C0 3 dX6_receiversOf_16 rfl rfl ?_
  refine zg_icmp_ge (q := 21) (tgt := 58) C0 dX6_receiversOf_18 rfl rfl (fun c19 => ?_) (fun c19 => ?_)
  · have hw := hw.1 c19
    refine zg_sub [1] rfl ?_
    exact hK _ _ hw
  · have hw := hw.2 c19
    refine zg_aload_n (q := 22) C0 2 dX6_receiversOf_21 rfl rfl ?_
    refine zg_iload (q := 24) C0 4 dX6_receiversOf_22 rfl rfl ?_
    obtain ⟨hz6, hw⟩ := hw
    obtain ⟨hi7, hw⟩ := hw
    refine zg_aald_12 (q := 25) C0 dX6_receiversOf_24 hz6 hi7 rfl ?_
    obtain ⟨b8, hb9, hw⟩ := hw
    refine zg_nn hb9 ?_
    refine zg_astore (q := 27) (lv' := [(6, .ref b8), (1, .ref x1), (2, .int x2), (3, .ref x3), (4, .int x4), (5, .int x5)]) C0 dX6_receiversOf_25 (by decide) rfl rfl ?_
    refine zg_aload (q := 29) C0 0 dX6_receiversOf_27 rfl rfl ?_
    refine zg_aload_n (q := 30) C0 1 dX6_receiversOf_29 rfl rfl ?_
    refine zg_acmp_eq (a := some b8) (b := some x1) (q := 33) (tgt := 52) C0 dX6_receiversOf_30 rfl rfl rfl rfl (fun c18 => ?_) (fun c18 => ?_)
    · have hw := hw.1 c18
      refine zg_iinc (q := 55) C0 5 dX6_receiversOf_52 rfl (by decide) zc_iconst_1 rfl (fun y10 ey10 => ?_)
      have hw := hw y10 ey10
      refine zg_lv (lv' := [(5, .int y10), (6, .ref b8), (1, .ref x1), (2, .int x2), (3, .ref x3), (4, .int x4)]) rfl ?_
      refine zg_goto (tgt := 14) C0 dX6_receiversOf_55 rfl ?_
      refine zg_sub [2, 3, 4, 5, 0] rfl ?_
      exact hrec _ _ _ hw
    · have hw := hw.2 c18
      refine zg_aload_n (q := 34) C0 1 dX6_receiversOf_33 rfl rfl ?_
      refine zg_aload (q := 36) C0 0 dX6_receiversOf_34 rfl rfl ?_
      refine zg_callSi (q := 39) C0 [.ref x1, .ref b8] [] dX6_receiversOf_36 (fun sz => a_X6_reaches l D cy Z S sz x1 b8 _ hw) rfl gX6_receiversOf_X6_reaches hdS_X6_reaches rfl ⟨Nat.le_of_ble_eq_true rfl, Nat.le_of_ble_eq_true rfl⟩ (Nat.le_of_ble_eq_true rfl) ⟨Nat.zero_le _, Nat.zero_le _⟩ ⟨rfl, rfl⟩ rfl (fun v12 S11 hw => ?_)
      refine zg_if_eq (q := 42) (tgt := 52) C0 dX6_receiversOf_39 rfl rfl (fun c17 => ?_) (fun c17 => ?_)
      · have hw := hw.1 c17
        refine zg_iinc (q := 55) C0 5 dX6_receiversOf_52 rfl (by decide) zc_iconst_1 rfl (fun y13 ey13 => ?_)
        have hw := hw y13 ey13
        refine zg_lv (lv' := [(5, .int y13), (6, .ref b8), (1, .ref x1), (2, .int x2), (3, .ref x3), (4, .int x4)]) rfl ?_
        refine zg_goto (tgt := 14) C0 dX6_receiversOf_55 rfl ?_
        refine zg_sub [2, 3, 4, 5, 0] rfl ?_
        exact hrec _ _ _ hw
      · have hw := hw.2 c17
        refine zg_iload_n (q := 43) C0 2 dX6_receiversOf_42 rfl rfl ?_
        refine zg_iconst (q := 44) C0 dX6_receiversOf_43 zc_iconst_1 rfl ?_
        refine zg_aload (q := 46) C0 0 dX6_receiversOf_44 rfl rfl ?_
        obtain ⟨hz14, hw⟩ := hw
        refine zg_get (q := 49) (T := TX2) (k := 0) C0 dX6_receiversOf_46 hz14 (zF_2 cy hz14) rfl (by decide) hX_X6_receiversOf_2 (zwm (i := 2) rfl) rfl rfl rfl ?_
        refine zg_ishl (q := 50) C0 dX6_receiversOf_49 rfl ?_
        refine zg_ior (q := 51) C0 dX6_receiversOf_50 rfl ?_
        refine zg_ni (fun y15 ey15 => ?_)
        have hw := hw y15 ey15
        refine zg_istore_n (q := 52) (lv' := [(2, .int y15), (6, .ref b8), (1, .ref x1), (3, .ref x3), (4, .int x4), (5, .int x5)]) C0 dX6_receiversOf_51 (by decide) rfl rfl ?_
        refine zg_iinc (q := 55) C0 5 dX6_receiversOf_52 rfl (by decide) zc_iconst_1 rfl (fun y16 ey16 => ?_)
        have hw := hw y16 ey16
        refine zg_lv (lv' := [(5, .int y16), (2, .int y15), (6, .ref b8), (1, .ref x1), (3, .ref x3), (4, .int x4)]) rfl ?_
        refine zg_goto (tgt := 14) C0 dX6_receiversOf_55 rfl ?_
        refine zg_sub [3, 1, 4, 5, 0] rfl ?_
        exact hrec _ _ _ hw
theorem aL_X6_receiversOf_14 {p : Program} {l : Launch} {e : Env} {s : State} {m : MethodId} {args : Array Value} {below : List Frame} {meth : Method} {c : Code} {D : va_G} {cy : Nat → ClassId} {A : Nat → Prop} {Q : State → Prop} {Z : zZ} (C0 : zC p s m args meth c cX6_receiversOf 7 wsX6_receiversOf RX6 D cy A (some .int)) {x1 : Nat} {x3 : Nat} {x4 : Int32} {Qp : Int32 → zS → Prop} {K : Int32 → zS → Prop} (hK : ∀ x2 S, K x2 S → zG p l e rm_X6_receiversOf s m args below meth c D cy A 7 0 0 Q Z S 58 [(2, .int x2)] []) : ∀ x2 x5 S, wL_X6_receiversOf_14 Z x1 x3 x4 Qp K x2 x5 S → zG p l e rm_X6_receiversOf s m args below meth c D cy A 7 0 0 Q Z S 14 [(1, .ref x1), (2, .int x2), (3, .ref x3), (4, .int x4), (5, .int x5)] [] := by
  intro x2 x5 S hw
  obtain ⟨n, hw⟩ := hw
  induction n generalizing x2 x5 S with
  | zero => exact hw.elim
  | succ n ih => exact ab_X6_receiversOf_14 C0 hK (fun x2 x5 S hw => ih x2 x5 S hw) hw
def w_X6_receiversOf (Z : zZ) (h0 : Nat) (p0 : Nat) (S : zS) (Qp : Int32 → zS → Prop) : Prop :=
  zk Z h0 6 ∧ ∃ b2, zQ Z h0 1 = some b2 ∧ zk Z b2 12 ∧ ∀ y5 : Int32, y5 = nI (zN Z b2) → wL_X6_receiversOf_14 Z p0 b2 y5 Qp (fun (v21 : Int32) (S20 : zS) => Qp v21 S20) 0 0 S
set_option maxHeartbeats 4000000 in
set_option maxRecDepth 100000 in
theorem a_X6_receiversOf (l : Launch) (D : va_G) (cy : Nat → ClassId) (Z : zZ) (S : zS) (sz : Nat) (h0 : Nat) (p0 : Nat) (Qp : Int32 → zS → Prop) (hw : w_X6_receiversOf Z h0 p0 S Qp) : zMi l yX6_receiversOf wsX6_receiversOf rm_X6_receiversOf D cy Z S sz [.ref h0, .ref p0] Qp := by
  unfold w_X6_receiversOf at hw
  refine zMi_of (cc := cX6_receiversOf) (maxL := 7) (rt := (some .int)) (by decide +kernel) rfl (Nat.le_of_ble_eq_true rfl) ?_
  intro p e s m args below meth c A C0 _
  refine zg_lv (lv' := [(0, .ref h0), (1, .ref p0)]) rfl ?_
  refine zg_iconst (q := 1) C0 dX6_receiversOf_0 zc_iconst_0 rfl ?_
  refine zg_istore_n (q := 2) (lv' := [(2, .int 0), (0, .ref h0), (1, .ref p0)]) C0 dX6_receiversOf_1 (by decide) rfl rfl ?_
  refine zg_aload_n (q := 3) C0 1 dX6_receiversOf_2 rfl rfl ?_
  obtain ⟨hz1, hw⟩ := hw
  refine zg_get (q := 6) (T := TX6) (k := 1) C0 dX6_receiversOf_3 hz1 (zF_6 cy hz1) rfl (by decide) hX_X6_receiversOf_6 (zwm (i := 1) rfl) rfl rfl rfl ?_
  obtain ⟨b2, hb3, hw⟩ := hw
  refine zg_nn hb3 ?_
  refine zg_astore_n (q := 7) (lv' := [(3, .ref b2), (2, .int 0), (0, .ref h0), (1, .ref p0)]) C0 dX6_receiversOf_6 (by decide) rfl rfl ?_
  refine zg_aload_n (q := 8) C0 0 dX6_receiversOf_7 rfl rfl ?_
  obtain ⟨hz4, hw⟩ := hw
  refine zg_alen_12 (q := 9) C0 dX6_receiversOf_8 hz4 rfl ?_
  refine zg_ni (fun y5 ey5 => ?_)
  have hw := hw y5 ey5
  refine zg_istore (q := 11) (lv' := [(4, .int y5), (3, .ref b2), (2, .int 0), (0, .ref h0), (1, .ref p0)]) C0 dX6_receiversOf_9 (by decide) rfl rfl ?_
  refine zg_iconst (q := 12) C0 dX6_receiversOf_11 zc_iconst_0 rfl ?_
  refine zg_istore (q := 14) (lv' := [(5, .int 0), (4, .int y5), (3, .ref b2), (2, .int 0), (0, .ref h0), (1, .ref p0)]) C0 dX6_receiversOf_12 (by decide) rfl rfl ?_
  refine zg_sub [5, 3, 2, 1, 0] rfl ?_
  refine aL_X6_receiversOf_14 C0 (fun v21 S20 hw => ?_) _ _ _ hw
  refine zg_iload_n (q := 59) C0 0 dX6_receiversOf_58 rfl rfl ?_
  exact zg_iret C0 dX6_receiversOf_59 rfl rfl (Nat.le_refl 0) (Nat.le_refl 0) hw
-- X6_requestMissing
abbrev rm_X6_requestMissing : Room := { frames := 0, cells := 0, slots := 0, locals := 0 }
theorem hX_X6_requestMissing_2 : ∀ w ∈ u_ws RX2 TX2 13, w ∈ wsX6_requestMissing := by decide +kernel
theorem hX_X6_requestMissing_5 : ∀ w ∈ u_ws RX5 TX5 6, w ∈ wsX6_requestMissing := by decide +kernel
theorem hdS_X6_requestMissing : yX6_requestMissing.cls ≠ "java/lang/invoke/MethodHandle" ∧ yX6_requestMissing.cls ≠ "java/lang/invoke/VarHandle" ∧ (parseMethodDescriptor yX6_requestMissing.desc).map (fun d => d.parameters.length) = some 1 := by decide +kernel
def wb_X6_requestMissing_7 (Z : zZ) (x0 : Nat) (x1 : Nat) (Qp : zS → Prop) (K : zS → Prop) (rec : Int32 → zS → Prop) (x2 : Int32) (S : zS) : Prop :=
  zk Z x1 5 ∧ (((zI S x1 5) < x2 → K S) ∧ (¬ (zI S x1 5) < x2 → zk Z x0 2 ∧ ∃ b6, zQ Z x0 4 = some b6 ∧ zk Z b6 11 ∧ vp_in x2 (zN Z b6) ∧ ((∀ b10, zR S b6 x2.toNatClampNeg = some b10 → ∀ y12 : Int32, y12 = x2 + 1 → rec y12 S) ∧ (zR S b6 x2.toNatClampNeg = none → ∃ b13, zQ Z x1 0 = some b13 ∧ zk Z b13 10 ∧ vp_in x2 (zN Z b13) ∧ ∀ S17 : zS, S17 = zsI S b13 x2.toNatClampNeg 1 → ∀ y18 : Int32, y18 = x2 + 1 → rec y18 S17))))
def wL_X6_requestMissing_7 (Z : zZ) (x0 : Nat) (x1 : Nat) (Qp : zS → Prop) (K : zS → Prop) (x2 : Int32) (S : zS) : Prop := ∃ n, zit2 (wb_X6_requestMissing_7 Z x0 x1 Qp K) n x2 S
set_option maxHeartbeats 4000000 in
set_option maxRecDepth 100000 in
theorem ab_X6_requestMissing_7 {p : Program} {l : Launch} {e : Env} {s : State} {m : MethodId} {args : Array Value} {below : List Frame} {meth : Method} {c : Code} {D : va_G} {cy : Nat → ClassId} {A : Nat → Prop} {Q : State → Prop} {Z : zZ} (C0 : zC p s m args meth c cX6_requestMissing 3 wsX6_requestMissing RX6 D cy A none) {x0 : Nat} {x1 : Nat} {Qp : zS → Prop} {K : zS → Prop} (hK : ∀  S, K  S → zG p l e rm_X6_requestMissing s m args below meth c D cy A 3 0 0 Q Z S 37 [] []) {rec : Int32 → zS → Prop} (hrec : ∀ x2 S, rec x2 S → zG p l e rm_X6_requestMissing s m args below meth c D cy A 3 0 0 Q Z S 7 [(0, .ref x0), (1, .ref x1), (2, .int x2)] []) {x2 : Int32} {S : zS} (hw : wb_X6_requestMissing_7 Z x0 x1 Qp K rec x2 S) : zG p l e rm_X6_requestMissing s m args below meth c D cy A 3 0 0 Q Z S 7 [(0, .ref x0), (1, .ref x1), (2, .int x2)] [] := by
  unfold wb_X6_requestMissing_7 at hw
  refine zg_iload_n (q := 8) C0 2 dX6_requestMissing_7 rfl rfl ?_
  refine zg_aload_n (q := 9) C0 1 dX6_requestMissing_8 rfl rfl ?_
  obtain ⟨hz4, hw⟩ := hw
  refine zg_get (q := 12) (T := TX5) (k := 5) C0 dX6_requestMissing_9 hz4 (zF_5 cy hz4) rfl (by decide) hX_X6_requestMissing_5 (zwm (i := 2) rfl) rfl rfl rfl ?_
  refine zg_icmp_gt (q := 15) (tgt := 37) C0 dX6_requestMissing_12 rfl rfl (fun c20 => ?_) (fun c20 => ?_)
  · have hw := hw.1 c20
    refine zg_sub [] rfl ?_
    exact hK  _ hw
  · have hw := hw.2 c20
    refine zg_aload_n (q := 16) C0 0 dX6_requestMissing_15 rfl rfl ?_
    obtain ⟨hz5, hw⟩ := hw
    refine zg_get (q := 19) (T := TX2) (k := 4) C0 dX6_requestMissing_16 hz5 (zF_2 cy hz5) rfl (by decide) hX_X6_requestMissing_2 (zwm (i := 3) rfl) rfl rfl rfl ?_
    obtain ⟨b6, hb7, hw⟩ := hw
    refine zg_nn hb7 ?_
    refine zg_iload_n (q := 20) C0 2 dX6_requestMissing_19 rfl rfl ?_
    obtain ⟨hz8, hw⟩ := hw
    obtain ⟨hi9, hw⟩ := hw
    refine zg_aald_11 (q := 21) C0 dX6_requestMissing_20 hz8 hi9 rfl ?_
    refine zg_ifnonnull (q := 24) (tgt := 31) C0 dX6_requestMissing_21 rfl rfl (fun b10 hb11 => ?_) (fun c19 => ?_)
    · have hw := hw.1 b10 hb11
      refine zg_iinc (q := 34) C0 2 dX6_requestMissing_31 rfl (by decide) zc_iconst_1 rfl (fun y12 ey12 => ?_)
      have hw := hw y12 ey12
      refine zg_lv (lv' := [(2, .int y12), (0, .ref x0), (1, .ref x1)]) rfl ?_
      refine zg_goto (tgt := 7) C0 dX6_requestMissing_34 rfl ?_
      refine zg_sub [1, 2, 0] rfl ?_
      exact hrec _ _ hw
    · have hw := hw.2 c19
      refine zg_aload_n (q := 25) C0 1 dX6_requestMissing_24 rfl rfl ?_
      refine zg_get (q := 28) (T := TX5) (k := 0) C0 dX6_requestMissing_25 hz4 (zF_5 cy hz4) rfl (by decide) hX_X6_requestMissing_5 (zwm (i := 4) rfl) rfl rfl rfl ?_
      obtain ⟨b13, hb14, hw⟩ := hw
      refine zg_nn hb14 ?_
      refine zg_iload_n (q := 29) C0 2 dX6_requestMissing_28 rfl rfl ?_
      refine zg_iconst (q := 30) C0 dX6_requestMissing_29 zc_iconst_1 rfl ?_
      obtain ⟨hz15, hw⟩ := hw
      obtain ⟨hi16, hw⟩ := hw
      refine zg_zast (q := 31) C0 dX6_requestMissing_30 hz15 hi16 (by decide) rfl (fun S17 eS17 => ?_)
      have hw := hw S17 eS17
      refine zg_iinc (q := 34) C0 2 dX6_requestMissing_31 rfl (by decide) zc_iconst_1 rfl (fun y18 ey18 => ?_)
      have hw := hw y18 ey18
      refine zg_lv (lv' := [(2, .int y18), (0, .ref x0), (1, .ref x1)]) rfl ?_
      refine zg_goto (tgt := 7) C0 dX6_requestMissing_34 rfl ?_
      refine zg_sub [1, 2, 0] rfl ?_
      exact hrec _ _ hw
theorem aL_X6_requestMissing_7 {p : Program} {l : Launch} {e : Env} {s : State} {m : MethodId} {args : Array Value} {below : List Frame} {meth : Method} {c : Code} {D : va_G} {cy : Nat → ClassId} {A : Nat → Prop} {Q : State → Prop} {Z : zZ} (C0 : zC p s m args meth c cX6_requestMissing 3 wsX6_requestMissing RX6 D cy A none) {x0 : Nat} {x1 : Nat} {Qp : zS → Prop} {K : zS → Prop} (hK : ∀  S, K  S → zG p l e rm_X6_requestMissing s m args below meth c D cy A 3 0 0 Q Z S 37 [] []) : ∀ x2 S, wL_X6_requestMissing_7 Z x0 x1 Qp K x2 S → zG p l e rm_X6_requestMissing s m args below meth c D cy A 3 0 0 Q Z S 7 [(0, .ref x0), (1, .ref x1), (2, .int x2)] [] := by
  intro x2 S hw
  obtain ⟨n, hw⟩ := hw
  induction n generalizing x2 S with
  | zero => exact hw.elim
  | succ n ih => exact ab_X6_requestMissing_7 C0 hK (fun x2 S hw => ih x2 S hw) hw
def w_X6_requestMissing (Z : zZ) (p0 : Nat) (S : zS) (Qp : zS → Prop) : Prop :=
  zk Z p0 2 ∧ ∃ b2, zR S p0 7 = some b2 ∧ wL_X6_requestMissing_7 Z p0 b2 Qp (fun  (S21 : zS) => Qp S21) 1 S
set_option maxHeartbeats 4000000 in
set_option maxRecDepth 100000 in
theorem a_X6_requestMissing (l : Launch) (D : va_G) (cy : Nat → ClassId) (Z : zZ) (S : zS) (sz : Nat) (p0 : Nat) (Qp : zS → Prop) (hw : w_X6_requestMissing Z p0 S Qp) : zMv l yX6_requestMissing wsX6_requestMissing rm_X6_requestMissing D cy Z S sz [.ref p0] Qp := by
  unfold w_X6_requestMissing at hw
  refine zMv_of (cc := cX6_requestMissing) (maxL := 3) (rt := none) (by decide +kernel) rfl (Nat.le_of_ble_eq_true rfl) ?_
  intro p e s m args below meth c A C0 _
  refine zg_lv (lv' := [(0, .ref p0)]) rfl ?_
  refine zg_aload_n (q := 1) C0 0 dX6_requestMissing_0 rfl rfl ?_
  obtain ⟨hz1, hw⟩ := hw
  refine zg_get (q := 4) (T := TX2) (k := 7) C0 dX6_requestMissing_1 hz1 (zF_2 cy hz1) rfl (by decide) hX_X6_requestMissing_2 (zwm (i := 1) rfl) rfl rfl rfl ?_
  obtain ⟨b2, hb3, hw⟩ := hw
  refine zg_nn hb3 ?_
  refine zg_astore_n (q := 5) (lv' := [(1, .ref b2), (0, .ref p0)]) C0 dX6_requestMissing_4 (by decide) rfl rfl ?_
  refine zg_iconst (q := 6) C0 dX6_requestMissing_5 zc_iconst_1 rfl ?_
  refine zg_istore_n (q := 7) (lv' := [(2, .int 1), (1, .ref b2), (0, .ref p0)]) C0 dX6_requestMissing_6 (by decide) rfl rfl ?_
  refine zg_sub [2, 1, 0] rfl ?_
  refine aL_X6_requestMissing_7 C0 (fun  S21 hw => ?_) _ _ hw
  exact zg_vret C0 dX6_requestMissing_37 rfl (Nat.le_refl 0) (Nat.le_refl 0) hw
-- X6_giveTo
abbrev rm_X6_giveTo : Room := { frames := 2, cells := 0, slots := 0, locals := 42 }
theorem hX_X6_giveTo_2 : ∀ w ∈ u_ws RX2 TX2 13, w ∈ wsX6_giveTo := by decide +kernel
theorem hX_X6_giveTo_6 : ∀ w ∈ u_ws RX6 TX6 4, w ∈ wsX6_giveTo := by decide +kernel
theorem hdV_X6_giveTo : yX6_giveTo.cls = RX6 ∧ yX6_giveTo.cls ≠ "java/lang/invoke/MethodHandle" ∧ yX6_giveTo.cls ≠ "java/lang/invoke/VarHandle" ∧ (parseMethodDescriptor yX6_giveTo.desc).map (fun d => d.parameters.length) = some 3 := by decide +kernel
def wb_X6_giveTo_14 (Z : zZ) (x1 : Int32) (x2 : Int32) (x3 : Nat) (x4 : Nat) (x5 : Int32) (Qp : zS → Prop) (K : zS → Prop) (rec : Int32 → zS → Prop) (x6 : Int32) (S : zS) : Prop :=
  ((x5 ≤ x6 → K S) ∧ (¬ x5 ≤ x6 → zk Z x4 12 ∧ vp_in x6 (zN Z x4) ∧ ∃ b8, zQ Z x4 x6.toNatClampNeg = some b8 ∧ zk Z b8 2 ∧ w_X6_isIn Z (zI S b8 0) x1 S (fun (v12 : Int32) (S11 : zS) => ((v12 = 0 → ∀ y13 : Int32, y13 = x6 + 1 → rec y13 S11) ∧ (¬ v12 = 0 → w_X2_receive Z b8 x2 x3 S11 (fun (S14 : zS) => ∀ y15 : Int32, y15 = x6 + 1 → rec y15 S14))))))
def wL_X6_giveTo_14 (Z : zZ) (x1 : Int32) (x2 : Int32) (x3 : Nat) (x4 : Nat) (x5 : Int32) (Qp : zS → Prop) (K : zS → Prop) (x6 : Int32) (S : zS) : Prop := ∃ n, zit2 (wb_X6_giveTo_14 Z x1 x2 x3 x4 x5 Qp K) n x6 S
set_option maxHeartbeats 4000000 in
set_option maxRecDepth 100000 in
theorem ab_X6_giveTo_14 {p : Program} {l : Launch} {e : Env} {s : State} {m : MethodId} {args : Array Value} {below : List Frame} {meth : Method} {c : Code} {D : va_G} {cy : Nat → ClassId} {A : Nat → Prop} {Q : State → Prop} {Z : zZ} (C0 : zC p s m args meth c cX6_giveTo 8 wsX6_giveTo RX6 D cy A none) {x1 : Int32} {x2 : Int32} {x3 : Nat} {x4 : Nat} {x5 : Int32} {Qp : zS → Prop} {K : zS → Prop} (hK : ∀  S, K  S → zG p l e rm_X6_giveTo s m args below meth c D cy A 8 0 0 Q Z S 53 [] []) {rec : Int32 → zS → Prop} (hrec : ∀ x6 S, rec x6 S → zG p l e rm_X6_giveTo s m args below meth c D cy A 8 0 0 Q Z S 14 [(1, .int x1), (2, .int x2), (3, .ref x3), (4, .ref x4), (5, .int x5), (6, .int x6)] []) {x6 : Int32} {S : zS} (hw : wb_X6_giveTo_14 Z x1 x2 x3 x4 x5 Qp K rec x6 S) : zG p l e rm_X6_giveTo s m args below meth c D cy A 8 0 0 Q Z S 14 [(1, .int x1), (2, .int x2), (3, .ref x3), (4, .ref x4), (5, .int x5), (6, .int x6)] [] := by
  unfold wb_X6_giveTo_14 at hw
  refine zg_iload (q := 16) C0 5 dX6_giveTo_14 rfl rfl ?_
  refine zg_iload (q := 18) C0 4 dX6_giveTo_16 rfl rfl ?_
  refine zg_icmp_ge (q := 21) (tgt := 53) C0 dX6_giveTo_18 rfl rfl (fun c17 => ?_) (fun c17 => ?_)
  · have hw := hw.1 c17
    refine zg_sub [] rfl ?_
    exact hK  _ hw
  · have hw := hw.2 c17
    refine zg_aload (q := 23) C0 3 dX6_giveTo_21 rfl rfl ?_
    refine zg_iload (q := 25) C0 5 dX6_giveTo_23 rfl rfl ?_
    obtain ⟨hz6, hw⟩ := hw
    obtain ⟨hi7, hw⟩ := hw
    refine zg_aald_12 (q := 26) C0 dX6_giveTo_25 hz6 hi7 rfl ?_
    obtain ⟨b8, hb9, hw⟩ := hw
    refine zg_nn hb9 ?_
    refine zg_astore (q := 28) (lv' := [(7, .ref b8), (1, .int x1), (2, .int x2), (3, .ref x3), (4, .ref x4), (5, .int x5), (6, .int x6)]) C0 dX6_giveTo_26 (by decide) rfl rfl ?_
    refine zg_aload (q := 30) C0 0 dX6_giveTo_28 rfl rfl ?_
    obtain ⟨hz10, hw⟩ := hw
    refine zg_get (q := 33) (T := TX2) (k := 0) C0 dX6_giveTo_30 hz10 (zF_2 cy hz10) rfl (by decide) hX_X6_giveTo_2 (zwm (i := 2) rfl) rfl rfl rfl ?_
    refine zg_iload_n (q := 34) C0 1 dX6_giveTo_33 rfl rfl ?_
    refine zg_callSi (q := 37) C0 [.int (zI S b8 0), .int x1] [] dX6_giveTo_34 (fun sz => a_X6_isIn l D cy Z S sz (zI S b8 0) x1 _ hw) rfl gX6_giveTo_X6_isIn hdS_X6_isIn rfl ⟨Nat.le_of_ble_eq_true rfl, Nat.le_of_ble_eq_true rfl⟩ (Nat.le_of_ble_eq_true rfl) ⟨Nat.zero_le _, Nat.zero_le _⟩ ⟨rfl, rfl⟩ rfl (fun v12 S11 hw => ?_)
    refine zg_if_eq (q := 40) (tgt := 47) C0 dX6_giveTo_37 rfl rfl (fun c16 => ?_) (fun c16 => ?_)
    · have hw := hw.1 c16
      refine zg_iinc (q := 50) C0 6 dX6_giveTo_47 rfl (by decide) zc_iconst_1 rfl (fun y13 ey13 => ?_)
      have hw := hw y13 ey13
      refine zg_lv (lv' := [(6, .int y13), (7, .ref b8), (1, .int x1), (2, .int x2), (3, .ref x3), (4, .ref x4), (5, .int x5)]) rfl ?_
      refine zg_goto (tgt := 14) C0 dX6_giveTo_50 rfl ?_
      refine zg_sub [2, 3, 4, 5, 6, 0] rfl ?_
      exact hrec _ _ hw
    · have hw := hw.2 c16
      refine zg_aload (q := 42) C0 0 dX6_giveTo_40 rfl rfl ?_
      refine zg_iload_n (q := 43) C0 2 dX6_giveTo_42 rfl rfl ?_
      refine zg_aload_n (q := 44) C0 3 dX6_giveTo_43 rfl rfl ?_
      refine zg_callVv (q := 47) C0 [.int x2, .ref x3] [] dX6_giveTo_44 (fun sz => a_X2_receive l D cy Z S11 sz b8 x2 x3 _ hw) rfl gX6_giveTo_X2_receive hdV_X2_receive hz10 (zF_2 cy hz10) rfl rfl ⟨Nat.le_of_ble_eq_true rfl, Nat.le_of_ble_eq_true rfl⟩ (Nat.le_of_ble_eq_true rfl) ⟨Nat.zero_le _, Nat.zero_le _⟩ ⟨rfl, rfl⟩ rfl (fun S14 hw => ?_)
      refine zg_iinc (q := 50) C0 6 dX6_giveTo_47 rfl (by decide) zc_iconst_1 rfl (fun y15 ey15 => ?_)
      have hw := hw y15 ey15
      refine zg_lv (lv' := [(6, .int y15), (7, .ref b8), (1, .int x1), (2, .int x2), (3, .ref x3), (4, .ref x4), (5, .int x5)]) rfl ?_
      refine zg_goto (tgt := 14) C0 dX6_giveTo_50 rfl ?_
      refine zg_sub [2, 3, 4, 5, 6, 0] rfl ?_
      exact hrec _ _ hw
theorem aL_X6_giveTo_14 {p : Program} {l : Launch} {e : Env} {s : State} {m : MethodId} {args : Array Value} {below : List Frame} {meth : Method} {c : Code} {D : va_G} {cy : Nat → ClassId} {A : Nat → Prop} {Q : State → Prop} {Z : zZ} (C0 : zC p s m args meth c cX6_giveTo 8 wsX6_giveTo RX6 D cy A none) {x1 : Int32} {x2 : Int32} {x3 : Nat} {x4 : Nat} {x5 : Int32} {Qp : zS → Prop} {K : zS → Prop} (hK : ∀  S, K  S → zG p l e rm_X6_giveTo s m args below meth c D cy A 8 0 0 Q Z S 53 [] []) : ∀ x6 S, wL_X6_giveTo_14 Z x1 x2 x3 x4 x5 Qp K x6 S → zG p l e rm_X6_giveTo s m args below meth c D cy A 8 0 0 Q Z S 14 [(1, .int x1), (2, .int x2), (3, .ref x3), (4, .ref x4), (5, .int x5), (6, .int x6)] [] := by
  intro x6 S hw
  obtain ⟨n, hw⟩ := hw
  induction n generalizing x6 S with
  | zero => exact hw.elim
  | succ n ih => exact ab_X6_giveTo_14 C0 hK (fun x6 S hw => ih x6 S hw) hw
def w_X6_giveTo (Z : zZ) (h0 : Nat) (p0 : Int32) (p1 : Int32) (p2 : Nat) (S : zS) (Qp : zS → Prop) : Prop :=
  zk Z h0 6 ∧ ∃ b2, zQ Z h0 1 = some b2 ∧ zk Z b2 12 ∧ ∀ y5 : Int32, y5 = nI (zN Z b2) → wL_X6_giveTo_14 Z p0 p1 p2 b2 y5 Qp (fun  (S18 : zS) => Qp S18) 0 S
set_option maxHeartbeats 4000000 in
set_option maxRecDepth 100000 in
theorem a_X6_giveTo (l : Launch) (D : va_G) (cy : Nat → ClassId) (Z : zZ) (S : zS) (sz : Nat) (h0 : Nat) (p0 : Int32) (p1 : Int32) (p2 : Nat) (Qp : zS → Prop) (hw : w_X6_giveTo Z h0 p0 p1 p2 S Qp) : zMv l yX6_giveTo wsX6_giveTo rm_X6_giveTo D cy Z S sz [.ref h0, .int p0, .int p1, .ref p2] Qp := by
  unfold w_X6_giveTo at hw
  refine zMv_of (cc := cX6_giveTo) (maxL := 8) (rt := none) (by decide +kernel) rfl (Nat.le_of_ble_eq_true rfl) ?_
  intro p e s m args below meth c A C0 _
  refine zg_lv (lv' := [(0, .ref h0), (1, .int p0), (2, .int p1), (3, .ref p2)]) rfl ?_
  refine zg_aload_n (q := 1) C0 0 dX6_giveTo_0 rfl rfl ?_
  obtain ⟨hz1, hw⟩ := hw
  refine zg_get (q := 4) (T := TX6) (k := 1) C0 dX6_giveTo_1 hz1 (zF_6 cy hz1) rfl (by decide) hX_X6_giveTo_6 (zwm (i := 1) rfl) rfl rfl rfl ?_
  obtain ⟨b2, hb3, hw⟩ := hw
  refine zg_nn hb3 ?_
  refine zg_astore (q := 6) (lv' := [(4, .ref b2), (0, .ref h0), (1, .int p0), (2, .int p1), (3, .ref p2)]) C0 dX6_giveTo_4 (by decide) rfl rfl ?_
  refine zg_aload (q := 8) C0 0 dX6_giveTo_6 rfl rfl ?_
  obtain ⟨hz4, hw⟩ := hw
  refine zg_alen_12 (q := 9) C0 dX6_giveTo_8 hz4 rfl ?_
  refine zg_ni (fun y5 ey5 => ?_)
  have hw := hw y5 ey5
  refine zg_istore (q := 11) (lv' := [(5, .int y5), (4, .ref b2), (0, .ref h0), (1, .int p0), (2, .int p1), (3, .ref p2)]) C0 dX6_giveTo_9 (by decide) rfl rfl ?_
  refine zg_iconst (q := 12) C0 dX6_giveTo_11 zc_iconst_0 rfl ?_
  refine zg_istore (q := 14) (lv' := [(6, .int 0), (5, .int y5), (4, .ref b2), (0, .ref h0), (1, .int p0), (2, .int p1), (3, .ref p2)]) C0 dX6_giveTo_12 (by decide) rfl rfl ?_
  refine zg_sub [4, 5, 6, 2, 1, 0] rfl ?_
  refine aL_X6_giveTo_14 C0 (fun  S18 hw => ?_) _ _ hw
  exact zg_vret C0 dX6_giveTo_53 rfl (Nat.le_refl 0) (Nat.le_refl 0) hw
-- X6_sendPending
abbrev rm_X6_sendPending : Room := { frames := 3, cells := 0, slots := 0, locals := 69 }
theorem hX_X6_sendPending_2 : ∀ w ∈ u_ws RX2 TX2 13, w ∈ wsX6_sendPending := by decide +kernel
theorem hX_X6_sendPending_5 : ∀ w ∈ u_ws RX5 TX5 6, w ∈ wsX6_sendPending := by decide +kernel
theorem hX_X6_sendPending_6 : ∀ w ∈ u_ws RX6 TX6 4, w ∈ wsX6_sendPending := by decide +kernel
theorem hdV_X6_sendPending : yX6_sendPending.cls = RX6 ∧ yX6_sendPending.cls ≠ "java/lang/invoke/MethodHandle" ∧ yX6_sendPending.cls ≠ "java/lang/invoke/VarHandle" ∧ (parseMethodDescriptor yX6_sendPending.desc).map (fun d => d.parameters.length) = some 2 := by decide +kernel
def wb_X6_sendPending_8 (Z : zZ) (x0 : Nat) (x1 : Nat) (x2 : Int32) (x3 : Nat) (Qp : zS → Prop) (K : zS → Prop) (rec : Int32 → zS → Prop) (x4 : Int32) (S : zS) : Prop :=
  zk Z x0 6 ∧ (((zI S x0 0) ≤ x4 → K S) ∧ (¬ (zI S x0 0) ≤ x4 → zk Z x3 5 ∧ ((100 ≤ (zI S x3 5) → K S) ∧ (¬ 100 ≤ (zI S x3 5) → zk Z x1 2 ∧ ∃ b7, zQ Z x1 1 = some b7 ∧ zk Z b7 3 ∧ w_X3_takeFirst Z b7 S (fun (r11 : Option Nat) (S10 : zS) => ((∀ b12, r11 = some b12 → ∀ S14 : zS, S14 = zsI S10 x3 5 ((zI S10 x3 5) + 1) → w_X6_giveTo Z x0 (x2 ||| (1 <<< ((zI S14 x1 0) &&& 31))) (zI S14 x3 5) b12 S14 (fun (S15 : zS) => ∀ y16 : Int32, y16 = x4 + 1 → rec y16 S15)) ∧ (r11 = none → Qp S10)))))))
def wL_X6_sendPending_8 (Z : zZ) (x0 : Nat) (x1 : Nat) (x2 : Int32) (x3 : Nat) (Qp : zS → Prop) (K : zS → Prop) (x4 : Int32) (S : zS) : Prop := ∃ n, zit2 (wb_X6_sendPending_8 Z x0 x1 x2 x3 Qp K) n x4 S
set_option maxHeartbeats 4000000 in
set_option maxRecDepth 100000 in
theorem ab_X6_sendPending_8 {p : Program} {l : Launch} {e : Env} {s : State} {m : MethodId} {args : Array Value} {below : List Frame} {meth : Method} {c : Code} {D : va_G} {cy : Nat → ClassId} {A : Nat → Prop} {Z : zZ} (C0 : zC p s m args meth c cX6_sendPending 6 wsX6_sendPending RX6 D cy A none) {x0 : Nat} {x1 : Nat} {x2 : Int32} {x3 : Nat} {Qp : zS → Prop} {K : zS → Prop} (hK : ∀  S, K  S → zG p l e rm_X6_sendPending s m args below meth c D cy A 6 0 0 (zQv below D cy A Z Qp args s 0 0) Z S 75 [] []) {rec : Int32 → zS → Prop} (hrec : ∀ x4 S, rec x4 S → zG p l e rm_X6_sendPending s m args below meth c D cy A 6 0 0 (zQv below D cy A Z Qp args s 0 0) Z S 8 [(0, .ref x0), (1, .ref x1), (2, .int x2), (3, .ref x3), (4, .int x4)] []) {x4 : Int32} {S : zS} (hw : wb_X6_sendPending_8 Z x0 x1 x2 x3 Qp K rec x4 S) : zG p l e rm_X6_sendPending s m args below meth c D cy A 6 0 0 (zQv below D cy A Z Qp args s 0 0) Z S 8 [(0, .ref x0), (1, .ref x1), (2, .int x2), (3, .ref x3), (4, .int x4)] [] := by
  unfold wb_X6_sendPending_8 at hw
  refine zg_iload (q := 10) C0 4 dX6_sendPending_8 rfl rfl ?_
  refine zg_aload_n (q := 11) C0 0 dX6_sendPending_10 rfl rfl ?_
  obtain ⟨hz4, hw⟩ := hw
  refine zg_get (q := 14) (T := TX6) (k := 0) C0 dX6_sendPending_11 hz4 (zF_6 cy hz4) rfl (by decide) hX_X6_sendPending_6 (zwm (i := 2) rfl) rfl rfl rfl ?_
  refine zg_icmp_ge (q := 17) (tgt := 75) C0 dX6_sendPending_14 rfl rfl (fun c19 => ?_) (fun c19 => ?_)
  · have hw := hw.1 c19
    refine zg_sub [] rfl ?_
    exact hK  _ hw
  · have hw := hw.2 c19
    refine zg_aload_n (q := 18) C0 3 dX6_sendPending_17 rfl rfl ?_
    obtain ⟨hz5, hw⟩ := hw
    refine zg_get (q := 21) (T := TX5) (k := 5) C0 dX6_sendPending_18 hz5 (zF_5 cy hz5) rfl (by decide) hX_X6_sendPending_5 (zwm (i := 3) rfl) rfl rfl rfl ?_
    refine zg_bipush (q := 23) C0 dX6_sendPending_21 zc_bipush_100 rfl ?_
    refine zg_icmp_ge (q := 26) (tgt := 75) C0 dX6_sendPending_23 rfl rfl (fun c18 => ?_) (fun c18 => ?_)
    · have hw := hw.1 c18
      refine zg_sub [] rfl ?_
      exact hK  _ hw
    · have hw := hw.2 c18
      refine zg_aload_n (q := 27) C0 1 dX6_sendPending_26 rfl rfl ?_
      obtain ⟨hz6, hw⟩ := hw
      refine zg_get (q := 30) (T := TX2) (k := 1) C0 dX6_sendPending_27 hz6 (zF_2 cy hz6) rfl (by decide) hX_X6_sendPending_2 (zwm (i := 4) rfl) rfl rfl rfl ?_
      obtain ⟨b7, hb8, hw⟩ := hw
      refine zg_nn hb8 ?_
      obtain ⟨hz9, hw⟩ := hw
      refine zg_callVq (q := 33) C0 [] [] dX6_sendPending_30 (fun sz => a_X3_takeFirst l D cy Z S sz b7 _ hw) rfl gX6_sendPending_X3_takeFirst hdV_X3_takeFirst hz9 (zF_3 cy hz9) rfl rfl ⟨Nat.le_of_ble_eq_true rfl, Nat.le_of_ble_eq_true rfl⟩ (Nat.le_of_ble_eq_true rfl) ⟨Nat.zero_le _, Nat.zero_le _⟩ ⟨rfl, rfl⟩ rfl (fun r11 S10 hw => ?_)
      refine zg_astoreq (q := 35) (lv' := [(5, va_rf r11), (0, .ref x0), (1, .ref x1), (2, .int x2), (3, .ref x3), (4, .int x4)]) C0 dX6_sendPending_33 (by decide) rfl rfl ?_
      refine zg_aloadq (q := 37) C0 0 dX6_sendPending_35 rfl rfl ?_
      refine zg_ifnonnull (q := 40) (tgt := 41) C0 dX6_sendPending_37 rfl rfl (fun b12 hb13 => ?_) (fun c17 => ?_)
      · have hw := hw.1 b12 hb13
        refine zg_lv (lv' := [(5, .ref b12), (0, .ref x0), (1, .ref x1), (2, .int x2), (3, .ref x3), (4, .int x4)]) (by subst hb13; rfl) ?_
        refine zg_aload_n (q := 42) C0 4 dX6_sendPending_41 rfl rfl ?_
        refine zg_dup (q := 43) C0 dX6_sendPending_42 rfl rfl ?_
        refine zg_get (q := 46) (T := TX5) (k := 5) C0 dX6_sendPending_43 hz5 (zF_5 cy hz5) rfl (by decide) hX_X6_sendPending_5 (zwm (i := 3) rfl) rfl rfl rfl ?_
        refine zg_iconst (q := 47) C0 dX6_sendPending_46 zc_iconst_1 rfl ?_
        refine zg_iadd (q := 48) C0 dX6_sendPending_47 rfl ?_
        refine zg_putI (q := 51) (T := TX5) (k := 5) (ty0 := tyX5) C0 dX6_sendPending_48 hz5 (zF_5 cy hz5) rfl (by decide) hX_X6_sendPending_5 tyX5_ok nmX5 (zwm (i := 3) rfl) rfl rfl rfl rfl (Nat.le_of_ble_eq_true rfl) (zF_5 cy hz5) (zP_5_5 Z S10 _ _) rfl (fun S14 eS14 => ?_)
        have hw := hw S14 eS14
        refine zg_aload_n (q := 52) C0 1 dX6_sendPending_51 rfl rfl ?_
        refine zg_iload_n (q := 53) C0 3 dX6_sendPending_52 rfl rfl ?_
        refine zg_iconst (q := 54) C0 dX6_sendPending_53 zc_iconst_1 rfl ?_
        refine zg_aload_n (q := 55) C0 2 dX6_sendPending_54 rfl rfl ?_
        refine zg_get (q := 58) (T := TX2) (k := 0) C0 dX6_sendPending_55 hz6 (zF_2 cy hz6) rfl (by decide) hX_X6_sendPending_2 (zwm (i := 5) rfl) rfl rfl rfl ?_
        refine zg_ishl (q := 59) C0 dX6_sendPending_58 rfl ?_
        refine zg_ior (q := 60) C0 dX6_sendPending_59 rfl ?_
        refine zg_aload_n (q := 61) C0 4 dX6_sendPending_60 rfl rfl ?_
        refine zg_get (q := 64) (T := TX5) (k := 5) C0 dX6_sendPending_61 hz5 (zF_5 cy hz5) rfl (by decide) hX_X6_sendPending_5 (zwm (i := 3) rfl) rfl rfl rfl ?_
        refine zg_aload (q := 66) C0 0 dX6_sendPending_64 rfl rfl ?_
        refine zg_callVv (q := 69) C0 [.int (x2 ||| (1 <<< ((zI S14 x1 0) &&& 31))), .int (zI S14 x3 5), .ref b12] [] dX6_sendPending_66 (fun sz => a_X6_giveTo l D cy Z S14 sz x0 (x2 ||| (1 <<< ((zI S14 x1 0) &&& 31))) (zI S14 x3 5) b12 _ hw) rfl gX6_sendPending_X6_giveTo hdV_X6_giveTo hz4 (zF_6 cy hz4) rfl rfl ⟨Nat.le_of_ble_eq_true rfl, Nat.le_of_ble_eq_true rfl⟩ (Nat.le_of_ble_eq_true rfl) ⟨Nat.zero_le _, Nat.zero_le _⟩ ⟨rfl, rfl⟩ rfl (fun S15 hw => ?_)
        refine zg_iinc (q := 72) C0 5 dX6_sendPending_69 rfl (by decide) zc_iconst_1 rfl (fun y16 ey16 => ?_)
        have hw := hw y16 ey16
        refine zg_lv (lv' := [(4, .int y16), (5, .ref b12), (0, .ref x0), (1, .ref x1), (2, .int x2), (3, .ref x3)]) rfl ?_
        refine zg_goto (tgt := 8) C0 dX6_sendPending_72 rfl ?_
        refine zg_sub [2, 3, 4, 5, 0] rfl ?_
        exact hrec _ _ hw
      · have hw := hw.2 c17
        exact zg_vret C0 dX6_sendPending_40 rfl (Nat.le_refl 0) (Nat.le_refl 0) hw
theorem aL_X6_sendPending_8 {p : Program} {l : Launch} {e : Env} {s : State} {m : MethodId} {args : Array Value} {below : List Frame} {meth : Method} {c : Code} {D : va_G} {cy : Nat → ClassId} {A : Nat → Prop} {Z : zZ} (C0 : zC p s m args meth c cX6_sendPending 6 wsX6_sendPending RX6 D cy A none) {x0 : Nat} {x1 : Nat} {x2 : Int32} {x3 : Nat} {Qp : zS → Prop} {K : zS → Prop} (hK : ∀  S, K  S → zG p l e rm_X6_sendPending s m args below meth c D cy A 6 0 0 (zQv below D cy A Z Qp args s 0 0) Z S 75 [] []) : ∀ x4 S, wL_X6_sendPending_8 Z x0 x1 x2 x3 Qp K x4 S → zG p l e rm_X6_sendPending s m args below meth c D cy A 6 0 0 (zQv below D cy A Z Qp args s 0 0) Z S 8 [(0, .ref x0), (1, .ref x1), (2, .int x2), (3, .ref x3), (4, .int x4)] [] := by
  intro x4 S hw
  obtain ⟨n, hw⟩ := hw
  induction n generalizing x4 S with
  | zero => exact hw.elim
  | succ n ih => exact ab_X6_sendPending_8 C0 hK (fun x4 S hw => ih x4 S hw) hw
def w_X6_sendPending (Z : zZ) (h0 : Nat) (p0 : Nat) (p1 : Int32) (S : zS) (Qp : zS → Prop) : Prop :=
  zk Z p0 2 ∧ ∃ b2, zR S p0 7 = some b2 ∧ wL_X6_sendPending_8 Z h0 p0 p1 b2 Qp (fun  (S20 : zS) => Qp S20) 0 S
set_option maxHeartbeats 4000000 in
set_option maxRecDepth 100000 in
theorem a_X6_sendPending (l : Launch) (D : va_G) (cy : Nat → ClassId) (Z : zZ) (S : zS) (sz : Nat) (h0 : Nat) (p0 : Nat) (p1 : Int32) (Qp : zS → Prop) (hw : w_X6_sendPending Z h0 p0 p1 S Qp) : zMv l yX6_sendPending wsX6_sendPending rm_X6_sendPending D cy Z S sz [.ref h0, .ref p0, .int p1] Qp := by
  unfold w_X6_sendPending at hw
  refine zMv_of (cc := cX6_sendPending) (maxL := 6) (rt := none) (by decide +kernel) rfl (Nat.le_of_ble_eq_true rfl) ?_
  intro p e s m args below meth c A C0 _
  refine zg_lv (lv' := [(0, .ref h0), (1, .ref p0), (2, .int p1)]) rfl ?_
  refine zg_aload_n (q := 1) C0 1 dX6_sendPending_0 rfl rfl ?_
  obtain ⟨hz1, hw⟩ := hw
  refine zg_get (q := 4) (T := TX2) (k := 7) C0 dX6_sendPending_1 hz1 (zF_2 cy hz1) rfl (by decide) hX_X6_sendPending_2 (zwm (i := 1) rfl) rfl rfl rfl ?_
  obtain ⟨b2, hb3, hw⟩ := hw
  refine zg_nn hb3 ?_
  refine zg_astore_n (q := 5) (lv' := [(3, .ref b2), (0, .ref h0), (1, .ref p0), (2, .int p1)]) C0 dX6_sendPending_4 (by decide) rfl rfl ?_
  refine zg_iconst (q := 6) C0 dX6_sendPending_5 zc_iconst_0 rfl ?_
  refine zg_istore (q := 8) (lv' := [(4, .int 0), (3, .ref b2), (0, .ref h0), (1, .ref p0), (2, .int p1)]) C0 dX6_sendPending_6 (by decide) rfl rfl ?_
  refine zg_sub [2, 3, 4, 1, 0] rfl ?_
  refine aL_X6_sendPending_8 C0 (fun  S20 hw => ?_) _ _ hw
  exact zg_vret C0 dX6_sendPending_75 rfl (Nat.le_refl 0) (Nat.le_refl 0) hw
-- X6_sendRequested
abbrev rm_X6_sendRequested : Room := { frames := 3, cells := 0, slots := 0, locals := 69 }
theorem hX_X6_sendRequested_2 : ∀ w ∈ u_ws RX2 TX2 13, w ∈ wsX6_sendRequested := by decide +kernel
theorem hX_X6_sendRequested_5 : ∀ w ∈ u_ws RX5 TX5 6, w ∈ wsX6_sendRequested := by decide +kernel
theorem hdV_X6_sendRequested : yX6_sendRequested.cls = RX6 ∧ yX6_sendRequested.cls ≠ "java/lang/invoke/MethodHandle" ∧ yX6_sendRequested.cls ≠ "java/lang/invoke/VarHandle" ∧ (parseMethodDescriptor yX6_sendRequested.desc).map (fun d => d.parameters.length) = some 2 := by decide +kernel
def wb_X6_sendRequested_8 (Z : zZ) (x0 : Nat) (x1 : Nat) (x2 : Int32) (x3 : Nat) (Qp : zS → Prop) (K : zS → Prop) (rec : Int32 → zS → Prop) (x4 : Int32) (S : zS) : Prop :=
  zk Z x3 5 ∧ (((zI S x3 5) < x4 → K S) ∧ (¬ (zI S x3 5) < x4 → ∃ b5, zQ Z x3 0 = some b5 ∧ zk Z b5 10 ∧ vp_in x4 (zN Z b5) ∧ (((zI S b5 x4.toNatClampNeg) = 0 → ∀ y9 : Int32, y9 = x4 + 1 → rec y9 S) ∧ (¬ (zI S b5 x4.toNatClampNeg) = 0 → zk Z x1 2 ∧ ∃ b11, zQ Z x1 4 = some b11 ∧ zk Z b11 11 ∧ vp_in x4 (zN Z b11) ∧ ((zR S b11 x4.toNatClampNeg = none → ∀ y21 : Int32, y21 = x4 + 1 → rec y21 S) ∧ (∀ b15, zR S b11 x4.toNatClampNeg = some b15 → zk Z x0 6 ∧ w_X6_giveTo Z x0 x2 x4 b15 S (fun (S18 : zS) => ∀ S19 : zS, S19 = zsI S18 b5 x4.toNatClampNeg 0 → ∀ y20 : Int32, y20 = x4 + 1 → rec y20 S19)))))))
def wL_X6_sendRequested_8 (Z : zZ) (x0 : Nat) (x1 : Nat) (x2 : Int32) (x3 : Nat) (Qp : zS → Prop) (K : zS → Prop) (x4 : Int32) (S : zS) : Prop := ∃ n, zit2 (wb_X6_sendRequested_8 Z x0 x1 x2 x3 Qp K) n x4 S
set_option maxHeartbeats 4000000 in
set_option maxRecDepth 100000 in
theorem ab_X6_sendRequested_8 {p : Program} {l : Launch} {e : Env} {s : State} {m : MethodId} {args : Array Value} {below : List Frame} {meth : Method} {c : Code} {D : va_G} {cy : Nat → ClassId} {A : Nat → Prop} {Q : State → Prop} {Z : zZ} (C0 : zC p s m args meth c cX6_sendRequested 5 wsX6_sendRequested RX6 D cy A none) {x0 : Nat} {x1 : Nat} {x2 : Int32} {x3 : Nat} {Qp : zS → Prop} {K : zS → Prop} (hK : ∀  S, K  S → zG p l e rm_X6_sendRequested s m args below meth c D cy A 5 0 0 Q Z S 65 [] []) {rec : Int32 → zS → Prop} (hrec : ∀ x4 S, rec x4 S → zG p l e rm_X6_sendRequested s m args below meth c D cy A 5 0 0 Q Z S 8 [(0, .ref x0), (1, .ref x1), (2, .int x2), (3, .ref x3), (4, .int x4)] []) {x4 : Int32} {S : zS} (hw : wb_X6_sendRequested_8 Z x0 x1 x2 x3 Qp K rec x4 S) : zG p l e rm_X6_sendRequested s m args below meth c D cy A 5 0 0 Q Z S 8 [(0, .ref x0), (1, .ref x1), (2, .int x2), (3, .ref x3), (4, .int x4)] [] := by
  unfold wb_X6_sendRequested_8 at hw
  refine zg_iload (q := 10) C0 4 dX6_sendRequested_8 rfl rfl ?_
  refine zg_aload_n (q := 11) C0 3 dX6_sendRequested_10 rfl rfl ?_
  obtain ⟨hz4, hw⟩ := hw
  refine zg_get (q := 14) (T := TX5) (k := 5) C0 dX6_sendRequested_11 hz4 (zF_5 cy hz4) rfl (by decide) hX_X6_sendRequested_5 (zwm (i := 2) rfl) rfl rfl rfl ?_
  refine zg_icmp_gt (q := 17) (tgt := 65) C0 dX6_sendRequested_14 rfl rfl (fun c24 => ?_) (fun c24 => ?_)
  · have hw := hw.1 c24
    refine zg_sub [] rfl ?_
    exact hK  _ hw
  · have hw := hw.2 c24
    refine zg_aload_n (q := 18) C0 3 dX6_sendRequested_17 rfl rfl ?_
    refine zg_get (q := 21) (T := TX5) (k := 0) C0 dX6_sendRequested_18 hz4 (zF_5 cy hz4) rfl (by decide) hX_X6_sendRequested_5 (zwm (i := 3) rfl) rfl rfl rfl ?_
    obtain ⟨b5, hb6, hw⟩ := hw
    refine zg_nn hb6 ?_
    refine zg_iload (q := 23) C0 4 dX6_sendRequested_21 rfl rfl ?_
    obtain ⟨hz7, hw⟩ := hw
    obtain ⟨hi8, hw⟩ := hw
    refine zg_zald (q := 24) C0 dX6_sendRequested_23 hz7 hi8 rfl ?_
    refine zg_if_eq (q := 27) (tgt := 59) C0 dX6_sendRequested_24 rfl rfl (fun c23 => ?_) (fun c23 => ?_)
    · have hw := hw.1 c23
      refine zg_iinc (q := 62) C0 4 dX6_sendRequested_59 rfl (by decide) zc_iconst_1 rfl (fun y9 ey9 => ?_)
      have hw := hw y9 ey9
      refine zg_lv (lv' := [(4, .int y9), (0, .ref x0), (1, .ref x1), (2, .int x2), (3, .ref x3)]) rfl ?_
      refine zg_goto (tgt := 8) C0 dX6_sendRequested_62 rfl ?_
      refine zg_sub [1, 2, 3, 4, 0] rfl ?_
      exact hrec _ _ hw
    · have hw := hw.2 c23
      refine zg_aload_n (q := 28) C0 1 dX6_sendRequested_27 rfl rfl ?_
      obtain ⟨hz10, hw⟩ := hw
      refine zg_get (q := 31) (T := TX2) (k := 4) C0 dX6_sendRequested_28 hz10 (zF_2 cy hz10) rfl (by decide) hX_X6_sendRequested_2 (zwm (i := 4) rfl) rfl rfl rfl ?_
      obtain ⟨b11, hb12, hw⟩ := hw
      refine zg_nn hb12 ?_
      refine zg_iload (q := 33) C0 4 dX6_sendRequested_31 rfl rfl ?_
      obtain ⟨hz13, hw⟩ := hw
      obtain ⟨hi14, hw⟩ := hw
      refine zg_aald_11 (q := 34) C0 dX6_sendRequested_33 hz13 hi14 rfl ?_
      refine zg_ifnull (q := 37) (tgt := 59) C0 dX6_sendRequested_34 rfl rfl (fun c22 => ?_) (fun b15 hb16 => ?_)
      · have hw := hw.1 c22
        refine zg_iinc (q := 62) C0 4 dX6_sendRequested_59 rfl (by decide) zc_iconst_1 rfl (fun y21 ey21 => ?_)
        have hw := hw y21 ey21
        refine zg_lv (lv' := [(4, .int y21), (0, .ref x0), (1, .ref x1), (2, .int x2), (3, .ref x3)]) rfl ?_
        refine zg_goto (tgt := 8) C0 dX6_sendRequested_62 rfl ?_
        refine zg_sub [1, 2, 3, 4, 0] rfl ?_
        exact hrec _ _ hw
      · have hw := hw.2 b15 hb16
        refine zg_aload_n (q := 38) C0 0 dX6_sendRequested_37 rfl rfl ?_
        refine zg_iload_n (q := 39) C0 2 dX6_sendRequested_38 rfl rfl ?_
        refine zg_iload (q := 41) C0 4 dX6_sendRequested_39 rfl rfl ?_
        refine zg_aload_n (q := 42) C0 1 dX6_sendRequested_41 rfl rfl ?_
        refine zg_get (q := 45) (T := TX2) (k := 4) C0 dX6_sendRequested_42 hz10 (zF_2 cy hz10) rfl (by decide) hX_X6_sendRequested_2 (zwm (i := 4) rfl) rfl rfl rfl ?_
        refine zg_nn hb12 ?_
        refine zg_iload (q := 47) C0 4 dX6_sendRequested_45 rfl rfl ?_
        refine zg_aald_11 (q := 48) C0 dX6_sendRequested_47 hz13 hi14 rfl ?_
        refine zg_nn hb16 ?_
        obtain ⟨hz17, hw⟩ := hw
        refine zg_callVv (q := 51) C0 [.int x2, .int x4, .ref b15] [] dX6_sendRequested_48 (fun sz => a_X6_giveTo l D cy Z S sz x0 x2 x4 b15 _ hw) rfl gX6_sendRequested_X6_giveTo hdV_X6_giveTo hz17 (zF_6 cy hz17) rfl rfl ⟨Nat.le_of_ble_eq_true rfl, Nat.le_of_ble_eq_true rfl⟩ (Nat.le_of_ble_eq_true rfl) ⟨Nat.zero_le _, Nat.zero_le _⟩ ⟨rfl, rfl⟩ rfl (fun S18 hw => ?_)
        refine zg_aload_n (q := 52) C0 3 dX6_sendRequested_51 rfl rfl ?_
        refine zg_get (q := 55) (T := TX5) (k := 0) C0 dX6_sendRequested_52 hz4 (zF_5 cy hz4) rfl (by decide) hX_X6_sendRequested_5 (zwm (i := 3) rfl) rfl rfl rfl ?_
        refine zg_nn hb6 ?_
        refine zg_iload (q := 57) C0 4 dX6_sendRequested_55 rfl rfl ?_
        refine zg_iconst (q := 58) C0 dX6_sendRequested_57 zc_iconst_0 rfl ?_
        refine zg_zast (q := 59) C0 dX6_sendRequested_58 hz7 hi8 (by decide) rfl (fun S19 eS19 => ?_)
        have hw := hw S19 eS19
        refine zg_iinc (q := 62) C0 4 dX6_sendRequested_59 rfl (by decide) zc_iconst_1 rfl (fun y20 ey20 => ?_)
        have hw := hw y20 ey20
        refine zg_lv (lv' := [(4, .int y20), (0, .ref x0), (1, .ref x1), (2, .int x2), (3, .ref x3)]) rfl ?_
        refine zg_goto (tgt := 8) C0 dX6_sendRequested_62 rfl ?_
        refine zg_sub [1, 2, 3, 4, 0] rfl ?_
        exact hrec _ _ hw
theorem aL_X6_sendRequested_8 {p : Program} {l : Launch} {e : Env} {s : State} {m : MethodId} {args : Array Value} {below : List Frame} {meth : Method} {c : Code} {D : va_G} {cy : Nat → ClassId} {A : Nat → Prop} {Q : State → Prop} {Z : zZ} (C0 : zC p s m args meth c cX6_sendRequested 5 wsX6_sendRequested RX6 D cy A none) {x0 : Nat} {x1 : Nat} {x2 : Int32} {x3 : Nat} {Qp : zS → Prop} {K : zS → Prop} (hK : ∀  S, K  S → zG p l e rm_X6_sendRequested s m args below meth c D cy A 5 0 0 Q Z S 65 [] []) : ∀ x4 S, wL_X6_sendRequested_8 Z x0 x1 x2 x3 Qp K x4 S → zG p l e rm_X6_sendRequested s m args below meth c D cy A 5 0 0 Q Z S 8 [(0, .ref x0), (1, .ref x1), (2, .int x2), (3, .ref x3), (4, .int x4)] [] := by
  intro x4 S hw
  obtain ⟨n, hw⟩ := hw
  induction n generalizing x4 S with
  | zero => exact hw.elim
  | succ n ih => exact ab_X6_sendRequested_8 C0 hK (fun x4 S hw => ih x4 S hw) hw
def w_X6_sendRequested (Z : zZ) (h0 : Nat) (p0 : Nat) (p1 : Int32) (S : zS) (Qp : zS → Prop) : Prop :=
  zk Z p0 2 ∧ ∃ b2, zR S p0 7 = some b2 ∧ wL_X6_sendRequested_8 Z h0 p0 p1 b2 Qp (fun  (S25 : zS) => Qp S25) 1 S
set_option maxHeartbeats 4000000 in
set_option maxRecDepth 100000 in
theorem a_X6_sendRequested (l : Launch) (D : va_G) (cy : Nat → ClassId) (Z : zZ) (S : zS) (sz : Nat) (h0 : Nat) (p0 : Nat) (p1 : Int32) (Qp : zS → Prop) (hw : w_X6_sendRequested Z h0 p0 p1 S Qp) : zMv l yX6_sendRequested wsX6_sendRequested rm_X6_sendRequested D cy Z S sz [.ref h0, .ref p0, .int p1] Qp := by
  unfold w_X6_sendRequested at hw
  refine zMv_of (cc := cX6_sendRequested) (maxL := 5) (rt := none) (by decide +kernel) rfl (Nat.le_of_ble_eq_true rfl) ?_
  intro p e s m args below meth c A C0 _
  refine zg_lv (lv' := [(0, .ref h0), (1, .ref p0), (2, .int p1)]) rfl ?_
  refine zg_aload_n (q := 1) C0 1 dX6_sendRequested_0 rfl rfl ?_
  obtain ⟨hz1, hw⟩ := hw
  refine zg_get (q := 4) (T := TX2) (k := 7) C0 dX6_sendRequested_1 hz1 (zF_2 cy hz1) rfl (by decide) hX_X6_sendRequested_2 (zwm (i := 1) rfl) rfl rfl rfl ?_
  obtain ⟨b2, hb3, hw⟩ := hw
  refine zg_nn hb3 ?_
  refine zg_astore_n (q := 5) (lv' := [(3, .ref b2), (0, .ref h0), (1, .ref p0), (2, .int p1)]) C0 dX6_sendRequested_4 (by decide) rfl rfl ?_
  refine zg_iconst (q := 6) C0 dX6_sendRequested_5 zc_iconst_1 rfl ?_
  refine zg_istore (q := 8) (lv' := [(4, .int 1), (3, .ref b2), (0, .ref h0), (1, .ref p0), (2, .int p1)]) C0 dX6_sendRequested_6 (by decide) rfl rfl ?_
  refine zg_sub [2, 3, 4, 1, 0] rfl ?_
  refine aL_X6_sendRequested_8 C0 (fun  S25 hw => ?_) _ _ hw
  exact zg_vret C0 dX6_sendRequested_65 rfl (Nat.le_refl 0) (Nat.le_refl 0) hw
-- X6_ofRing
abbrev rm_X6_ofRing : Room := { frames := 1, cells := 0, slots := 0, locals := 21 }
theorem hX_X6_ofRing_2 : ∀ w ∈ u_ws RX2 TX2 13, w ∈ wsX6_ofRing := by decide +kernel
theorem hX_X6_ofRing_6 : ∀ w ∈ u_ws RX6 TX6 4, w ∈ wsX6_ofRing := by decide +kernel
theorem hdV_X6_ofRing : yX6_ofRing.cls = RX6 ∧ yX6_ofRing.cls ≠ "java/lang/invoke/MethodHandle" ∧ yX6_ofRing.cls ≠ "java/lang/invoke/VarHandle" ∧ (parseMethodDescriptor yX6_ofRing.desc).map (fun d => d.parameters.length) = some 2 := by decide +kernel
def wb_X6_ofRing_16 (Z : zZ) (x1 : Nat) (x2 : Int32) (x4 : Nat) (x5 : Int32) (Qp : Int32 → zS → Prop) (K : Int32 → zS → Prop) (rec : Int32 → Int32 → zS → Prop) (x3 : Int32) (x6 : Int32) (S : zS) : Prop :=
  ((x5 ≤ x6 → K x3 S) ∧ (¬ x5 ≤ x6 → zk Z x4 12 ∧ vp_in x6 (zN Z x4) ∧ ∃ b8, zQ Z x4 x6.toNatClampNeg = some b8 ∧ zk Z b8 2 ∧ ∃ b11, zR S b8 7 = some b11 ∧ ((¬ some b11 = some x1 → ∀ y13 : Int32, y13 = x6 + 1 → rec x3 y13 S) ∧ (some b11 = some x1 → w_X6_isIn Z (zI S b8 0) x2 S (fun (v15 : Int32) (S14 : zS) => ((v15 = 0 → ∀ y16 : Int32, y16 = x6 + 1 → rec x3 y16 S14) ∧ (¬ v15 = 0 → ∀ y17 : Int32, y17 = x3 ||| (1 <<< ((zI S14 b8 0) &&& 31)) → ∀ y18 : Int32, y18 = x6 + 1 → rec y17 y18 S14)))))))
def wL_X6_ofRing_16 (Z : zZ) (x1 : Nat) (x2 : Int32) (x4 : Nat) (x5 : Int32) (Qp : Int32 → zS → Prop) (K : Int32 → zS → Prop) (x3 : Int32) (x6 : Int32) (S : zS) : Prop := ∃ n, zit3 (wb_X6_ofRing_16 Z x1 x2 x4 x5 Qp K) n x3 x6 S
set_option maxHeartbeats 4000000 in
set_option maxRecDepth 100000 in
theorem ab_X6_ofRing_16 {p : Program} {l : Launch} {e : Env} {s : State} {m : MethodId} {args : Array Value} {below : List Frame} {meth : Method} {c : Code} {D : va_G} {cy : Nat → ClassId} {A : Nat → Prop} {Q : State → Prop} {Z : zZ} (C0 : zC p s m args meth c cX6_ofRing 8 wsX6_ofRing RX6 D cy A (some .int)) {x1 : Nat} {x2 : Int32} {x4 : Nat} {x5 : Int32} {Qp : Int32 → zS → Prop} {K : Int32 → zS → Prop} (hK : ∀ x3 S, K x3 S → zG p l e rm_X6_ofRing s m args below meth c D cy A 8 0 0 Q Z S 67 [(3, .int x3)] []) {rec : Int32 → Int32 → zS → Prop} (hrec : ∀ x3 x6 S, rec x3 x6 S → zG p l e rm_X6_ofRing s m args below meth c D cy A 8 0 0 Q Z S 16 [(1, .ref x1), (2, .int x2), (3, .int x3), (4, .ref x4), (5, .int x5), (6, .int x6)] []) {x3 : Int32} {x6 : Int32} {S : zS} (hw : wb_X6_ofRing_16 Z x1 x2 x4 x5 Qp K rec x3 x6 S) : zG p l e rm_X6_ofRing s m args below meth c D cy A 8 0 0 Q Z S 16 [(1, .ref x1), (2, .int x2), (3, .int x3), (4, .ref x4), (5, .int x5), (6, .int x6)] [] := by
  unfold wb_X6_ofRing_16 at hw
  refine zg_iload (q := 18) C0 5 dX6_ofRing_16 rfl rfl ?_
  refine zg_iload (q := 20) C0 4 dX6_ofRing_18 rfl rfl ?_
  refine zg_icmp_ge (q := 23) (tgt := 67) C0 dX6_ofRing_20 rfl rfl (fun c21 => ?_) (fun c21 => ?_)
  · have hw := hw.1 c21
    refine zg_sub [2] rfl ?_
    exact hK _ _ hw
  · have hw := hw.2 c21
    refine zg_aload (q := 25) C0 3 dX6_ofRing_23 rfl rfl ?_
    refine zg_iload (q := 27) C0 5 dX6_ofRing_25 rfl rfl ?_
    obtain ⟨hz6, hw⟩ := hw
    obtain ⟨hi7, hw⟩ := hw
    refine zg_aald_12 (q := 28) C0 dX6_ofRing_27 hz6 hi7 rfl ?_
    obtain ⟨b8, hb9, hw⟩ := hw
    refine zg_nn hb9 ?_
    refine zg_astore (q := 30) (lv' := [(7, .ref b8), (1, .ref x1), (2, .int x2), (3, .int x3), (4, .ref x4), (5, .int x5), (6, .int x6)]) C0 dX6_ofRing_28 (by decide) rfl rfl ?_
    refine zg_aload (q := 32) C0 0 dX6_ofRing_30 rfl rfl ?_
    obtain ⟨hz10, hw⟩ := hw
    refine zg_get (q := 35) (T := TX2) (k := 7) C0 dX6_ofRing_32 hz10 (zF_2 cy hz10) rfl (by decide) hX_X6_ofRing_2 (zwm (i := 2) rfl) rfl rfl rfl ?_
    obtain ⟨b11, hb12, hw⟩ := hw
    refine zg_nn hb12 ?_
    refine zg_aload_n (q := 36) C0 1 dX6_ofRing_35 rfl rfl ?_
    refine zg_acmp_ne (a := some b11) (b := some x1) (q := 39) (tgt := 61) C0 dX6_ofRing_36 rfl rfl rfl rfl (fun c20 => ?_) (fun c20 => ?_)
    · have hw := hw.1 c20
      refine zg_iinc (q := 64) C0 6 dX6_ofRing_61 rfl (by decide) zc_iconst_1 rfl (fun y13 ey13 => ?_)
      have hw := hw y13 ey13
      refine zg_lv (lv' := [(6, .int y13), (7, .ref b8), (1, .ref x1), (2, .int x2), (3, .int x3), (4, .ref x4), (5, .int x5)]) rfl ?_
      refine zg_goto (tgt := 16) C0 dX6_ofRing_64 rfl ?_
      refine zg_sub [2, 3, 4, 5, 6, 0] rfl ?_
      exact hrec _ _ _ hw
    · have hw := hw.2 c20
      refine zg_aload (q := 41) C0 0 dX6_ofRing_39 rfl rfl ?_
      refine zg_get (q := 44) (T := TX2) (k := 0) C0 dX6_ofRing_41 hz10 (zF_2 cy hz10) rfl (by decide) hX_X6_ofRing_2 (zwm (i := 3) rfl) rfl rfl rfl ?_
      refine zg_iload_n (q := 45) C0 2 dX6_ofRing_44 rfl rfl ?_
      refine zg_callSi (q := 48) C0 [.int (zI S b8 0), .int x2] [] dX6_ofRing_45 (fun sz => a_X6_isIn l D cy Z S sz (zI S b8 0) x2 _ hw) rfl gX6_ofRing_X6_isIn hdS_X6_isIn rfl ⟨Nat.le_of_ble_eq_true rfl, Nat.le_of_ble_eq_true rfl⟩ (Nat.le_of_ble_eq_true rfl) ⟨Nat.zero_le _, Nat.zero_le _⟩ ⟨rfl, rfl⟩ rfl (fun v15 S14 hw => ?_)
      refine zg_if_eq (q := 51) (tgt := 61) C0 dX6_ofRing_48 rfl rfl (fun c19 => ?_) (fun c19 => ?_)
      · have hw := hw.1 c19
        refine zg_iinc (q := 64) C0 6 dX6_ofRing_61 rfl (by decide) zc_iconst_1 rfl (fun y16 ey16 => ?_)
        have hw := hw y16 ey16
        refine zg_lv (lv' := [(6, .int y16), (7, .ref b8), (1, .ref x1), (2, .int x2), (3, .int x3), (4, .ref x4), (5, .int x5)]) rfl ?_
        refine zg_goto (tgt := 16) C0 dX6_ofRing_64 rfl ?_
        refine zg_sub [2, 3, 4, 5, 6, 0] rfl ?_
        exact hrec _ _ _ hw
      · have hw := hw.2 c19
        refine zg_iload_n (q := 52) C0 3 dX6_ofRing_51 rfl rfl ?_
        refine zg_iconst (q := 53) C0 dX6_ofRing_52 zc_iconst_1 rfl ?_
        refine zg_aload (q := 55) C0 0 dX6_ofRing_53 rfl rfl ?_
        refine zg_get (q := 58) (T := TX2) (k := 0) C0 dX6_ofRing_55 hz10 (zF_2 cy hz10) rfl (by decide) hX_X6_ofRing_2 (zwm (i := 3) rfl) rfl rfl rfl ?_
        refine zg_ishl (q := 59) C0 dX6_ofRing_58 rfl ?_
        refine zg_ior (q := 60) C0 dX6_ofRing_59 rfl ?_
        refine zg_ni (fun y17 ey17 => ?_)
        have hw := hw y17 ey17
        refine zg_istore_n (q := 61) (lv' := [(3, .int y17), (7, .ref b8), (1, .ref x1), (2, .int x2), (4, .ref x4), (5, .int x5), (6, .int x6)]) C0 dX6_ofRing_60 (by decide) rfl rfl ?_
        refine zg_iinc (q := 64) C0 6 dX6_ofRing_61 rfl (by decide) zc_iconst_1 rfl (fun y18 ey18 => ?_)
        have hw := hw y18 ey18
        refine zg_lv (lv' := [(6, .int y18), (3, .int y17), (7, .ref b8), (1, .ref x1), (2, .int x2), (4, .ref x4), (5, .int x5)]) rfl ?_
        refine zg_goto (tgt := 16) C0 dX6_ofRing_64 rfl ?_
        refine zg_sub [3, 4, 1, 5, 6, 0] rfl ?_
        exact hrec _ _ _ hw
theorem aL_X6_ofRing_16 {p : Program} {l : Launch} {e : Env} {s : State} {m : MethodId} {args : Array Value} {below : List Frame} {meth : Method} {c : Code} {D : va_G} {cy : Nat → ClassId} {A : Nat → Prop} {Q : State → Prop} {Z : zZ} (C0 : zC p s m args meth c cX6_ofRing 8 wsX6_ofRing RX6 D cy A (some .int)) {x1 : Nat} {x2 : Int32} {x4 : Nat} {x5 : Int32} {Qp : Int32 → zS → Prop} {K : Int32 → zS → Prop} (hK : ∀ x3 S, K x3 S → zG p l e rm_X6_ofRing s m args below meth c D cy A 8 0 0 Q Z S 67 [(3, .int x3)] []) : ∀ x3 x6 S, wL_X6_ofRing_16 Z x1 x2 x4 x5 Qp K x3 x6 S → zG p l e rm_X6_ofRing s m args below meth c D cy A 8 0 0 Q Z S 16 [(1, .ref x1), (2, .int x2), (3, .int x3), (4, .ref x4), (5, .int x5), (6, .int x6)] [] := by
  intro x3 x6 S hw
  obtain ⟨n, hw⟩ := hw
  induction n generalizing x3 x6 S with
  | zero => exact hw.elim
  | succ n ih => exact ab_X6_ofRing_16 C0 hK (fun x3 x6 S hw => ih x3 x6 S hw) hw
def w_X6_ofRing (Z : zZ) (h0 : Nat) (p0 : Nat) (p1 : Int32) (S : zS) (Qp : Int32 → zS → Prop) : Prop :=
  zk Z h0 6 ∧ ∃ b2, zQ Z h0 1 = some b2 ∧ zk Z b2 12 ∧ ∀ y5 : Int32, y5 = nI (zN Z b2) → wL_X6_ofRing_16 Z p0 p1 b2 y5 Qp (fun (v23 : Int32) (S22 : zS) => Qp v23 S22) 0 0 S
set_option maxHeartbeats 4000000 in
set_option maxRecDepth 100000 in
theorem a_X6_ofRing (l : Launch) (D : va_G) (cy : Nat → ClassId) (Z : zZ) (S : zS) (sz : Nat) (h0 : Nat) (p0 : Nat) (p1 : Int32) (Qp : Int32 → zS → Prop) (hw : w_X6_ofRing Z h0 p0 p1 S Qp) : zMi l yX6_ofRing wsX6_ofRing rm_X6_ofRing D cy Z S sz [.ref h0, .ref p0, .int p1] Qp := by
  unfold w_X6_ofRing at hw
  refine zMi_of (cc := cX6_ofRing) (maxL := 8) (rt := (some .int)) (by decide +kernel) rfl (Nat.le_of_ble_eq_true rfl) ?_
  intro p e s m args below meth c A C0 _
  refine zg_lv (lv' := [(0, .ref h0), (1, .ref p0), (2, .int p1)]) rfl ?_
  refine zg_iconst (q := 1) C0 dX6_ofRing_0 zc_iconst_0 rfl ?_
  refine zg_istore_n (q := 2) (lv' := [(3, .int 0), (0, .ref h0), (1, .ref p0), (2, .int p1)]) C0 dX6_ofRing_1 (by decide) rfl rfl ?_
  refine zg_aload_n (q := 3) C0 1 dX6_ofRing_2 rfl rfl ?_
  obtain ⟨hz1, hw⟩ := hw
  refine zg_get (q := 6) (T := TX6) (k := 1) C0 dX6_ofRing_3 hz1 (zF_6 cy hz1) rfl (by decide) hX_X6_ofRing_6 (zwm (i := 1) rfl) rfl rfl rfl ?_
  obtain ⟨b2, hb3, hw⟩ := hw
  refine zg_nn hb3 ?_
  refine zg_astore (q := 8) (lv' := [(4, .ref b2), (3, .int 0), (0, .ref h0), (1, .ref p0), (2, .int p1)]) C0 dX6_ofRing_6 (by decide) rfl rfl ?_
  refine zg_aload (q := 10) C0 0 dX6_ofRing_8 rfl rfl ?_
  obtain ⟨hz4, hw⟩ := hw
  refine zg_alen_12 (q := 11) C0 dX6_ofRing_10 hz4 rfl ?_
  refine zg_ni (fun y5 ey5 => ?_)
  have hw := hw y5 ey5
  refine zg_istore (q := 13) (lv' := [(5, .int y5), (4, .ref b2), (3, .int 0), (0, .ref h0), (1, .ref p0), (2, .int p1)]) C0 dX6_ofRing_11 (by decide) rfl rfl ?_
  refine zg_iconst (q := 14) C0 dX6_ofRing_13 zc_iconst_0 rfl ?_
  refine zg_istore (q := 16) (lv' := [(6, .int 0), (5, .int y5), (4, .ref b2), (3, .int 0), (0, .ref h0), (1, .ref p0), (2, .int p1)]) C0 dX6_ofRing_14 (by decide) rfl rfl ?_
  refine zg_sub [5, 6, 3, 2, 1, 0] rfl ?_
  refine aL_X6_ofRing_16 C0 (fun v23 S22 hw => ?_) _ _ _ hw
  refine zg_iload_n (q := 68) C0 0 dX6_ofRing_67 rfl rfl ?_
  exact zg_iret C0 dX6_ofRing_68 rfl rfl (Nat.le_refl 0) (Nat.le_refl 0) hw
-- X6_unusedRing
abbrev rm_X6_unusedRing : Room := { frames := 2, cells := 0, slots := 0, locals := 48 }
theorem hX_X6_unusedRing_6 : ∀ w ∈ u_ws RX6 TX6 4, w ∈ wsX6_unusedRing := by decide +kernel
theorem hdV_X6_unusedRing : yX6_unusedRing.cls = RX6 ∧ yX6_unusedRing.cls ≠ "java/lang/invoke/MethodHandle" ∧ yX6_unusedRing.cls ≠ "java/lang/invoke/VarHandle" ∧ (parseMethodDescriptor yX6_unusedRing.desc).map (fun d => d.parameters.length) = some 0 := by decide +kernel
def wb_X6_unusedRing_29 (Z : zZ) (x0 : Nat) (x1 : Int32) (x3 : Nat) (x4 : Int32) (Qp : Option Nat → zS → Prop) (K : Nat → zS → Prop) (rec : Nat → Int32 → zS → Prop) (x2 : Nat) (x5 : Int32) (S : zS) : Prop :=
  ((x4 ≤ x5 → K x2 S) ∧ (¬ x4 ≤ x5 → zk Z x3 13 ∧ vp_in x5 (zN Z x3) ∧ ∃ b15, zQ Z x3 x5.toNatClampNeg = some b15 ∧ zk Z x0 6 ∧ w_X6_ofRing Z x0 b15 x1 S (fun (v19 : Int32) (S18 : zS) => ((¬ v19 = 0 → ∀ y20 : Int32, y20 = x5 + 1 → rec x2 y20 S18) ∧ (v19 = 0 → ∀ y21 : Int32, y21 = x5 + 1 → rec b15 y21 S18)))))
def wL_X6_unusedRing_29 (Z : zZ) (x0 : Nat) (x1 : Int32) (x3 : Nat) (x4 : Int32) (Qp : Option Nat → zS → Prop) (K : Nat → zS → Prop) (x2 : Nat) (x5 : Int32) (S : zS) : Prop := ∃ n, zit3 (wb_X6_unusedRing_29 Z x0 x1 x3 x4 Qp K) n x2 x5 S
set_option maxHeartbeats 4000000 in
set_option maxRecDepth 100000 in
theorem ab_X6_unusedRing_29 {p : Program} {l : Launch} {e : Env} {s : State} {m : MethodId} {args : Array Value} {below : List Frame} {meth : Method} {c : Code} {D : va_G} {cy : Nat → ClassId} {A : Nat → Prop} {Q : State → Prop} {Z : zZ} (C0 : zC p s m args meth c cX6_unusedRing 7 wsX6_unusedRing RX6 D cy A (some (.object "RingGroup$Ring"))) {x0 : Nat} {x1 : Int32} {x3 : Nat} {x4 : Int32} {Qp : Option Nat → zS → Prop} {K : Nat → zS → Prop} (hK : ∀ x2 S, K x2 S → zG p l e rm_X6_unusedRing s m args below meth c D cy A 7 0 0 Q Z S 61 [(2, .ref x2)] []) {rec : Nat → Int32 → zS → Prop} (hrec : ∀ x2 x5 S, rec x2 x5 S → zG p l e rm_X6_unusedRing s m args below meth c D cy A 7 0 0 Q Z S 29 [(0, .ref x0), (1, .int x1), (2, .ref x2), (3, .ref x3), (4, .int x4), (5, .int x5)] []) {x2 : Nat} {x5 : Int32} {S : zS} (hw : wb_X6_unusedRing_29 Z x0 x1 x3 x4 Qp K rec x2 x5 S) : zG p l e rm_X6_unusedRing s m args below meth c D cy A 7 0 0 Q Z S 29 [(0, .ref x0), (1, .int x1), (2, .ref x2), (3, .ref x3), (4, .int x4), (5, .int x5)] [] := by
  unfold wb_X6_unusedRing_29 at hw
  refine zg_iload (q := 31) C0 5 dX6_unusedRing_29 rfl rfl ?_
  refine zg_iload (q := 33) C0 4 dX6_unusedRing_31 rfl rfl ?_
  refine zg_icmp_ge (q := 36) (tgt := 61) C0 dX6_unusedRing_33 rfl rfl (fun c23 => ?_) (fun c23 => ?_)
  · have hw := hw.1 c23
    refine zg_sub [2] rfl ?_
    exact hK _ _ hw
  · have hw := hw.2 c23
    refine zg_aload_n (q := 37) C0 3 dX6_unusedRing_36 rfl rfl ?_
    refine zg_iload (q := 39) C0 5 dX6_unusedRing_37 rfl rfl ?_
    obtain ⟨hz13, hw⟩ := hw
    obtain ⟨hi14, hw⟩ := hw
    refine zg_aald_13 (q := 40) C0 dX6_unusedRing_39 hz13 hi14 rfl ?_
    obtain ⟨b15, hb16, hw⟩ := hw
    refine zg_nn hb16 ?_
    refine zg_astore (q := 42) (lv' := [(6, .ref b15), (0, .ref x0), (1, .int x1), (2, .ref x2), (3, .ref x3), (4, .int x4), (5, .int x5)]) C0 dX6_unusedRing_40 (by decide) rfl rfl ?_
    refine zg_aload_n (q := 43) C0 1 dX6_unusedRing_42 rfl rfl ?_
    refine zg_aload (q := 45) C0 0 dX6_unusedRing_43 rfl rfl ?_
    refine zg_iload_n (q := 46) C0 2 dX6_unusedRing_45 rfl rfl ?_
    obtain ⟨hz17, hw⟩ := hw
    refine zg_callVi (q := 49) C0 [.ref b15, .int x1] [] dX6_unusedRing_46 (fun sz => a_X6_ofRing l D cy Z S sz x0 b15 x1 _ hw) rfl gX6_unusedRing_X6_ofRing hdV_X6_ofRing hz17 (zF_6 cy hz17) rfl rfl ⟨Nat.le_of_ble_eq_true rfl, Nat.le_of_ble_eq_true rfl⟩ (Nat.le_of_ble_eq_true rfl) ⟨Nat.zero_le _, Nat.zero_le _⟩ ⟨rfl, rfl⟩ rfl (fun v19 S18 hw => ?_)
    refine zg_if_ne (q := 52) (tgt := 55) C0 dX6_unusedRing_49 rfl rfl (fun c22 => ?_) (fun c22 => ?_)
    · have hw := hw.1 c22
      refine zg_iinc (q := 58) C0 6 dX6_unusedRing_55 rfl (by decide) zc_iconst_1 rfl (fun y20 ey20 => ?_)
      have hw := hw y20 ey20
      refine zg_lv (lv' := [(5, .int y20), (6, .ref b15), (0, .ref x0), (1, .int x1), (2, .ref x2), (3, .ref x3), (4, .int x4)]) rfl ?_
      refine zg_goto (tgt := 29) C0 dX6_unusedRing_58 rfl ?_
      refine zg_sub [2, 3, 4, 5, 6, 0] rfl ?_
      exact hrec _ _ _ hw
    · have hw := hw.2 c22
      refine zg_aload (q := 54) C0 0 dX6_unusedRing_52 rfl rfl ?_
      refine zg_astore_n (q := 55) (lv' := [(2, .ref b15), (6, .ref b15), (0, .ref x0), (1, .int x1), (3, .ref x3), (4, .int x4), (5, .int x5)]) C0 dX6_unusedRing_54 (by decide) rfl rfl ?_
      refine zg_iinc (q := 58) C0 6 dX6_unusedRing_55 rfl (by decide) zc_iconst_1 rfl (fun y21 ey21 => ?_)
      have hw := hw y21 ey21
      refine zg_lv (lv' := [(5, .int y21), (2, .ref b15), (6, .ref b15), (0, .ref x0), (1, .int x1), (3, .ref x3), (4, .int x4)]) rfl ?_
      refine zg_goto (tgt := 29) C0 dX6_unusedRing_58 rfl ?_
      refine zg_sub [3, 4, 1, 5, 6, 0] rfl ?_
      exact hrec _ _ _ hw
theorem aL_X6_unusedRing_29 {p : Program} {l : Launch} {e : Env} {s : State} {m : MethodId} {args : Array Value} {below : List Frame} {meth : Method} {c : Code} {D : va_G} {cy : Nat → ClassId} {A : Nat → Prop} {Q : State → Prop} {Z : zZ} (C0 : zC p s m args meth c cX6_unusedRing 7 wsX6_unusedRing RX6 D cy A (some (.object "RingGroup$Ring"))) {x0 : Nat} {x1 : Int32} {x3 : Nat} {x4 : Int32} {Qp : Option Nat → zS → Prop} {K : Nat → zS → Prop} (hK : ∀ x2 S, K x2 S → zG p l e rm_X6_unusedRing s m args below meth c D cy A 7 0 0 Q Z S 61 [(2, .ref x2)] []) : ∀ x2 x5 S, wL_X6_unusedRing_29 Z x0 x1 x3 x4 Qp K x2 x5 S → zG p l e rm_X6_unusedRing s m args below meth c D cy A 7 0 0 Q Z S 29 [(0, .ref x0), (1, .int x1), (2, .ref x2), (3, .ref x3), (4, .int x4), (5, .int x5)] [] := by
  intro x2 x5 S hw
  obtain ⟨n, hw⟩ := hw
  induction n generalizing x2 x5 S with
  | zero => exact hw.elim
  | succ n ih => exact ab_X6_unusedRing_29 C0 hK (fun x2 x5 S hw => ih x2 x5 S hw) hw
def w_X6_unusedRing (Z : zZ) (h0 : Nat) (S : zS) (Qp : Option Nat → zS → Prop) : Prop :=
  zk Z h0 6 ∧ ∃ b2, zQ Z h0 1 = some b2 ∧ zk Z b2 12 ∧ ∀ y5 : Int32, y5 = (1 <<< ((nI (zN Z b2)) &&& 31)) - 1 → ∃ b6, zQ Z h0 2 = some b6 ∧ zk Z b6 13 ∧ vp_in 0 (zN Z b6) ∧ ∃ b10, zQ Z b6 (0 : Int32).toNatClampNeg = some b10 ∧ ∀ y12 : Int32, y12 = nI (zN Z b6) → wL_X6_unusedRing_29 Z h0 y5 b6 y12 Qp (fun (v25 : Nat) (S24 : zS) => Qp (some v25) S24) b10 0 S
set_option maxHeartbeats 4000000 in
set_option maxRecDepth 100000 in
theorem a_X6_unusedRing (l : Launch) (D : va_G) (cy : Nat → ClassId) (Z : zZ) (S : zS) (sz : Nat) (h0 : Nat) (Qp : Option Nat → zS → Prop) (hw : w_X6_unusedRing Z h0 S Qp) : zMq l yX6_unusedRing wsX6_unusedRing rm_X6_unusedRing D cy Z S sz [.ref h0] Qp := by
  unfold w_X6_unusedRing at hw
  refine zMq_of (cc := cX6_unusedRing) (maxL := 7) (rt := (some (.object "RingGroup$Ring"))) (by decide +kernel) rfl (Nat.le_of_ble_eq_true rfl) ?_
  intro p e s m args below meth c A C0 _
  refine zg_lv (lv' := [(0, .ref h0)]) rfl ?_
  refine zg_iconst (q := 1) C0 dX6_unusedRing_0 zc_iconst_1 rfl ?_
  refine zg_aload_n (q := 2) C0 0 dX6_unusedRing_1 rfl rfl ?_
  obtain ⟨hz1, hw⟩ := hw
  refine zg_get (q := 5) (T := TX6) (k := 1) C0 dX6_unusedRing_2 hz1 (zF_6 cy hz1) rfl (by decide) hX_X6_unusedRing_6 (zwm (i := 1) rfl) rfl rfl rfl ?_
  obtain ⟨b2, hb3, hw⟩ := hw
  refine zg_nn hb3 ?_
  obtain ⟨hz4, hw⟩ := hw
  refine zg_alen_12 (q := 6) C0 dX6_unusedRing_5 hz4 rfl ?_
  refine zg_ishl (q := 7) C0 dX6_unusedRing_6 rfl ?_
  refine zg_iconst (q := 8) C0 dX6_unusedRing_7 zc_iconst_1 rfl ?_
  refine zg_isub (q := 9) C0 dX6_unusedRing_8 rfl ?_
  refine zg_ni (fun y5 ey5 => ?_)
  have hw := hw y5 ey5
  refine zg_istore_n (q := 10) (lv' := [(1, .int y5), (0, .ref h0)]) C0 dX6_unusedRing_9 (by decide) rfl rfl ?_
  refine zg_aload_n (q := 11) C0 1 dX6_unusedRing_10 rfl rfl ?_
  refine zg_get (q := 14) (T := TX6) (k := 2) C0 dX6_unusedRing_11 hz1 (zF_6 cy hz1) rfl (by decide) hX_X6_unusedRing_6 (zwm (i := 2) rfl) rfl rfl rfl ?_
  obtain ⟨b6, hb7, hw⟩ := hw
  refine zg_nn hb7 ?_
  refine zg_iconst (q := 15) C0 dX6_unusedRing_14 zc_iconst_0 rfl ?_
  obtain ⟨hz8, hw⟩ := hw
  obtain ⟨hi9, hw⟩ := hw
  refine zg_aald_13 (q := 16) C0 dX6_unusedRing_15 hz8 hi9 rfl ?_
  obtain ⟨b10, hb11, hw⟩ := hw
  refine zg_nn hb11 ?_
  refine zg_astore_n (q := 17) (lv' := [(2, .ref b10), (1, .int y5), (0, .ref h0)]) C0 dX6_unusedRing_16 (by decide) rfl rfl ?_
  refine zg_aload_n (q := 18) C0 2 dX6_unusedRing_17 rfl rfl ?_
  refine zg_get (q := 21) (T := TX6) (k := 2) C0 dX6_unusedRing_18 hz1 (zF_6 cy hz1) rfl (by decide) hX_X6_unusedRing_6 (zwm (i := 2) rfl) rfl rfl rfl ?_
  refine zg_nn hb7 ?_
  refine zg_astore_n (q := 22) (lv' := [(3, .ref b6), (2, .ref b10), (1, .int y5), (0, .ref h0)]) C0 dX6_unusedRing_21 (by decide) rfl rfl ?_
  refine zg_aload_n (q := 23) C0 0 dX6_unusedRing_22 rfl rfl ?_
  refine zg_alen_13 (q := 24) C0 dX6_unusedRing_23 hz8 rfl ?_
  refine zg_ni (fun y12 ey12 => ?_)
  have hw := hw y12 ey12
  refine zg_istore (q := 26) (lv' := [(4, .int y12), (3, .ref b6), (2, .ref b10), (1, .int y5), (0, .ref h0)]) C0 dX6_unusedRing_24 (by decide) rfl rfl ?_
  refine zg_iconst (q := 27) C0 dX6_unusedRing_26 zc_iconst_0 rfl ?_
  refine zg_istore (q := 29) (lv' := [(5, .int 0), (4, .int y12), (3, .ref b6), (2, .ref b10), (1, .int y5), (0, .ref h0)]) C0 dX6_unusedRing_27 (by decide) rfl rfl ?_
  refine zg_sub [5, 4, 3, 2, 1, 0] rfl ?_
  refine aL_X6_unusedRing_29 C0 (fun v25 S24 hw => ?_) _ _ _ hw
  refine zg_aload_n (q := 62) C0 0 dX6_unusedRing_61 rfl rfl ?_
  exact zg_aret (v := (some v25)) C0 dX6_unusedRing_62 rfl rfl (Nat.le_refl 0) (Nat.le_refl 0) hw
-- X6_beginRing
abbrev rm_X6_beginRing : Room := { frames := 3, cells := 0, slots := 0, locals := 74 }
theorem hX_X6_beginRing_2 : ∀ w ∈ u_ws RX2 TX2 13, w ∈ wsX6_beginRing := by decide +kernel
theorem hX_X6_beginRing_6 : ∀ w ∈ u_ws RX6 TX6 4, w ∈ wsX6_beginRing := by decide +kernel
theorem hdV_X6_beginRing : yX6_beginRing.cls = RX6 ∧ yX6_beginRing.cls ≠ "java/lang/invoke/MethodHandle" ∧ yX6_beginRing.cls ≠ "java/lang/invoke/VarHandle" ∧ (parseMethodDescriptor yX6_beginRing.desc).map (fun d => d.parameters.length) = some 2 := by decide +kernel
def wb_X6_beginRing_16 (Z : zZ) (x0 : Nat) (x1 : Int32) (x2 : Int32) (x4 : Nat) (x5 : Int32) (Qp : Int32 → zS → Prop) (K : Int32 → zS → Prop) (rec : Int32 → Int32 → zS → Prop) (x3 : Int32) (x6 : Int32) (S : zS) : Prop :=
  ((x5 ≤ x6 → K x3 S) ∧ (¬ x5 ≤ x6 → zk Z x4 12 ∧ vp_in x6 (zN Z x4) ∧ ∃ b8, zQ Z x4 x6.toNatClampNeg = some b8 ∧ zk Z b8 2 ∧ w_X6_isIn Z (zI S b8 0) x1 S (fun (v12 : Int32) (S11 : zS) => ((v12 = 0 → ∀ y13 : Int32, y13 = x6 + 1 → rec x3 y13 S11) ∧ (¬ v12 = 0 → ∀ y14 : Int32, y14 = (if x3 < (zI S11 b8 8) then (zI S11 b8 8) else x3) → zk Z x0 6 ∧ ∃ b16, zQ Z x0 3 = some b16 ∧ w_X2_leaveRing Z b8 b16 S11 (fun (S18 : zS) => ∀ y19 : Int32, y19 = x6 + 1 → rec y14 y19 S18))))))
def wL_X6_beginRing_16 (Z : zZ) (x0 : Nat) (x1 : Int32) (x2 : Int32) (x4 : Nat) (x5 : Int32) (Qp : Int32 → zS → Prop) (K : Int32 → zS → Prop) (x3 : Int32) (x6 : Int32) (S : zS) : Prop := ∃ n, zit3 (wb_X6_beginRing_16 Z x0 x1 x2 x4 x5 Qp K) n x3 x6 S
set_option maxHeartbeats 4000000 in
set_option maxRecDepth 100000 in
theorem ab_X6_beginRing_16 {p : Program} {l : Launch} {e : Env} {s : State} {m : MethodId} {args : Array Value} {below : List Frame} {meth : Method} {c : Code} {D : va_G} {cy : Nat → ClassId} {A : Nat → Prop} {Q : State → Prop} {Z : zZ} (C0 : zC p s m args meth c cX6_beginRing 9 wsX6_beginRing RX6 D cy A (some .int)) {x0 : Nat} {x1 : Int32} {x2 : Int32} {x4 : Nat} {x5 : Int32} {Qp : Int32 → zS → Prop} {K : Int32 → zS → Prop} (hK : ∀ x3 S, K x3 S → zG p l e rm_X6_beginRing s m args below meth c D cy A 9 0 0 Q Z S 67 [(0, .ref x0), (1, .int x1), (2, .int x2), (3, .int x3)] []) {rec : Int32 → Int32 → zS → Prop} (hrec : ∀ x3 x6 S, rec x3 x6 S → zG p l e rm_X6_beginRing s m args below meth c D cy A 9 0 0 Q Z S 16 [(0, .ref x0), (1, .int x1), (2, .int x2), (3, .int x3), (4, .ref x4), (5, .int x5), (6, .int x6)] []) {x3 : Int32} {x6 : Int32} {S : zS} (hw : wb_X6_beginRing_16 Z x0 x1 x2 x4 x5 Qp K rec x3 x6 S) : zG p l e rm_X6_beginRing s m args below meth c D cy A 9 0 0 Q Z S 16 [(0, .ref x0), (1, .int x1), (2, .int x2), (3, .int x3), (4, .ref x4), (5, .int x5), (6, .int x6)] [] := by
  unfold wb_X6_beginRing_16 at hw
  refine zg_iload (q := 18) C0 6 dX6_beginRing_16 rfl rfl ?_
  refine zg_iload (q := 20) C0 5 dX6_beginRing_18 rfl rfl ?_
  refine zg_icmp_ge (q := 23) (tgt := 67) C0 dX6_beginRing_20 rfl rfl (fun c21 => ?_) (fun c21 => ?_)
  · have hw := hw.1 c21
    refine zg_sub [0, 1, 2, 3] rfl ?_
    exact hK _ _ hw
  · have hw := hw.2 c21
    refine zg_aload (q := 25) C0 4 dX6_beginRing_23 rfl rfl ?_
    refine zg_iload (q := 27) C0 6 dX6_beginRing_25 rfl rfl ?_
    obtain ⟨hz6, hw⟩ := hw
    obtain ⟨hi7, hw⟩ := hw
    refine zg_aald_12 (q := 28) C0 dX6_beginRing_27 hz6 hi7 rfl ?_
    obtain ⟨b8, hb9, hw⟩ := hw
    refine zg_nn hb9 ?_
    refine zg_astore (q := 30) (lv' := [(7, .ref b8), (0, .ref x0), (1, .int x1), (2, .int x2), (3, .int x3), (4, .ref x4), (5, .int x5), (6, .int x6)]) C0 dX6_beginRing_28 (by decide) rfl rfl ?_
    refine zg_aload (q := 32) C0 0 dX6_beginRing_30 rfl rfl ?_
    obtain ⟨hz10, hw⟩ := hw
    refine zg_get (q := 35) (T := TX2) (k := 0) C0 dX6_beginRing_32 hz10 (zF_2 cy hz10) rfl (by decide) hX_X6_beginRing_2 (zwm (i := 2) rfl) rfl rfl rfl ?_
    refine zg_iload_n (q := 36) C0 2 dX6_beginRing_35 rfl rfl ?_
    refine zg_callSi (q := 39) C0 [.int (zI S b8 0), .int x1] [] dX6_beginRing_36 (fun sz => a_X6_isIn l D cy Z S sz (zI S b8 0) x1 _ hw) rfl gX6_beginRing_X6_isIn hdS_X6_isIn rfl ⟨Nat.le_of_ble_eq_true rfl, Nat.le_of_ble_eq_true rfl⟩ (Nat.le_of_ble_eq_true rfl) ⟨Nat.zero_le _, Nat.zero_le _⟩ ⟨rfl, rfl⟩ rfl (fun v12 S11 hw => ?_)
    refine zg_if_eq (q := 42) (tgt := 61) C0 dX6_beginRing_39 rfl rfl (fun c20 => ?_) (fun c20 => ?_)
    · have hw := hw.1 c20
      refine zg_iinc (q := 64) C0 7 dX6_beginRing_61 rfl (by decide) zc_iconst_1 rfl (fun y13 ey13 => ?_)
      have hw := hw y13 ey13
      refine zg_lv (lv' := [(6, .int y13), (7, .ref b8), (0, .ref x0), (1, .int x1), (2, .int x2), (3, .int x3), (4, .ref x4), (5, .int x5)]) rfl ?_
      refine zg_goto (tgt := 16) C0 dX6_beginRing_64 rfl ?_
      refine zg_sub [2, 3, 4, 5, 6, 7, 0] rfl ?_
      exact hrec _ _ _ hw
    · have hw := hw.2 c20
      refine zg_iload_n (q := 43) C0 4 dX6_beginRing_42 rfl rfl ?_
      refine zg_aload (q := 45) C0 0 dX6_beginRing_43 rfl rfl ?_
      refine zg_get (q := 48) (T := TX2) (k := 8) C0 dX6_beginRing_45 hz10 (zF_2 cy hz10) rfl (by decide) hX_X6_beginRing_2 (zwm (i := 3) rfl) rfl rfl rfl ?_
      refine zg_mmax (q := 51) C0 dX6_beginRing_48 (zwm (i := 4) rfl) (zwm (i := 5) rfl) (zwm (i := 6) rfl) (zwm (i := 7) rfl) (Nat.le_of_ble_eq_true rfl) (Nat.le_of_ble_eq_true rfl) ⟨Nat.le_of_ble_eq_true rfl, Nat.le_of_ble_eq_true rfl⟩ rfl ?_
      refine zg_ni (fun y14 ey14 => ?_)
      have hw := hw y14 ey14
      refine zg_istore_n (q := 52) (lv' := [(3, .int y14), (7, .ref b8), (0, .ref x0), (1, .int x1), (2, .int x2), (4, .ref x4), (5, .int x5), (6, .int x6)]) C0 dX6_beginRing_51 (by decide) rfl rfl ?_
      refine zg_aload (q := 54) C0 1 dX6_beginRing_52 rfl rfl ?_
      refine zg_aload_n (q := 55) C0 2 dX6_beginRing_54 rfl rfl ?_
      obtain ⟨hz15, hw⟩ := hw
      refine zg_get (q := 58) (T := TX6) (k := 3) C0 dX6_beginRing_55 hz15 (zF_6 cy hz15) rfl (by decide) hX_X6_beginRing_6 (zwm (i := 8) rfl) rfl rfl rfl ?_
      obtain ⟨b16, hb17, hw⟩ := hw
      refine zg_nn hb17 ?_
      refine zg_callVv (q := 61) C0 [.ref b16] [] dX6_beginRing_58 (fun sz => a_X2_leaveRing l D cy Z S11 sz b8 b16 _ hw) rfl gX6_beginRing_X2_leaveRing hdV_X2_leaveRing hz10 (zF_2 cy hz10) rfl rfl ⟨Nat.le_of_ble_eq_true rfl, Nat.le_of_ble_eq_true rfl⟩ (Nat.le_of_ble_eq_true rfl) ⟨Nat.zero_le _, Nat.zero_le _⟩ ⟨rfl, rfl⟩ rfl (fun S18 hw => ?_)
      refine zg_iinc (q := 64) C0 7 dX6_beginRing_61 rfl (by decide) zc_iconst_1 rfl (fun y19 ey19 => ?_)
      have hw := hw y19 ey19
      refine zg_lv (lv' := [(6, .int y19), (3, .int y14), (7, .ref b8), (0, .ref x0), (1, .int x1), (2, .int x2), (4, .ref x4), (5, .int x5)]) rfl ?_
      refine zg_goto (tgt := 16) C0 dX6_beginRing_64 rfl ?_
      refine zg_sub [3, 4, 5, 1, 6, 7, 0] rfl ?_
      exact hrec _ _ _ hw
theorem aL_X6_beginRing_16 {p : Program} {l : Launch} {e : Env} {s : State} {m : MethodId} {args : Array Value} {below : List Frame} {meth : Method} {c : Code} {D : va_G} {cy : Nat → ClassId} {A : Nat → Prop} {Q : State → Prop} {Z : zZ} (C0 : zC p s m args meth c cX6_beginRing 9 wsX6_beginRing RX6 D cy A (some .int)) {x0 : Nat} {x1 : Int32} {x2 : Int32} {x4 : Nat} {x5 : Int32} {Qp : Int32 → zS → Prop} {K : Int32 → zS → Prop} (hK : ∀ x3 S, K x3 S → zG p l e rm_X6_beginRing s m args below meth c D cy A 9 0 0 Q Z S 67 [(0, .ref x0), (1, .int x1), (2, .int x2), (3, .int x3)] []) : ∀ x3 x6 S, wL_X6_beginRing_16 Z x0 x1 x2 x4 x5 Qp K x3 x6 S → zG p l e rm_X6_beginRing s m args below meth c D cy A 9 0 0 Q Z S 16 [(0, .ref x0), (1, .int x1), (2, .int x2), (3, .int x3), (4, .ref x4), (5, .int x5), (6, .int x6)] [] := by
  intro x3 x6 S hw
  obtain ⟨n, hw⟩ := hw
  induction n generalizing x3 x6 S with
  | zero => exact hw.elim
  | succ n ih => exact ab_X6_beginRing_16 C0 hK (fun x3 x6 S hw => ih x3 x6 S hw) hw
def wb_X6_beginRing_97 (Z : zZ) (x1 : Int32) (x2 : Int32) (x3 : Int32) (x4 : Nat) (x5 : Nat) (x6 : Int32) (Qp : Int32 → zS → Prop) (K : zS → Prop) (rec : Int32 → zS → Prop) (x7 : Int32) (S : zS) : Prop :=
  ((x6 ≤ x7 → K S) ∧ (¬ x6 ≤ x7 → zk Z x5 12 ∧ vp_in x7 (zN Z x5) ∧ ∃ b34, zQ Z x5 x7.toNatClampNeg = some b34 ∧ zk Z b34 2 ∧ w_X6_isIn Z (zI S b34 0) x1 S (fun (v38 : Int32) (S37 : zS) => ((v38 = 0 → ∀ y39 : Int32, y39 = x7 + 1 → rec y39 S37) ∧ (¬ v38 = 0 → w_X2_joinRing Z b34 x4 x2 S37 (fun (S40 : zS) => ∀ y41 : Int32, y41 = x7 + 1 → rec y41 S40))))))
def wL_X6_beginRing_97 (Z : zZ) (x1 : Int32) (x2 : Int32) (x3 : Int32) (x4 : Nat) (x5 : Nat) (x6 : Int32) (Qp : Int32 → zS → Prop) (K : zS → Prop) (x7 : Int32) (S : zS) : Prop := ∃ n, zit2 (wb_X6_beginRing_97 Z x1 x2 x3 x4 x5 x6 Qp K) n x7 S
set_option maxHeartbeats 4000000 in
set_option maxRecDepth 100000 in
theorem ab_X6_beginRing_97 {p : Program} {l : Launch} {e : Env} {s : State} {m : MethodId} {args : Array Value} {below : List Frame} {meth : Method} {c : Code} {D : va_G} {cy : Nat → ClassId} {A : Nat → Prop} {Q : State → Prop} {Z : zZ} (C0 : zC p s m args meth c cX6_beginRing 9 wsX6_beginRing RX6 D cy A (some .int)) {x1 : Int32} {x2 : Int32} {x3 : Int32} {x4 : Nat} {x5 : Nat} {x6 : Int32} {Qp : Int32 → zS → Prop} {K : zS → Prop} (hK : ∀  S, K  S → zG p l e rm_X6_beginRing s m args below meth c D cy A 9 0 0 Q Z S 137 [(3, .int x3)] []) {rec : Int32 → zS → Prop} (hrec : ∀ x7 S, rec x7 S → zG p l e rm_X6_beginRing s m args below meth c D cy A 9 0 0 Q Z S 97 [(1, .int x1), (2, .int x2), (3, .int x3), (4, .ref x4), (5, .ref x5), (6, .int x6), (7, .int x7)] []) {x7 : Int32} {S : zS} (hw : wb_X6_beginRing_97 Z x1 x2 x3 x4 x5 x6 Qp K rec x7 S) : zG p l e rm_X6_beginRing s m args below meth c D cy A 9 0 0 Q Z S 97 [(1, .int x1), (2, .int x2), (3, .int x3), (4, .ref x4), (5, .ref x5), (6, .int x6), (7, .int x7)] [] := by
  unfold wb_X6_beginRing_97 at hw
  refine zg_iload (q := 99) C0 6 dX6_beginRing_97 rfl rfl ?_
  refine zg_iload (q := 101) C0 5 dX6_beginRing_99 rfl rfl ?_
  refine zg_icmp_ge (q := 104) (tgt := 137) C0 dX6_beginRing_101 rfl rfl (fun c43 => ?_) (fun c43 => ?_)
  · have hw := hw.1 c43
    refine zg_sub [2] rfl ?_
    exact hK  _ hw
  · have hw := hw.2 c43
    refine zg_aload (q := 106) C0 4 dX6_beginRing_104 rfl rfl ?_
    refine zg_iload (q := 108) C0 6 dX6_beginRing_106 rfl rfl ?_
    obtain ⟨hz32, hw⟩ := hw
    obtain ⟨hi33, hw⟩ := hw
    refine zg_aald_12 (q := 109) C0 dX6_beginRing_108 hz32 hi33 rfl ?_
    obtain ⟨b34, hb35, hw⟩ := hw
    refine zg_nn hb35 ?_
    refine zg_astore (q := 111) (lv' := [(8, .ref b34), (1, .int x1), (2, .int x2), (3, .int x3), (4, .ref x4), (5, .ref x5), (6, .int x6), (7, .int x7)]) C0 dX6_beginRing_109 (by decide) rfl rfl ?_
    refine zg_aload (q := 113) C0 0 dX6_beginRing_111 rfl rfl ?_
    obtain ⟨hz36, hw⟩ := hw
    refine zg_get (q := 116) (T := TX2) (k := 0) C0 dX6_beginRing_113 hz36 (zF_2 cy hz36) rfl (by decide) hX_X6_beginRing_2 (zwm (i := 2) rfl) rfl rfl rfl ?_
    refine zg_iload_n (q := 117) C0 1 dX6_beginRing_116 rfl rfl ?_
    refine zg_callSi (q := 120) C0 [.int (zI S b34 0), .int x1] [] dX6_beginRing_117 (fun sz => a_X6_isIn l D cy Z S sz (zI S b34 0) x1 _ hw) rfl gX6_beginRing_X6_isIn hdS_X6_isIn rfl ⟨Nat.le_of_ble_eq_true rfl, Nat.le_of_ble_eq_true rfl⟩ (Nat.le_of_ble_eq_true rfl) ⟨Nat.zero_le _, Nat.zero_le _⟩ ⟨rfl, rfl⟩ rfl (fun v38 S37 hw => ?_)
    refine zg_if_eq (q := 123) (tgt := 131) C0 dX6_beginRing_120 rfl rfl (fun c42 => ?_) (fun c42 => ?_)
    · have hw := hw.1 c42
      refine zg_iinc (q := 134) C0 7 dX6_beginRing_131 rfl (by decide) zc_iconst_1 rfl (fun y39 ey39 => ?_)
      have hw := hw y39 ey39
      refine zg_lv (lv' := [(7, .int y39), (8, .ref b34), (1, .int x1), (2, .int x2), (3, .int x3), (4, .ref x4), (5, .ref x5), (6, .int x6)]) rfl ?_
      refine zg_goto (tgt := 97) C0 dX6_beginRing_134 rfl ?_
      refine zg_sub [2, 3, 4, 5, 6, 7, 0] rfl ?_
      exact hrec _ _ hw
    · have hw := hw.2 c42
      refine zg_aload (q := 125) C0 0 dX6_beginRing_123 rfl rfl ?_
      refine zg_aload (q := 127) C0 4 dX6_beginRing_125 rfl rfl ?_
      refine zg_iload_n (q := 128) C0 2 dX6_beginRing_127 rfl rfl ?_
      refine zg_callVv (q := 131) C0 [.ref x4, .int x2] [] dX6_beginRing_128 (fun sz => a_X2_joinRing l D cy Z S37 sz b34 x4 x2 _ hw) rfl gX6_beginRing_X2_joinRing hdV_X2_joinRing hz36 (zF_2 cy hz36) rfl rfl ⟨Nat.le_of_ble_eq_true rfl, Nat.le_of_ble_eq_true rfl⟩ (Nat.le_of_ble_eq_true rfl) ⟨Nat.zero_le _, Nat.zero_le _⟩ ⟨rfl, rfl⟩ rfl (fun S40 hw => ?_)
      refine zg_iinc (q := 134) C0 7 dX6_beginRing_131 rfl (by decide) zc_iconst_1 rfl (fun y41 ey41 => ?_)
      have hw := hw y41 ey41
      refine zg_lv (lv' := [(7, .int y41), (8, .ref b34), (1, .int x1), (2, .int x2), (3, .int x3), (4, .ref x4), (5, .ref x5), (6, .int x6)]) rfl ?_
      refine zg_goto (tgt := 97) C0 dX6_beginRing_134 rfl ?_
      refine zg_sub [2, 3, 4, 5, 6, 7, 0] rfl ?_
      exact hrec _ _ hw
theorem aL_X6_beginRing_97 {p : Program} {l : Launch} {e : Env} {s : State} {m : MethodId} {args : Array Value} {below : List Frame} {meth : Method} {c : Code} {D : va_G} {cy : Nat → ClassId} {A : Nat → Prop} {Q : State → Prop} {Z : zZ} (C0 : zC p s m args meth c cX6_beginRing 9 wsX6_beginRing RX6 D cy A (some .int)) {x1 : Int32} {x2 : Int32} {x3 : Int32} {x4 : Nat} {x5 : Nat} {x6 : Int32} {Qp : Int32 → zS → Prop} {K : zS → Prop} (hK : ∀  S, K  S → zG p l e rm_X6_beginRing s m args below meth c D cy A 9 0 0 Q Z S 137 [(3, .int x3)] []) : ∀ x7 S, wL_X6_beginRing_97 Z x1 x2 x3 x4 x5 x6 Qp K x7 S → zG p l e rm_X6_beginRing s m args below meth c D cy A 9 0 0 Q Z S 97 [(1, .int x1), (2, .int x2), (3, .int x3), (4, .ref x4), (5, .ref x5), (6, .int x6), (7, .int x7)] [] := by
  intro x7 S hw
  obtain ⟨n, hw⟩ := hw
  induction n generalizing x7 S with
  | zero => exact hw.elim
  | succ n ih => exact ab_X6_beginRing_97 C0 hK (fun x7 S hw => ih x7 S hw) hw
def w_X6_beginRing (Z : zZ) (h0 : Nat) (p0 : Int32) (p1 : Int32) (S : zS) (Qp : Int32 → zS → Prop) : Prop :=
  zk Z h0 6 ∧ ∃ b2, zQ Z h0 1 = some b2 ∧ zk Z b2 12 ∧ ∀ y5 : Int32, y5 = nI (zN Z b2) → wL_X6_beginRing_16 Z h0 p0 p1 b2 y5 Qp (fun (v23 : Int32) (S22 : zS) => ∀ y24 : Int32, y24 = v23 + 1 → w_X6_unusedRing Z h0 S22 (fun (r26 : Option Nat) (S25 : zS) => ∃ b27, r26 = some b27 ∧ zk Z b27 5 ∧ w_X5_begin Z b27 y24 p0 S25 (fun (S30 : zS) => ∀ y31 : Int32, y31 = nI (zN Z b2) → wL_X6_beginRing_97 Z p0 p1 y24 b27 b2 y31 Qp (fun  (S44 : zS) => Qp y24 S44) 0 S30))) 0 0 S
set_option maxHeartbeats 4000000 in
set_option maxRecDepth 100000 in
theorem a_X6_beginRing (l : Launch) (D : va_G) (cy : Nat → ClassId) (Z : zZ) (S : zS) (sz : Nat) (h0 : Nat) (p0 : Int32) (p1 : Int32) (Qp : Int32 → zS → Prop) (hw : w_X6_beginRing Z h0 p0 p1 S Qp) : zMi l yX6_beginRing wsX6_beginRing rm_X6_beginRing D cy Z S sz [.ref h0, .int p0, .int p1] Qp := by
  unfold w_X6_beginRing at hw
  refine zMi_of (cc := cX6_beginRing) (maxL := 9) (rt := (some .int)) (by decide +kernel) rfl (Nat.le_of_ble_eq_true rfl) ?_
  intro p e s m args below meth c A C0 _
  refine zg_lv (lv' := [(0, .ref h0), (1, .int p0), (2, .int p1)]) rfl ?_
  refine zg_iconst (q := 1) C0 dX6_beginRing_0 zc_iconst_0 rfl ?_
  refine zg_istore_n (q := 2) (lv' := [(3, .int 0), (0, .ref h0), (1, .int p0), (2, .int p1)]) C0 dX6_beginRing_1 (by decide) rfl rfl ?_
  refine zg_aload_n (q := 3) C0 1 dX6_beginRing_2 rfl rfl ?_
  obtain ⟨hz1, hw⟩ := hw
  refine zg_get (q := 6) (T := TX6) (k := 1) C0 dX6_beginRing_3 hz1 (zF_6 cy hz1) rfl (by decide) hX_X6_beginRing_6 (zwm (i := 1) rfl) rfl rfl rfl ?_
  obtain ⟨b2, hb3, hw⟩ := hw
  refine zg_nn hb3 ?_
  refine zg_astore (q := 8) (lv' := [(4, .ref b2), (3, .int 0), (0, .ref h0), (1, .int p0), (2, .int p1)]) C0 dX6_beginRing_6 (by decide) rfl rfl ?_
  refine zg_aload (q := 10) C0 0 dX6_beginRing_8 rfl rfl ?_
  obtain ⟨hz4, hw⟩ := hw
  refine zg_alen_12 (q := 11) C0 dX6_beginRing_10 hz4 rfl ?_
  refine zg_ni (fun y5 ey5 => ?_)
  have hw := hw y5 ey5
  refine zg_istore (q := 13) (lv' := [(5, .int y5), (4, .ref b2), (3, .int 0), (0, .ref h0), (1, .int p0), (2, .int p1)]) C0 dX6_beginRing_11 (by decide) rfl rfl ?_
  refine zg_iconst (q := 14) C0 dX6_beginRing_13 zc_iconst_0 rfl ?_
  refine zg_istore (q := 16) (lv' := [(6, .int 0), (5, .int y5), (4, .ref b2), (3, .int 0), (0, .ref h0), (1, .int p0), (2, .int p1)]) C0 dX6_beginRing_14 (by decide) rfl rfl ?_
  refine zg_sub [4, 5, 6, 3, 2, 1, 0] rfl ?_
  refine aL_X6_beginRing_16 C0 (fun v23 S22 hw => ?_) _ _ _ hw
  refine zg_iinc (q := 70) C0 3 dX6_beginRing_67 rfl (by decide) zc_iconst_1 rfl (fun y24 ey24 => ?_)
  have hw := hw y24 ey24
  refine zg_lv (lv' := [(3, .int y24), (0, .ref h0), (1, .int p0), (2, .int p1)]) rfl ?_
  refine zg_aload_n (q := 71) C0 1 dX6_beginRing_70 rfl rfl ?_
  refine zg_callVq (q := 74) C0 [] [] dX6_beginRing_71 (fun sz => a_X6_unusedRing l D cy Z S22 sz h0 _ hw) rfl gX6_beginRing_X6_unusedRing hdV_X6_unusedRing hz1 (zF_6 cy hz1) rfl rfl ⟨Nat.le_of_ble_eq_true rfl, Nat.le_of_ble_eq_true rfl⟩ (Nat.le_of_ble_eq_true rfl) ⟨Nat.zero_le _, Nat.zero_le _⟩ ⟨rfl, rfl⟩ rfl (fun r26 S25 hw => ?_)
  obtain ⟨b27, hb28, hw⟩ := hw
  refine zg_nn hb28 ?_
  refine zg_astore (q := 76) (lv' := [(4, .ref b27), (3, .int y24), (0, .ref h0), (1, .int p0), (2, .int p1)]) C0 dX6_beginRing_74 (by decide) rfl rfl ?_
  refine zg_aload (q := 78) C0 0 dX6_beginRing_76 rfl rfl ?_
  refine zg_iload_n (q := 79) C0 1 dX6_beginRing_78 rfl rfl ?_
  refine zg_iload_n (q := 80) C0 3 dX6_beginRing_79 rfl rfl ?_
  obtain ⟨hz29, hw⟩ := hw
  refine zg_callVv (q := 83) C0 [.int y24, .int p0] [] dX6_beginRing_80 (fun sz => a_X5_begin l D cy Z S25 sz b27 y24 p0 _ hw) rfl gX6_beginRing_X5_begin hdV_X5_begin hz29 (zF_5 cy hz29) rfl rfl ⟨Nat.le_of_ble_eq_true rfl, Nat.le_of_ble_eq_true rfl⟩ (Nat.le_of_ble_eq_true rfl) ⟨Nat.zero_le _, Nat.zero_le _⟩ ⟨rfl, rfl⟩ rfl (fun S30 hw => ?_)
  refine zg_aload_n (q := 84) C0 2 dX6_beginRing_83 rfl rfl ?_
  refine zg_get (q := 87) (T := TX6) (k := 1) C0 dX6_beginRing_84 hz1 (zF_6 cy hz1) rfl (by decide) hX_X6_beginRing_6 (zwm (i := 1) rfl) rfl rfl rfl ?_
  refine zg_nn hb3 ?_
  refine zg_astore (q := 89) (lv' := [(5, .ref b2), (4, .ref b27), (3, .int y24), (0, .ref h0), (1, .int p0), (2, .int p1)]) C0 dX6_beginRing_87 (by decide) rfl rfl ?_
  refine zg_aload (q := 91) C0 0 dX6_beginRing_89 rfl rfl ?_
  refine zg_alen_12 (q := 92) C0 dX6_beginRing_91 hz4 rfl ?_
  refine zg_ni (fun y31 ey31 => ?_)
  have hw := hw y31 ey31
  refine zg_istore (q := 94) (lv' := [(6, .int y31), (5, .ref b2), (4, .ref b27), (3, .int y24), (0, .ref h0), (1, .int p0), (2, .int p1)]) C0 dX6_beginRing_92 (by decide) rfl rfl ?_
  refine zg_iconst (q := 95) C0 dX6_beginRing_94 zc_iconst_0 rfl ?_
  refine zg_istore (q := 97) (lv' := [(7, .int 0), (6, .int y31), (5, .ref b2), (4, .ref b27), (3, .int y24), (0, .ref h0), (1, .int p0), (2, .int p1)]) C0 dX6_beginRing_95 (by decide) rfl rfl ?_
  refine zg_sub [6, 7, 4, 3, 2, 1, 0] rfl ?_
  refine aL_X6_beginRing_97 C0 (fun  S44 hw => ?_) _ _ hw
  refine zg_iload_n (q := 138) C0 0 dX6_beginRing_137 rfl rfl ?_
  exact zg_iret C0 dX6_beginRing_138 rfl rfl (Nat.le_refl 0) (Nat.le_refl 0) hw
-- X6_keptByOne
abbrev rm_X6_keptByOne : Room := { frames := 1, cells := 0, slots := 0, locals := 21 }
theorem hX_X6_keptByOne_2 : ∀ w ∈ u_ws RX2 TX2 13, w ∈ wsX6_keptByOne := by decide +kernel
theorem hX_X6_keptByOne_4 : ∀ w ∈ u_ws RX4 TX4 5, w ∈ wsX6_keptByOne := by decide +kernel
theorem hX_X6_keptByOne_6 : ∀ w ∈ u_ws RX6 TX6 4, w ∈ wsX6_keptByOne := by decide +kernel
theorem hdV_X6_keptByOne : yX6_keptByOne.cls = RX6 ∧ yX6_keptByOne.cls ≠ "java/lang/invoke/MethodHandle" ∧ yX6_keptByOne.cls ≠ "java/lang/invoke/VarHandle" ∧ (parseMethodDescriptor yX6_keptByOne.desc).map (fun d => d.parameters.length) = some 3 := by decide +kernel
def wb_X6_keptByOne_14 (Z : zZ) (x1 : Int32) (x2 : Int32) (x3 : Int32) (x4 : Nat) (x5 : Int32) (Qp : Option Nat → zS → Prop) (K : zS → Prop) (rec : Int32 → zS → Prop) (x6 : Int32) (S : zS) : Prop :=
  ((x5 ≤ x6 → K S) ∧ (¬ x5 ≤ x6 → zk Z x4 12 ∧ vp_in x6 (zN Z x4) ∧ ∃ b8, zQ Z x4 x6.toNatClampNeg = some b8 ∧ zk Z b8 2 ∧ w_X6_isIn Z (zI S b8 0) x1 S (fun (v12 : Int32) (S11 : zS) => ((v12 = 0 → ∀ y13 : Int32, y13 = x6 + 1 → rec y13 S11) ∧ (¬ v12 = 0 → ((¬ (zI S11 b8 9) = x2 → ∀ y14 : Int32, y14 = x6 + 1 → rec y14 S11) ∧ ((zI S11 b8 9) = x2 → ∃ b15, zQ Z b8 2 = some b15 ∧ zk Z b15 4 ∧ ∃ b18, zQ Z b15 1 = some b18 ∧ zk Z b18 11 ∧ vp_in x3 (zN Z b18) ∧ ((zR S11 b18 x3.toNatClampNeg = none → ∀ y24 : Int32, y24 = x6 + 1 → rec y24 S11) ∧ (∀ b22, zR S11 b18 x3.toNatClampNeg = some b22 → Qp (zR S11 b18 x3.toNatClampNeg) S11)))))))))
def wL_X6_keptByOne_14 (Z : zZ) (x1 : Int32) (x2 : Int32) (x3 : Int32) (x4 : Nat) (x5 : Int32) (Qp : Option Nat → zS → Prop) (K : zS → Prop) (x6 : Int32) (S : zS) : Prop := ∃ n, zit2 (wb_X6_keptByOne_14 Z x1 x2 x3 x4 x5 Qp K) n x6 S
set_option maxHeartbeats 4000000 in
set_option maxRecDepth 100000 in
theorem ab_X6_keptByOne_14 {p : Program} {l : Launch} {e : Env} {s : State} {m : MethodId} {args : Array Value} {below : List Frame} {meth : Method} {c : Code} {D : va_G} {cy : Nat → ClassId} {A : Nat → Prop} {Z : zZ} (C0 : zC p s m args meth c cX6_keptByOne 8 wsX6_keptByOne RX6 D cy A (some (.object "RingGroup$Message"))) {x1 : Int32} {x2 : Int32} {x3 : Int32} {x4 : Nat} {x5 : Int32} {Qp : Option Nat → zS → Prop} {K : zS → Prop} (hK : ∀  S, K  S → zG p l e rm_X6_keptByOne s m args below meth c D cy A 8 0 0 (zQq below D cy A Z Qp args s 0 0) Z S 79 [] []) {rec : Int32 → zS → Prop} (hrec : ∀ x6 S, rec x6 S → zG p l e rm_X6_keptByOne s m args below meth c D cy A 8 0 0 (zQq below D cy A Z Qp args s 0 0) Z S 14 [(1, .int x1), (2, .int x2), (3, .int x3), (4, .ref x4), (5, .int x5), (6, .int x6)] []) {x6 : Int32} {S : zS} (hw : wb_X6_keptByOne_14 Z x1 x2 x3 x4 x5 Qp K rec x6 S) : zG p l e rm_X6_keptByOne s m args below meth c D cy A 8 0 0 (zQq below D cy A Z Qp args s 0 0) Z S 14 [(1, .int x1), (2, .int x2), (3, .int x3), (4, .ref x4), (5, .int x5), (6, .int x6)] [] := by
  unfold wb_X6_keptByOne_14 at hw
  refine zg_iload (q := 16) C0 5 dX6_keptByOne_14 rfl rfl ?_
  refine zg_iload (q := 18) C0 4 dX6_keptByOne_16 rfl rfl ?_
  refine zg_icmp_ge (q := 21) (tgt := 79) C0 dX6_keptByOne_18 rfl rfl (fun c28 => ?_) (fun c28 => ?_)
  · have hw := hw.1 c28
    refine zg_sub [] rfl ?_
    exact hK  _ hw
  · have hw := hw.2 c28
    refine zg_aload (q := 23) C0 3 dX6_keptByOne_21 rfl rfl ?_
    refine zg_iload (q := 25) C0 5 dX6_keptByOne_23 rfl rfl ?_
    obtain ⟨hz6, hw⟩ := hw
    obtain ⟨hi7, hw⟩ := hw
    refine zg_aald_12 (q := 26) C0 dX6_keptByOne_25 hz6 hi7 rfl ?_
    obtain ⟨b8, hb9, hw⟩ := hw
    refine zg_nn hb9 ?_
    refine zg_astore (q := 28) (lv' := [(7, .ref b8), (1, .int x1), (2, .int x2), (3, .int x3), (4, .ref x4), (5, .int x5), (6, .int x6)]) C0 dX6_keptByOne_26 (by decide) rfl rfl ?_
    refine zg_aload (q := 30) C0 0 dX6_keptByOne_28 rfl rfl ?_
    obtain ⟨hz10, hw⟩ := hw
    refine zg_get (q := 33) (T := TX2) (k := 0) C0 dX6_keptByOne_30 hz10 (zF_2 cy hz10) rfl (by decide) hX_X6_keptByOne_2 (zwm (i := 2) rfl) rfl rfl rfl ?_
    refine zg_iload_n (q := 34) C0 1 dX6_keptByOne_33 rfl rfl ?_
    refine zg_callSi (q := 37) C0 [.int (zI S b8 0), .int x1] [] dX6_keptByOne_34 (fun sz => a_X6_isIn l D cy Z S sz (zI S b8 0) x1 _ hw) rfl gX6_keptByOne_X6_isIn hdS_X6_isIn rfl ⟨Nat.le_of_ble_eq_true rfl, Nat.le_of_ble_eq_true rfl⟩ (Nat.le_of_ble_eq_true rfl) ⟨Nat.zero_le _, Nat.zero_le _⟩ ⟨rfl, rfl⟩ rfl (fun v12 S11 hw => ?_)
    refine zg_if_eq (q := 40) (tgt := 73) C0 dX6_keptByOne_37 rfl rfl (fun c27 => ?_) (fun c27 => ?_)
    · have hw := hw.1 c27
      refine zg_iinc (q := 76) C0 6 dX6_keptByOne_73 rfl (by decide) zc_iconst_1 rfl (fun y13 ey13 => ?_)
      have hw := hw y13 ey13
      refine zg_lv (lv' := [(6, .int y13), (7, .ref b8), (1, .int x1), (2, .int x2), (3, .int x3), (4, .ref x4), (5, .int x5)]) rfl ?_
      refine zg_goto (tgt := 14) C0 dX6_keptByOne_76 rfl ?_
      refine zg_sub [2, 3, 4, 5, 6, 0] rfl ?_
      exact hrec _ _ hw
    · have hw := hw.2 c27
      refine zg_aload (q := 42) C0 0 dX6_keptByOne_40 rfl rfl ?_
      refine zg_get (q := 45) (T := TX2) (k := 9) C0 dX6_keptByOne_42 hz10 (zF_2 cy hz10) rfl (by decide) hX_X6_keptByOne_2 (zwm (i := 3) rfl) rfl rfl rfl ?_
      refine zg_iload_n (q := 46) C0 2 dX6_keptByOne_45 rfl rfl ?_
      refine zg_icmp_ne (q := 49) (tgt := 73) C0 dX6_keptByOne_46 rfl rfl (fun c26 => ?_) (fun c26 => ?_)
      · have hw := hw.1 c26
        refine zg_iinc (q := 76) C0 6 dX6_keptByOne_73 rfl (by decide) zc_iconst_1 rfl (fun y14 ey14 => ?_)
        have hw := hw y14 ey14
        refine zg_lv (lv' := [(6, .int y14), (7, .ref b8), (1, .int x1), (2, .int x2), (3, .int x3), (4, .ref x4), (5, .int x5)]) rfl ?_
        refine zg_goto (tgt := 14) C0 dX6_keptByOne_76 rfl ?_
        refine zg_sub [2, 3, 4, 5, 6, 0] rfl ?_
        exact hrec _ _ hw
      · have hw := hw.2 c26
        refine zg_aload (q := 51) C0 0 dX6_keptByOne_49 rfl rfl ?_
        refine zg_get (q := 54) (T := TX2) (k := 2) C0 dX6_keptByOne_51 hz10 (zF_2 cy hz10) rfl (by decide) hX_X6_keptByOne_2 (zwm (i := 4) rfl) rfl rfl rfl ?_
        obtain ⟨b15, hb16, hw⟩ := hw
        refine zg_nn hb16 ?_
        obtain ⟨hz17, hw⟩ := hw
        refine zg_get (q := 57) (T := TX4) (k := 1) C0 dX6_keptByOne_54 hz17 (zF_4 cy hz17) rfl (by decide) hX_X6_keptByOne_4 (zwm (i := 5) rfl) rfl rfl rfl ?_
        obtain ⟨b18, hb19, hw⟩ := hw
        refine zg_nn hb19 ?_
        refine zg_iload_n (q := 58) C0 3 dX6_keptByOne_57 rfl rfl ?_
        obtain ⟨hz20, hw⟩ := hw
        obtain ⟨hi21, hw⟩ := hw
        refine zg_aald_11 (q := 59) C0 dX6_keptByOne_58 hz20 hi21 rfl ?_
        refine zg_ifnull (q := 62) (tgt := 73) C0 dX6_keptByOne_59 rfl rfl (fun c25 => ?_) (fun b22 hb23 => ?_)
        · have hw := hw.1 c25
          refine zg_iinc (q := 76) C0 6 dX6_keptByOne_73 rfl (by decide) zc_iconst_1 rfl (fun y24 ey24 => ?_)
          have hw := hw y24 ey24
          refine zg_lv (lv' := [(6, .int y24), (7, .ref b8), (1, .int x1), (2, .int x2), (3, .int x3), (4, .ref x4), (5, .int x5)]) rfl ?_
          refine zg_goto (tgt := 14) C0 dX6_keptByOne_76 rfl ?_
          refine zg_sub [2, 3, 4, 5, 6, 0] rfl ?_
          exact hrec _ _ hw
        · have hw := hw.2 b22 hb23
          refine zg_aload (q := 64) C0 0 dX6_keptByOne_62 rfl rfl ?_
          refine zg_get (q := 67) (T := TX2) (k := 2) C0 dX6_keptByOne_64 hz10 (zF_2 cy hz10) rfl (by decide) hX_X6_keptByOne_2 (zwm (i := 4) rfl) rfl rfl rfl ?_
          refine zg_nn hb16 ?_
          refine zg_get (q := 70) (T := TX4) (k := 1) C0 dX6_keptByOne_67 hz17 (zF_4 cy hz17) rfl (by decide) hX_X6_keptByOne_4 (zwm (i := 5) rfl) rfl rfl rfl ?_
          refine zg_nn hb19 ?_
          refine zg_iload_n (q := 71) C0 3 dX6_keptByOne_70 rfl rfl ?_
          refine zg_aald_11 (q := 72) C0 dX6_keptByOne_71 hz20 hi21 rfl ?_
          exact zg_aret (v := (zR S11 b18 x3.toNatClampNeg)) C0 dX6_keptByOne_72 rfl rfl (Nat.le_refl 0) (Nat.le_refl 0) hw
theorem aL_X6_keptByOne_14 {p : Program} {l : Launch} {e : Env} {s : State} {m : MethodId} {args : Array Value} {below : List Frame} {meth : Method} {c : Code} {D : va_G} {cy : Nat → ClassId} {A : Nat → Prop} {Z : zZ} (C0 : zC p s m args meth c cX6_keptByOne 8 wsX6_keptByOne RX6 D cy A (some (.object "RingGroup$Message"))) {x1 : Int32} {x2 : Int32} {x3 : Int32} {x4 : Nat} {x5 : Int32} {Qp : Option Nat → zS → Prop} {K : zS → Prop} (hK : ∀  S, K  S → zG p l e rm_X6_keptByOne s m args below meth c D cy A 8 0 0 (zQq below D cy A Z Qp args s 0 0) Z S 79 [] []) : ∀ x6 S, wL_X6_keptByOne_14 Z x1 x2 x3 x4 x5 Qp K x6 S → zG p l e rm_X6_keptByOne s m args below meth c D cy A 8 0 0 (zQq below D cy A Z Qp args s 0 0) Z S 14 [(1, .int x1), (2, .int x2), (3, .int x3), (4, .ref x4), (5, .int x5), (6, .int x6)] [] := by
  intro x6 S hw
  obtain ⟨n, hw⟩ := hw
  induction n generalizing x6 S with
  | zero => exact hw.elim
  | succ n ih => exact ab_X6_keptByOne_14 C0 hK (fun x6 S hw => ih x6 S hw) hw
def w_X6_keptByOne (Z : zZ) (h0 : Nat) (p0 : Int32) (p1 : Int32) (p2 : Int32) (S : zS) (Qp : Option Nat → zS → Prop) : Prop :=
  zk Z h0 6 ∧ ∃ b2, zQ Z h0 1 = some b2 ∧ zk Z b2 12 ∧ ∀ y5 : Int32, y5 = nI (zN Z b2) → wL_X6_keptByOne_14 Z p0 p1 p2 b2 y5 Qp (fun  (S29 : zS) => Qp none S29) 0 S
set_option maxHeartbeats 4000000 in
set_option maxRecDepth 100000 in
theorem a_X6_keptByOne (l : Launch) (D : va_G) (cy : Nat → ClassId) (Z : zZ) (S : zS) (sz : Nat) (h0 : Nat) (p0 : Int32) (p1 : Int32) (p2 : Int32) (Qp : Option Nat → zS → Prop) (hw : w_X6_keptByOne Z h0 p0 p1 p2 S Qp) : zMq l yX6_keptByOne wsX6_keptByOne rm_X6_keptByOne D cy Z S sz [.ref h0, .int p0, .int p1, .int p2] Qp := by
  unfold w_X6_keptByOne at hw
  refine zMq_of (cc := cX6_keptByOne) (maxL := 8) (rt := (some (.object "RingGroup$Message"))) (by decide +kernel) rfl (Nat.le_of_ble_eq_true rfl) ?_
  intro p e s m args below meth c A C0 _
  refine zg_lv (lv' := [(0, .ref h0), (1, .int p0), (2, .int p1), (3, .int p2)]) rfl ?_
  refine zg_aload_n (q := 1) C0 0 dX6_keptByOne_0 rfl rfl ?_
  obtain ⟨hz1, hw⟩ := hw
  refine zg_get (q := 4) (T := TX6) (k := 1) C0 dX6_keptByOne_1 hz1 (zF_6 cy hz1) rfl (by decide) hX_X6_keptByOne_6 (zwm (i := 1) rfl) rfl rfl rfl ?_
  obtain ⟨b2, hb3, hw⟩ := hw
  refine zg_nn hb3 ?_
  refine zg_astore (q := 6) (lv' := [(4, .ref b2), (0, .ref h0), (1, .int p0), (2, .int p1), (3, .int p2)]) C0 dX6_keptByOne_4 (by decide) rfl rfl ?_
  refine zg_aload (q := 8) C0 0 dX6_keptByOne_6 rfl rfl ?_
  obtain ⟨hz4, hw⟩ := hw
  refine zg_alen_12 (q := 9) C0 dX6_keptByOne_8 hz4 rfl ?_
  refine zg_ni (fun y5 ey5 => ?_)
  have hw := hw y5 ey5
  refine zg_istore (q := 11) (lv' := [(5, .int y5), (4, .ref b2), (0, .ref h0), (1, .int p0), (2, .int p1), (3, .int p2)]) C0 dX6_keptByOne_9 (by decide) rfl rfl ?_
  refine zg_iconst (q := 12) C0 dX6_keptByOne_11 zc_iconst_0 rfl ?_
  refine zg_istore (q := 14) (lv' := [(6, .int 0), (5, .int y5), (4, .ref b2), (0, .ref h0), (1, .int p0), (2, .int p1), (3, .int p2)]) C0 dX6_keptByOne_12 (by decide) rfl rfl ?_
  refine zg_sub [4, 5, 6, 2, 1, 0] rfl ?_
  refine aL_X6_keptByOne_14 C0 (fun  S29 hw => ?_) _ _ hw
  refine zg_null (q := 80) C0 dX6_keptByOne_79 rfl ?_
  exact zg_aret (v := none) C0 dX6_keptByOne_80 rfl rfl (Nat.le_refl 0) (Nat.le_refl 0) hw
-- X6_bringTablesUpToDate
abbrev rm_X6_bringTablesUpToDate : Room := { frames := 2, cells := 0, slots := 0, locals := 48 }
theorem hX_X6_bringTablesUpToDate_2 : ∀ w ∈ u_ws RX2 TX2 13, w ∈ wsX6_bringTablesUpToDate := by decide +kernel
theorem hX_X6_bringTablesUpToDate_4 : ∀ w ∈ u_ws RX4 TX4 5, w ∈ wsX6_bringTablesUpToDate := by decide +kernel
theorem hX_X6_bringTablesUpToDate_6 : ∀ w ∈ u_ws RX6 TX6 4, w ∈ wsX6_bringTablesUpToDate := by decide +kernel
theorem hdV_X6_bringTablesUpToDate : yX6_bringTablesUpToDate.cls = RX6 ∧ yX6_bringTablesUpToDate.cls ≠ "java/lang/invoke/MethodHandle" ∧ yX6_bringTablesUpToDate.cls ≠ "java/lang/invoke/VarHandle" ∧ (parseMethodDescriptor yX6_bringTablesUpToDate.desc).map (fun d => d.parameters.length) = some 2 := by decide +kernel
def wb_X6_bringTablesUpToDate_10 (Z : zZ) (x0 : Nat) (x1 : Nat) (x2 : Int32) (Qp : zS → Prop) (K : zS → Prop) (rec : Int32 → zS → Prop) (x3 : Int32) (S : zS) : Prop :=
  ((100 < x3 → K S) ∧ (¬ 100 < x3 → zk Z x1 2 ∧ zk Z x0 6 ∧ w_X6_keptByOne Z x0 x2 (zI S x1 9) x3 S (fun (r9 : Option Nat) (S8 : zS) => ((r9 = none → ∀ y17 : Int32, y17 = x3 + 1 → rec y17 S8) ∧ (∀ b10, r9 = some b10 → ∃ b12, zQ Z x1 2 = some b12 ∧ zk Z b12 4 ∧ w_X4_apply Z b12 x3 b10 S8 (fun (S15 : zS) => ∀ y16 : Int32, y16 = x3 + 1 → rec y16 S15))))))
def wL_X6_bringTablesUpToDate_10 (Z : zZ) (x0 : Nat) (x1 : Nat) (x2 : Int32) (Qp : zS → Prop) (K : zS → Prop) (x3 : Int32) (S : zS) : Prop := ∃ n, zit2 (wb_X6_bringTablesUpToDate_10 Z x0 x1 x2 Qp K) n x3 S
set_option maxHeartbeats 4000000 in
set_option maxRecDepth 100000 in
theorem ab_X6_bringTablesUpToDate_10 {p : Program} {l : Launch} {e : Env} {s : State} {m : MethodId} {args : Array Value} {below : List Frame} {meth : Method} {c : Code} {D : va_G} {cy : Nat → ClassId} {A : Nat → Prop} {Q : State → Prop} {Z : zZ} (C0 : zC p s m args meth c cX6_bringTablesUpToDate 7 wsX6_bringTablesUpToDate RX6 D cy A none) {x0 : Nat} {x1 : Nat} {x2 : Int32} {Qp : zS → Prop} {K : zS → Prop} (hK : ∀  S, K  S → zG p l e rm_X6_bringTablesUpToDate s m args below meth c D cy A 7 0 0 Q Z S 49 [(0, .ref x0), (1, .ref x1), (2, .int x2)] []) {rec : Int32 → zS → Prop} (hrec : ∀ x3 S, rec x3 S → zG p l e rm_X6_bringTablesUpToDate s m args below meth c D cy A 7 0 0 Q Z S 10 [(0, .ref x0), (1, .ref x1), (2, .int x2), (3, .int x3)] []) {x3 : Int32} {S : zS} (hw : wb_X6_bringTablesUpToDate_10 Z x0 x1 x2 Qp K rec x3 S) : zG p l e rm_X6_bringTablesUpToDate s m args below meth c D cy A 7 0 0 Q Z S 10 [(0, .ref x0), (1, .ref x1), (2, .int x2), (3, .int x3)] [] := by
  unfold wb_X6_bringTablesUpToDate_10 at hw
  refine zg_iload_n (q := 11) C0 3 dX6_bringTablesUpToDate_10 rfl rfl ?_
  refine zg_bipush (q := 13) C0 dX6_bringTablesUpToDate_11 zc_bipush_100 rfl ?_
  refine zg_icmp_gt (q := 16) (tgt := 49) C0 dX6_bringTablesUpToDate_13 rfl rfl (fun c19 => ?_) (fun c19 => ?_)
  · have hw := hw.1 c19
    refine zg_sub [0, 1, 2] rfl ?_
    exact hK  _ hw
  · have hw := hw.2 c19
    refine zg_aload_n (q := 17) C0 0 dX6_bringTablesUpToDate_16 rfl rfl ?_
    refine zg_iload_n (q := 18) C0 2 dX6_bringTablesUpToDate_17 rfl rfl ?_
    refine zg_aload_n (q := 19) C0 1 dX6_bringTablesUpToDate_18 rfl rfl ?_
    obtain ⟨hz6, hw⟩ := hw
    refine zg_get (q := 22) (T := TX2) (k := 9) C0 dX6_bringTablesUpToDate_19 hz6 (zF_2 cy hz6) rfl (by decide) hX_X6_bringTablesUpToDate_2 (zwm (i := 3) rfl) rfl rfl rfl ?_
    refine zg_iload_n (q := 23) C0 3 dX6_bringTablesUpToDate_22 rfl rfl ?_
    obtain ⟨hz7, hw⟩ := hw
    refine zg_callVq (q := 26) C0 [.int x2, .int (zI S x1 9), .int x3] [] dX6_bringTablesUpToDate_23 (fun sz => a_X6_keptByOne l D cy Z S sz x0 x2 (zI S x1 9) x3 _ hw) rfl gX6_bringTablesUpToDate_X6_keptByOne hdV_X6_keptByOne hz7 (zF_6 cy hz7) rfl rfl ⟨Nat.le_of_ble_eq_true rfl, Nat.le_of_ble_eq_true rfl⟩ (Nat.le_of_ble_eq_true rfl) ⟨Nat.zero_le _, Nat.zero_le _⟩ ⟨rfl, rfl⟩ rfl (fun r9 S8 hw => ?_)
    refine zg_astoreq (q := 28) (lv' := [(4, va_rf r9), (0, .ref x0), (1, .ref x1), (2, .int x2), (3, .int x3)]) C0 dX6_bringTablesUpToDate_26 (by decide) rfl rfl ?_
    refine zg_aloadq (q := 30) C0 0 dX6_bringTablesUpToDate_28 rfl rfl ?_
    refine zg_ifnull (q := 33) (tgt := 43) C0 dX6_bringTablesUpToDate_30 rfl rfl (fun c18 => ?_) (fun b10 hb11 => ?_)
    · have hw := hw.1 c18
      refine zg_iinc (q := 46) C0 4 dX6_bringTablesUpToDate_43 rfl (by decide) zc_iconst_1 rfl (fun y17 ey17 => ?_)
      have hw := hw y17 ey17
      refine zg_lv (lv' := [(3, .int y17), (4, va_rf r9), (0, .ref x0), (1, .ref x1), (2, .int x2)]) rfl ?_
      refine zg_goto (tgt := 10) C0 dX6_bringTablesUpToDate_46 rfl ?_
      refine zg_sub [2, 3, 4, 0] rfl ?_
      exact hrec _ _ hw
    · have hw := hw.2 b10 hb11
      refine zg_lv (lv' := [(4, .ref b10), (0, .ref x0), (1, .ref x1), (2, .int x2), (3, .int x3)]) (by subst hb11; rfl) ?_
      refine zg_aload_n (q := 34) C0 2 dX6_bringTablesUpToDate_33 rfl rfl ?_
      refine zg_get (q := 37) (T := TX2) (k := 2) C0 dX6_bringTablesUpToDate_34 hz6 (zF_2 cy hz6) rfl (by decide) hX_X6_bringTablesUpToDate_2 (zwm (i := 1) rfl) rfl rfl rfl ?_
      obtain ⟨b12, hb13, hw⟩ := hw
      refine zg_nn hb13 ?_
      refine zg_iload_n (q := 38) C0 4 dX6_bringTablesUpToDate_37 rfl rfl ?_
      refine zg_aload (q := 40) C0 0 dX6_bringTablesUpToDate_38 rfl rfl ?_
      obtain ⟨hz14, hw⟩ := hw
      refine zg_callVv (q := 43) C0 [.int x3, .ref b10] [] dX6_bringTablesUpToDate_40 (fun sz => a_X4_apply l D cy Z S8 sz b12 x3 b10 _ hw) rfl gX6_bringTablesUpToDate_X4_apply hdV_X4_apply hz14 (zF_4 cy hz14) rfl rfl ⟨Nat.le_of_ble_eq_true rfl, Nat.le_of_ble_eq_true rfl⟩ (Nat.le_of_ble_eq_true rfl) ⟨Nat.zero_le _, Nat.zero_le _⟩ ⟨rfl, rfl⟩ rfl (fun S15 hw => ?_)
      refine zg_iinc (q := 46) C0 4 dX6_bringTablesUpToDate_43 rfl (by decide) zc_iconst_1 rfl (fun y16 ey16 => ?_)
      have hw := hw y16 ey16
      refine zg_lv (lv' := [(3, .int y16), (4, .ref b10), (0, .ref x0), (1, .ref x1), (2, .int x2)]) rfl ?_
      refine zg_goto (tgt := 10) C0 dX6_bringTablesUpToDate_46 rfl ?_
      refine zg_sub [2, 3, 4, 0] rfl ?_
      exact hrec _ _ hw
theorem aL_X6_bringTablesUpToDate_10 {p : Program} {l : Launch} {e : Env} {s : State} {m : MethodId} {args : Array Value} {below : List Frame} {meth : Method} {c : Code} {D : va_G} {cy : Nat → ClassId} {A : Nat → Prop} {Q : State → Prop} {Z : zZ} (C0 : zC p s m args meth c cX6_bringTablesUpToDate 7 wsX6_bringTablesUpToDate RX6 D cy A none) {x0 : Nat} {x1 : Nat} {x2 : Int32} {Qp : zS → Prop} {K : zS → Prop} (hK : ∀  S, K  S → zG p l e rm_X6_bringTablesUpToDate s m args below meth c D cy A 7 0 0 Q Z S 49 [(0, .ref x0), (1, .ref x1), (2, .int x2)] []) : ∀ x3 S, wL_X6_bringTablesUpToDate_10 Z x0 x1 x2 Qp K x3 S → zG p l e rm_X6_bringTablesUpToDate s m args below meth c D cy A 7 0 0 Q Z S 10 [(0, .ref x0), (1, .ref x1), (2, .int x2), (3, .int x3)] [] := by
  intro x3 S hw
  obtain ⟨n, hw⟩ := hw
  induction n generalizing x3 S with
  | zero => exact hw.elim
  | succ n ih => exact ab_X6_bringTablesUpToDate_10 C0 hK (fun x3 S hw => ih x3 S hw) hw
def wb_X6_bringTablesUpToDate_61 (Z : zZ) (x1 : Nat) (x2 : Int32) (x3 : Nat) (x4 : Int32) (Qp : zS → Prop) (K : zS → Prop) (rec : Int32 → zS → Prop) (x5 : Int32) (S : zS) : Prop :=
  ((x4 ≤ x5 → K S) ∧ (¬ x4 ≤ x5 → zk Z x3 12 ∧ vp_in x5 (zN Z x3) ∧ ∃ b28, zQ Z x3 x5.toNatClampNeg = some b28 ∧ zk Z b28 2 ∧ w_X6_isIn Z (zI S b28 0) x2 S (fun (v32 : Int32) (S31 : zS) => ((v32 = 0 → ∀ y33 : Int32, y33 = x5 + 1 → rec y33 S31) ∧ (¬ v32 = 0 → ∃ b34, zQ Z b28 2 = some b34 ∧ zk Z x1 2 ∧ ∃ b37, zQ Z x1 2 = some b37 ∧ zk Z b34 4 ∧ w_X4_copyTable Z b34 b37 S31 (fun (S40 : zS) => ∀ y41 : Int32, y41 = x5 + 1 → rec y41 S40))))))
def wL_X6_bringTablesUpToDate_61 (Z : zZ) (x1 : Nat) (x2 : Int32) (x3 : Nat) (x4 : Int32) (Qp : zS → Prop) (K : zS → Prop) (x5 : Int32) (S : zS) : Prop := ∃ n, zit2 (wb_X6_bringTablesUpToDate_61 Z x1 x2 x3 x4 Qp K) n x5 S
set_option maxHeartbeats 4000000 in
set_option maxRecDepth 100000 in
theorem ab_X6_bringTablesUpToDate_61 {p : Program} {l : Launch} {e : Env} {s : State} {m : MethodId} {args : Array Value} {below : List Frame} {meth : Method} {c : Code} {D : va_G} {cy : Nat → ClassId} {A : Nat → Prop} {Q : State → Prop} {Z : zZ} (C0 : zC p s m args meth c cX6_bringTablesUpToDate 7 wsX6_bringTablesUpToDate RX6 D cy A none) {x1 : Nat} {x2 : Int32} {x3 : Nat} {x4 : Int32} {Qp : zS → Prop} {K : zS → Prop} (hK : ∀  S, K  S → zG p l e rm_X6_bringTablesUpToDate s m args below meth c D cy A 7 0 0 Q Z S 104 [] []) {rec : Int32 → zS → Prop} (hrec : ∀ x5 S, rec x5 S → zG p l e rm_X6_bringTablesUpToDate s m args below meth c D cy A 7 0 0 Q Z S 61 [(1, .ref x1), (2, .int x2), (3, .ref x3), (4, .int x4), (5, .int x5)] []) {x5 : Int32} {S : zS} (hw : wb_X6_bringTablesUpToDate_61 Z x1 x2 x3 x4 Qp K rec x5 S) : zG p l e rm_X6_bringTablesUpToDate s m args below meth c D cy A 7 0 0 Q Z S 61 [(1, .ref x1), (2, .int x2), (3, .ref x3), (4, .int x4), (5, .int x5)] [] := by
  unfold wb_X6_bringTablesUpToDate_61 at hw
  refine zg_iload (q := 63) C0 4 dX6_bringTablesUpToDate_61 rfl rfl ?_
  refine zg_iload (q := 65) C0 3 dX6_bringTablesUpToDate_63 rfl rfl ?_
  refine zg_icmp_ge (q := 68) (tgt := 104) C0 dX6_bringTablesUpToDate_65 rfl rfl (fun c43 => ?_) (fun c43 => ?_)
  · have hw := hw.1 c43
    refine zg_sub [] rfl ?_
    exact hK  _ hw
  · have hw := hw.2 c43
    refine zg_aload_n (q := 69) C0 2 dX6_bringTablesUpToDate_68 rfl rfl ?_
    refine zg_iload (q := 71) C0 4 dX6_bringTablesUpToDate_69 rfl rfl ?_
    obtain ⟨hz26, hw⟩ := hw
    obtain ⟨hi27, hw⟩ := hw
    refine zg_aald_12 (q := 72) C0 dX6_bringTablesUpToDate_71 hz26 hi27 rfl ?_
    obtain ⟨b28, hb29, hw⟩ := hw
    refine zg_nn hb29 ?_
    refine zg_astore (q := 74) (lv' := [(6, .ref b28), (1, .ref x1), (2, .int x2), (3, .ref x3), (4, .int x4), (5, .int x5)]) C0 dX6_bringTablesUpToDate_72 (by decide) rfl rfl ?_
    refine zg_aload (q := 76) C0 0 dX6_bringTablesUpToDate_74 rfl rfl ?_
    obtain ⟨hz30, hw⟩ := hw
    refine zg_get (q := 79) (T := TX2) (k := 0) C0 dX6_bringTablesUpToDate_76 hz30 (zF_2 cy hz30) rfl (by decide) hX_X6_bringTablesUpToDate_2 (zwm (i := 5) rfl) rfl rfl rfl ?_
    refine zg_iload_n (q := 80) C0 2 dX6_bringTablesUpToDate_79 rfl rfl ?_
    refine zg_callSi (q := 83) C0 [.int (zI S b28 0), .int x2] [] dX6_bringTablesUpToDate_80 (fun sz => a_X6_isIn l D cy Z S sz (zI S b28 0) x2 _ hw) rfl gX6_bringTablesUpToDate_X6_isIn hdS_X6_isIn rfl ⟨Nat.le_of_ble_eq_true rfl, Nat.le_of_ble_eq_true rfl⟩ (Nat.le_of_ble_eq_true rfl) ⟨Nat.zero_le _, Nat.zero_le _⟩ ⟨rfl, rfl⟩ rfl (fun v32 S31 hw => ?_)
    refine zg_if_eq (q := 86) (tgt := 98) C0 dX6_bringTablesUpToDate_83 rfl rfl (fun c42 => ?_) (fun c42 => ?_)
    · have hw := hw.1 c42
      refine zg_iinc (q := 101) C0 5 dX6_bringTablesUpToDate_98 rfl (by decide) zc_iconst_1 rfl (fun y33 ey33 => ?_)
      have hw := hw y33 ey33
      refine zg_lv (lv' := [(5, .int y33), (6, .ref b28), (1, .ref x1), (2, .int x2), (3, .ref x3), (4, .int x4)]) rfl ?_
      refine zg_goto (tgt := 61) C0 dX6_bringTablesUpToDate_101 rfl ?_
      refine zg_sub [2, 3, 4, 5, 0] rfl ?_
      exact hrec _ _ hw
    · have hw := hw.2 c42
      refine zg_aload (q := 88) C0 0 dX6_bringTablesUpToDate_86 rfl rfl ?_
      refine zg_get (q := 91) (T := TX2) (k := 2) C0 dX6_bringTablesUpToDate_88 hz30 (zF_2 cy hz30) rfl (by decide) hX_X6_bringTablesUpToDate_2 (zwm (i := 1) rfl) rfl rfl rfl ?_
      obtain ⟨b34, hb35, hw⟩ := hw
      refine zg_nn hb35 ?_
      refine zg_aload_n (q := 92) C0 1 dX6_bringTablesUpToDate_91 rfl rfl ?_
      obtain ⟨hz36, hw⟩ := hw
      refine zg_get (q := 95) (T := TX2) (k := 2) C0 dX6_bringTablesUpToDate_92 hz36 (zF_2 cy hz36) rfl (by decide) hX_X6_bringTablesUpToDate_2 (zwm (i := 1) rfl) rfl rfl rfl ?_
      obtain ⟨b37, hb38, hw⟩ := hw
      refine zg_nn hb38 ?_
      obtain ⟨hz39, hw⟩ := hw
      refine zg_callVv (q := 98) C0 [.ref b37] [] dX6_bringTablesUpToDate_95 (fun sz => a_X4_copyTable l D cy Z S31 sz b34 b37 _ hw) rfl gX6_bringTablesUpToDate_X4_copyTable hdV_X4_copyTable hz39 (zF_4 cy hz39) rfl rfl ⟨Nat.le_of_ble_eq_true rfl, Nat.le_of_ble_eq_true rfl⟩ (Nat.le_of_ble_eq_true rfl) ⟨Nat.zero_le _, Nat.zero_le _⟩ ⟨rfl, rfl⟩ rfl (fun S40 hw => ?_)
      refine zg_iinc (q := 101) C0 5 dX6_bringTablesUpToDate_98 rfl (by decide) zc_iconst_1 rfl (fun y41 ey41 => ?_)
      have hw := hw y41 ey41
      refine zg_lv (lv' := [(5, .int y41), (6, .ref b28), (1, .ref x1), (2, .int x2), (3, .ref x3), (4, .int x4)]) rfl ?_
      refine zg_goto (tgt := 61) C0 dX6_bringTablesUpToDate_101 rfl ?_
      refine zg_sub [2, 3, 4, 5, 0] rfl ?_
      exact hrec _ _ hw
theorem aL_X6_bringTablesUpToDate_61 {p : Program} {l : Launch} {e : Env} {s : State} {m : MethodId} {args : Array Value} {below : List Frame} {meth : Method} {c : Code} {D : va_G} {cy : Nat → ClassId} {A : Nat → Prop} {Q : State → Prop} {Z : zZ} (C0 : zC p s m args meth c cX6_bringTablesUpToDate 7 wsX6_bringTablesUpToDate RX6 D cy A none) {x1 : Nat} {x2 : Int32} {x3 : Nat} {x4 : Int32} {Qp : zS → Prop} {K : zS → Prop} (hK : ∀  S, K  S → zG p l e rm_X6_bringTablesUpToDate s m args below meth c D cy A 7 0 0 Q Z S 104 [] []) : ∀ x5 S, wL_X6_bringTablesUpToDate_61 Z x1 x2 x3 x4 Qp K x5 S → zG p l e rm_X6_bringTablesUpToDate s m args below meth c D cy A 7 0 0 Q Z S 61 [(1, .ref x1), (2, .int x2), (3, .ref x3), (4, .int x4), (5, .int x5)] [] := by
  intro x5 S hw
  obtain ⟨n, hw⟩ := hw
  induction n generalizing x5 S with
  | zero => exact hw.elim
  | succ n ih => exact ab_X6_bringTablesUpToDate_61 C0 hK (fun x5 S hw => ih x5 S hw) hw
def w_X6_bringTablesUpToDate (Z : zZ) (h0 : Nat) (p0 : Nat) (p1 : Int32) (S : zS) (Qp : zS → Prop) : Prop :=
  zk Z p0 2 ∧ ∃ b2, zQ Z p0 2 = some b2 ∧ zk Z b2 4 ∧ ∀ y5 : Int32, y5 = (zI S b2 4) + 1 → wL_X6_bringTablesUpToDate_10 Z h0 p0 p1 Qp (fun  (S20 : zS) => zk Z h0 6 ∧ ∃ b22, zQ Z h0 1 = some b22 ∧ zk Z b22 12 ∧ ∀ y25 : Int32, y25 = nI (zN Z b22) → wL_X6_bringTablesUpToDate_61 Z p0 p1 b22 y25 Qp (fun  (S44 : zS) => Qp S44) 0 S20) y5 S
set_option maxHeartbeats 4000000 in
set_option maxRecDepth 100000 in
theorem a_X6_bringTablesUpToDate (l : Launch) (D : va_G) (cy : Nat → ClassId) (Z : zZ) (S : zS) (sz : Nat) (h0 : Nat) (p0 : Nat) (p1 : Int32) (Qp : zS → Prop) (hw : w_X6_bringTablesUpToDate Z h0 p0 p1 S Qp) : zMv l yX6_bringTablesUpToDate wsX6_bringTablesUpToDate rm_X6_bringTablesUpToDate D cy Z S sz [.ref h0, .ref p0, .int p1] Qp := by
  unfold w_X6_bringTablesUpToDate at hw
  refine zMv_of (cc := cX6_bringTablesUpToDate) (maxL := 7) (rt := none) (by decide +kernel) rfl (Nat.le_of_ble_eq_true rfl) ?_
  intro p e s m args below meth c A C0 _
  refine zg_lv (lv' := [(0, .ref h0), (1, .ref p0), (2, .int p1)]) rfl ?_
  refine zg_aload_n (q := 1) C0 1 dX6_bringTablesUpToDate_0 rfl rfl ?_
  obtain ⟨hz1, hw⟩ := hw
  refine zg_get (q := 4) (T := TX2) (k := 2) C0 dX6_bringTablesUpToDate_1 hz1 (zF_2 cy hz1) rfl (by decide) hX_X6_bringTablesUpToDate_2 (zwm (i := 1) rfl) rfl rfl rfl ?_
  obtain ⟨b2, hb3, hw⟩ := hw
  refine zg_nn hb3 ?_
  obtain ⟨hz4, hw⟩ := hw
  refine zg_get (q := 7) (T := TX4) (k := 4) C0 dX6_bringTablesUpToDate_4 hz4 (zF_4 cy hz4) rfl (by decide) hX_X6_bringTablesUpToDate_4 (zwm (i := 2) rfl) rfl rfl rfl ?_
  refine zg_iconst (q := 8) C0 dX6_bringTablesUpToDate_7 zc_iconst_1 rfl ?_
  refine zg_iadd (q := 9) C0 dX6_bringTablesUpToDate_8 rfl ?_
  refine zg_ni (fun y5 ey5 => ?_)
  have hw := hw y5 ey5
  refine zg_istore_n (q := 10) (lv' := [(3, .int y5), (0, .ref h0), (1, .ref p0), (2, .int p1)]) C0 dX6_bringTablesUpToDate_9 (by decide) rfl rfl ?_
  refine zg_sub [1, 2, 3, 0] rfl ?_
  refine aL_X6_bringTablesUpToDate_10 C0 (fun  S20 hw => ?_) _ _ hw
  refine zg_aload_n (q := 50) C0 0 dX6_bringTablesUpToDate_49 rfl rfl ?_
  obtain ⟨hz21, hw⟩ := hw
  refine zg_get (q := 53) (T := TX6) (k := 1) C0 dX6_bringTablesUpToDate_50 hz21 (zF_6 cy hz21) rfl (by decide) hX_X6_bringTablesUpToDate_6 (zwm (i := 4) rfl) rfl rfl rfl ?_
  obtain ⟨b22, hb23, hw⟩ := hw
  refine zg_nn hb23 ?_
  refine zg_astore_n (q := 54) (lv' := [(3, .ref b22), (0, .ref h0), (1, .ref p0), (2, .int p1)]) C0 dX6_bringTablesUpToDate_53 (by decide) rfl rfl ?_
  refine zg_aload_n (q := 55) C0 0 dX6_bringTablesUpToDate_54 rfl rfl ?_
  obtain ⟨hz24, hw⟩ := hw
  refine zg_alen_12 (q := 56) C0 dX6_bringTablesUpToDate_55 hz24 rfl ?_
  refine zg_ni (fun y25 ey25 => ?_)
  have hw := hw y25 ey25
  refine zg_istore (q := 58) (lv' := [(4, .int y25), (3, .ref b22), (0, .ref h0), (1, .ref p0), (2, .int p1)]) C0 dX6_bringTablesUpToDate_56 (by decide) rfl rfl ?_
  refine zg_iconst (q := 59) C0 dX6_bringTablesUpToDate_58 zc_iconst_0 rfl ?_
  refine zg_istore (q := 61) (lv' := [(5, .int 0), (4, .int y25), (3, .ref b22), (0, .ref h0), (1, .ref p0), (2, .int p1)]) C0 dX6_bringTablesUpToDate_59 (by decide) rfl rfl ?_
  refine zg_sub [4, 5, 2, 1, 0] rfl ?_
  refine aL_X6_bringTablesUpToDate_61 C0 (fun  S44 hw => ?_) _ _ hw
  exact zg_vret C0 dX6_bringTablesUpToDate_104 rfl (Nat.le_refl 0) (Nat.le_refl 0) hw
-- X6_shareAll
abbrev rm_X6_shareAll : Room := { frames := 3, cells := 0, slots := 0, locals := 69 }
theorem hX_X6_shareAll_2 : ∀ w ∈ u_ws RX2 TX2 13, w ∈ wsX6_shareAll := by decide +kernel
theorem hX_X6_shareAll_6 : ∀ w ∈ u_ws RX6 TX6 4, w ∈ wsX6_shareAll := by decide +kernel
theorem hdV_X6_shareAll : yX6_shareAll.cls = RX6 ∧ yX6_shareAll.cls ≠ "java/lang/invoke/MethodHandle" ∧ yX6_shareAll.cls ≠ "java/lang/invoke/VarHandle" ∧ (parseMethodDescriptor yX6_shareAll.desc).map (fun d => d.parameters.length) = some 1 := by decide +kernel
def wb_X6_shareAll_52 (Z : zZ) (x0 : Nat) (x1 : Int32) (x2 : Int32) (x3 : Nat) (x4 : Int32) (x5 : Int32) (x6 : Nat) (Qp : zS → Prop) (K : zS → Prop) (rec : Int32 → zS → Prop) (x7 : Int32) (S : zS) : Prop :=
  ((100 < x7 → K S) ∧ (¬ 100 < x7 → zk Z x6 2 ∧ ∃ b16, zQ Z x6 4 = some b16 ∧ zk Z b16 11 ∧ vp_in x7 (zN Z b16) ∧ ((zR S b16 x7.toNatClampNeg = none → ∀ y25 : Int32, y25 = x7 + 1 → rec y25 S) ∧ (∀ b20, zR S b16 x7.toNatClampNeg = some b20 → zk Z x0 6 ∧ w_X6_giveTo Z x0 x1 x7 b20 S (fun (S23 : zS) => ∀ y24 : Int32, y24 = x7 + 1 → rec y24 S23)))))
def wL_X6_shareAll_52 (Z : zZ) (x0 : Nat) (x1 : Int32) (x2 : Int32) (x3 : Nat) (x4 : Int32) (x5 : Int32) (x6 : Nat) (Qp : zS → Prop) (K : zS → Prop) (x7 : Int32) (S : zS) : Prop := ∃ n, zit2 (wb_X6_shareAll_52 Z x0 x1 x2 x3 x4 x5 x6 Qp K) n x7 S
set_option maxHeartbeats 4000000 in
set_option maxRecDepth 100000 in
theorem ab_X6_shareAll_52 {p : Program} {l : Launch} {e : Env} {s : State} {m : MethodId} {args : Array Value} {below : List Frame} {meth : Method} {c : Code} {D : va_G} {cy : Nat → ClassId} {A : Nat → Prop} {Q : State → Prop} {Z : zZ} (C0 : zC p s m args meth c cX6_shareAll 8 wsX6_shareAll RX6 D cy A none) {x0 : Nat} {x1 : Int32} {x2 : Int32} {x3 : Nat} {x4 : Int32} {x5 : Int32} {x6 : Nat} {Qp : zS → Prop} {K : zS → Prop} (hK : ∀  S, K  S → zG p l e rm_X6_shareAll s m args below meth c D cy A 8 0 0 Q Z S 91 [(0, .ref x0), (1, .int x1), (2, .int x2), (3, .ref x3), (4, .int x4), (5, .int x5)] []) {rec : Int32 → zS → Prop} (hrec : ∀ x7 S, rec x7 S → zG p l e rm_X6_shareAll s m args below meth c D cy A 8 0 0 Q Z S 52 [(0, .ref x0), (1, .int x1), (2, .int x2), (3, .ref x3), (4, .int x4), (5, .int x5), (6, .ref x6), (7, .int x7)] []) {x7 : Int32} {S : zS} (hw : wb_X6_shareAll_52 Z x0 x1 x2 x3 x4 x5 x6 Qp K rec x7 S) : zG p l e rm_X6_shareAll s m args below meth c D cy A 8 0 0 Q Z S 52 [(0, .ref x0), (1, .int x1), (2, .int x2), (3, .ref x3), (4, .int x4), (5, .int x5), (6, .ref x6), (7, .int x7)] [] := by
  unfold wb_X6_shareAll_52 at hw
  refine zg_iload (q := 54) C0 7 dX6_shareAll_52 rfl rfl ?_
  refine zg_bipush (q := 56) C0 dX6_shareAll_54 zc_bipush_100 rfl ?_
  refine zg_icmp_gt (q := 59) (tgt := 91) C0 dX6_shareAll_56 rfl rfl (fun c27 => ?_) (fun c27 => ?_)
  · have hw := hw.1 c27
    refine zg_sub [0, 1, 2, 3, 4, 5] rfl ?_
    exact hK  _ hw
  · have hw := hw.2 c27
    refine zg_aload (q := 61) C0 6 dX6_shareAll_59 rfl rfl ?_
    obtain ⟨hz15, hw⟩ := hw
    refine zg_get (q := 64) (T := TX2) (k := 4) C0 dX6_shareAll_61 hz15 (zF_2 cy hz15) rfl (by decide) hX_X6_shareAll_2 (zwm (i := 8) rfl) rfl rfl rfl ?_
    obtain ⟨b16, hb17, hw⟩ := hw
    refine zg_nn hb17 ?_
    refine zg_iload (q := 66) C0 7 dX6_shareAll_64 rfl rfl ?_
    obtain ⟨hz18, hw⟩ := hw
    obtain ⟨hi19, hw⟩ := hw
    refine zg_aald_11 (q := 67) C0 dX6_shareAll_66 hz18 hi19 rfl ?_
    refine zg_ifnull (q := 70) (tgt := 85) C0 dX6_shareAll_67 rfl rfl (fun c26 => ?_) (fun b20 hb21 => ?_)
    · have hw := hw.1 c26
      refine zg_iinc (q := 88) C0 7 dX6_shareAll_85 rfl (by decide) zc_iconst_1 rfl (fun y25 ey25 => ?_)
      have hw := hw y25 ey25
      refine zg_lv (lv' := [(7, .int y25), (0, .ref x0), (1, .int x1), (2, .int x2), (3, .ref x3), (4, .int x4), (5, .int x5), (6, .ref x6)]) rfl ?_
      refine zg_goto (tgt := 52) C0 dX6_shareAll_88 rfl ?_
      refine zg_sub [1, 2, 3, 4, 5, 6, 7, 0] rfl ?_
      exact hrec _ _ hw
    · have hw := hw.2 b20 hb21
      refine zg_aload_n (q := 71) C0 0 dX6_shareAll_70 rfl rfl ?_
      refine zg_iload_n (q := 72) C0 1 dX6_shareAll_71 rfl rfl ?_
      refine zg_iload (q := 74) C0 7 dX6_shareAll_72 rfl rfl ?_
      refine zg_aload (q := 76) C0 6 dX6_shareAll_74 rfl rfl ?_
      refine zg_get (q := 79) (T := TX2) (k := 4) C0 dX6_shareAll_76 hz15 (zF_2 cy hz15) rfl (by decide) hX_X6_shareAll_2 (zwm (i := 8) rfl) rfl rfl rfl ?_
      refine zg_nn hb17 ?_
      refine zg_iload (q := 81) C0 7 dX6_shareAll_79 rfl rfl ?_
      refine zg_aald_11 (q := 82) C0 dX6_shareAll_81 hz18 hi19 rfl ?_
      refine zg_nn hb21 ?_
      obtain ⟨hz22, hw⟩ := hw
      refine zg_callVv (q := 85) C0 [.int x1, .int x7, .ref b20] [] dX6_shareAll_82 (fun sz => a_X6_giveTo l D cy Z S sz x0 x1 x7 b20 _ hw) rfl gX6_shareAll_X6_giveTo hdV_X6_giveTo hz22 (zF_6 cy hz22) rfl rfl ⟨Nat.le_of_ble_eq_true rfl, Nat.le_of_ble_eq_true rfl⟩ (Nat.le_of_ble_eq_true rfl) ⟨Nat.zero_le _, Nat.zero_le _⟩ ⟨rfl, rfl⟩ rfl (fun S23 hw => ?_)
      refine zg_iinc (q := 88) C0 7 dX6_shareAll_85 rfl (by decide) zc_iconst_1 rfl (fun y24 ey24 => ?_)
      have hw := hw y24 ey24
      refine zg_lv (lv' := [(7, .int y24), (0, .ref x0), (1, .int x1), (2, .int x2), (3, .ref x3), (4, .int x4), (5, .int x5), (6, .ref x6)]) rfl ?_
      refine zg_goto (tgt := 52) C0 dX6_shareAll_88 rfl ?_
      refine zg_sub [1, 2, 3, 4, 5, 6, 7, 0] rfl ?_
      exact hrec _ _ hw
theorem aL_X6_shareAll_52 {p : Program} {l : Launch} {e : Env} {s : State} {m : MethodId} {args : Array Value} {below : List Frame} {meth : Method} {c : Code} {D : va_G} {cy : Nat → ClassId} {A : Nat → Prop} {Q : State → Prop} {Z : zZ} (C0 : zC p s m args meth c cX6_shareAll 8 wsX6_shareAll RX6 D cy A none) {x0 : Nat} {x1 : Int32} {x2 : Int32} {x3 : Nat} {x4 : Int32} {x5 : Int32} {x6 : Nat} {Qp : zS → Prop} {K : zS → Prop} (hK : ∀  S, K  S → zG p l e rm_X6_shareAll s m args below meth c D cy A 8 0 0 Q Z S 91 [(0, .ref x0), (1, .int x1), (2, .int x2), (3, .ref x3), (4, .int x4), (5, .int x5)] []) : ∀ x7 S, wL_X6_shareAll_52 Z x0 x1 x2 x3 x4 x5 x6 Qp K x7 S → zG p l e rm_X6_shareAll s m args below meth c D cy A 8 0 0 Q Z S 52 [(0, .ref x0), (1, .int x1), (2, .int x2), (3, .ref x3), (4, .int x4), (5, .int x5), (6, .ref x6), (7, .int x7)] [] := by
  intro x7 S hw
  obtain ⟨n, hw⟩ := hw
  induction n generalizing x7 S with
  | zero => exact hw.elim
  | succ n ih => exact ab_X6_shareAll_52 C0 hK (fun x7 S hw => ih x7 S hw) hw
def wb_X6_shareAll_14 (Z : zZ) (x0 : Nat) (x1 : Int32) (x3 : Nat) (x4 : Int32) (Qp : zS → Prop) (K : Int32 → zS → Prop) (rec : Int32 → Int32 → zS → Prop) (x2 : Int32) (x5 : Int32) (S : zS) : Prop :=
  ((x4 ≤ x5 → K x2 S) ∧ (¬ x4 ≤ x5 → zk Z x3 12 ∧ vp_in x5 (zN Z x3) ∧ ∃ b8, zQ Z x3 x5.toNatClampNeg = some b8 ∧ zk Z b8 2 ∧ w_X6_isIn Z (zI S b8 0) x1 S (fun (v12 : Int32) (S11 : zS) => ((v12 = 0 → ∀ y13 : Int32, y13 = x5 + 1 → rec x2 y13 S11) ∧ (¬ v12 = 0 → ∀ y14 : Int32, y14 = (if x2 < (zI S11 b8 12) then (zI S11 b8 12) else x2) → wL_X6_shareAll_52 Z x0 x1 y14 x3 x4 x5 b8 Qp (fun  (S28 : zS) => ∀ y29 : Int32, y29 = x5 + 1 → rec y14 y29 S28) 1 S11)))))
def wL_X6_shareAll_14 (Z : zZ) (x0 : Nat) (x1 : Int32) (x3 : Nat) (x4 : Int32) (Qp : zS → Prop) (K : Int32 → zS → Prop) (x2 : Int32) (x5 : Int32) (S : zS) : Prop := ∃ n, zit3 (wb_X6_shareAll_14 Z x0 x1 x3 x4 Qp K) n x2 x5 S
set_option maxHeartbeats 4000000 in
set_option maxRecDepth 100000 in
theorem ab_X6_shareAll_14 {p : Program} {l : Launch} {e : Env} {s : State} {m : MethodId} {args : Array Value} {below : List Frame} {meth : Method} {c : Code} {D : va_G} {cy : Nat → ClassId} {A : Nat → Prop} {Q : State → Prop} {Z : zZ} (C0 : zC p s m args meth c cX6_shareAll 8 wsX6_shareAll RX6 D cy A none) {x0 : Nat} {x1 : Int32} {x3 : Nat} {x4 : Int32} {Qp : zS → Prop} {K : Int32 → zS → Prop} (hK : ∀ x2 S, K x2 S → zG p l e rm_X6_shareAll s m args below meth c D cy A 8 0 0 Q Z S 97 [(0, .ref x0), (1, .int x1), (2, .int x2)] []) {rec : Int32 → Int32 → zS → Prop} (hrec : ∀ x2 x5 S, rec x2 x5 S → zG p l e rm_X6_shareAll s m args below meth c D cy A 8 0 0 Q Z S 14 [(0, .ref x0), (1, .int x1), (2, .int x2), (3, .ref x3), (4, .int x4), (5, .int x5)] []) {x2 : Int32} {x5 : Int32} {S : zS} (hw : wb_X6_shareAll_14 Z x0 x1 x3 x4 Qp K rec x2 x5 S) : zG p l e rm_X6_shareAll s m args below meth c D cy A 8 0 0 Q Z S 14 [(0, .ref x0), (1, .int x1), (2, .int x2), (3, .ref x3), (4, .int x4), (5, .int x5)] [] := by
  unfold wb_X6_shareAll_14 at hw
  refine zg_iload (q := 16) C0 5 dX6_shareAll_14 rfl rfl ?_
  refine zg_iload (q := 18) C0 4 dX6_shareAll_16 rfl rfl ?_
  refine zg_icmp_ge (q := 21) (tgt := 97) C0 dX6_shareAll_18 rfl rfl (fun c31 => ?_) (fun c31 => ?_)
  · have hw := hw.1 c31
    refine zg_sub [0, 1, 2] rfl ?_
    exact hK _ _ hw
  · have hw := hw.2 c31
    refine zg_aload_n (q := 22) C0 3 dX6_shareAll_21 rfl rfl ?_
    refine zg_iload (q := 24) C0 5 dX6_shareAll_22 rfl rfl ?_
    obtain ⟨hz6, hw⟩ := hw
    obtain ⟨hi7, hw⟩ := hw
    refine zg_aald_12 (q := 25) C0 dX6_shareAll_24 hz6 hi7 rfl ?_
    obtain ⟨b8, hb9, hw⟩ := hw
    refine zg_nn hb9 ?_
    refine zg_astore (q := 27) (lv' := [(6, .ref b8), (0, .ref x0), (1, .int x1), (2, .int x2), (3, .ref x3), (4, .int x4), (5, .int x5)]) C0 dX6_shareAll_25 (by decide) rfl rfl ?_
    refine zg_aload (q := 29) C0 0 dX6_shareAll_27 rfl rfl ?_
    obtain ⟨hz10, hw⟩ := hw
    refine zg_get (q := 32) (T := TX2) (k := 0) C0 dX6_shareAll_29 hz10 (zF_2 cy hz10) rfl (by decide) hX_X6_shareAll_2 (zwm (i := 2) rfl) rfl rfl rfl ?_
    refine zg_iload_n (q := 33) C0 2 dX6_shareAll_32 rfl rfl ?_
    refine zg_callSi (q := 36) C0 [.int (zI S b8 0), .int x1] [] dX6_shareAll_33 (fun sz => a_X6_isIn l D cy Z S sz (zI S b8 0) x1 _ hw) rfl gX6_shareAll_X6_isIn hdS_X6_isIn rfl ⟨Nat.le_of_ble_eq_true rfl, Nat.le_of_ble_eq_true rfl⟩ (Nat.le_of_ble_eq_true rfl) ⟨Nat.zero_le _, Nat.zero_le _⟩ ⟨rfl, rfl⟩ rfl (fun v12 S11 hw => ?_)
    refine zg_if_eq (q := 39) (tgt := 91) C0 dX6_shareAll_36 rfl rfl (fun c30 => ?_) (fun c30 => ?_)
    · have hw := hw.1 c30
      refine zg_iinc (q := 94) C0 6 dX6_shareAll_91 rfl (by decide) zc_iconst_1 rfl (fun y13 ey13 => ?_)
      have hw := hw y13 ey13
      refine zg_lv (lv' := [(5, .int y13), (6, .ref b8), (0, .ref x0), (1, .int x1), (2, .int x2), (3, .ref x3), (4, .int x4)]) rfl ?_
      refine zg_goto (tgt := 14) C0 dX6_shareAll_94 rfl ?_
      refine zg_sub [2, 3, 4, 5, 6, 0] rfl ?_
      exact hrec _ _ _ hw
    · have hw := hw.2 c30
      refine zg_iload_n (q := 40) C0 3 dX6_shareAll_39 rfl rfl ?_
      refine zg_aload (q := 42) C0 0 dX6_shareAll_40 rfl rfl ?_
      refine zg_get (q := 45) (T := TX2) (k := 12) C0 dX6_shareAll_42 hz10 (zF_2 cy hz10) rfl (by decide) hX_X6_shareAll_2 (zwm (i := 3) rfl) rfl rfl rfl ?_
      refine zg_mmax (q := 48) C0 dX6_shareAll_45 (zwm (i := 4) rfl) (zwm (i := 5) rfl) (zwm (i := 6) rfl) (zwm (i := 7) rfl) (Nat.le_of_ble_eq_true rfl) (Nat.le_of_ble_eq_true rfl) ⟨Nat.le_of_ble_eq_true rfl, Nat.le_of_ble_eq_true rfl⟩ rfl ?_
      refine zg_ni (fun y14 ey14 => ?_)
      have hw := hw y14 ey14
      refine zg_istore_n (q := 49) (lv' := [(2, .int y14), (6, .ref b8), (0, .ref x0), (1, .int x1), (3, .ref x3), (4, .int x4), (5, .int x5)]) C0 dX6_shareAll_48 (by decide) rfl rfl ?_
      refine zg_iconst (q := 50) C0 dX6_shareAll_49 zc_iconst_1 rfl ?_
      refine zg_istore (q := 52) (lv' := [(7, .int 1), (2, .int y14), (6, .ref b8), (0, .ref x0), (1, .int x1), (3, .ref x3), (4, .int x4), (5, .int x5)]) C0 dX6_shareAll_50 (by decide) rfl rfl ?_
      refine zg_sub [3, 4, 1, 5, 6, 7, 2, 0] rfl ?_
      refine aL_X6_shareAll_52 C0 (fun  S28 hw => ?_) _ _ hw
      refine zg_iinc (q := 94) C0 5 dX6_shareAll_91 rfl (by decide) zc_iconst_1 rfl (fun y29 ey29 => ?_)
      have hw := hw y29 ey29
      refine zg_lv (lv' := [(5, .int y29), (0, .ref x0), (1, .int x1), (2, .int y14), (3, .ref x3), (4, .int x4)]) rfl ?_
      refine zg_goto (tgt := 14) C0 dX6_shareAll_94 rfl ?_
      refine zg_sub [1, 2, 3, 4, 5, 0] rfl ?_
      exact hrec _ _ _ hw
theorem aL_X6_shareAll_14 {p : Program} {l : Launch} {e : Env} {s : State} {m : MethodId} {args : Array Value} {below : List Frame} {meth : Method} {c : Code} {D : va_G} {cy : Nat → ClassId} {A : Nat → Prop} {Q : State → Prop} {Z : zZ} (C0 : zC p s m args meth c cX6_shareAll 8 wsX6_shareAll RX6 D cy A none) {x0 : Nat} {x1 : Int32} {x3 : Nat} {x4 : Int32} {Qp : zS → Prop} {K : Int32 → zS → Prop} (hK : ∀ x2 S, K x2 S → zG p l e rm_X6_shareAll s m args below meth c D cy A 8 0 0 Q Z S 97 [(0, .ref x0), (1, .int x1), (2, .int x2)] []) : ∀ x2 x5 S, wL_X6_shareAll_14 Z x0 x1 x3 x4 Qp K x2 x5 S → zG p l e rm_X6_shareAll s m args below meth c D cy A 8 0 0 Q Z S 14 [(0, .ref x0), (1, .int x1), (2, .int x2), (3, .ref x3), (4, .int x4), (5, .int x5)] [] := by
  intro x2 x5 S hw
  obtain ⟨n, hw⟩ := hw
  induction n generalizing x2 x5 S with
  | zero => exact hw.elim
  | succ n ih => exact ab_X6_shareAll_14 C0 hK (fun x2 x5 S hw => ih x2 x5 S hw) hw
def wb_X6_shareAll_109 (Z : zZ) (x1 : Int32) (x2 : Int32) (x3 : Nat) (x4 : Int32) (Qp : zS → Prop) (K : zS → Prop) (rec : Int32 → zS → Prop) (x5 : Int32) (S : zS) : Prop :=
  ((x4 ≤ x5 → K S) ∧ (¬ x4 ≤ x5 → zk Z x3 12 ∧ vp_in x5 (zN Z x3) ∧ ∃ b37, zQ Z x3 x5.toNatClampNeg = some b37 ∧ zk Z b37 2 ∧ w_X6_isIn Z (zI S b37 0) x1 S (fun (v41 : Int32) (S40 : zS) => ((v41 = 0 → ∀ y42 : Int32, y42 = x5 + 1 → rec y42 S40) ∧ (¬ v41 = 0 → ∀ S43 : zS, S43 = zsI S40 b37 12 x2 → ∀ y44 : Int32, y44 = x5 + 1 → rec y44 S43)))))
def wL_X6_shareAll_109 (Z : zZ) (x1 : Int32) (x2 : Int32) (x3 : Nat) (x4 : Int32) (Qp : zS → Prop) (K : zS → Prop) (x5 : Int32) (S : zS) : Prop := ∃ n, zit2 (wb_X6_shareAll_109 Z x1 x2 x3 x4 Qp K) n x5 S
set_option maxHeartbeats 4000000 in
set_option maxRecDepth 100000 in
theorem ab_X6_shareAll_109 {p : Program} {l : Launch} {e : Env} {s : State} {m : MethodId} {args : Array Value} {below : List Frame} {meth : Method} {c : Code} {D : va_G} {cy : Nat → ClassId} {A : Nat → Prop} {Q : State → Prop} {Z : zZ} (C0 : zC p s m args meth c cX6_shareAll 8 wsX6_shareAll RX6 D cy A none) {x1 : Int32} {x2 : Int32} {x3 : Nat} {x4 : Int32} {Qp : zS → Prop} {K : zS → Prop} (hK : ∀  S, K  S → zG p l e rm_X6_shareAll s m args below meth c D cy A 8 0 0 Q Z S 146 [] []) {rec : Int32 → zS → Prop} (hrec : ∀ x5 S, rec x5 S → zG p l e rm_X6_shareAll s m args below meth c D cy A 8 0 0 Q Z S 109 [(1, .int x1), (2, .int x2), (3, .ref x3), (4, .int x4), (5, .int x5)] []) {x5 : Int32} {S : zS} (hw : wb_X6_shareAll_109 Z x1 x2 x3 x4 Qp K rec x5 S) : zG p l e rm_X6_shareAll s m args below meth c D cy A 8 0 0 Q Z S 109 [(1, .int x1), (2, .int x2), (3, .ref x3), (4, .int x4), (5, .int x5)] [] := by
  unfold wb_X6_shareAll_109 at hw
  refine zg_iload (q := 111) C0 4 dX6_shareAll_109 rfl rfl ?_
  refine zg_iload (q := 113) C0 3 dX6_shareAll_111 rfl rfl ?_
  refine zg_icmp_ge (q := 116) (tgt := 146) C0 dX6_shareAll_113 rfl rfl (fun c46 => ?_) (fun c46 => ?_)
  · have hw := hw.1 c46
    refine zg_sub [] rfl ?_
    exact hK  _ hw
  · have hw := hw.2 c46
    refine zg_aload_n (q := 117) C0 2 dX6_shareAll_116 rfl rfl ?_
    refine zg_iload (q := 119) C0 4 dX6_shareAll_117 rfl rfl ?_
    obtain ⟨hz35, hw⟩ := hw
    obtain ⟨hi36, hw⟩ := hw
    refine zg_aald_12 (q := 120) C0 dX6_shareAll_119 hz35 hi36 rfl ?_
    obtain ⟨b37, hb38, hw⟩ := hw
    refine zg_nn hb38 ?_
    refine zg_astore (q := 122) (lv' := [(6, .ref b37), (1, .int x1), (2, .int x2), (3, .ref x3), (4, .int x4), (5, .int x5)]) C0 dX6_shareAll_120 (by decide) rfl rfl ?_
    refine zg_aload (q := 124) C0 0 dX6_shareAll_122 rfl rfl ?_
    obtain ⟨hz39, hw⟩ := hw
    refine zg_get (q := 127) (T := TX2) (k := 0) C0 dX6_shareAll_124 hz39 (zF_2 cy hz39) rfl (by decide) hX_X6_shareAll_2 (zwm (i := 2) rfl) rfl rfl rfl ?_
    refine zg_iload_n (q := 128) C0 1 dX6_shareAll_127 rfl rfl ?_
    refine zg_callSi (q := 131) C0 [.int (zI S b37 0), .int x1] [] dX6_shareAll_128 (fun sz => a_X6_isIn l D cy Z S sz (zI S b37 0) x1 _ hw) rfl gX6_shareAll_X6_isIn hdS_X6_isIn rfl ⟨Nat.le_of_ble_eq_true rfl, Nat.le_of_ble_eq_true rfl⟩ (Nat.le_of_ble_eq_true rfl) ⟨Nat.zero_le _, Nat.zero_le _⟩ ⟨rfl, rfl⟩ rfl (fun v41 S40 hw => ?_)
    refine zg_if_eq (q := 134) (tgt := 140) C0 dX6_shareAll_131 rfl rfl (fun c45 => ?_) (fun c45 => ?_)
    · have hw := hw.1 c45
      refine zg_iinc (q := 143) C0 5 dX6_shareAll_140 rfl (by decide) zc_iconst_1 rfl (fun y42 ey42 => ?_)
      have hw := hw y42 ey42
      refine zg_lv (lv' := [(5, .int y42), (6, .ref b37), (1, .int x1), (2, .int x2), (3, .ref x3), (4, .int x4)]) rfl ?_
      refine zg_goto (tgt := 109) C0 dX6_shareAll_143 rfl ?_
      refine zg_sub [2, 3, 4, 5, 0] rfl ?_
      exact hrec _ _ hw
    · have hw := hw.2 c45
      refine zg_aload (q := 136) C0 0 dX6_shareAll_134 rfl rfl ?_
      refine zg_iload_n (q := 137) C0 2 dX6_shareAll_136 rfl rfl ?_
      refine zg_putI (q := 140) (T := TX2) (k := 12) (ty0 := tyX2) C0 dX6_shareAll_137 hz39 (zF_2 cy hz39) rfl (by decide) hX_X6_shareAll_2 tyX2_ok nmX2 (zwm (i := 3) rfl) rfl rfl rfl rfl (Nat.le_of_ble_eq_true rfl) (zF_2 cy hz39) (zP_2_12 Z S40 _ _) rfl (fun S43 eS43 => ?_)
      have hw := hw S43 eS43
      refine zg_iinc (q := 143) C0 5 dX6_shareAll_140 rfl (by decide) zc_iconst_1 rfl (fun y44 ey44 => ?_)
      have hw := hw y44 ey44
      refine zg_lv (lv' := [(5, .int y44), (6, .ref b37), (1, .int x1), (2, .int x2), (3, .ref x3), (4, .int x4)]) rfl ?_
      refine zg_goto (tgt := 109) C0 dX6_shareAll_143 rfl ?_
      refine zg_sub [2, 3, 4, 5, 0] rfl ?_
      exact hrec _ _ hw
theorem aL_X6_shareAll_109 {p : Program} {l : Launch} {e : Env} {s : State} {m : MethodId} {args : Array Value} {below : List Frame} {meth : Method} {c : Code} {D : va_G} {cy : Nat → ClassId} {A : Nat → Prop} {Q : State → Prop} {Z : zZ} (C0 : zC p s m args meth c cX6_shareAll 8 wsX6_shareAll RX6 D cy A none) {x1 : Int32} {x2 : Int32} {x3 : Nat} {x4 : Int32} {Qp : zS → Prop} {K : zS → Prop} (hK : ∀  S, K  S → zG p l e rm_X6_shareAll s m args below meth c D cy A 8 0 0 Q Z S 146 [] []) : ∀ x5 S, wL_X6_shareAll_109 Z x1 x2 x3 x4 Qp K x5 S → zG p l e rm_X6_shareAll s m args below meth c D cy A 8 0 0 Q Z S 109 [(1, .int x1), (2, .int x2), (3, .ref x3), (4, .int x4), (5, .int x5)] [] := by
  intro x5 S hw
  obtain ⟨n, hw⟩ := hw
  induction n generalizing x5 S with
  | zero => exact hw.elim
  | succ n ih => exact ab_X6_shareAll_109 C0 hK (fun x5 S hw => ih x5 S hw) hw
def w_X6_shareAll (Z : zZ) (h0 : Nat) (p0 : Int32) (S : zS) (Qp : zS → Prop) : Prop :=
  zk Z h0 6 ∧ ∃ b2, zQ Z h0 1 = some b2 ∧ zk Z b2 12 ∧ ∀ y5 : Int32, y5 = nI (zN Z b2) → wL_X6_shareAll_14 Z h0 p0 b2 y5 Qp (fun (v33 : Int32) (S32 : zS) => ∀ y34 : Int32, y34 = nI (zN Z b2) → wL_X6_shareAll_109 Z p0 v33 b2 y34 Qp (fun  (S47 : zS) => Qp S47) 0 S32) 0 0 S
set_option maxHeartbeats 4000000 in
set_option maxRecDepth 100000 in
theorem a_X6_shareAll (l : Launch) (D : va_G) (cy : Nat → ClassId) (Z : zZ) (S : zS) (sz : Nat) (h0 : Nat) (p0 : Int32) (Qp : zS → Prop) (hw : w_X6_shareAll Z h0 p0 S Qp) : zMv l yX6_shareAll wsX6_shareAll rm_X6_shareAll D cy Z S sz [.ref h0, .int p0] Qp := by
  unfold w_X6_shareAll at hw
  refine zMv_of (cc := cX6_shareAll) (maxL := 8) (rt := none) (by decide +kernel) rfl (Nat.le_of_ble_eq_true rfl) ?_
  intro p e s m args below meth c A C0 _
  refine zg_lv (lv' := [(0, .ref h0), (1, .int p0)]) rfl ?_
  refine zg_iconst (q := 1) C0 dX6_shareAll_0 zc_iconst_0 rfl ?_
  refine zg_istore_n (q := 2) (lv' := [(2, .int 0), (0, .ref h0), (1, .int p0)]) C0 dX6_shareAll_1 (by decide) rfl rfl ?_
  refine zg_aload_n (q := 3) C0 1 dX6_shareAll_2 rfl rfl ?_
  obtain ⟨hz1, hw⟩ := hw
  refine zg_get (q := 6) (T := TX6) (k := 1) C0 dX6_shareAll_3 hz1 (zF_6 cy hz1) rfl (by decide) hX_X6_shareAll_6 (zwm (i := 1) rfl) rfl rfl rfl ?_
  obtain ⟨b2, hb3, hw⟩ := hw
  refine zg_nn hb3 ?_
  refine zg_astore_n (q := 7) (lv' := [(3, .ref b2), (2, .int 0), (0, .ref h0), (1, .int p0)]) C0 dX6_shareAll_6 (by decide) rfl rfl ?_
  refine zg_aload_n (q := 8) C0 0 dX6_shareAll_7 rfl rfl ?_
  obtain ⟨hz4, hw⟩ := hw
  refine zg_alen_12 (q := 9) C0 dX6_shareAll_8 hz4 rfl ?_
  refine zg_ni (fun y5 ey5 => ?_)
  have hw := hw y5 ey5
  refine zg_istore (q := 11) (lv' := [(4, .int y5), (3, .ref b2), (2, .int 0), (0, .ref h0), (1, .int p0)]) C0 dX6_shareAll_9 (by decide) rfl rfl ?_
  refine zg_iconst (q := 12) C0 dX6_shareAll_11 zc_iconst_0 rfl ?_
  refine zg_istore (q := 14) (lv' := [(5, .int 0), (4, .int y5), (3, .ref b2), (2, .int 0), (0, .ref h0), (1, .int p0)]) C0 dX6_shareAll_12 (by decide) rfl rfl ?_
  refine zg_sub [4, 5, 3, 2, 1, 0] rfl ?_
  refine aL_X6_shareAll_14 C0 (fun v33 S32 hw => ?_) _ _ _ hw
  refine zg_aload_n (q := 98) C0 0 dX6_shareAll_97 rfl rfl ?_
  refine zg_get (q := 101) (T := TX6) (k := 1) C0 dX6_shareAll_98 hz1 (zF_6 cy hz1) rfl (by decide) hX_X6_shareAll_6 (zwm (i := 1) rfl) rfl rfl rfl ?_
  refine zg_nn hb3 ?_
  refine zg_astore_n (q := 102) (lv' := [(3, .ref b2), (0, .ref h0), (1, .int p0), (2, .int v33)]) C0 dX6_shareAll_101 (by decide) rfl rfl ?_
  refine zg_aload_n (q := 103) C0 0 dX6_shareAll_102 rfl rfl ?_
  refine zg_alen_12 (q := 104) C0 dX6_shareAll_103 hz4 rfl ?_
  refine zg_ni (fun y34 ey34 => ?_)
  have hw := hw y34 ey34
  refine zg_istore (q := 106) (lv' := [(4, .int y34), (3, .ref b2), (0, .ref h0), (1, .int p0), (2, .int v33)]) C0 dX6_shareAll_104 (by decide) rfl rfl ?_
  refine zg_iconst (q := 107) C0 dX6_shareAll_106 zc_iconst_0 rfl ?_
  refine zg_istore (q := 109) (lv' := [(5, .int 0), (4, .int y34), (3, .ref b2), (0, .ref h0), (1, .int p0), (2, .int v33)]) C0 dX6_shareAll_107 (by decide) rfl rfl ?_
  refine zg_sub [4, 5, 2, 1, 0] rfl ?_
  refine aL_X6_shareAll_109 C0 (fun  S47 hw => ?_) _ _ hw
  exact zg_vret C0 dX6_shareAll_146 rfl (Nat.le_refl 0) (Nat.le_refl 0) hw
-- X6_endRing
abbrev rm_X6_endRing : Room := { frames := 4, cells := 0, slots := 0, locals := 96 }
theorem hX_X6_endRing_2 : ∀ w ∈ u_ws RX2 TX2 13, w ∈ wsX6_endRing := by decide +kernel
theorem hX_X6_endRing_5 : ∀ w ∈ u_ws RX5 TX5 6, w ∈ wsX6_endRing := by decide +kernel
theorem hX_X6_endRing_6 : ∀ w ∈ u_ws RX6 TX6 4, w ∈ wsX6_endRing := by decide +kernel
theorem hdV_X6_endRing : yX6_endRing.cls = RX6 ∧ yX6_endRing.cls ≠ "java/lang/invoke/MethodHandle" ∧ yX6_endRing.cls ≠ "java/lang/invoke/VarHandle" ∧ (parseMethodDescriptor yX6_endRing.desc).map (fun d => d.parameters.length) = some 1 := by decide +kernel
def wb_X6_endRing_16 (Z : zZ) (x1 : Int32) (x2 : Nat) (x3 : Int32) (Qp : zS → Prop) (K : zS → Prop) (rec : Int32 → zS → Prop) (x4 : Int32) (S : zS) : Prop :=
  ((x3 ≤ x4 → K S) ∧ (¬ x3 ≤ x4 → zk Z x2 12 ∧ vp_in x4 (zN Z x2) ∧ ∃ b9, zQ Z x2 x4.toNatClampNeg = some b9 ∧ zk Z b9 2 ∧ w_X6_isIn Z (zI S b9 0) x1 S (fun (v13 : Int32) (S12 : zS) => ((v13 = 0 → ∀ y14 : Int32, y14 = x4 + 1 → rec y14 S12) ∧ (¬ v13 = 0 → w_X2_deliverInTurn Z b9 S12 (fun (v16 : Int32) (S15 : zS) => ∃ b17, zQ Z b9 3 = some b17 ∧ ∃ b19, zR S15 b9 7 = some b19 ∧ zk Z b19 5 ∧ zk Z b17 0 ∧ w_X0_add Z b17 2 x1 0 0 0 (zI S15 b19 2) S15 (fun (S23 : zS) => w_X2_deliverLeft Z b9 x1 S23 (fun (S24 : zS) => ∀ y25 : Int32, y25 = x4 + 1 → rec y25 S24))))))))
def wL_X6_endRing_16 (Z : zZ) (x1 : Int32) (x2 : Nat) (x3 : Int32) (Qp : zS → Prop) (K : zS → Prop) (x4 : Int32) (S : zS) : Prop := ∃ n, zit2 (wb_X6_endRing_16 Z x1 x2 x3 Qp K) n x4 S
set_option maxHeartbeats 4000000 in
set_option maxRecDepth 100000 in
theorem ab_X6_endRing_16 {p : Program} {l : Launch} {e : Env} {s : State} {m : MethodId} {args : Array Value} {below : List Frame} {meth : Method} {c : Code} {D : va_G} {cy : Nat → ClassId} {A : Nat → Prop} {Q : State → Prop} {Z : zZ} (C0 : zC p s m args meth c cX6_endRing 6 wsX6_endRing RX6 D cy A none) {x1 : Int32} {x2 : Nat} {x3 : Int32} {Qp : zS → Prop} {K : zS → Prop} (hK : ∀  S, K  S → zG p l e rm_X6_endRing s m args below meth c D cy A 6 0 0 Q Z S 79 [] []) {rec : Int32 → zS → Prop} (hrec : ∀ x4 S, rec x4 S → zG p l e rm_X6_endRing s m args below meth c D cy A 6 0 0 Q Z S 16 [(1, .int x1), (2, .ref x2), (3, .int x3), (4, .int x4)] []) {x4 : Int32} {S : zS} (hw : wb_X6_endRing_16 Z x1 x2 x3 Qp K rec x4 S) : zG p l e rm_X6_endRing s m args below meth c D cy A 6 0 0 Q Z S 16 [(1, .int x1), (2, .ref x2), (3, .int x3), (4, .int x4)] [] := by
  unfold wb_X6_endRing_16 at hw
  refine zg_iload (q := 18) C0 3 dX6_endRing_16 rfl rfl ?_
  refine zg_iload_n (q := 19) C0 2 dX6_endRing_18 rfl rfl ?_
  refine zg_icmp_ge (q := 22) (tgt := 79) C0 dX6_endRing_19 rfl rfl (fun c27 => ?_) (fun c27 => ?_)
  · have hw := hw.1 c27
    refine zg_sub [] rfl ?_
    exact hK  _ hw
  · have hw := hw.2 c27
    refine zg_aload_n (q := 23) C0 1 dX6_endRing_22 rfl rfl ?_
    refine zg_iload (q := 25) C0 3 dX6_endRing_23 rfl rfl ?_
    obtain ⟨hz7, hw⟩ := hw
    obtain ⟨hi8, hw⟩ := hw
    refine zg_aald_12 (q := 26) C0 dX6_endRing_25 hz7 hi8 rfl ?_
    obtain ⟨b9, hb10, hw⟩ := hw
    refine zg_nn hb10 ?_
    refine zg_astore (q := 28) (lv' := [(5, .ref b9), (1, .int x1), (2, .ref x2), (3, .int x3), (4, .int x4)]) C0 dX6_endRing_26 (by decide) rfl rfl ?_
    refine zg_aload (q := 30) C0 0 dX6_endRing_28 rfl rfl ?_
    obtain ⟨hz11, hw⟩ := hw
    refine zg_get (q := 33) (T := TX2) (k := 0) C0 dX6_endRing_30 hz11 (zF_2 cy hz11) rfl (by decide) hX_X6_endRing_2 (zwm (i := 2) rfl) rfl rfl rfl ?_
    refine zg_iload_n (q := 34) C0 1 dX6_endRing_33 rfl rfl ?_
    refine zg_callSi (q := 37) C0 [.int (zI S b9 0), .int x1] [] dX6_endRing_34 (fun sz => a_X6_isIn l D cy Z S sz (zI S b9 0) x1 _ hw) rfl gX6_endRing_X6_isIn hdS_X6_isIn rfl ⟨Nat.le_of_ble_eq_true rfl, Nat.le_of_ble_eq_true rfl⟩ (Nat.le_of_ble_eq_true rfl) ⟨Nat.zero_le _, Nat.zero_le _⟩ ⟨rfl, rfl⟩ rfl (fun v13 S12 hw => ?_)
    refine zg_if_eq (q := 40) (tgt := 73) C0 dX6_endRing_37 rfl rfl (fun c26 => ?_) (fun c26 => ?_)
    · have hw := hw.1 c26
      refine zg_iinc (q := 76) C0 4 dX6_endRing_73 rfl (by decide) zc_iconst_1 rfl (fun y14 ey14 => ?_)
      have hw := hw y14 ey14
      refine zg_lv (lv' := [(4, .int y14), (5, .ref b9), (1, .int x1), (2, .ref x2), (3, .int x3)]) rfl ?_
      refine zg_goto (tgt := 16) C0 dX6_endRing_76 rfl ?_
      refine zg_sub [2, 3, 4, 0] rfl ?_
      exact hrec _ _ hw
    · have hw := hw.2 c26
      refine zg_aload (q := 42) C0 0 dX6_endRing_40 rfl rfl ?_
      refine zg_callVi (q := 45) C0 [] [] dX6_endRing_42 (fun sz => a_X2_deliverInTurn l D cy Z S12 sz b9 _ hw) rfl gX6_endRing_X2_deliverInTurn hdV_X2_deliverInTurn hz11 (zF_2 cy hz11) rfl rfl ⟨Nat.le_of_ble_eq_true rfl, Nat.le_of_ble_eq_true rfl⟩ (Nat.le_of_ble_eq_true rfl) ⟨Nat.zero_le _, Nat.zero_le _⟩ ⟨rfl, rfl⟩ rfl (fun v16 S15 hw => ?_)
      refine zg_pop (q := 46) C0 dX6_endRing_45 rfl rfl ?_
      refine zg_aload (q := 48) C0 0 dX6_endRing_46 rfl rfl ?_
      refine zg_get (q := 51) (T := TX2) (k := 3) C0 dX6_endRing_48 hz11 (zF_2 cy hz11) rfl (by decide) hX_X6_endRing_2 (zwm (i := 3) rfl) rfl rfl rfl ?_
      obtain ⟨b17, hb18, hw⟩ := hw
      refine zg_nn hb18 ?_
      refine zg_iconst (q := 52) C0 dX6_endRing_51 zc_iconst_2 rfl ?_
      refine zg_iload_n (q := 53) C0 1 dX6_endRing_52 rfl rfl ?_
      refine zg_iconst (q := 54) C0 dX6_endRing_53 zc_iconst_0 rfl ?_
      refine zg_iconst (q := 55) C0 dX6_endRing_54 zc_iconst_0 rfl ?_
      refine zg_lconst (q := 56) (v := 0) C0 dX6_endRing_55 (by decide) rfl ?_
      refine zg_aload (q := 58) C0 0 dX6_endRing_56 rfl rfl ?_
      refine zg_get (q := 61) (T := TX2) (k := 7) C0 dX6_endRing_58 hz11 (zF_2 cy hz11) rfl (by decide) hX_X6_endRing_2 (zwm (i := 4) rfl) rfl rfl rfl ?_
      obtain ⟨b19, hb20, hw⟩ := hw
      refine zg_nn hb20 ?_
      obtain ⟨hz21, hw⟩ := hw
      refine zg_get (q := 64) (T := TX5) (k := 2) C0 dX6_endRing_61 hz21 (zF_5 cy hz21) rfl (by decide) hX_X6_endRing_5 (zwm (i := 5) rfl) rfl rfl rfl ?_
      obtain ⟨hz22, hw⟩ := hw
      refine zg_callVv (q := 67) C0 [.int 2, .int x1, .int 0, .int 0, .long 0, .int (zI S15 b19 2)] [] dX6_endRing_64 (fun sz => a_X0_add l D cy Z S15 sz b17 2 x1 0 0 0 (zI S15 b19 2) _ hw) rfl gX6_endRing_X0_add hdV_X0_add hz22 (zF_0 cy hz22) rfl rfl ⟨Nat.le_of_ble_eq_true rfl, Nat.le_of_ble_eq_true rfl⟩ (Nat.le_of_ble_eq_true rfl) ⟨Nat.zero_le _, Nat.zero_le _⟩ ⟨rfl, rfl⟩ rfl (fun S23 hw => ?_)
      refine zg_aload (q := 69) C0 0 dX6_endRing_67 rfl rfl ?_
      refine zg_iload_n (q := 70) C0 1 dX6_endRing_69 rfl rfl ?_
      refine zg_callVv (q := 73) C0 [.int x1] [] dX6_endRing_70 (fun sz => a_X2_deliverLeft l D cy Z S23 sz b9 x1 _ hw) rfl gX6_endRing_X2_deliverLeft hdV_X2_deliverLeft hz11 (zF_2 cy hz11) rfl rfl ⟨Nat.le_of_ble_eq_true rfl, Nat.le_of_ble_eq_true rfl⟩ (Nat.le_of_ble_eq_true rfl) ⟨Nat.zero_le _, Nat.zero_le _⟩ ⟨rfl, rfl⟩ rfl (fun S24 hw => ?_)
      refine zg_iinc (q := 76) C0 4 dX6_endRing_73 rfl (by decide) zc_iconst_1 rfl (fun y25 ey25 => ?_)
      have hw := hw y25 ey25
      refine zg_lv (lv' := [(4, .int y25), (5, .ref b9), (1, .int x1), (2, .ref x2), (3, .int x3)]) rfl ?_
      refine zg_goto (tgt := 16) C0 dX6_endRing_76 rfl ?_
      refine zg_sub [2, 3, 4, 0] rfl ?_
      exact hrec _ _ hw
theorem aL_X6_endRing_16 {p : Program} {l : Launch} {e : Env} {s : State} {m : MethodId} {args : Array Value} {below : List Frame} {meth : Method} {c : Code} {D : va_G} {cy : Nat → ClassId} {A : Nat → Prop} {Q : State → Prop} {Z : zZ} (C0 : zC p s m args meth c cX6_endRing 6 wsX6_endRing RX6 D cy A none) {x1 : Int32} {x2 : Nat} {x3 : Int32} {Qp : zS → Prop} {K : zS → Prop} (hK : ∀  S, K  S → zG p l e rm_X6_endRing s m args below meth c D cy A 6 0 0 Q Z S 79 [] []) : ∀ x4 S, wL_X6_endRing_16 Z x1 x2 x3 Qp K x4 S → zG p l e rm_X6_endRing s m args below meth c D cy A 6 0 0 Q Z S 16 [(1, .int x1), (2, .ref x2), (3, .int x3), (4, .int x4)] [] := by
  intro x4 S hw
  obtain ⟨n, hw⟩ := hw
  induction n generalizing x4 S with
  | zero => exact hw.elim
  | succ n ih => exact ab_X6_endRing_16 C0 hK (fun x4 S hw => ih x4 S hw) hw
def w_X6_endRing (Z : zZ) (h0 : Nat) (p0 : Int32) (S : zS) (Qp : zS → Prop) : Prop :=
  zk Z h0 6 ∧ w_X6_shareAll Z h0 p0 S (fun (S2 : zS) => ∃ b3, zQ Z h0 1 = some b3 ∧ zk Z b3 12 ∧ ∀ y6 : Int32, y6 = nI (zN Z b3) → wL_X6_endRing_16 Z p0 b3 y6 Qp (fun  (S28 : zS) => Qp S28) 0 S2)
set_option maxHeartbeats 4000000 in
set_option maxRecDepth 100000 in
theorem a_X6_endRing (l : Launch) (D : va_G) (cy : Nat → ClassId) (Z : zZ) (S : zS) (sz : Nat) (h0 : Nat) (p0 : Int32) (Qp : zS → Prop) (hw : w_X6_endRing Z h0 p0 S Qp) : zMv l yX6_endRing wsX6_endRing rm_X6_endRing D cy Z S sz [.ref h0, .int p0] Qp := by
  unfold w_X6_endRing at hw
  refine zMv_of (cc := cX6_endRing) (maxL := 6) (rt := none) (by decide +kernel) rfl (Nat.le_of_ble_eq_true rfl) ?_
  intro p e s m args below meth c A C0 _
  refine zg_lv (lv' := [(0, .ref h0), (1, .int p0)]) rfl ?_
  refine zg_aload_n (q := 1) C0 0 dX6_endRing_0 rfl rfl ?_
  refine zg_iload_n (q := 2) C0 1 dX6_endRing_1 rfl rfl ?_
  obtain ⟨hz1, hw⟩ := hw
  refine zg_callVv (q := 5) C0 [.int p0] [] dX6_endRing_2 (fun sz => a_X6_shareAll l D cy Z S sz h0 p0 _ hw) rfl gX6_endRing_X6_shareAll hdV_X6_shareAll hz1 (zF_6 cy hz1) rfl rfl ⟨Nat.le_of_ble_eq_true rfl, Nat.le_of_ble_eq_true rfl⟩ (Nat.le_of_ble_eq_true rfl) ⟨Nat.zero_le _, Nat.zero_le _⟩ ⟨rfl, rfl⟩ rfl (fun S2 hw => ?_)
  refine zg_aload_n (q := 6) C0 0 dX6_endRing_5 rfl rfl ?_
  refine zg_get (q := 9) (T := TX6) (k := 1) C0 dX6_endRing_6 hz1 (zF_6 cy hz1) rfl (by decide) hX_X6_endRing_6 (zwm (i := 1) rfl) rfl rfl rfl ?_
  obtain ⟨b3, hb4, hw⟩ := hw
  refine zg_nn hb4 ?_
  refine zg_astore_n (q := 10) (lv' := [(2, .ref b3), (0, .ref h0), (1, .int p0)]) C0 dX6_endRing_9 (by decide) rfl rfl ?_
  refine zg_aload_n (q := 11) C0 0 dX6_endRing_10 rfl rfl ?_
  obtain ⟨hz5, hw⟩ := hw
  refine zg_alen_12 (q := 12) C0 dX6_endRing_11 hz5 rfl ?_
  refine zg_ni (fun y6 ey6 => ?_)
  have hw := hw y6 ey6
  refine zg_istore_n (q := 13) (lv' := [(3, .int y6), (2, .ref b3), (0, .ref h0), (1, .int p0)]) C0 dX6_endRing_12 (by decide) rfl rfl ?_
  refine zg_iconst (q := 14) C0 dX6_endRing_13 zc_iconst_0 rfl ?_
  refine zg_istore (q := 16) (lv' := [(4, .int 0), (3, .int y6), (2, .ref b3), (0, .ref h0), (1, .int p0)]) C0 dX6_endRing_14 (by decide) rfl rfl ?_
  refine zg_sub [4, 2, 1, 0] rfl ?_
  refine aL_X6_endRing_16 C0 (fun  S28 hw => ?_) _ _ hw
  exact zg_vret C0 dX6_endRing_79 rfl (Nat.le_refl 0) (Nat.le_refl 0) hw
-- X6_endOldRings
abbrev rm_X6_endOldRings : Room := { frames := 5, cells := 0, slots := 0, locals := 121 }
theorem hX_X6_endOldRings_2 : ∀ w ∈ u_ws RX2 TX2 13, w ∈ wsX6_endOldRings := by decide +kernel
theorem hX_X6_endOldRings_6 : ∀ w ∈ u_ws RX6 TX6 4, w ∈ wsX6_endOldRings := by decide +kernel
theorem hdV_X6_endOldRings : yX6_endOldRings.cls = RX6 ∧ yX6_endOldRings.cls ≠ "java/lang/invoke/MethodHandle" ∧ yX6_endOldRings.cls ≠ "java/lang/invoke/VarHandle" ∧ (parseMethodDescriptor yX6_endOldRings.desc).map (fun d => d.parameters.length) = some 1 := by decide +kernel
def wb_X6_endOldRings_11 (Z : zZ) (x0 : Nat) (x1 : Int32) (x2 : Nat) (x3 : Int32) (Qp : zS → Prop) (K : zS → Prop) (rec : Int32 → zS → Prop) (x4 : Int32) (S : zS) : Prop :=
  ((x3 ≤ x4 → K S) ∧ (¬ x3 ≤ x4 → zk Z x2 12 ∧ vp_in x4 (zN Z x2) ∧ ∃ b8, zQ Z x2 x4.toNatClampNeg = some b8 ∧ zk Z b8 2 ∧ ∃ b11, zR S b8 7 = some b11 ∧ zk Z x0 6 ∧ ∃ b14, zQ Z x0 3 = some b14 ∧ ((some b11 = some b14 → ∀ y16 : Int32, y16 = x4 + 1 → rec y16 S) ∧ (¬ some b11 = some b14 → w_X6_isIn Z (zI S b8 0) x1 S (fun (v18 : Int32) (S17 : zS) => ((v18 = 0 → ∀ y19 : Int32, y19 = x4 + 1 → rec y19 S17) ∧ (¬ v18 = 0 → ∃ b20, zR S17 b8 7 = some b20 ∧ w_X6_ofRing Z x0 b20 x1 S17 (fun (v23 : Int32) (S22 : zS) => w_X6_leastOf Z v23 S22 (fun (v25 : Int32) (S24 : zS) => ((¬ v25 = (zI S24 b8 0) → ∀ y26 : Int32, y26 = x4 + 1 → rec y26 S24) ∧ (v25 = (zI S24 b8 0) → w_X6_endRing Z x0 v23 S24 (fun (S27 : zS) => ∀ y28 : Int32, y28 = x4 + 1 → rec y28 S27))))))))))))
def wL_X6_endOldRings_11 (Z : zZ) (x0 : Nat) (x1 : Int32) (x2 : Nat) (x3 : Int32) (Qp : zS → Prop) (K : zS → Prop) (x4 : Int32) (S : zS) : Prop := ∃ n, zit2 (wb_X6_endOldRings_11 Z x0 x1 x2 x3 Qp K) n x4 S
set_option maxHeartbeats 4000000 in
set_option maxRecDepth 100000 in
theorem ab_X6_endOldRings_11 {p : Program} {l : Launch} {e : Env} {s : State} {m : MethodId} {args : Array Value} {below : List Frame} {meth : Method} {c : Code} {D : va_G} {cy : Nat → ClassId} {A : Nat → Prop} {Q : State → Prop} {Z : zZ} (C0 : zC p s m args meth c cX6_endOldRings 7 wsX6_endOldRings RX6 D cy A none) {x0 : Nat} {x1 : Int32} {x2 : Nat} {x3 : Int32} {Qp : zS → Prop} {K : zS → Prop} (hK : ∀  S, K  S → zG p l e rm_X6_endOldRings s m args below meth c D cy A 7 0 0 Q Z S 84 [] []) {rec : Int32 → zS → Prop} (hrec : ∀ x4 S, rec x4 S → zG p l e rm_X6_endOldRings s m args below meth c D cy A 7 0 0 Q Z S 11 [(0, .ref x0), (1, .int x1), (2, .ref x2), (3, .int x3), (4, .int x4)] []) {x4 : Int32} {S : zS} (hw : wb_X6_endOldRings_11 Z x0 x1 x2 x3 Qp K rec x4 S) : zG p l e rm_X6_endOldRings s m args below meth c D cy A 7 0 0 Q Z S 11 [(0, .ref x0), (1, .int x1), (2, .ref x2), (3, .int x3), (4, .int x4)] [] := by
  unfold wb_X6_endOldRings_11 at hw
  refine zg_iload (q := 13) C0 4 dX6_endOldRings_11 rfl rfl ?_
  refine zg_iload_n (q := 14) C0 3 dX6_endOldRings_13 rfl rfl ?_
  refine zg_icmp_ge (q := 17) (tgt := 84) C0 dX6_endOldRings_14 rfl rfl (fun c32 => ?_) (fun c32 => ?_)
  · have hw := hw.1 c32
    refine zg_sub [] rfl ?_
    exact hK  _ hw
  · have hw := hw.2 c32
    refine zg_aload_n (q := 18) C0 2 dX6_endOldRings_17 rfl rfl ?_
    refine zg_iload (q := 20) C0 4 dX6_endOldRings_18 rfl rfl ?_
    obtain ⟨hz6, hw⟩ := hw
    obtain ⟨hi7, hw⟩ := hw
    refine zg_aald_12 (q := 21) C0 dX6_endOldRings_20 hz6 hi7 rfl ?_
    obtain ⟨b8, hb9, hw⟩ := hw
    refine zg_nn hb9 ?_
    refine zg_astore (q := 23) (lv' := [(5, .ref b8), (0, .ref x0), (1, .int x1), (2, .ref x2), (3, .int x3), (4, .int x4)]) C0 dX6_endOldRings_21 (by decide) rfl rfl ?_
    refine zg_aload (q := 25) C0 0 dX6_endOldRings_23 rfl rfl ?_
    obtain ⟨hz10, hw⟩ := hw
    refine zg_get (q := 28) (T := TX2) (k := 7) C0 dX6_endOldRings_25 hz10 (zF_2 cy hz10) rfl (by decide) hX_X6_endOldRings_2 (zwm (i := 2) rfl) rfl rfl rfl ?_
    obtain ⟨b11, hb12, hw⟩ := hw
    refine zg_nn hb12 ?_
    refine zg_aload_n (q := 29) C0 1 dX6_endOldRings_28 rfl rfl ?_
    obtain ⟨hz13, hw⟩ := hw
    refine zg_get (q := 32) (T := TX6) (k := 3) C0 dX6_endOldRings_29 hz13 (zF_6 cy hz13) rfl (by decide) hX_X6_endOldRings_6 (zwm (i := 3) rfl) rfl rfl rfl ?_
    obtain ⟨b14, hb15, hw⟩ := hw
    refine zg_nn hb15 ?_
    refine zg_acmp_eq (a := some b11) (b := some b14) (q := 35) (tgt := 78) C0 dX6_endOldRings_32 rfl rfl rfl rfl (fun c31 => ?_) (fun c31 => ?_)
    · have hw := hw.1 c31
      refine zg_iinc (q := 81) C0 5 dX6_endOldRings_78 rfl (by decide) zc_iconst_1 rfl (fun y16 ey16 => ?_)
      have hw := hw y16 ey16
      refine zg_lv (lv' := [(4, .int y16), (5, .ref b8), (0, .ref x0), (1, .int x1), (2, .ref x2), (3, .int x3)]) rfl ?_
      refine zg_goto (tgt := 11) C0 dX6_endOldRings_81 rfl ?_
      refine zg_sub [2, 3, 4, 5, 0] rfl ?_
      exact hrec _ _ hw
    · have hw := hw.2 c31
      refine zg_aload (q := 37) C0 0 dX6_endOldRings_35 rfl rfl ?_
      refine zg_get (q := 40) (T := TX2) (k := 0) C0 dX6_endOldRings_37 hz10 (zF_2 cy hz10) rfl (by decide) hX_X6_endOldRings_2 (zwm (i := 4) rfl) rfl rfl rfl ?_
      refine zg_iload_n (q := 41) C0 2 dX6_endOldRings_40 rfl rfl ?_
      refine zg_callSi (q := 44) C0 [.int (zI S b8 0), .int x1] [] dX6_endOldRings_41 (fun sz => a_X6_isIn l D cy Z S sz (zI S b8 0) x1 _ hw) rfl gX6_endOldRings_X6_isIn hdS_X6_isIn rfl ⟨Nat.le_of_ble_eq_true rfl, Nat.le_of_ble_eq_true rfl⟩ (Nat.le_of_ble_eq_true rfl) ⟨Nat.zero_le _, Nat.zero_le _⟩ ⟨rfl, rfl⟩ rfl (fun v18 S17 hw => ?_)
      refine zg_if_eq (q := 47) (tgt := 78) C0 dX6_endOldRings_44 rfl rfl (fun c30 => ?_) (fun c30 => ?_)
      · have hw := hw.1 c30
        refine zg_iinc (q := 81) C0 5 dX6_endOldRings_78 rfl (by decide) zc_iconst_1 rfl (fun y19 ey19 => ?_)
        have hw := hw y19 ey19
        refine zg_lv (lv' := [(4, .int y19), (5, .ref b8), (0, .ref x0), (1, .int x1), (2, .ref x2), (3, .int x3)]) rfl ?_
        refine zg_goto (tgt := 11) C0 dX6_endOldRings_81 rfl ?_
        refine zg_sub [2, 3, 4, 5, 0] rfl ?_
        exact hrec _ _ hw
      · have hw := hw.2 c30
        refine zg_aload_n (q := 48) C0 1 dX6_endOldRings_47 rfl rfl ?_
        refine zg_aload (q := 50) C0 0 dX6_endOldRings_48 rfl rfl ?_
        refine zg_get (q := 53) (T := TX2) (k := 7) C0 dX6_endOldRings_50 hz10 (zF_2 cy hz10) rfl (by decide) hX_X6_endOldRings_2 (zwm (i := 2) rfl) rfl rfl rfl ?_
        obtain ⟨b20, hb21, hw⟩ := hw
        refine zg_nn hb21 ?_
        refine zg_iload_n (q := 54) C0 2 dX6_endOldRings_53 rfl rfl ?_
        refine zg_callVi (q := 57) C0 [.ref b20, .int x1] [] dX6_endOldRings_54 (fun sz => a_X6_ofRing l D cy Z S17 sz x0 b20 x1 _ hw) rfl gX6_endOldRings_X6_ofRing hdV_X6_ofRing hz13 (zF_6 cy hz13) rfl rfl ⟨Nat.le_of_ble_eq_true rfl, Nat.le_of_ble_eq_true rfl⟩ (Nat.le_of_ble_eq_true rfl) ⟨Nat.zero_le _, Nat.zero_le _⟩ ⟨rfl, rfl⟩ rfl (fun v23 S22 hw => ?_)
        refine zg_istore (q := 59) (lv' := [(6, .int v23), (5, .ref b8), (0, .ref x0), (1, .int x1), (2, .ref x2), (3, .int x3), (4, .int x4)]) C0 dX6_endOldRings_57 (by decide) rfl rfl ?_
        refine zg_iload (q := 61) C0 0 dX6_endOldRings_59 rfl rfl ?_
        refine zg_callSi (q := 64) C0 [.int v23] [] dX6_endOldRings_61 (fun sz => a_X6_leastOf l D cy Z S22 sz v23 _ hw) rfl gX6_endOldRings_X6_leastOf hdS_X6_leastOf rfl ⟨Nat.le_of_ble_eq_true rfl, Nat.le_of_ble_eq_true rfl⟩ (Nat.le_of_ble_eq_true rfl) ⟨Nat.zero_le _, Nat.zero_le _⟩ ⟨rfl, rfl⟩ rfl (fun v25 S24 hw => ?_)
        refine zg_aload (q := 66) C0 1 dX6_endOldRings_64 rfl rfl ?_
        refine zg_get (q := 69) (T := TX2) (k := 0) C0 dX6_endOldRings_66 hz10 (zF_2 cy hz10) rfl (by decide) hX_X6_endOldRings_2 (zwm (i := 4) rfl) rfl rfl rfl ?_
        refine zg_icmp_ne (q := 72) (tgt := 78) C0 dX6_endOldRings_69 rfl rfl (fun c29 => ?_) (fun c29 => ?_)
        · have hw := hw.1 c29
          refine zg_iinc (q := 81) C0 6 dX6_endOldRings_78 rfl (by decide) zc_iconst_1 rfl (fun y26 ey26 => ?_)
          have hw := hw y26 ey26
          refine zg_lv (lv' := [(4, .int y26), (6, .int v23), (5, .ref b8), (0, .ref x0), (1, .int x1), (2, .ref x2), (3, .int x3)]) rfl ?_
          refine zg_goto (tgt := 11) C0 dX6_endOldRings_81 rfl ?_
          refine zg_sub [3, 4, 5, 6, 0] rfl ?_
          exact hrec _ _ hw
        · have hw := hw.2 c29
          refine zg_aload_n (q := 73) C0 2 dX6_endOldRings_72 rfl rfl ?_
          refine zg_iload (q := 75) C0 0 dX6_endOldRings_73 rfl rfl ?_
          refine zg_callVv (q := 78) C0 [.int v23] [] dX6_endOldRings_75 (fun sz => a_X6_endRing l D cy Z S24 sz x0 v23 _ hw) rfl gX6_endOldRings_X6_endRing hdV_X6_endRing hz13 (zF_6 cy hz13) rfl rfl ⟨Nat.le_of_ble_eq_true rfl, Nat.le_of_ble_eq_true rfl⟩ (Nat.le_of_ble_eq_true rfl) ⟨Nat.zero_le _, Nat.zero_le _⟩ ⟨rfl, rfl⟩ rfl (fun S27 hw => ?_)
          refine zg_iinc (q := 81) C0 6 dX6_endOldRings_78 rfl (by decide) zc_iconst_1 rfl (fun y28 ey28 => ?_)
          have hw := hw y28 ey28
          refine zg_lv (lv' := [(4, .int y28), (6, .int v23), (5, .ref b8), (0, .ref x0), (1, .int x1), (2, .ref x2), (3, .int x3)]) rfl ?_
          refine zg_goto (tgt := 11) C0 dX6_endOldRings_81 rfl ?_
          refine zg_sub [3, 4, 5, 6, 0] rfl ?_
          exact hrec _ _ hw
theorem aL_X6_endOldRings_11 {p : Program} {l : Launch} {e : Env} {s : State} {m : MethodId} {args : Array Value} {below : List Frame} {meth : Method} {c : Code} {D : va_G} {cy : Nat → ClassId} {A : Nat → Prop} {Q : State → Prop} {Z : zZ} (C0 : zC p s m args meth c cX6_endOldRings 7 wsX6_endOldRings RX6 D cy A none) {x0 : Nat} {x1 : Int32} {x2 : Nat} {x3 : Int32} {Qp : zS → Prop} {K : zS → Prop} (hK : ∀  S, K  S → zG p l e rm_X6_endOldRings s m args below meth c D cy A 7 0 0 Q Z S 84 [] []) : ∀ x4 S, wL_X6_endOldRings_11 Z x0 x1 x2 x3 Qp K x4 S → zG p l e rm_X6_endOldRings s m args below meth c D cy A 7 0 0 Q Z S 11 [(0, .ref x0), (1, .int x1), (2, .ref x2), (3, .int x3), (4, .int x4)] [] := by
  intro x4 S hw
  obtain ⟨n, hw⟩ := hw
  induction n generalizing x4 S with
  | zero => exact hw.elim
  | succ n ih => exact ab_X6_endOldRings_11 C0 hK (fun x4 S hw => ih x4 S hw) hw
def w_X6_endOldRings (Z : zZ) (h0 : Nat) (p0 : Int32) (S : zS) (Qp : zS → Prop) : Prop :=
  zk Z h0 6 ∧ ∃ b2, zQ Z h0 1 = some b2 ∧ zk Z b2 12 ∧ ∀ y5 : Int32, y5 = nI (zN Z b2) → wL_X6_endOldRings_11 Z h0 p0 b2 y5 Qp (fun  (S33 : zS) => Qp S33) 0 S
set_option maxHeartbeats 4000000 in
set_option maxRecDepth 100000 in
theorem a_X6_endOldRings (l : Launch) (D : va_G) (cy : Nat → ClassId) (Z : zZ) (S : zS) (sz : Nat) (h0 : Nat) (p0 : Int32) (Qp : zS → Prop) (hw : w_X6_endOldRings Z h0 p0 S Qp) : zMv l yX6_endOldRings wsX6_endOldRings rm_X6_endOldRings D cy Z S sz [.ref h0, .int p0] Qp := by
  unfold w_X6_endOldRings at hw
  refine zMv_of (cc := cX6_endOldRings) (maxL := 7) (rt := none) (by decide +kernel) rfl (Nat.le_of_ble_eq_true rfl) ?_
  intro p e s m args below meth c A C0 _
  refine zg_lv (lv' := [(0, .ref h0), (1, .int p0)]) rfl ?_
  refine zg_aload_n (q := 1) C0 0 dX6_endOldRings_0 rfl rfl ?_
  obtain ⟨hz1, hw⟩ := hw
  refine zg_get (q := 4) (T := TX6) (k := 1) C0 dX6_endOldRings_1 hz1 (zF_6 cy hz1) rfl (by decide) hX_X6_endOldRings_6 (zwm (i := 1) rfl) rfl rfl rfl ?_
  obtain ⟨b2, hb3, hw⟩ := hw
  refine zg_nn hb3 ?_
  refine zg_astore_n (q := 5) (lv' := [(2, .ref b2), (0, .ref h0), (1, .int p0)]) C0 dX6_endOldRings_4 (by decide) rfl rfl ?_
  refine zg_aload_n (q := 6) C0 0 dX6_endOldRings_5 rfl rfl ?_
  obtain ⟨hz4, hw⟩ := hw
  refine zg_alen_12 (q := 7) C0 dX6_endOldRings_6 hz4 rfl ?_
  refine zg_ni (fun y5 ey5 => ?_)
  have hw := hw y5 ey5
  refine zg_istore_n (q := 8) (lv' := [(3, .int y5), (2, .ref b2), (0, .ref h0), (1, .int p0)]) C0 dX6_endOldRings_7 (by decide) rfl rfl ?_
  refine zg_iconst (q := 9) C0 dX6_endOldRings_8 zc_iconst_0 rfl ?_
  refine zg_istore (q := 11) (lv' := [(4, .int 0), (3, .int y5), (2, .ref b2), (0, .ref h0), (1, .int p0)]) C0 dX6_endOldRings_9 (by decide) rfl rfl ?_
  refine zg_sub [3, 4, 2, 1, 0] rfl ?_
  refine aL_X6_endOldRings_11 C0 (fun  S33 hw => ?_) _ _ hw
  exact zg_vret C0 dX6_endOldRings_84 rfl (Nat.le_refl 0) (Nat.le_refl 0) hw
-- X6_foremost
abbrev rm_X6_foremost : Room := { frames := 1, cells := 0, slots := 0, locals := 21 }
theorem hX_X6_foremost_2 : ∀ w ∈ u_ws RX2 TX2 13, w ∈ wsX6_foremost := by decide +kernel
theorem hX_X6_foremost_6 : ∀ w ∈ u_ws RX6 TX6 4, w ∈ wsX6_foremost := by decide +kernel
theorem hdV_X6_foremost : yX6_foremost.cls = RX6 ∧ yX6_foremost.cls ≠ "java/lang/invoke/MethodHandle" ∧ yX6_foremost.cls ≠ "java/lang/invoke/VarHandle" ∧ (parseMethodDescriptor yX6_foremost.desc).map (fun d => d.parameters.length) = some 2 := by decide +kernel
def wb_X6_foremost_16 (Z : zZ) (x2 : Int32) (x4 : Nat) (x5 : Int32) (Qp : Option Nat → zS → Prop) (K : Nat → zS → Prop) (rec : Nat → Int32 → zS → Prop) (x3 : Nat) (x6 : Int32) (S : zS) : Prop :=
  ((x5 ≤ x6 → K x3 S) ∧ (¬ x5 ≤ x6 → zk Z x4 12 ∧ vp_in x6 (zN Z x4) ∧ ∃ b8, zQ Z x4 x6.toNatClampNeg = some b8 ∧ zk Z b8 2 ∧ w_X6_isIn Z (zI S b8 0) x2 S (fun (v12 : Int32) (S11 : zS) => ((v12 = 0 → ∀ y13 : Int32, y13 = x6 + 1 → rec x3 y13 S11) ∧ (¬ v12 = 0 → w_X2_isAheadOf Z b8 x3 S11 (fun (v15 : Int32) (S14 : zS) => ((v15 = 0 → ∀ y16 : Int32, y16 = x6 + 1 → rec x3 y16 S14) ∧ (¬ v15 = 0 → ∀ y17 : Int32, y17 = x6 + 1 → rec b8 y17 S14))))))))
def wL_X6_foremost_16 (Z : zZ) (x2 : Int32) (x4 : Nat) (x5 : Int32) (Qp : Option Nat → zS → Prop) (K : Nat → zS → Prop) (x3 : Nat) (x6 : Int32) (S : zS) : Prop := ∃ n, zit3 (wb_X6_foremost_16 Z x2 x4 x5 Qp K) n x3 x6 S
set_option maxHeartbeats 4000000 in
set_option maxRecDepth 100000 in
theorem ab_X6_foremost_16 {p : Program} {l : Launch} {e : Env} {s : State} {m : MethodId} {args : Array Value} {below : List Frame} {meth : Method} {c : Code} {D : va_G} {cy : Nat → ClassId} {A : Nat → Prop} {Q : State → Prop} {Z : zZ} (C0 : zC p s m args meth c cX6_foremost 8 wsX6_foremost RX6 D cy A (some (.object "RingGroup$Node"))) {x2 : Int32} {x4 : Nat} {x5 : Int32} {Qp : Option Nat → zS → Prop} {K : Nat → zS → Prop} (hK : ∀ x3 S, K x3 S → zG p l e rm_X6_foremost s m args below meth c D cy A 8 0 0 Q Z S 60 [(3, .ref x3)] []) {rec : Nat → Int32 → zS → Prop} (hrec : ∀ x3 x6 S, rec x3 x6 S → zG p l e rm_X6_foremost s m args below meth c D cy A 8 0 0 Q Z S 16 [(2, .int x2), (3, .ref x3), (4, .ref x4), (5, .int x5), (6, .int x6)] []) {x3 : Nat} {x6 : Int32} {S : zS} (hw : wb_X6_foremost_16 Z x2 x4 x5 Qp K rec x3 x6 S) : zG p l e rm_X6_foremost s m args below meth c D cy A 8 0 0 Q Z S 16 [(2, .int x2), (3, .ref x3), (4, .ref x4), (5, .int x5), (6, .int x6)] [] := by
  unfold wb_X6_foremost_16 at hw
  refine zg_iload (q := 18) C0 4 dX6_foremost_16 rfl rfl ?_
  refine zg_iload (q := 20) C0 3 dX6_foremost_18 rfl rfl ?_
  refine zg_icmp_ge (q := 23) (tgt := 60) C0 dX6_foremost_20 rfl rfl (fun c20 => ?_) (fun c20 => ?_)
  · have hw := hw.1 c20
    refine zg_sub [1] rfl ?_
    exact hK _ _ hw
  · have hw := hw.2 c20
    refine zg_aload (q := 25) C0 2 dX6_foremost_23 rfl rfl ?_
    refine zg_iload (q := 27) C0 4 dX6_foremost_25 rfl rfl ?_
    obtain ⟨hz6, hw⟩ := hw
    obtain ⟨hi7, hw⟩ := hw
    refine zg_aald_12 (q := 28) C0 dX6_foremost_27 hz6 hi7 rfl ?_
    obtain ⟨b8, hb9, hw⟩ := hw
    refine zg_nn hb9 ?_
    refine zg_astore (q := 30) (lv' := [(7, .ref b8), (2, .int x2), (3, .ref x3), (4, .ref x4), (5, .int x5), (6, .int x6)]) C0 dX6_foremost_28 (by decide) rfl rfl ?_
    refine zg_aload (q := 32) C0 0 dX6_foremost_30 rfl rfl ?_
    obtain ⟨hz10, hw⟩ := hw
    refine zg_get (q := 35) (T := TX2) (k := 0) C0 dX6_foremost_32 hz10 (zF_2 cy hz10) rfl (by decide) hX_X6_foremost_2 (zwm (i := 2) rfl) rfl rfl rfl ?_
    refine zg_iload_n (q := 36) C0 1 dX6_foremost_35 rfl rfl ?_
    refine zg_callSi (q := 39) C0 [.int (zI S b8 0), .int x2] [] dX6_foremost_36 (fun sz => a_X6_isIn l D cy Z S sz (zI S b8 0) x2 _ hw) rfl gX6_foremost_X6_isIn hdS_X6_isIn rfl ⟨Nat.le_of_ble_eq_true rfl, Nat.le_of_ble_eq_true rfl⟩ (Nat.le_of_ble_eq_true rfl) ⟨Nat.zero_le _, Nat.zero_le _⟩ ⟨rfl, rfl⟩ rfl (fun v12 S11 hw => ?_)
    refine zg_if_eq (q := 42) (tgt := 54) C0 dX6_foremost_39 rfl rfl (fun c19 => ?_) (fun c19 => ?_)
    · have hw := hw.1 c19
      refine zg_iinc (q := 57) C0 5 dX6_foremost_54 rfl (by decide) zc_iconst_1 rfl (fun y13 ey13 => ?_)
      have hw := hw y13 ey13
      refine zg_lv (lv' := [(6, .int y13), (7, .ref b8), (2, .int x2), (3, .ref x3), (4, .ref x4), (5, .int x5)]) rfl ?_
      refine zg_goto (tgt := 16) C0 dX6_foremost_57 rfl ?_
      refine zg_sub [2, 3, 4, 5, 0] rfl ?_
      exact hrec _ _ _ hw
    · have hw := hw.2 c19
      refine zg_aload (q := 44) C0 0 dX6_foremost_42 rfl rfl ?_
      refine zg_aload_n (q := 45) C0 2 dX6_foremost_44 rfl rfl ?_
      refine zg_callVi (q := 48) C0 [.ref x3] [] dX6_foremost_45 (fun sz => a_X2_isAheadOf l D cy Z S11 sz b8 x3 _ hw) rfl gX6_foremost_X2_isAheadOf hdV_X2_isAheadOf hz10 (zF_2 cy hz10) rfl rfl ⟨Nat.le_of_ble_eq_true rfl, Nat.le_of_ble_eq_true rfl⟩ (Nat.le_of_ble_eq_true rfl) ⟨Nat.zero_le _, Nat.zero_le _⟩ ⟨rfl, rfl⟩ rfl (fun v15 S14 hw => ?_)
      refine zg_if_eq (q := 51) (tgt := 54) C0 dX6_foremost_48 rfl rfl (fun c18 => ?_) (fun c18 => ?_)
      · have hw := hw.1 c18
        refine zg_iinc (q := 57) C0 5 dX6_foremost_54 rfl (by decide) zc_iconst_1 rfl (fun y16 ey16 => ?_)
        have hw := hw y16 ey16
        refine zg_lv (lv' := [(6, .int y16), (7, .ref b8), (2, .int x2), (3, .ref x3), (4, .ref x4), (5, .int x5)]) rfl ?_
        refine zg_goto (tgt := 16) C0 dX6_foremost_57 rfl ?_
        refine zg_sub [2, 3, 4, 5, 0] rfl ?_
        exact hrec _ _ _ hw
      · have hw := hw.2 c18
        refine zg_aload (q := 53) C0 0 dX6_foremost_51 rfl rfl ?_
        refine zg_astore_n (q := 54) (lv' := [(3, .ref b8), (7, .ref b8), (2, .int x2), (4, .ref x4), (5, .int x5), (6, .int x6)]) C0 dX6_foremost_53 (by decide) rfl rfl ?_
        refine zg_iinc (q := 57) C0 5 dX6_foremost_54 rfl (by decide) zc_iconst_1 rfl (fun y17 ey17 => ?_)
        have hw := hw y17 ey17
        refine zg_lv (lv' := [(6, .int y17), (3, .ref b8), (7, .ref b8), (2, .int x2), (4, .ref x4), (5, .int x5)]) rfl ?_
        refine zg_goto (tgt := 16) C0 dX6_foremost_57 rfl ?_
        refine zg_sub [3, 1, 4, 5, 0] rfl ?_
        exact hrec _ _ _ hw
theorem aL_X6_foremost_16 {p : Program} {l : Launch} {e : Env} {s : State} {m : MethodId} {args : Array Value} {below : List Frame} {meth : Method} {c : Code} {D : va_G} {cy : Nat → ClassId} {A : Nat → Prop} {Q : State → Prop} {Z : zZ} (C0 : zC p s m args meth c cX6_foremost 8 wsX6_foremost RX6 D cy A (some (.object "RingGroup$Node"))) {x2 : Int32} {x4 : Nat} {x5 : Int32} {Qp : Option Nat → zS → Prop} {K : Nat → zS → Prop} (hK : ∀ x3 S, K x3 S → zG p l e rm_X6_foremost s m args below meth c D cy A 8 0 0 Q Z S 60 [(3, .ref x3)] []) : ∀ x3 x6 S, wL_X6_foremost_16 Z x2 x4 x5 Qp K x3 x6 S → zG p l e rm_X6_foremost s m args below meth c D cy A 8 0 0 Q Z S 16 [(2, .int x2), (3, .ref x3), (4, .ref x4), (5, .int x5), (6, .int x6)] [] := by
  intro x3 x6 S hw
  obtain ⟨n, hw⟩ := hw
  induction n generalizing x3 x6 S with
  | zero => exact hw.elim
  | succ n ih => exact ab_X6_foremost_16 C0 hK (fun x3 x6 S hw => ih x3 x6 S hw) hw
def w_X6_foremost (Z : zZ) (h0 : Nat) (p0 : Nat) (p1 : Int32) (S : zS) (Qp : Option Nat → zS → Prop) : Prop :=
  zk Z h0 6 ∧ ∃ b2, zQ Z h0 1 = some b2 ∧ zk Z b2 12 ∧ ∀ y5 : Int32, y5 = nI (zN Z b2) → wL_X6_foremost_16 Z p1 b2 y5 Qp (fun (v22 : Nat) (S21 : zS) => Qp (some v22) S21) p0 0 S
set_option maxHeartbeats 4000000 in
set_option maxRecDepth 100000 in
theorem a_X6_foremost (l : Launch) (D : va_G) (cy : Nat → ClassId) (Z : zZ) (S : zS) (sz : Nat) (h0 : Nat) (p0 : Nat) (p1 : Int32) (Qp : Option Nat → zS → Prop) (hw : w_X6_foremost Z h0 p0 p1 S Qp) : zMq l yX6_foremost wsX6_foremost rm_X6_foremost D cy Z S sz [.ref h0, .ref p0, .int p1] Qp := by
  unfold w_X6_foremost at hw
  refine zMq_of (cc := cX6_foremost) (maxL := 8) (rt := (some (.object "RingGroup$Node"))) (by decide +kernel) rfl (Nat.le_of_ble_eq_true rfl) ?_
  intro p e s m args below meth c A C0 _
  refine zg_lv (lv' := [(0, .ref h0), (1, .ref p0), (2, .int p1)]) rfl ?_
  refine zg_aload_n (q := 1) C0 1 dX6_foremost_0 rfl rfl ?_
  refine zg_astore_n (q := 2) (lv' := [(3, .ref p0), (0, .ref h0), (1, .ref p0), (2, .int p1)]) C0 dX6_foremost_1 (by decide) rfl rfl ?_
  refine zg_aload_n (q := 3) C0 1 dX6_foremost_2 rfl rfl ?_
  obtain ⟨hz1, hw⟩ := hw
  refine zg_get (q := 6) (T := TX6) (k := 1) C0 dX6_foremost_3 hz1 (zF_6 cy hz1) rfl (by decide) hX_X6_foremost_6 (zwm (i := 1) rfl) rfl rfl rfl ?_
  obtain ⟨b2, hb3, hw⟩ := hw
  refine zg_nn hb3 ?_
  refine zg_astore (q := 8) (lv' := [(4, .ref b2), (3, .ref p0), (0, .ref h0), (1, .ref p0), (2, .int p1)]) C0 dX6_foremost_6 (by decide) rfl rfl ?_
  refine zg_aload (q := 10) C0 0 dX6_foremost_8 rfl rfl ?_
  obtain ⟨hz4, hw⟩ := hw
  refine zg_alen_12 (q := 11) C0 dX6_foremost_10 hz4 rfl ?_
  refine zg_ni (fun y5 ey5 => ?_)
  have hw := hw y5 ey5
  refine zg_istore (q := 13) (lv' := [(5, .int y5), (4, .ref b2), (3, .ref p0), (0, .ref h0), (1, .ref p0), (2, .int p1)]) C0 dX6_foremost_11 (by decide) rfl rfl ?_
  refine zg_iconst (q := 14) C0 dX6_foremost_13 zc_iconst_0 rfl ?_
  refine zg_istore (q := 16) (lv' := [(6, .int 0), (5, .int y5), (4, .ref b2), (3, .ref p0), (0, .ref h0), (1, .ref p0), (2, .int p1)]) C0 dX6_foremost_14 (by decide) rfl rfl ?_
  refine zg_sub [6, 3, 2, 1, 0] rfl ?_
  refine aL_X6_foremost_16 C0 (fun v22 S21 hw => ?_) _ _ _ hw
  refine zg_aload_n (q := 61) C0 0 dX6_foremost_60 rfl rfl ?_
  exact zg_aret (v := (some v22)) C0 dX6_foremost_61 rfl rfl (Nat.le_refl 0) (Nat.le_refl 0) hw
-- X6_isQuorum
abbrev rm_X6_isQuorum : Room := { frames := 2, cells := 0, slots := 0, locals := 42 }
theorem hdS_X6_isQuorum : yX6_isQuorum.cls ≠ "java/lang/invoke/MethodHandle" ∧ yX6_isQuorum.cls ≠ "java/lang/invoke/VarHandle" ∧ (parseMethodDescriptor yX6_isQuorum.desc).map (fun d => d.parameters.length) = some 2 := by decide +kernel
def w_X6_isQuorum (Z : zZ) (p0 : Int32) (p1 : Int32) (S : zS) (Qp : Int32 → zS → Prop) : Prop :=
  w_J6_bitCount_0f7a4 Z (p1 &&& p0) S (fun (v2 : Int32) (S1 : zS) => ∀ y3 : Int32, y3 = 2 * v2 → w_J6_bitCount_0f7a4 Z p1 S1 (fun (v5 : Int32) (S4 : zS) => ((v5 < y3 → Qp 1 S4) ∧ (¬ v5 < y3 → ((¬ y3 = v5 → Qp 0 S4) ∧ (y3 = v5 → w_X6_leastOf Z p1 S4 (fun (v7 : Int32) (S6 : zS) => w_X6_isIn Z v7 p0 S6 (fun (v9 : Int32) (S8 : zS) => ((v9 = 0 → Qp 0 S8) ∧ (¬ v9 = 0 → Qp 1 S8))))))))))
set_option maxHeartbeats 4000000 in
set_option maxRecDepth 100000 in
theorem a_X6_isQuorum (l : Launch) (D : va_G) (cy : Nat → ClassId) (Z : zZ) (S : zS) (sz : Nat) (p0 : Int32) (p1 : Int32) (Qp : Int32 → zS → Prop) (hw : w_X6_isQuorum Z p0 p1 S Qp) : zMi l yX6_isQuorum wsX6_isQuorum rm_X6_isQuorum D cy Z S sz [.int p0, .int p1] Qp := by
  unfold w_X6_isQuorum at hw
  refine zMi_of (cc := cX6_isQuorum) (maxL := 4) (rt := (some .boolean)) (by decide +kernel) rfl (Nat.le_of_ble_eq_true rfl) ?_
  intro p e s m args below meth c A C0 _
  refine zg_lv (lv' := [(0, .int p0), (1, .int p1)]) rfl ?_
  refine zg_iconst (q := 1) C0 dX6_isQuorum_0 zc_iconst_2 rfl ?_
  refine zg_iload_n (q := 2) C0 1 dX6_isQuorum_1 rfl rfl ?_
  refine zg_iload_n (q := 3) C0 0 dX6_isQuorum_2 rfl rfl ?_
  refine zg_iand (q := 4) C0 dX6_isQuorum_3 rfl ?_
  refine zg_callSi (q := 7) C0 [.int (p1 &&& p0)] [.int 2] dX6_isQuorum_4 (fun sz => a_J6_bitCount_0f7a4 l D cy Z S sz (p1 &&& p0) _ hw) rfl gX6_isQuorum_J6_bitCount_0f7a4 hdS_J6_bitCount_0f7a4 rfl ⟨Nat.le_of_ble_eq_true rfl, Nat.le_of_ble_eq_true rfl⟩ (Nat.le_of_ble_eq_true rfl) ⟨Nat.zero_le _, Nat.zero_le _⟩ ⟨rfl, rfl⟩ rfl (fun v2 S1 hw => ?_)
  refine zg_imul (q := 8) C0 dX6_isQuorum_7 rfl ?_
  refine zg_ni (fun y3 ey3 => ?_)
  have hw := hw y3 ey3
  refine zg_istore_n (q := 9) (lv' := [(2, .int y3), (0, .int p0), (1, .int p1)]) C0 dX6_isQuorum_8 (by decide) rfl rfl ?_
  refine zg_iload_n (q := 10) C0 2 dX6_isQuorum_9 rfl rfl ?_
  refine zg_callSi (q := 13) C0 [.int p1] [] dX6_isQuorum_10 (fun sz => a_J6_bitCount_0f7a4 l D cy Z S1 sz p1 _ hw) rfl gX6_isQuorum_J6_bitCount_0f7a4 hdS_J6_bitCount_0f7a4 rfl ⟨Nat.le_of_ble_eq_true rfl, Nat.le_of_ble_eq_true rfl⟩ (Nat.le_of_ble_eq_true rfl) ⟨Nat.zero_le _, Nat.zero_le _⟩ ⟨rfl, rfl⟩ rfl (fun v5 S4 hw => ?_)
  refine zg_istore_n (q := 14) (lv' := [(3, .int v5), (2, .int y3), (0, .int p0), (1, .int p1)]) C0 dX6_isQuorum_13 (by decide) rfl rfl ?_
  refine zg_iload_n (q := 15) C0 1 dX6_isQuorum_14 rfl rfl ?_
  refine zg_iload_n (q := 16) C0 0 dX6_isQuorum_15 rfl rfl ?_
  refine zg_icmp_gt (q := 19) (tgt := 35) C0 dX6_isQuorum_16 rfl rfl (fun c12 => ?_) (fun c12 => ?_)
  · have hw := hw.1 c12
    refine zg_iconst (q := 36) C0 dX6_isQuorum_35 zc_iconst_1 rfl ?_
    refine zg_goto (tgt := 40) C0 dX6_isQuorum_36 rfl ?_
    exact zg_iret C0 dX6_isQuorum_40 rfl (by decide) (Nat.le_refl 0) (Nat.le_refl 0) hw
  · have hw := hw.2 c12
    refine zg_iload_n (q := 20) C0 1 dX6_isQuorum_19 rfl rfl ?_
    refine zg_iload_n (q := 21) C0 0 dX6_isQuorum_20 rfl rfl ?_
    refine zg_icmp_ne (q := 24) (tgt := 39) C0 dX6_isQuorum_21 rfl rfl (fun c11 => ?_) (fun c11 => ?_)
    · have hw := hw.1 c11
      refine zg_iconst (q := 40) C0 dX6_isQuorum_39 zc_iconst_0 rfl ?_
      exact zg_iret C0 dX6_isQuorum_40 rfl (by decide) (Nat.le_refl 0) (Nat.le_refl 0) hw
    · have hw := hw.2 c11
      refine zg_iload_n (q := 25) C0 3 dX6_isQuorum_24 rfl rfl ?_
      refine zg_callSi (q := 28) C0 [.int p1] [] dX6_isQuorum_25 (fun sz => a_X6_leastOf l D cy Z S4 sz p1 _ hw) rfl gX6_isQuorum_X6_leastOf hdS_X6_leastOf rfl ⟨Nat.le_of_ble_eq_true rfl, Nat.le_of_ble_eq_true rfl⟩ (Nat.le_of_ble_eq_true rfl) ⟨Nat.zero_le _, Nat.zero_le _⟩ ⟨rfl, rfl⟩ rfl (fun v7 S6 hw => ?_)
      refine zg_iload_n (q := 29) C0 2 dX6_isQuorum_28 rfl rfl ?_
      refine zg_callSi (q := 32) C0 [.int v7, .int p0] [] dX6_isQuorum_29 (fun sz => a_X6_isIn l D cy Z S6 sz v7 p0 _ hw) rfl gX6_isQuorum_X6_isIn hdS_X6_isIn rfl ⟨Nat.le_of_ble_eq_true rfl, Nat.le_of_ble_eq_true rfl⟩ (Nat.le_of_ble_eq_true rfl) ⟨Nat.zero_le _, Nat.zero_le _⟩ ⟨rfl, rfl⟩ rfl (fun v9 S8 hw => ?_)
      refine zg_if_eq (q := 35) (tgt := 39) C0 dX6_isQuorum_32 rfl rfl (fun c10 => ?_) (fun c10 => ?_)
      · have hw := hw.1 c10
        refine zg_iconst (q := 40) C0 dX6_isQuorum_39 zc_iconst_0 rfl ?_
        exact zg_iret C0 dX6_isQuorum_40 rfl (by decide) (Nat.le_refl 0) (Nat.le_refl 0) hw
      · have hw := hw.2 c10
        refine zg_iconst (q := 36) C0 dX6_isQuorum_35 zc_iconst_1 rfl ?_
        refine zg_goto (tgt := 40) C0 dX6_isQuorum_36 rfl ?_
        exact zg_iret C0 dX6_isQuorum_40 rfl (by decide) (Nat.le_refl 0) (Nat.le_refl 0) hw
-- X6_isWhole
abbrev rm_X6_isWhole : Room := { frames := 2, cells := 0, slots := 0, locals := 48 }
theorem hX_X6_isWhole_5 : ∀ w ∈ u_ws RX5 TX5 6, w ∈ wsX6_isWhole := by decide +kernel
theorem hdV_X6_isWhole : yX6_isWhole.cls = RX6 ∧ yX6_isWhole.cls ≠ "java/lang/invoke/MethodHandle" ∧ yX6_isWhole.cls ≠ "java/lang/invoke/VarHandle" ∧ (parseMethodDescriptor yX6_isWhole.desc).map (fun d => d.parameters.length) = some 2 := by decide +kernel
def w_X6_isWhole (Z : zZ) (h0 : Nat) (p0 : Nat) (p1 : Int32) (S : zS) (Qp : Int32 → zS → Prop) : Prop :=
  zk Z p0 5 ∧ ((¬ (zI S p0 3) = p1 → Qp 0 S) ∧ ((zI S p0 3) = p1 → (((zI S p0 4) = (-1) → Qp 0 S) ∧ (¬ (zI S p0 4) = (-1) → zk Z h0 6 ∧ w_X6_ofRing Z h0 p0 p1 S (fun (v4 : Int32) (S3 : zS) => ((¬ v4 = p1 → Qp 0 S3) ∧ (v4 = p1 → Qp 1 S3)))))))
set_option maxHeartbeats 4000000 in
set_option maxRecDepth 100000 in
theorem a_X6_isWhole (l : Launch) (D : va_G) (cy : Nat → ClassId) (Z : zZ) (S : zS) (sz : Nat) (h0 : Nat) (p0 : Nat) (p1 : Int32) (Qp : Int32 → zS → Prop) (hw : w_X6_isWhole Z h0 p0 p1 S Qp) : zMi l yX6_isWhole wsX6_isWhole rm_X6_isWhole D cy Z S sz [.ref h0, .ref p0, .int p1] Qp := by
  unfold w_X6_isWhole at hw
  refine zMi_of (cc := cX6_isWhole) (maxL := 3) (rt := (some .boolean)) (by decide +kernel) rfl (Nat.le_of_ble_eq_true rfl) ?_
  intro p e s m args below meth c A C0 _
  refine zg_lv (lv' := [(0, .ref h0), (1, .ref p0), (2, .int p1)]) rfl ?_
  refine zg_aload_n (q := 1) C0 1 dX6_isWhole_0 rfl rfl ?_
  obtain ⟨hz1, hw⟩ := hw
  refine zg_get (q := 4) (T := TX5) (k := 3) C0 dX6_isWhole_1 hz1 (zF_5 cy hz1) rfl (by decide) hX_X6_isWhole_5 (zwm (i := 1) rfl) rfl rfl rfl ?_
  refine zg_iload_n (q := 5) C0 2 dX6_isWhole_4 rfl rfl ?_
  refine zg_icmp_ne (q := 8) (tgt := 30) C0 dX6_isWhole_5 rfl rfl (fun c7 => ?_) (fun c7 => ?_)
  · have hw := hw.1 c7
    refine zg_iconst (q := 31) C0 dX6_isWhole_30 zc_iconst_0 rfl ?_
    exact zg_iret C0 dX6_isWhole_31 rfl (by decide) (Nat.le_refl 0) (Nat.le_refl 0) hw
  · have hw := hw.2 c7
    refine zg_aload_n (q := 9) C0 1 dX6_isWhole_8 rfl rfl ?_
    refine zg_get (q := 12) (T := TX5) (k := 4) C0 dX6_isWhole_9 hz1 (zF_5 cy hz1) rfl (by decide) hX_X6_isWhole_5 (zwm (i := 2) rfl) rfl rfl rfl ?_
    refine zg_iconst (q := 13) C0 dX6_isWhole_12 zc_iconst_m1 rfl ?_
    refine zg_icmp_eq (q := 16) (tgt := 30) C0 dX6_isWhole_13 rfl rfl (fun c6 => ?_) (fun c6 => ?_)
    · have hw := hw.1 c6
      refine zg_iconst (q := 31) C0 dX6_isWhole_30 zc_iconst_0 rfl ?_
      exact zg_iret C0 dX6_isWhole_31 rfl (by decide) (Nat.le_refl 0) (Nat.le_refl 0) hw
    · have hw := hw.2 c6
      refine zg_aload_n (q := 17) C0 0 dX6_isWhole_16 rfl rfl ?_
      refine zg_aload_n (q := 18) C0 1 dX6_isWhole_17 rfl rfl ?_
      refine zg_iload_n (q := 19) C0 2 dX6_isWhole_18 rfl rfl ?_
      obtain ⟨hz2, hw⟩ := hw
      refine zg_callVi (q := 22) C0 [.ref p0, .int p1] [] dX6_isWhole_19 (fun sz => a_X6_ofRing l D cy Z S sz h0 p0 p1 _ hw) rfl gX6_isWhole_X6_ofRing hdV_X6_ofRing hz2 (zF_6 cy hz2) rfl rfl ⟨Nat.le_of_ble_eq_true rfl, Nat.le_of_ble_eq_true rfl⟩ (Nat.le_of_ble_eq_true rfl) ⟨Nat.zero_le _, Nat.zero_le _⟩ ⟨rfl, rfl⟩ rfl (fun v4 S3 hw => ?_)
      refine zg_iload_n (q := 23) C0 2 dX6_isWhole_22 rfl rfl ?_
      refine zg_icmp_ne (q := 26) (tgt := 30) C0 dX6_isWhole_23 rfl rfl (fun c5 => ?_) (fun c5 => ?_)
      · have hw := hw.1 c5
        refine zg_iconst (q := 31) C0 dX6_isWhole_30 zc_iconst_0 rfl ?_
        exact zg_iret C0 dX6_isWhole_31 rfl (by decide) (Nat.le_refl 0) (Nat.le_refl 0) hw
      · have hw := hw.2 c5
        refine zg_iconst (q := 27) C0 dX6_isWhole_26 zc_iconst_1 rfl ?_
        refine zg_goto (tgt := 31) C0 dX6_isWhole_27 rfl ?_
        exact zg_iret C0 dX6_isWhole_31 rfl (by decide) (Nat.le_refl 0) (Nat.le_refl 0) hw
-- X6_upInGroup
abbrev rm_X6_upInGroup : Room := { frames := 0, cells := 0, slots := 0, locals := 0 }
theorem hX_X6_upInGroup_2 : ∀ w ∈ u_ws RX2 TX2 13, w ∈ wsX6_upInGroup := by decide +kernel
theorem hX_X6_upInGroup_6 : ∀ w ∈ u_ws RX6 TX6 4, w ∈ wsX6_upInGroup := by decide +kernel
theorem hdV_X6_upInGroup : yX6_upInGroup.cls = RX6 ∧ yX6_upInGroup.cls ≠ "java/lang/invoke/MethodHandle" ∧ yX6_upInGroup.cls ≠ "java/lang/invoke/VarHandle" ∧ (parseMethodDescriptor yX6_upInGroup.desc).map (fun d => d.parameters.length) = some 1 := by decide +kernel
def wb_X6_upInGroup_14 (Z : zZ) (x1 : Int32) (x3 : Nat) (x4 : Int32) (Qp : Int32 → zS → Prop) (K : Int32 → zS → Prop) (rec : Int32 → Int32 → zS → Prop) (x2 : Int32) (x5 : Int32) (S : zS) : Prop :=
  ((x4 ≤ x5 → K x2 S) ∧ (¬ x4 ≤ x5 → zk Z x3 12 ∧ vp_in x5 (zN Z x3) ∧ ∃ b8, zQ Z x3 x5.toNatClampNeg = some b8 ∧ zk Z b8 2 ∧ (((zI S b8 5) = 0 → ∀ y11 : Int32, y11 = x5 + 1 → rec x2 y11 S) ∧ (¬ (zI S b8 5) = 0 → ((¬ (zI S b8 6) = x1 → ∀ y12 : Int32, y12 = x5 + 1 → rec x2 y12 S) ∧ ((zI S b8 6) = x1 → ∀ y13 : Int32, y13 = x2 ||| (1 <<< ((zI S b8 0) &&& 31)) → ∀ y14 : Int32, y14 = x5 + 1 → rec y13 y14 S))))))
def wL_X6_upInGroup_14 (Z : zZ) (x1 : Int32) (x3 : Nat) (x4 : Int32) (Qp : Int32 → zS → Prop) (K : Int32 → zS → Prop) (x2 : Int32) (x5 : Int32) (S : zS) : Prop := ∃ n, zit3 (wb_X6_upInGroup_14 Z x1 x3 x4 Qp K) n x2 x5 S
set_option maxHeartbeats 4000000 in
set_option maxRecDepth 100000 in
theorem ab_X6_upInGroup_14 {p : Program} {l : Launch} {e : Env} {s : State} {m : MethodId} {args : Array Value} {below : List Frame} {meth : Method} {c : Code} {D : va_G} {cy : Nat → ClassId} {A : Nat → Prop} {Q : State → Prop} {Z : zZ} (C0 : zC p s m args meth c cX6_upInGroup 7 wsX6_upInGroup RX6 D cy A (some .int)) {x1 : Int32} {x3 : Nat} {x4 : Int32} {Qp : Int32 → zS → Prop} {K : Int32 → zS → Prop} (hK : ∀ x2 S, K x2 S → zG p l e rm_X6_upInGroup s m args below meth c D cy A 7 0 0 Q Z S 60 [(2, .int x2)] []) {rec : Int32 → Int32 → zS → Prop} (hrec : ∀ x2 x5 S, rec x2 x5 S → zG p l e rm_X6_upInGroup s m args below meth c D cy A 7 0 0 Q Z S 14 [(1, .int x1), (2, .int x2), (3, .ref x3), (4, .int x4), (5, .int x5)] []) {x2 : Int32} {x5 : Int32} {S : zS} (hw : wb_X6_upInGroup_14 Z x1 x3 x4 Qp K rec x2 x5 S) : zG p l e rm_X6_upInGroup s m args below meth c D cy A 7 0 0 Q Z S 14 [(1, .int x1), (2, .int x2), (3, .ref x3), (4, .int x4), (5, .int x5)] [] := by
  unfold wb_X6_upInGroup_14 at hw
  refine zg_iload (q := 16) C0 4 dX6_upInGroup_14 rfl rfl ?_
  refine zg_iload (q := 18) C0 3 dX6_upInGroup_16 rfl rfl ?_
  refine zg_icmp_ge (q := 21) (tgt := 60) C0 dX6_upInGroup_18 rfl rfl (fun c17 => ?_) (fun c17 => ?_)
  · have hw := hw.1 c17
    refine zg_sub [1] rfl ?_
    exact hK _ _ hw
  · have hw := hw.2 c17
    refine zg_aload_n (q := 22) C0 2 dX6_upInGroup_21 rfl rfl ?_
    refine zg_iload (q := 24) C0 4 dX6_upInGroup_22 rfl rfl ?_
    obtain ⟨hz6, hw⟩ := hw
    obtain ⟨hi7, hw⟩ := hw
    refine zg_aald_12 (q := 25) C0 dX6_upInGroup_24 hz6 hi7 rfl ?_
    obtain ⟨b8, hb9, hw⟩ := hw
    refine zg_nn hb9 ?_
    refine zg_astore (q := 27) (lv' := [(6, .ref b8), (1, .int x1), (2, .int x2), (3, .ref x3), (4, .int x4), (5, .int x5)]) C0 dX6_upInGroup_25 (by decide) rfl rfl ?_
    refine zg_aload (q := 29) C0 0 dX6_upInGroup_27 rfl rfl ?_
    obtain ⟨hz10, hw⟩ := hw
    refine zg_get (q := 32) (T := TX2) (k := 5) C0 dX6_upInGroup_29 hz10 (zF_2 cy hz10) rfl (by decide) hX_X6_upInGroup_2 (zwm (i := 2) rfl) rfl rfl rfl ?_
    refine zg_if_eq (q := 35) (tgt := 54) C0 dX6_upInGroup_32 rfl rfl (fun c16 => ?_) (fun c16 => ?_)
    · have hw := hw.1 c16
      refine zg_iinc (q := 57) C0 5 dX6_upInGroup_54 rfl (by decide) zc_iconst_1 rfl (fun y11 ey11 => ?_)
      have hw := hw y11 ey11
      refine zg_lv (lv' := [(5, .int y11), (6, .ref b8), (1, .int x1), (2, .int x2), (3, .ref x3), (4, .int x4)]) rfl ?_
      refine zg_goto (tgt := 14) C0 dX6_upInGroup_57 rfl ?_
      refine zg_sub [2, 3, 4, 5, 0] rfl ?_
      exact hrec _ _ _ hw
    · have hw := hw.2 c16
      refine zg_aload (q := 37) C0 0 dX6_upInGroup_35 rfl rfl ?_
      refine zg_get (q := 40) (T := TX2) (k := 6) C0 dX6_upInGroup_37 hz10 (zF_2 cy hz10) rfl (by decide) hX_X6_upInGroup_2 (zwm (i := 3) rfl) rfl rfl rfl ?_
      refine zg_iload_n (q := 41) C0 1 dX6_upInGroup_40 rfl rfl ?_
      refine zg_icmp_ne (q := 44) (tgt := 54) C0 dX6_upInGroup_41 rfl rfl (fun c15 => ?_) (fun c15 => ?_)
      · have hw := hw.1 c15
        refine zg_iinc (q := 57) C0 5 dX6_upInGroup_54 rfl (by decide) zc_iconst_1 rfl (fun y12 ey12 => ?_)
        have hw := hw y12 ey12
        refine zg_lv (lv' := [(5, .int y12), (6, .ref b8), (1, .int x1), (2, .int x2), (3, .ref x3), (4, .int x4)]) rfl ?_
        refine zg_goto (tgt := 14) C0 dX6_upInGroup_57 rfl ?_
        refine zg_sub [2, 3, 4, 5, 0] rfl ?_
        exact hrec _ _ _ hw
      · have hw := hw.2 c15
        refine zg_iload_n (q := 45) C0 2 dX6_upInGroup_44 rfl rfl ?_
        refine zg_iconst (q := 46) C0 dX6_upInGroup_45 zc_iconst_1 rfl ?_
        refine zg_aload (q := 48) C0 0 dX6_upInGroup_46 rfl rfl ?_
        refine zg_get (q := 51) (T := TX2) (k := 0) C0 dX6_upInGroup_48 hz10 (zF_2 cy hz10) rfl (by decide) hX_X6_upInGroup_2 (zwm (i := 4) rfl) rfl rfl rfl ?_
        refine zg_ishl (q := 52) C0 dX6_upInGroup_51 rfl ?_
        refine zg_ior (q := 53) C0 dX6_upInGroup_52 rfl ?_
        refine zg_ni (fun y13 ey13 => ?_)
        have hw := hw y13 ey13
        refine zg_istore_n (q := 54) (lv' := [(2, .int y13), (6, .ref b8), (1, .int x1), (3, .ref x3), (4, .int x4), (5, .int x5)]) C0 dX6_upInGroup_53 (by decide) rfl rfl ?_
        refine zg_iinc (q := 57) C0 5 dX6_upInGroup_54 rfl (by decide) zc_iconst_1 rfl (fun y14 ey14 => ?_)
        have hw := hw y14 ey14
        refine zg_lv (lv' := [(5, .int y14), (2, .int y13), (6, .ref b8), (1, .int x1), (3, .ref x3), (4, .int x4)]) rfl ?_
        refine zg_goto (tgt := 14) C0 dX6_upInGroup_57 rfl ?_
        refine zg_sub [3, 1, 4, 5, 0] rfl ?_
        exact hrec _ _ _ hw
theorem aL_X6_upInGroup_14 {p : Program} {l : Launch} {e : Env} {s : State} {m : MethodId} {args : Array Value} {below : List Frame} {meth : Method} {c : Code} {D : va_G} {cy : Nat → ClassId} {A : Nat → Prop} {Q : State → Prop} {Z : zZ} (C0 : zC p s m args meth c cX6_upInGroup 7 wsX6_upInGroup RX6 D cy A (some .int)) {x1 : Int32} {x3 : Nat} {x4 : Int32} {Qp : Int32 → zS → Prop} {K : Int32 → zS → Prop} (hK : ∀ x2 S, K x2 S → zG p l e rm_X6_upInGroup s m args below meth c D cy A 7 0 0 Q Z S 60 [(2, .int x2)] []) : ∀ x2 x5 S, wL_X6_upInGroup_14 Z x1 x3 x4 Qp K x2 x5 S → zG p l e rm_X6_upInGroup s m args below meth c D cy A 7 0 0 Q Z S 14 [(1, .int x1), (2, .int x2), (3, .ref x3), (4, .int x4), (5, .int x5)] [] := by
  intro x2 x5 S hw
  obtain ⟨n, hw⟩ := hw
  induction n generalizing x2 x5 S with
  | zero => exact hw.elim
  | succ n ih => exact ab_X6_upInGroup_14 C0 hK (fun x2 x5 S hw => ih x2 x5 S hw) hw
def w_X6_upInGroup (Z : zZ) (h0 : Nat) (p0 : Int32) (S : zS) (Qp : Int32 → zS → Prop) : Prop :=
  zk Z h0 6 ∧ ∃ b2, zQ Z h0 1 = some b2 ∧ zk Z b2 12 ∧ ∀ y5 : Int32, y5 = nI (zN Z b2) → wL_X6_upInGroup_14 Z p0 b2 y5 Qp (fun (v19 : Int32) (S18 : zS) => Qp v19 S18) 0 0 S
set_option maxHeartbeats 4000000 in
set_option maxRecDepth 100000 in
theorem a_X6_upInGroup (l : Launch) (D : va_G) (cy : Nat → ClassId) (Z : zZ) (S : zS) (sz : Nat) (h0 : Nat) (p0 : Int32) (Qp : Int32 → zS → Prop) (hw : w_X6_upInGroup Z h0 p0 S Qp) : zMi l yX6_upInGroup wsX6_upInGroup rm_X6_upInGroup D cy Z S sz [.ref h0, .int p0] Qp := by
  unfold w_X6_upInGroup at hw
  refine zMi_of (cc := cX6_upInGroup) (maxL := 7) (rt := (some .int)) (by decide +kernel) rfl (Nat.le_of_ble_eq_true rfl) ?_
  intro p e s m args below meth c A C0 _
  refine zg_lv (lv' := [(0, .ref h0), (1, .int p0)]) rfl ?_
  refine zg_iconst (q := 1) C0 dX6_upInGroup_0 zc_iconst_0 rfl ?_
  refine zg_istore_n (q := 2) (lv' := [(2, .int 0), (0, .ref h0), (1, .int p0)]) C0 dX6_upInGroup_1 (by decide) rfl rfl ?_
  refine zg_aload_n (q := 3) C0 1 dX6_upInGroup_2 rfl rfl ?_
  obtain ⟨hz1, hw⟩ := hw
  refine zg_get (q := 6) (T := TX6) (k := 1) C0 dX6_upInGroup_3 hz1 (zF_6 cy hz1) rfl (by decide) hX_X6_upInGroup_6 (zwm (i := 1) rfl) rfl rfl rfl ?_
  obtain ⟨b2, hb3, hw⟩ := hw
  refine zg_nn hb3 ?_
  refine zg_astore_n (q := 7) (lv' := [(3, .ref b2), (2, .int 0), (0, .ref h0), (1, .int p0)]) C0 dX6_upInGroup_6 (by decide) rfl rfl ?_
  refine zg_aload_n (q := 8) C0 0 dX6_upInGroup_7 rfl rfl ?_
  obtain ⟨hz4, hw⟩ := hw
  refine zg_alen_12 (q := 9) C0 dX6_upInGroup_8 hz4 rfl ?_
  refine zg_ni (fun y5 ey5 => ?_)
  have hw := hw y5 ey5
  refine zg_istore (q := 11) (lv' := [(4, .int y5), (3, .ref b2), (2, .int 0), (0, .ref h0), (1, .int p0)]) C0 dX6_upInGroup_9 (by decide) rfl rfl ?_
  refine zg_iconst (q := 12) C0 dX6_upInGroup_11 zc_iconst_0 rfl ?_
  refine zg_istore (q := 14) (lv' := [(5, .int 0), (4, .int y5), (3, .ref b2), (2, .int 0), (0, .ref h0), (1, .int p0)]) C0 dX6_upInGroup_12 (by decide) rfl rfl ?_
  refine zg_sub [5, 3, 2, 1, 0] rfl ?_
  refine aL_X6_upInGroup_14 C0 (fun v19 S18 hw => ?_) _ _ _ hw
  refine zg_iload_n (q := 61) C0 0 dX6_upInGroup_60 rfl rfl ?_
  exact zg_iret C0 dX6_upInGroup_61 rfl rfl (Nat.le_refl 0) (Nat.le_refl 0) hw
