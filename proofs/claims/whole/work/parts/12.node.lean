-- X2_isOfPrimary
abbrev rm_X2_isOfPrimary : Room := { frames := 0, cells := 0, slots := 0, locals := 0 }
theorem hX_X2_isOfPrimary_2 : ∀ w ∈ u_ws RX2 TX2 13, w ∈ wsX2_isOfPrimary := by decide +kernel
theorem hX_X2_isOfPrimary_5 : ∀ w ∈ u_ws RX5 TX5 6, w ∈ wsX2_isOfPrimary := by decide +kernel
theorem hdV_X2_isOfPrimary : yX2_isOfPrimary.cls = RX2 ∧ yX2_isOfPrimary.cls ≠ "java/lang/invoke/MethodHandle" ∧ yX2_isOfPrimary.cls ≠ "java/lang/invoke/VarHandle" ∧ (parseMethodDescriptor yX2_isOfPrimary.desc).map (fun d => d.parameters.length) = some 0 := by decide +kernel
def w_X2_isOfPrimary (Z : zZ) (h0 : Nat) (S : zS) (Qp : Int32 → zS → Prop) : Prop :=
  zk Z h0 2 ∧ ∃ b2, zR S h0 7 = some b2 ∧ zk Z b2 5 ∧ (((zI S b2 2) ≤ 0 → Qp 0 S) ∧ (¬ (zI S b2 2) ≤ 0 → ((¬ (zI S b2 2) = (zI S h0 9) → Qp 0 S) ∧ ((zI S b2 2) = (zI S h0 9) → Qp 1 S))))
set_option maxHeartbeats 4000000 in
set_option maxRecDepth 100000 in
theorem a_X2_isOfPrimary (l : Launch) (D : va_G) (cy : Nat → ClassId) (Z : zZ) (S : zS) (sz : Nat) (h0 : Nat) (Qp : Int32 → zS → Prop) (hw : w_X2_isOfPrimary Z h0 S Qp) : zMi l yX2_isOfPrimary wsX2_isOfPrimary rm_X2_isOfPrimary D cy Z S sz [.ref h0] Qp := by
  unfold w_X2_isOfPrimary at hw
  refine zMi_of (cc := cX2_isOfPrimary) (maxL := 1) (rt := (some .boolean)) (by decide +kernel) rfl (Nat.le_of_ble_eq_true rfl) ?_
  intro p e s m args below meth c A C0 _
  refine zg_lv (lv' := [(0, .ref h0)]) rfl ?_
  refine zg_aload_n (q := 1) C0 0 dX2_isOfPrimary_0 rfl rfl ?_
  obtain ⟨hz1, hw⟩ := hw
  refine zg_get (q := 4) (T := TX2) (k := 7) C0 dX2_isOfPrimary_1 hz1 (zF_2 cy hz1) rfl (by decide) hX_X2_isOfPrimary_2 (zwm (i := 1) rfl) rfl rfl rfl ?_
  obtain ⟨b2, hb3, hw⟩ := hw
  refine zg_nn hb3 ?_
  obtain ⟨hz4, hw⟩ := hw
  refine zg_get (q := 7) (T := TX5) (k := 2) C0 dX2_isOfPrimary_4 hz4 (zF_5 cy hz4) rfl (by decide) hX_X2_isOfPrimary_5 (zwm (i := 2) rfl) rfl rfl rfl ?_
  refine zg_if_le (q := 10) (tgt := 28) C0 dX2_isOfPrimary_7 rfl rfl (fun c6 => ?_) (fun c6 => ?_)
  · have hw := hw.1 c6
    refine zg_iconst (q := 29) C0 dX2_isOfPrimary_28 zc_iconst_0 rfl ?_
    exact zg_iret C0 dX2_isOfPrimary_29 rfl (by decide) (Nat.le_refl 0) (Nat.le_refl 0) hw
  · have hw := hw.2 c6
    refine zg_aload_n (q := 11) C0 0 dX2_isOfPrimary_10 rfl rfl ?_
    refine zg_get (q := 14) (T := TX2) (k := 7) C0 dX2_isOfPrimary_11 hz1 (zF_2 cy hz1) rfl (by decide) hX_X2_isOfPrimary_2 (zwm (i := 1) rfl) rfl rfl rfl ?_
    refine zg_nn hb3 ?_
    refine zg_get (q := 17) (T := TX5) (k := 2) C0 dX2_isOfPrimary_14 hz4 (zF_5 cy hz4) rfl (by decide) hX_X2_isOfPrimary_5 (zwm (i := 2) rfl) rfl rfl rfl ?_
    refine zg_aload_n (q := 18) C0 0 dX2_isOfPrimary_17 rfl rfl ?_
    refine zg_get (q := 21) (T := TX2) (k := 9) C0 dX2_isOfPrimary_18 hz1 (zF_2 cy hz1) rfl (by decide) hX_X2_isOfPrimary_2 (zwm (i := 3) rfl) rfl rfl rfl ?_
    refine zg_icmp_ne (q := 24) (tgt := 28) C0 dX2_isOfPrimary_21 rfl rfl (fun c5 => ?_) (fun c5 => ?_)
    · have hw := hw.1 c5
      refine zg_iconst (q := 29) C0 dX2_isOfPrimary_28 zc_iconst_0 rfl ?_
      exact zg_iret C0 dX2_isOfPrimary_29 rfl (by decide) (Nat.le_refl 0) (Nat.le_refl 0) hw
    · have hw := hw.2 c5
      refine zg_iconst (q := 25) C0 dX2_isOfPrimary_24 zc_iconst_1 rfl ?_
      refine zg_goto (tgt := 29) C0 dX2_isOfPrimary_25 rfl ?_
      exact zg_iret C0 dX2_isOfPrimary_29 rfl (by decide) (Nat.le_refl 0) (Nat.le_refl 0) hw
-- X2_isAheadOf
abbrev rm_X2_isAheadOf : Room := { frames := 0, cells := 0, slots := 0, locals := 0 }
theorem hX_X2_isAheadOf_2 : ∀ w ∈ u_ws RX2 TX2 13, w ∈ wsX2_isAheadOf := by decide +kernel
theorem hX_X2_isAheadOf_4 : ∀ w ∈ u_ws RX4 TX4 5, w ∈ wsX2_isAheadOf := by decide +kernel
theorem hdV_X2_isAheadOf : yX2_isAheadOf.cls = RX2 ∧ yX2_isAheadOf.cls ≠ "java/lang/invoke/MethodHandle" ∧ yX2_isAheadOf.cls ≠ "java/lang/invoke/VarHandle" ∧ (parseMethodDescriptor yX2_isAheadOf.desc).map (fun d => d.parameters.length) = some 1 := by decide +kernel
def w_X2_isAheadOf (Z : zZ) (h0 : Nat) (p0 : Nat) (S : zS) (Qp : Int32 → zS → Prop) : Prop :=
  zk Z h0 2 ∧ zk Z p0 2 ∧ (((zI S h0 9) = (zI S p0 9) → ∃ b3, zQ Z h0 2 = some b3 ∧ zk Z b3 4 ∧ ∃ b6, zQ Z p0 2 = some b6 ∧ zk Z b6 4 ∧ (((zI S b3 2) = (zI S b6 2) → (((zI S p0 0) ≤ (zI S h0 0) → Qp 0 S) ∧ (¬ (zI S p0 0) ≤ (zI S h0 0) → Qp 1 S))) ∧ (¬ (zI S b3 2) = (zI S b6 2) → (((zI S b3 2) ≤ (zI S b6 2) → Qp 0 S) ∧ (¬ (zI S b3 2) ≤ (zI S b6 2) → Qp 1 S))))) ∧ (¬ (zI S h0 9) = (zI S p0 9) → (((zI S h0 9) ≤ (zI S p0 9) → Qp 0 S) ∧ (¬ (zI S h0 9) ≤ (zI S p0 9) → Qp 1 S))))
set_option maxHeartbeats 4000000 in
set_option maxRecDepth 100000 in
theorem a_X2_isAheadOf (l : Launch) (D : va_G) (cy : Nat → ClassId) (Z : zZ) (S : zS) (sz : Nat) (h0 : Nat) (p0 : Nat) (Qp : Int32 → zS → Prop) (hw : w_X2_isAheadOf Z h0 p0 S Qp) : zMi l yX2_isAheadOf wsX2_isAheadOf rm_X2_isAheadOf D cy Z S sz [.ref h0, .ref p0] Qp := by
  unfold w_X2_isAheadOf at hw
  refine zMi_of (cc := cX2_isAheadOf) (maxL := 2) (rt := (some .boolean)) (by decide +kernel) rfl (Nat.le_of_ble_eq_true rfl) ?_
  intro p e s m args below meth c A C0 _
  refine zg_lv (lv' := [(0, .ref h0), (1, .ref p0)]) rfl ?_
  refine zg_aload_n (q := 1) C0 0 dX2_isAheadOf_0 rfl rfl ?_
  obtain ⟨hz1, hw⟩ := hw
  refine zg_get (q := 4) (T := TX2) (k := 9) C0 dX2_isAheadOf_1 hz1 (zF_2 cy hz1) rfl (by decide) hX_X2_isAheadOf_2 (zwm (i := 1) rfl) rfl rfl rfl ?_
  refine zg_aload_n (q := 5) C0 1 dX2_isAheadOf_4 rfl rfl ?_
  obtain ⟨hz2, hw⟩ := hw
  refine zg_get (q := 8) (T := TX2) (k := 9) C0 dX2_isAheadOf_5 hz2 (zF_2 cy hz2) rfl (by decide) hX_X2_isAheadOf_2 (zwm (i := 1) rfl) rfl rfl rfl ?_
  refine zg_icmp_eq (q := 11) (tgt := 28) C0 dX2_isAheadOf_8 rfl rfl (fun c13 => ?_) (fun c13 => ?_)
  · have hw := hw.1 c13
    refine zg_aload_n (q := 29) C0 0 dX2_isAheadOf_28 rfl rfl ?_
    refine zg_get (q := 32) (T := TX2) (k := 2) C0 dX2_isAheadOf_29 hz1 (zF_2 cy hz1) rfl (by decide) hX_X2_isAheadOf_2 (zwm (i := 2) rfl) rfl rfl rfl ?_
    obtain ⟨b3, hb4, hw⟩ := hw
    refine zg_nn hb4 ?_
    obtain ⟨hz5, hw⟩ := hw
    refine zg_get (q := 35) (T := TX4) (k := 2) C0 dX2_isAheadOf_32 hz5 (zF_4 cy hz5) rfl (by decide) hX_X2_isAheadOf_4 (zwm (i := 3) rfl) rfl rfl rfl ?_
    refine zg_aload_n (q := 36) C0 1 dX2_isAheadOf_35 rfl rfl ?_
    refine zg_get (q := 39) (T := TX2) (k := 2) C0 dX2_isAheadOf_36 hz2 (zF_2 cy hz2) rfl (by decide) hX_X2_isAheadOf_2 (zwm (i := 2) rfl) rfl rfl rfl ?_
    obtain ⟨b6, hb7, hw⟩ := hw
    refine zg_nn hb7 ?_
    obtain ⟨hz8, hw⟩ := hw
    refine zg_get (q := 42) (T := TX4) (k := 2) C0 dX2_isAheadOf_39 hz8 (zF_4 cy hz8) rfl (by decide) hX_X2_isAheadOf_4 (zwm (i := 3) rfl) rfl rfl rfl ?_
    refine zg_icmp_eq (q := 45) (tgt := 68) C0 dX2_isAheadOf_42 rfl rfl (fun c11 => ?_) (fun c11 => ?_)
    · have hw := hw.1 c11
      refine zg_aload_n (q := 69) C0 0 dX2_isAheadOf_68 rfl rfl ?_
      refine zg_get (q := 72) (T := TX2) (k := 0) C0 dX2_isAheadOf_69 hz1 (zF_2 cy hz1) rfl (by decide) hX_X2_isAheadOf_2 (zwm (i := 4) rfl) rfl rfl rfl ?_
      refine zg_aload_n (q := 73) C0 1 dX2_isAheadOf_72 rfl rfl ?_
      refine zg_get (q := 76) (T := TX2) (k := 0) C0 dX2_isAheadOf_73 hz2 (zF_2 cy hz2) rfl (by decide) hX_X2_isAheadOf_2 (zwm (i := 4) rfl) rfl rfl rfl ?_
      refine zg_icmp_ge (q := 79) (tgt := 83) C0 dX2_isAheadOf_76 rfl rfl (fun c9 => ?_) (fun c9 => ?_)
      · have hw := hw.1 c9
        refine zg_iconst (q := 84) C0 dX2_isAheadOf_83 zc_iconst_0 rfl ?_
        exact zg_iret C0 dX2_isAheadOf_84 rfl (by decide) (Nat.le_refl 0) (Nat.le_refl 0) hw
      · have hw := hw.2 c9
        refine zg_iconst (q := 80) C0 dX2_isAheadOf_79 zc_iconst_1 rfl ?_
        refine zg_goto (tgt := 84) C0 dX2_isAheadOf_80 rfl ?_
        exact zg_iret C0 dX2_isAheadOf_84 rfl (by decide) (Nat.le_refl 0) (Nat.le_refl 0) hw
    · have hw := hw.2 c11
      refine zg_aload_n (q := 46) C0 0 dX2_isAheadOf_45 rfl rfl ?_
      refine zg_get (q := 49) (T := TX2) (k := 2) C0 dX2_isAheadOf_46 hz1 (zF_2 cy hz1) rfl (by decide) hX_X2_isAheadOf_2 (zwm (i := 2) rfl) rfl rfl rfl ?_
      refine zg_nn hb4 ?_
      refine zg_get (q := 52) (T := TX4) (k := 2) C0 dX2_isAheadOf_49 hz5 (zF_4 cy hz5) rfl (by decide) hX_X2_isAheadOf_4 (zwm (i := 3) rfl) rfl rfl rfl ?_
      refine zg_aload_n (q := 53) C0 1 dX2_isAheadOf_52 rfl rfl ?_
      refine zg_get (q := 56) (T := TX2) (k := 2) C0 dX2_isAheadOf_53 hz2 (zF_2 cy hz2) rfl (by decide) hX_X2_isAheadOf_2 (zwm (i := 2) rfl) rfl rfl rfl ?_
      refine zg_nn hb7 ?_
      refine zg_get (q := 59) (T := TX4) (k := 2) C0 dX2_isAheadOf_56 hz8 (zF_4 cy hz8) rfl (by decide) hX_X2_isAheadOf_4 (zwm (i := 3) rfl) rfl rfl rfl ?_
      refine zg_icmp_le (q := 62) (tgt := 66) C0 dX2_isAheadOf_59 rfl rfl (fun c10 => ?_) (fun c10 => ?_)
      · have hw := hw.1 c10
        refine zg_iconst (q := 67) C0 dX2_isAheadOf_66 zc_iconst_0 rfl ?_
        exact zg_iret C0 dX2_isAheadOf_67 rfl (by decide) (Nat.le_refl 0) (Nat.le_refl 0) hw
      · have hw := hw.2 c10
        refine zg_iconst (q := 63) C0 dX2_isAheadOf_62 zc_iconst_1 rfl ?_
        refine zg_goto (tgt := 67) C0 dX2_isAheadOf_63 rfl ?_
        exact zg_iret C0 dX2_isAheadOf_67 rfl (by decide) (Nat.le_refl 0) (Nat.le_refl 0) hw
  · have hw := hw.2 c13
    refine zg_aload_n (q := 12) C0 0 dX2_isAheadOf_11 rfl rfl ?_
    refine zg_get (q := 15) (T := TX2) (k := 9) C0 dX2_isAheadOf_12 hz1 (zF_2 cy hz1) rfl (by decide) hX_X2_isAheadOf_2 (zwm (i := 1) rfl) rfl rfl rfl ?_
    refine zg_aload_n (q := 16) C0 1 dX2_isAheadOf_15 rfl rfl ?_
    refine zg_get (q := 19) (T := TX2) (k := 9) C0 dX2_isAheadOf_16 hz2 (zF_2 cy hz2) rfl (by decide) hX_X2_isAheadOf_2 (zwm (i := 1) rfl) rfl rfl rfl ?_
    refine zg_icmp_le (q := 22) (tgt := 26) C0 dX2_isAheadOf_19 rfl rfl (fun c12 => ?_) (fun c12 => ?_)
    · have hw := hw.1 c12
      refine zg_iconst (q := 27) C0 dX2_isAheadOf_26 zc_iconst_0 rfl ?_
      exact zg_iret C0 dX2_isAheadOf_27 rfl (by decide) (Nat.le_refl 0) (Nat.le_refl 0) hw
    · have hw := hw.2 c12
      refine zg_iconst (q := 23) C0 dX2_isAheadOf_22 zc_iconst_1 rfl ?_
      refine zg_goto (tgt := 27) C0 dX2_isAheadOf_23 rfl ?_
      exact zg_iret C0 dX2_isAheadOf_27 rfl (by decide) (Nat.le_refl 0) (Nat.le_refl 0) hw
-- X2_full
abbrev rm_X2_full : Room := { frames := 0, cells := 0, slots := 0, locals := 0 }
theorem hX_X2_full_2 : ∀ w ∈ u_ws RX2 TX2 13, w ∈ wsX2_full := by decide +kernel
theorem hdV_X2_full : yX2_full.cls = RX2 ∧ yX2_full.cls ≠ "java/lang/invoke/MethodHandle" ∧ yX2_full.cls ≠ "java/lang/invoke/VarHandle" ∧ (parseMethodDescriptor yX2_full.desc).map (fun d => d.parameters.length) = some 0 := by decide +kernel
def wb_X2_full_2 (Z : zZ) (x0 : Nat) (Qp : Int32 → zS → Prop) (K : Int32 → zS → Prop) (rec : Int32 → zS → Prop) (x1 : Int32) (S : zS) : Prop :=
  ((100 ≤ x1 → K x1 S) ∧ (¬ 100 ≤ x1 → zk Z x0 2 ∧ ∃ b2, zQ Z x0 4 = some b2 ∧ zk Z b2 11 ∧ vp_in (x1 + 1) (zN Z b2) ∧ ((zR S b2 (x1 + 1).toNatClampNeg = none → K x1 S) ∧ (∀ b6, zR S b2 (x1 + 1).toNatClampNeg = some b6 → ∀ y8 : Int32, y8 = x1 + 1 → rec y8 S))))
def wL_X2_full_2 (Z : zZ) (x0 : Nat) (Qp : Int32 → zS → Prop) (K : Int32 → zS → Prop) (x1 : Int32) (S : zS) : Prop := ∃ n, zit2 (wb_X2_full_2 Z x0 Qp K) n x1 S
set_option maxHeartbeats 4000000 in
set_option maxRecDepth 100000 in
theorem ab_X2_full_2 {p : Program} {l : Launch} {e : Env} {s : State} {m : MethodId} {args : Array Value} {below : List Frame} {meth : Method} {c : Code} {D : va_G} {cy : Nat → ClassId} {A : Nat → Prop} {Q : State → Prop} {Z : zZ} (C0 : zC p s m args meth c cX2_full 2 wsX2_full RX2 D cy A (some .int)) {x0 : Nat} {Qp : Int32 → zS → Prop} {K : Int32 → zS → Prop} (hK : ∀ x1 S, K x1 S → zG p l e rm_X2_full s m args below meth c D cy A 2 0 0 Q Z S 25 [(1, .int x1)] []) {rec : Int32 → zS → Prop} (hrec : ∀ x1 S, rec x1 S → zG p l e rm_X2_full s m args below meth c D cy A 2 0 0 Q Z S 2 [(0, .ref x0), (1, .int x1)] []) {x1 : Int32} {S : zS} (hw : wb_X2_full_2 Z x0 Qp K rec x1 S) : zG p l e rm_X2_full s m args below meth c D cy A 2 0 0 Q Z S 2 [(0, .ref x0), (1, .int x1)] [] := by
  unfold wb_X2_full_2 at hw
  refine zg_iload_n (q := 3) C0 1 dX2_full_2 rfl rfl ?_
  refine zg_bipush (q := 5) C0 dX2_full_3 zc_bipush_100 rfl ?_
  refine zg_icmp_ge (q := 8) (tgt := 25) C0 dX2_full_5 rfl rfl (fun c10 => ?_) (fun c10 => ?_)
  · have hw := hw.1 c10
    refine zg_sub [1] rfl ?_
    exact hK _ _ hw
  · have hw := hw.2 c10
    refine zg_aload_n (q := 9) C0 0 dX2_full_8 rfl rfl ?_
    obtain ⟨hz1, hw⟩ := hw
    refine zg_get (q := 12) (T := TX2) (k := 4) C0 dX2_full_9 hz1 (zF_2 cy hz1) rfl (by decide) hX_X2_full_2 (zwm (i := 1) rfl) rfl rfl rfl ?_
    obtain ⟨b2, hb3, hw⟩ := hw
    refine zg_nn hb3 ?_
    refine zg_iload_n (q := 13) C0 1 dX2_full_12 rfl rfl ?_
    refine zg_iconst (q := 14) C0 dX2_full_13 zc_iconst_1 rfl ?_
    refine zg_iadd (q := 15) C0 dX2_full_14 rfl ?_
    obtain ⟨hz4, hw⟩ := hw
    obtain ⟨hi5, hw⟩ := hw
    refine zg_aald_11 (q := 16) C0 dX2_full_15 hz4 hi5 rfl ?_
    refine zg_ifnull (q := 19) (tgt := 25) C0 dX2_full_16 rfl rfl (fun c9 => ?_) (fun b6 hb7 => ?_)
    · have hw := hw.1 c9
      refine zg_sub [1] rfl ?_
      exact hK _ _ hw
    · have hw := hw.2 b6 hb7
      refine zg_iinc (q := 22) C0 1 dX2_full_19 rfl (by decide) zc_iconst_1 rfl (fun y8 ey8 => ?_)
      have hw := hw y8 ey8
      refine zg_lv (lv' := [(1, .int y8), (0, .ref x0)]) rfl ?_
      refine zg_goto (tgt := 2) C0 dX2_full_22 rfl ?_
      refine zg_sub [1, 0] rfl ?_
      exact hrec _ _ hw
theorem aL_X2_full_2 {p : Program} {l : Launch} {e : Env} {s : State} {m : MethodId} {args : Array Value} {below : List Frame} {meth : Method} {c : Code} {D : va_G} {cy : Nat → ClassId} {A : Nat → Prop} {Q : State → Prop} {Z : zZ} (C0 : zC p s m args meth c cX2_full 2 wsX2_full RX2 D cy A (some .int)) {x0 : Nat} {Qp : Int32 → zS → Prop} {K : Int32 → zS → Prop} (hK : ∀ x1 S, K x1 S → zG p l e rm_X2_full s m args below meth c D cy A 2 0 0 Q Z S 25 [(1, .int x1)] []) : ∀ x1 S, wL_X2_full_2 Z x0 Qp K x1 S → zG p l e rm_X2_full s m args below meth c D cy A 2 0 0 Q Z S 2 [(0, .ref x0), (1, .int x1)] [] := by
  intro x1 S hw
  obtain ⟨n, hw⟩ := hw
  induction n generalizing x1 S with
  | zero => exact hw.elim
  | succ n ih => exact ab_X2_full_2 C0 hK (fun x1 S hw => ih x1 S hw) hw
def w_X2_full (Z : zZ) (h0 : Nat) (S : zS) (Qp : Int32 → zS → Prop) : Prop :=
  wL_X2_full_2 Z h0 Qp (fun (v12 : Int32) (S11 : zS) => Qp v12 S11) 0 S
set_option maxHeartbeats 4000000 in
set_option maxRecDepth 100000 in
theorem a_X2_full (l : Launch) (D : va_G) (cy : Nat → ClassId) (Z : zZ) (S : zS) (sz : Nat) (h0 : Nat) (Qp : Int32 → zS → Prop) (hw : w_X2_full Z h0 S Qp) : zMi l yX2_full wsX2_full rm_X2_full D cy Z S sz [.ref h0] Qp := by
  unfold w_X2_full at hw
  refine zMi_of (cc := cX2_full) (maxL := 2) (rt := (some .int)) (by decide +kernel) rfl (Nat.le_of_ble_eq_true rfl) ?_
  intro p e s m args below meth c A C0 _
  refine zg_lv (lv' := [(0, .ref h0)]) rfl ?_
  refine zg_iconst (q := 1) C0 dX2_full_0 zc_iconst_0 rfl ?_
  refine zg_istore_n (q := 2) (lv' := [(1, .int 0), (0, .ref h0)]) C0 dX2_full_1 (by decide) rfl rfl ?_
  refine zg_sub [1, 0] rfl ?_
  refine aL_X2_full_2 C0 (fun v12 S11 hw => ?_) _ _ hw
  refine zg_iload_n (q := 26) C0 0 dX2_full_25 rfl rfl ?_
  exact zg_iret C0 dX2_full_26 rfl rfl (Nat.le_refl 0) (Nat.le_refl 0) hw
-- X2_receive
abbrev rm_X2_receive : Room := { frames := 1, cells := 0, slots := 0, locals := 20 }
theorem hX_X2_receive_1 : ∀ w ∈ u_ws RX1 TX1 4, w ∈ wsX2_receive := by decide +kernel
theorem hX_X2_receive_2 : ∀ w ∈ u_ws RX2 TX2 13, w ∈ wsX2_receive := by decide +kernel
theorem hX_X2_receive_4 : ∀ w ∈ u_ws RX4 TX4 5, w ∈ wsX2_receive := by decide +kernel
theorem hdV_X2_receive : yX2_receive.cls = RX2 ∧ yX2_receive.cls ≠ "java/lang/invoke/MethodHandle" ∧ yX2_receive.cls ≠ "java/lang/invoke/VarHandle" ∧ (parseMethodDescriptor yX2_receive.desc).map (fun d => d.parameters.length) = some 2 := by decide +kernel
def w_X2_receive (Z : zZ) (h0 : Nat) (p0 : Int32) (p1 : Nat) (S : zS) (Qp : zS → Prop) : Prop :=
  zk Z h0 2 ∧ ∃ b2, zQ Z h0 4 = some b2 ∧ zk Z b2 11 ∧ zk Z p1 1 ∧ vp_in p0 (zN Z b2) ∧ ∀ S7 : zS, S7 = zsR S b2 p0.toNatClampNeg (some p1) → (((zI S7 p1 3) = 0 → Qp S7) ∧ (¬ (zI S7 p1 3) = 0 → w_X2_isOfPrimary Z h0 S7 (fun (v9 : Int32) (S8 : zS) => ((v9 = 0 → Qp S8) ∧ (¬ v9 = 0 → ∃ b10, zQ Z h0 2 = some b10 ∧ zk Z b10 4 ∧ ∃ b13, zQ Z b10 1 = some b13 ∧ zk Z b13 11 ∧ vp_in p0 (zN Z b13) ∧ ∀ S17 : zS, S17 = zsR S8 b13 p0.toNatClampNeg (some p1) → Qp S17)))))
set_option maxHeartbeats 4000000 in
set_option maxRecDepth 100000 in
theorem a_X2_receive (l : Launch) (D : va_G) (cy : Nat → ClassId) (Z : zZ) (S : zS) (sz : Nat) (h0 : Nat) (p0 : Int32) (p1 : Nat) (Qp : zS → Prop) (hw : w_X2_receive Z h0 p0 p1 S Qp) : zMv l yX2_receive wsX2_receive rm_X2_receive D cy Z S sz [.ref h0, .int p0, .ref p1] Qp := by
  unfold w_X2_receive at hw
  refine zMv_of (cc := cX2_receive) (maxL := 3) (rt := none) (by decide +kernel) rfl (Nat.le_of_ble_eq_true rfl) ?_
  intro p e s m args below meth c A C0 _
  refine zg_lv (lv' := [(0, .ref h0), (1, .int p0), (2, .ref p1)]) rfl ?_
  refine zg_aload_n (q := 1) C0 0 dX2_receive_0 rfl rfl ?_
  obtain ⟨hz1, hw⟩ := hw
  refine zg_get (q := 4) (T := TX2) (k := 4) C0 dX2_receive_1 hz1 (zF_2 cy hz1) rfl (by decide) hX_X2_receive_2 (zwm (i := 1) rfl) rfl rfl rfl ?_
  obtain ⟨b2, hb3, hw⟩ := hw
  refine zg_nn hb3 ?_
  refine zg_iload_n (q := 5) C0 1 dX2_receive_4 rfl rfl ?_
  refine zg_aload_n (q := 6) C0 2 dX2_receive_5 rfl rfl ?_
  obtain ⟨hz4, hw⟩ := hw
  obtain ⟨hz5, hw⟩ := hw
  obtain ⟨hi6, hw⟩ := hw
  refine zg_aast_11 (q := 7) C0 dX2_receive_6 hz4 hz5 hi6 rfl (fun S7 eS7 => ?_)
  have hw := hw S7 eS7
  refine zg_aload_n (q := 8) C0 2 dX2_receive_7 rfl rfl ?_
  refine zg_get (q := 11) (T := TX1) (k := 3) C0 dX2_receive_8 hz5 (zF_1 cy hz5) rfl (by decide) hX_X2_receive_1 (zwm (i := 2) rfl) rfl rfl rfl ?_
  refine zg_if_eq (q := 14) (tgt := 31) C0 dX2_receive_11 rfl rfl (fun c19 => ?_) (fun c19 => ?_)
  · have hw := hw.1 c19
    exact zg_vret C0 dX2_receive_31 rfl (Nat.le_refl 0) (Nat.le_refl 0) hw
  · have hw := hw.2 c19
    refine zg_aload_n (q := 15) C0 0 dX2_receive_14 rfl rfl ?_
    refine zg_callVi (q := 18) C0 [] [] dX2_receive_15 (fun sz => a_X2_isOfPrimary l D cy Z S7 sz h0 _ hw) rfl gX2_receive_X2_isOfPrimary hdV_X2_isOfPrimary hz1 (zF_2 cy hz1) rfl rfl ⟨Nat.le_of_ble_eq_true rfl, Nat.le_of_ble_eq_true rfl⟩ (Nat.le_of_ble_eq_true rfl) ⟨Nat.zero_le _, Nat.zero_le _⟩ ⟨rfl, rfl⟩ rfl (fun v9 S8 hw => ?_)
    refine zg_if_eq (q := 21) (tgt := 31) C0 dX2_receive_18 rfl rfl (fun c18 => ?_) (fun c18 => ?_)
    · have hw := hw.1 c18
      exact zg_vret C0 dX2_receive_31 rfl (Nat.le_refl 0) (Nat.le_refl 0) hw
    · have hw := hw.2 c18
      refine zg_aload_n (q := 22) C0 0 dX2_receive_21 rfl rfl ?_
      refine zg_get (q := 25) (T := TX2) (k := 2) C0 dX2_receive_22 hz1 (zF_2 cy hz1) rfl (by decide) hX_X2_receive_2 (zwm (i := 3) rfl) rfl rfl rfl ?_
      obtain ⟨b10, hb11, hw⟩ := hw
      refine zg_nn hb11 ?_
      obtain ⟨hz12, hw⟩ := hw
      refine zg_get (q := 28) (T := TX4) (k := 1) C0 dX2_receive_25 hz12 (zF_4 cy hz12) rfl (by decide) hX_X2_receive_4 (zwm (i := 4) rfl) rfl rfl rfl ?_
      obtain ⟨b13, hb14, hw⟩ := hw
      refine zg_nn hb14 ?_
      refine zg_iload_n (q := 29) C0 1 dX2_receive_28 rfl rfl ?_
      refine zg_aload_n (q := 30) C0 2 dX2_receive_29 rfl rfl ?_
      obtain ⟨hz15, hw⟩ := hw
      obtain ⟨hi16, hw⟩ := hw
      refine zg_aast_11 (q := 31) C0 dX2_receive_30 hz15 hz5 hi16 rfl (fun S17 eS17 => ?_)
      have hw := hw S17 eS17
      exact zg_vret C0 dX2_receive_31 rfl (Nat.le_refl 0) (Nat.le_refl 0) hw
-- X2_tell
abbrev rm_X2_tell : Room := { frames := 2, cells := 0, slots := 0, locals := 50 }
theorem hX_X2_tell_1 : ∀ w ∈ u_ws RX1 TX1 4, w ∈ wsX2_tell := by decide +kernel
theorem hX_X2_tell_2 : ∀ w ∈ u_ws RX2 TX2 13, w ∈ wsX2_tell := by decide +kernel
theorem hX_X2_tell_5 : ∀ w ∈ u_ws RX5 TX5 6, w ∈ wsX2_tell := by decide +kernel
theorem hdV_X2_tell : yX2_tell.cls = RX2 ∧ yX2_tell.cls ≠ "java/lang/invoke/MethodHandle" ∧ yX2_tell.cls ≠ "java/lang/invoke/VarHandle" ∧ (parseMethodDescriptor yX2_tell.desc).map (fun d => d.parameters.length) = some 2 := by decide +kernel
def w_X2_tell (Z : zZ) (h0 : Nat) (p0 : Int32) (p1 : Nat) (S : zS) (Qp : zS → Prop) : Prop :=
  zk Z h0 2 ∧ ∀ S2 : zS, S2 = zsI S h0 11 p0 → ∃ b3, zQ Z h0 3 = some b3 ∧ zk Z p1 1 ∧ ∃ b6, zR S2 h0 7 = some b6 ∧ zk Z b6 5 ∧ zk Z b3 0 ∧ w_X0_add Z b3 1 p0 (zI S2 p1 0) (zI S2 p1 1) (zJ S2 p1 2) (zI S2 b6 2) S2 (fun (S10 : zS) => Qp S10)
set_option maxHeartbeats 4000000 in
set_option maxRecDepth 100000 in
theorem a_X2_tell (l : Launch) (D : va_G) (cy : Nat → ClassId) (Z : zZ) (S : zS) (sz : Nat) (h0 : Nat) (p0 : Int32) (p1 : Nat) (Qp : zS → Prop) (hw : w_X2_tell Z h0 p0 p1 S Qp) : zMv l yX2_tell wsX2_tell rm_X2_tell D cy Z S sz [.ref h0, .int p0, .ref p1] Qp := by
  unfold w_X2_tell at hw
  refine zMv_of (cc := cX2_tell) (maxL := 3) (rt := none) (by decide +kernel) rfl (Nat.le_of_ble_eq_true rfl) ?_
  intro p e s m args below meth c A C0 _
  refine zg_lv (lv' := [(0, .ref h0), (1, .int p0), (2, .ref p1)]) rfl ?_
  refine zg_aload_n (q := 1) C0 0 dX2_tell_0 rfl rfl ?_
  refine zg_iload_n (q := 2) C0 1 dX2_tell_1 rfl rfl ?_
  obtain ⟨hz1, hw⟩ := hw
  refine zg_putI (q := 5) (T := TX2) (k := 11) (ty0 := tyX2) C0 dX2_tell_2 hz1 (zF_2 cy hz1) rfl (by decide) hX_X2_tell_2 tyX2_ok nmX2 (zwm (i := 1) rfl) rfl rfl rfl rfl (Nat.le_of_ble_eq_true rfl) (zF_2 cy hz1) (zP_2_11 Z S _ _) rfl (fun S2 eS2 => ?_)
  have hw := hw S2 eS2
  refine zg_aload_n (q := 6) C0 0 dX2_tell_5 rfl rfl ?_
  refine zg_get (q := 9) (T := TX2) (k := 3) C0 dX2_tell_6 hz1 (zF_2 cy hz1) rfl (by decide) hX_X2_tell_2 (zwm (i := 2) rfl) rfl rfl rfl ?_
  obtain ⟨b3, hb4, hw⟩ := hw
  refine zg_nn hb4 ?_
  refine zg_iconst (q := 10) C0 dX2_tell_9 zc_iconst_1 rfl ?_
  refine zg_iload_n (q := 11) C0 1 dX2_tell_10 rfl rfl ?_
  refine zg_aload_n (q := 12) C0 2 dX2_tell_11 rfl rfl ?_
  obtain ⟨hz5, hw⟩ := hw
  refine zg_get (q := 15) (T := TX1) (k := 0) C0 dX2_tell_12 hz5 (zF_1 cy hz5) rfl (by decide) hX_X2_tell_1 (zwm (i := 3) rfl) rfl rfl rfl ?_
  refine zg_aload_n (q := 16) C0 2 dX2_tell_15 rfl rfl ?_
  refine zg_get (q := 19) (T := TX1) (k := 1) C0 dX2_tell_16 hz5 (zF_1 cy hz5) rfl (by decide) hX_X2_tell_1 (zwm (i := 4) rfl) rfl rfl rfl ?_
  refine zg_aload_n (q := 20) C0 2 dX2_tell_19 rfl rfl ?_
  refine zg_get (q := 23) (T := TX1) (k := 2) C0 dX2_tell_20 hz5 (zF_1 cy hz5) rfl (by decide) hX_X2_tell_1 (zwm (i := 5) rfl) rfl rfl rfl ?_
  refine zg_aload_n (q := 24) C0 0 dX2_tell_23 rfl rfl ?_
  refine zg_get (q := 27) (T := TX2) (k := 7) C0 dX2_tell_24 hz1 (zF_2 cy hz1) rfl (by decide) hX_X2_tell_2 (zwm (i := 6) rfl) rfl rfl rfl ?_
  obtain ⟨b6, hb7, hw⟩ := hw
  refine zg_nn hb7 ?_
  obtain ⟨hz8, hw⟩ := hw
  refine zg_get (q := 30) (T := TX5) (k := 2) C0 dX2_tell_27 hz8 (zF_5 cy hz8) rfl (by decide) hX_X2_tell_5 (zwm (i := 7) rfl) rfl rfl rfl ?_
  obtain ⟨hz9, hw⟩ := hw
  refine zg_callVv (q := 33) C0 [.int 1, .int p0, .int (zI S2 p1 0), .int (zI S2 p1 1), .long (zJ S2 p1 2), .int (zI S2 b6 2)] [] dX2_tell_30 (fun sz => a_X0_add l D cy Z S2 sz b3 1 p0 (zI S2 p1 0) (zI S2 p1 1) (zJ S2 p1 2) (zI S2 b6 2) _ hw) rfl gX2_tell_X0_add hdV_X0_add hz9 (zF_0 cy hz9) rfl rfl ⟨Nat.le_of_ble_eq_true rfl, Nat.le_of_ble_eq_true rfl⟩ (Nat.le_of_ble_eq_true rfl) ⟨Nat.zero_le _, Nat.zero_le _⟩ ⟨rfl, rfl⟩ rfl (fun S10 hw => ?_)
  exact zg_vret C0 dX2_tell_33 rfl (Nat.le_refl 0) (Nat.le_refl 0) hw
-- X2_deliverInTurn
abbrev rm_X2_deliverInTurn : Room := { frames := 3, cells := 0, slots := 0, locals := 72 }
theorem hX_X2_deliverInTurn_1 : ∀ w ∈ u_ws RX1 TX1 4, w ∈ wsX2_deliverInTurn := by decide +kernel
theorem hX_X2_deliverInTurn_2 : ∀ w ∈ u_ws RX2 TX2 13, w ∈ wsX2_deliverInTurn := by decide +kernel
theorem hdV_X2_deliverInTurn : yX2_deliverInTurn.cls = RX2 ∧ yX2_deliverInTurn.cls ≠ "java/lang/invoke/MethodHandle" ∧ yX2_deliverInTurn.cls ≠ "java/lang/invoke/VarHandle" ∧ (parseMethodDescriptor yX2_deliverInTurn.desc).map (fun d => d.parameters.length) = some 0 := by decide +kernel
def wJ_X2_deliverInTurn_44 (Z : zZ) (Qp : Int32 → zS → Prop) (K : zS → Prop) (rec : Int32 → zS → Prop) (x0 : Nat) (x1 : Int32) (x2 : Int32) (x3 : Nat) (S : zS) : Prop :=
  zk Z x0 2 ∧ w_X2_tell Z x0 x2 x3 S (fun (S14 : zS) => zk Z x3 1 ∧ (((zI S14 x3 3) = 0 → ∀ y16 : Int32, y16 = x2 + 1 → rec y16 S14) ∧ (¬ (zI S14 x3 3) = 0 → w_X2_isOfPrimary Z x0 S14 (fun (v18 : Int32) (S17 : zS) => ((v18 = 0 → ∀ y19 : Int32, y19 = x2 + 1 → rec y19 S17) ∧ (¬ v18 = 0 → ∃ b20, zQ Z x0 2 = some b20 ∧ zk Z b20 4 ∧ w_X4_apply Z b20 x2 x3 S17 (fun (S23 : zS) => ∀ y24 : Int32, y24 = x2 + 1 → rec y24 S23)))))))
set_option maxHeartbeats 4000000 in
set_option maxRecDepth 100000 in
theorem aJ_X2_deliverInTurn_44 {p : Program} {l : Launch} {e : Env} {s : State} {m : MethodId} {args : Array Value} {below : List Frame} {meth : Method} {c : Code} {D : va_G} {cy : Nat → ClassId} {A : Nat → Prop} {Z : zZ} (C0 : zC p s m args meth c cX2_deliverInTurn 4 wsX2_deliverInTurn RX2 D cy A (some .int)) {Qp : Int32 → zS → Prop} {x0 : Nat} {x1 : Int32} {x2 : Int32} {x3 : Nat}  {K : zS → Prop} {rec : Int32 → zS → Prop} (hK : ∀  S, K  S → zG p l e rm_X2_deliverInTurn s m args below meth c D cy A 4 0 0 (zQi below D cy A Z Qp args s 0 0) Z S 79 [(0, .ref x0), (1, .int x1)] []) (hrec : ∀ x2 S, rec x2 S → zG p l e rm_X2_deliverInTurn s m args below meth c D cy A 4 0 0 (zQi below D cy A Z Qp args s 0 0) Z S 9 [(0, .ref x0), (1, .int x1), (2, .int x2)] []) {S : zS} (hw : wJ_X2_deliverInTurn_44 Z Qp K rec x0 x1 x2 x3 S) : zG p l e rm_X2_deliverInTurn s m args below meth c D cy A 4 0 0 (zQi below D cy A Z Qp args s 0 0) Z S 44 [(0, .ref x0), (1, .int x1), (2, .int x2), (3, .ref x3)] [] := by
  unfold wJ_X2_deliverInTurn_44 at hw
  refine zg_aload_n (q := 45) C0 0 dX2_deliverInTurn_44 rfl rfl ?_
  refine zg_iload_n (q := 46) C0 2 dX2_deliverInTurn_45 rfl rfl ?_
  refine zg_aload_n (q := 47) C0 3 dX2_deliverInTurn_46 rfl rfl ?_
  obtain ⟨hz13, hw⟩ := hw
  refine zg_callVv (q := 50) C0 [.int x2, .ref x3] [] dX2_deliverInTurn_47 (fun sz => a_X2_tell l D cy Z S sz x0 x2 x3 _ hw) rfl gX2_deliverInTurn_X2_tell hdV_X2_tell hz13 (zF_2 cy hz13) rfl rfl ⟨Nat.le_of_ble_eq_true rfl, Nat.le_of_ble_eq_true rfl⟩ (Nat.le_of_ble_eq_true rfl) ⟨Nat.zero_le _, Nat.zero_le _⟩ ⟨rfl, rfl⟩ rfl (fun S14 hw => ?_)
  refine zg_aload_n (q := 51) C0 3 dX2_deliverInTurn_50 rfl rfl ?_
  obtain ⟨hz15, hw⟩ := hw
  refine zg_get (q := 54) (T := TX1) (k := 3) C0 dX2_deliverInTurn_51 hz15 (zF_1 cy hz15) rfl (by decide) hX_X2_deliverInTurn_1 (zwm (i := 3) rfl) rfl rfl rfl ?_
  refine zg_if_eq (q := 57) (tgt := 73) C0 dX2_deliverInTurn_54 rfl rfl (fun c26 => ?_) (fun c26 => ?_)
  · have hw := hw.1 c26
    refine zg_iinc (q := 76) C0 2 dX2_deliverInTurn_73 rfl (by decide) zc_iconst_1 rfl (fun y16 ey16 => ?_)
    have hw := hw y16 ey16
    refine zg_lv (lv' := [(2, .int y16), (0, .ref x0), (1, .int x1), (3, .ref x3)]) rfl ?_
    refine zg_goto (tgt := 9) C0 dX2_deliverInTurn_76 rfl ?_
    refine zg_sub [1, 2, 0] rfl ?_
    exact hrec _ _ hw
  · have hw := hw.2 c26
    refine zg_aload_n (q := 58) C0 0 dX2_deliverInTurn_57 rfl rfl ?_
    refine zg_callVi (q := 61) C0 [] [] dX2_deliverInTurn_58 (fun sz => a_X2_isOfPrimary l D cy Z S14 sz x0 _ hw) rfl gX2_deliverInTurn_X2_isOfPrimary hdV_X2_isOfPrimary hz13 (zF_2 cy hz13) rfl rfl ⟨Nat.le_of_ble_eq_true rfl, Nat.le_of_ble_eq_true rfl⟩ (Nat.le_of_ble_eq_true rfl) ⟨Nat.zero_le _, Nat.zero_le _⟩ ⟨rfl, rfl⟩ rfl (fun v18 S17 hw => ?_)
    refine zg_if_eq (q := 64) (tgt := 73) C0 dX2_deliverInTurn_61 rfl rfl (fun c25 => ?_) (fun c25 => ?_)
    · have hw := hw.1 c25
      refine zg_iinc (q := 76) C0 2 dX2_deliverInTurn_73 rfl (by decide) zc_iconst_1 rfl (fun y19 ey19 => ?_)
      have hw := hw y19 ey19
      refine zg_lv (lv' := [(2, .int y19), (0, .ref x0), (1, .int x1), (3, .ref x3)]) rfl ?_
      refine zg_goto (tgt := 9) C0 dX2_deliverInTurn_76 rfl ?_
      refine zg_sub [1, 2, 0] rfl ?_
      exact hrec _ _ hw
    · have hw := hw.2 c25
      refine zg_aload_n (q := 65) C0 0 dX2_deliverInTurn_64 rfl rfl ?_
      refine zg_get (q := 68) (T := TX2) (k := 2) C0 dX2_deliverInTurn_65 hz13 (zF_2 cy hz13) rfl (by decide) hX_X2_deliverInTurn_2 (zwm (i := 5) rfl) rfl rfl rfl ?_
      obtain ⟨b20, hb21, hw⟩ := hw
      refine zg_nn hb21 ?_
      refine zg_iload_n (q := 69) C0 2 dX2_deliverInTurn_68 rfl rfl ?_
      refine zg_aload_n (q := 70) C0 3 dX2_deliverInTurn_69 rfl rfl ?_
      obtain ⟨hz22, hw⟩ := hw
      refine zg_callVv (q := 73) C0 [.int x2, .ref x3] [] dX2_deliverInTurn_70 (fun sz => a_X4_apply l D cy Z S17 sz b20 x2 x3 _ hw) rfl gX2_deliverInTurn_X4_apply hdV_X4_apply hz22 (zF_4 cy hz22) rfl rfl ⟨Nat.le_of_ble_eq_true rfl, Nat.le_of_ble_eq_true rfl⟩ (Nat.le_of_ble_eq_true rfl) ⟨Nat.zero_le _, Nat.zero_le _⟩ ⟨rfl, rfl⟩ rfl (fun S23 hw => ?_)
      refine zg_iinc (q := 76) C0 2 dX2_deliverInTurn_73 rfl (by decide) zc_iconst_1 rfl (fun y24 ey24 => ?_)
      have hw := hw y24 ey24
      refine zg_lv (lv' := [(2, .int y24), (0, .ref x0), (1, .int x1), (3, .ref x3)]) rfl ?_
      refine zg_goto (tgt := 9) C0 dX2_deliverInTurn_76 rfl ?_
      refine zg_sub [1, 2, 0] rfl ?_
      exact hrec _ _ hw
def wb_X2_deliverInTurn_9 (Z : zZ) (x0 : Nat) (x1 : Int32) (Qp : Int32 → zS → Prop) (K : zS → Prop) (rec : Int32 → zS → Prop) (x2 : Int32) (S : zS) : Prop :=
  ((100 < x2 → K S) ∧ (¬ 100 < x2 → zk Z x0 2 ∧ ∃ b5, zQ Z x0 4 = some b5 ∧ zk Z b5 11 ∧ vp_in x2 (zN Z b5) ∧ ∀ r9 : Option Nat, r9 = zR S b5 x2.toNatClampNeg → ((r9 = none → K S) ∧ (∀ b10, r9 = some b10 → zk Z b10 1 ∧ (((zI S b10 3) = 0 → wJ_X2_deliverInTurn_44 Z Qp K rec x0 x1 x2 b10 S) ∧ (¬ (zI S b10 3) = 0 → ((x2 ≤ (zI S x0 12) → wJ_X2_deliverInTurn_44 Z Qp K rec x0 x1 x2 b10 S) ∧ (¬ x2 ≤ (zI S x0 12) → K S))))))))
def wL_X2_deliverInTurn_9 (Z : zZ) (x0 : Nat) (x1 : Int32) (Qp : Int32 → zS → Prop) (K : zS → Prop) (x2 : Int32) (S : zS) : Prop := ∃ n, zit2 (wb_X2_deliverInTurn_9 Z x0 x1 Qp K) n x2 S
set_option maxHeartbeats 4000000 in
set_option maxRecDepth 100000 in
theorem ab_X2_deliverInTurn_9 {p : Program} {l : Launch} {e : Env} {s : State} {m : MethodId} {args : Array Value} {below : List Frame} {meth : Method} {c : Code} {D : va_G} {cy : Nat → ClassId} {A : Nat → Prop} {Z : zZ} (C0 : zC p s m args meth c cX2_deliverInTurn 4 wsX2_deliverInTurn RX2 D cy A (some .int)) {x0 : Nat} {x1 : Int32} {Qp : Int32 → zS → Prop} {K : zS → Prop} (hK : ∀  S, K  S → zG p l e rm_X2_deliverInTurn s m args below meth c D cy A 4 0 0 (zQi below D cy A Z Qp args s 0 0) Z S 79 [(0, .ref x0), (1, .int x1)] []) {rec : Int32 → zS → Prop} (hrec : ∀ x2 S, rec x2 S → zG p l e rm_X2_deliverInTurn s m args below meth c D cy A 4 0 0 (zQi below D cy A Z Qp args s 0 0) Z S 9 [(0, .ref x0), (1, .int x1), (2, .int x2)] []) {x2 : Int32} {S : zS} (hw : wb_X2_deliverInTurn_9 Z x0 x1 Qp K rec x2 S) : zG p l e rm_X2_deliverInTurn s m args below meth c D cy A 4 0 0 (zQi below D cy A Z Qp args s 0 0) Z S 9 [(0, .ref x0), (1, .int x1), (2, .int x2)] [] := by
  unfold wb_X2_deliverInTurn_9 at hw
  refine zg_iload_n (q := 10) C0 2 dX2_deliverInTurn_9 rfl rfl ?_
  refine zg_bipush (q := 12) C0 dX2_deliverInTurn_10 zc_bipush_100 rfl ?_
  refine zg_icmp_gt (q := 15) (tgt := 79) C0 dX2_deliverInTurn_12 rfl rfl (fun c30 => ?_) (fun c30 => ?_)
  · have hw := hw.1 c30
    refine zg_sub [0, 1] rfl ?_
    exact hK  _ hw
  · have hw := hw.2 c30
    refine zg_aload_n (q := 16) C0 0 dX2_deliverInTurn_15 rfl rfl ?_
    obtain ⟨hz4, hw⟩ := hw
    refine zg_get (q := 19) (T := TX2) (k := 4) C0 dX2_deliverInTurn_16 hz4 (zF_2 cy hz4) rfl (by decide) hX_X2_deliverInTurn_2 (zwm (i := 2) rfl) rfl rfl rfl ?_
    obtain ⟨b5, hb6, hw⟩ := hw
    refine zg_nn hb6 ?_
    refine zg_iload_n (q := 20) C0 2 dX2_deliverInTurn_19 rfl rfl ?_
    obtain ⟨hz7, hw⟩ := hw
    obtain ⟨hi8, hw⟩ := hw
    refine zg_aald_11 (q := 21) C0 dX2_deliverInTurn_20 hz7 hi8 rfl ?_
    refine zg_nq (fun r9 er9 => ?_)
    have hw := hw r9 er9
    refine zg_astoreq_n (q := 22) (lv' := [(3, va_rf r9), (0, .ref x0), (1, .int x1), (2, .int x2)]) C0 dX2_deliverInTurn_21 (by decide) rfl rfl ?_
    refine zg_aloadq_n (q := 23) C0 0 dX2_deliverInTurn_22 rfl rfl ?_
    refine zg_ifnull (q := 26) (tgt := 79) C0 dX2_deliverInTurn_23 rfl rfl (fun c29 => ?_) (fun b10 hb11 => ?_)
    · have hw := hw.1 c29
      refine zg_sub [1, 2] rfl ?_
      exact hK  _ hw
    · have hw := hw.2 b10 hb11
      refine zg_lv (lv' := [(3, .ref b10), (0, .ref x0), (1, .int x1), (2, .int x2)]) (by subst hb11; rfl) ?_
      refine zg_aload_n (q := 27) C0 0 dX2_deliverInTurn_26 rfl rfl ?_
      obtain ⟨hz12, hw⟩ := hw
      refine zg_get (q := 30) (T := TX1) (k := 3) C0 dX2_deliverInTurn_27 hz12 (zF_1 cy hz12) rfl (by decide) hX_X2_deliverInTurn_1 (zwm (i := 3) rfl) rfl rfl rfl ?_
      refine zg_if_eq (q := 33) (tgt := 44) C0 dX2_deliverInTurn_30 rfl rfl (fun c28 => ?_) (fun c28 => ?_)
      · have hw := hw.1 c28
        refine zg_sub [1, 2, 3, 0] rfl ?_
        exact aJ_X2_deliverInTurn_44 C0 hK hrec hw
      · have hw := hw.2 c28
        refine zg_iload_n (q := 34) C0 3 dX2_deliverInTurn_33 rfl rfl ?_
        refine zg_aload_n (q := 35) C0 1 dX2_deliverInTurn_34 rfl rfl ?_
        refine zg_get (q := 38) (T := TX2) (k := 12) C0 dX2_deliverInTurn_35 hz4 (zF_2 cy hz4) rfl (by decide) hX_X2_deliverInTurn_2 (zwm (i := 4) rfl) rfl rfl rfl ?_
        refine zg_icmp_le (q := 41) (tgt := 44) C0 dX2_deliverInTurn_38 rfl rfl (fun c27 => ?_) (fun c27 => ?_)
        · have hw := hw.1 c27
          refine zg_sub [1, 2, 3, 0] rfl ?_
          exact aJ_X2_deliverInTurn_44 C0 hK hrec hw
        · have hw := hw.2 c27
          refine zg_goto (tgt := 79) C0 dX2_deliverInTurn_41 rfl ?_
          refine zg_sub [1, 2] rfl ?_
          exact hK  _ hw
theorem aL_X2_deliverInTurn_9 {p : Program} {l : Launch} {e : Env} {s : State} {m : MethodId} {args : Array Value} {below : List Frame} {meth : Method} {c : Code} {D : va_G} {cy : Nat → ClassId} {A : Nat → Prop} {Z : zZ} (C0 : zC p s m args meth c cX2_deliverInTurn 4 wsX2_deliverInTurn RX2 D cy A (some .int)) {x0 : Nat} {x1 : Int32} {Qp : Int32 → zS → Prop} {K : zS → Prop} (hK : ∀  S, K  S → zG p l e rm_X2_deliverInTurn s m args below meth c D cy A 4 0 0 (zQi below D cy A Z Qp args s 0 0) Z S 79 [(0, .ref x0), (1, .int x1)] []) : ∀ x2 S, wL_X2_deliverInTurn_9 Z x0 x1 Qp K x2 S → zG p l e rm_X2_deliverInTurn s m args below meth c D cy A 4 0 0 (zQi below D cy A Z Qp args s 0 0) Z S 9 [(0, .ref x0), (1, .int x1), (2, .int x2)] [] := by
  intro x2 S hw
  obtain ⟨n, hw⟩ := hw
  induction n generalizing x2 S with
  | zero => exact hw.elim
  | succ n ih => exact ab_X2_deliverInTurn_9 C0 hK (fun x2 S hw => ih x2 S hw) hw
def w_X2_deliverInTurn (Z : zZ) (h0 : Nat) (S : zS) (Qp : Int32 → zS → Prop) : Prop :=
  zk Z h0 2 ∧ ∀ y2 : Int32, y2 = zI S h0 11 → ∀ y3 : Int32, y3 = y2 + 1 → wL_X2_deliverInTurn_9 Z h0 y2 Qp (fun  (S31 : zS) => Qp ((zI S31 h0 11) - y2) S31) y3 S
set_option maxHeartbeats 4000000 in
set_option maxRecDepth 100000 in
theorem a_X2_deliverInTurn (l : Launch) (D : va_G) (cy : Nat → ClassId) (Z : zZ) (S : zS) (sz : Nat) (h0 : Nat) (Qp : Int32 → zS → Prop) (hw : w_X2_deliverInTurn Z h0 S Qp) : zMi l yX2_deliverInTurn wsX2_deliverInTurn rm_X2_deliverInTurn D cy Z S sz [.ref h0] Qp := by
  unfold w_X2_deliverInTurn at hw
  refine zMi_of (cc := cX2_deliverInTurn) (maxL := 4) (rt := (some .int)) (by decide +kernel) rfl (Nat.le_of_ble_eq_true rfl) ?_
  intro p e s m args below meth c A C0 _
  refine zg_lv (lv' := [(0, .ref h0)]) rfl ?_
  refine zg_aload_n (q := 1) C0 0 dX2_deliverInTurn_0 rfl rfl ?_
  obtain ⟨hz1, hw⟩ := hw
  refine zg_get (q := 4) (T := TX2) (k := 11) C0 dX2_deliverInTurn_1 hz1 (zF_2 cy hz1) rfl (by decide) hX_X2_deliverInTurn_2 (zwm (i := 1) rfl) rfl rfl rfl ?_
  refine zg_ni (fun y2 ey2 => ?_)
  have hw := hw y2 ey2
  refine zg_istore_n (q := 5) (lv' := [(1, .int y2), (0, .ref h0)]) C0 dX2_deliverInTurn_4 (by decide) rfl rfl ?_
  refine zg_iload_n (q := 6) C0 0 dX2_deliverInTurn_5 rfl rfl ?_
  refine zg_iconst (q := 7) C0 dX2_deliverInTurn_6 zc_iconst_1 rfl ?_
  refine zg_iadd (q := 8) C0 dX2_deliverInTurn_7 rfl ?_
  refine zg_ni (fun y3 ey3 => ?_)
  have hw := hw y3 ey3
  refine zg_istore_n (q := 9) (lv' := [(2, .int y3), (1, .int y2), (0, .ref h0)]) C0 dX2_deliverInTurn_8 (by decide) rfl rfl ?_
  refine zg_sub [2, 1, 0] rfl ?_
  refine aL_X2_deliverInTurn_9 C0 (fun  S31 hw => ?_) _ _ hw
  refine zg_aload_n (q := 80) C0 0 dX2_deliverInTurn_79 rfl rfl ?_
  refine zg_get (q := 83) (T := TX2) (k := 11) C0 dX2_deliverInTurn_80 hz1 (zF_2 cy hz1) rfl (by decide) hX_X2_deliverInTurn_2 (zwm (i := 1) rfl) rfl rfl rfl ?_
  refine zg_iload_n (q := 84) C0 1 dX2_deliverInTurn_83 rfl rfl ?_
  refine zg_isub (q := 85) C0 dX2_deliverInTurn_84 rfl ?_
  exact zg_iret C0 dX2_deliverInTurn_85 rfl rfl (Nat.le_refl 0) (Nat.le_refl 0) hw
-- X2_deliverLeft
abbrev rm_X2_deliverLeft : Room := { frames := 3, cells := 0, slots := 0, locals := 72 }
theorem hX_X2_deliverLeft_1 : ∀ w ∈ u_ws RX1 TX1 4, w ∈ wsX2_deliverLeft := by decide +kernel
theorem hX_X2_deliverLeft_2 : ∀ w ∈ u_ws RX2 TX2 13, w ∈ wsX2_deliverLeft := by decide +kernel
theorem hdV_X2_deliverLeft : yX2_deliverLeft.cls = RX2 ∧ yX2_deliverLeft.cls ≠ "java/lang/invoke/MethodHandle" ∧ yX2_deliverLeft.cls ≠ "java/lang/invoke/VarHandle" ∧ (parseMethodDescriptor yX2_deliverLeft.desc).map (fun d => d.parameters.length) = some 1 := by decide +kernel
def wJ_X2_deliverLeft_49 (Z : zZ) (Qp : zS → Prop) (K : zS → Prop) (rec : Int32 → Int32 → zS → Prop) (x0 : Nat) (x1 : Int32) (x2 : Int32) (x3 : Int32) (x4 : Nat) (S : zS) : Prop :=
  zk Z x0 2 ∧ w_X2_tell Z x0 x3 x4 S (fun (S12 : zS) => ∀ y13 : Int32, y13 = x3 + 1 → rec x2 y13 S12)
set_option maxHeartbeats 4000000 in
set_option maxRecDepth 100000 in
theorem aJ_X2_deliverLeft_49 {p : Program} {l : Launch} {e : Env} {s : State} {m : MethodId} {args : Array Value} {below : List Frame} {meth : Method} {c : Code} {D : va_G} {cy : Nat → ClassId} {A : Nat → Prop} {Q : State → Prop} {Z : zZ} (C0 : zC p s m args meth c cX2_deliverLeft 5 wsX2_deliverLeft RX2 D cy A none) {Qp : zS → Prop} {x0 : Nat} {x1 : Int32} {x2 : Int32} {x3 : Int32} {x4 : Nat}  {K : zS → Prop} {rec : Int32 → Int32 → zS → Prop} (hK : ∀  S, K  S → zG p l e rm_X2_deliverLeft s m args below meth c D cy A 5 0 0 Q Z S 62 [] []) (hrec : ∀ x2 x3 S, rec x2 x3 S → zG p l e rm_X2_deliverLeft s m args below meth c D cy A 5 0 0 Q Z S 9 [(0, .ref x0), (1, .int x1), (2, .int x2), (3, .int x3)] []) {S : zS} (hw : wJ_X2_deliverLeft_49 Z Qp K rec x0 x1 x2 x3 x4 S) : zG p l e rm_X2_deliverLeft s m args below meth c D cy A 5 0 0 Q Z S 49 [(0, .ref x0), (1, .int x1), (2, .int x2), (3, .int x3), (4, .ref x4)] [] := by
  unfold wJ_X2_deliverLeft_49 at hw
  refine zg_aload_n (q := 50) C0 0 dX2_deliverLeft_49 rfl rfl ?_
  refine zg_iload_n (q := 51) C0 3 dX2_deliverLeft_50 rfl rfl ?_
  refine zg_aload (q := 53) C0 4 dX2_deliverLeft_51 rfl rfl ?_
  obtain ⟨hz11, hw⟩ := hw
  refine zg_callVv (q := 56) C0 [.int x3, .ref x4] [] dX2_deliverLeft_53 (fun sz => a_X2_tell l D cy Z S sz x0 x3 x4 _ hw) rfl gX2_deliverLeft_X2_tell hdV_X2_tell hz11 (zF_2 cy hz11) rfl rfl ⟨Nat.le_of_ble_eq_true rfl, Nat.le_of_ble_eq_true rfl⟩ (Nat.le_of_ble_eq_true rfl) ⟨Nat.zero_le _, Nat.zero_le _⟩ ⟨rfl, rfl⟩ rfl (fun S12 hw => ?_)
  refine zg_iinc (q := 59) C0 3 dX2_deliverLeft_56 rfl (by decide) zc_iconst_1 rfl (fun y13 ey13 => ?_)
  have hw := hw y13 ey13
  refine zg_lv (lv' := [(3, .int y13), (0, .ref x0), (1, .int x1), (2, .int x2), (4, .ref x4)]) rfl ?_
  refine zg_goto (tgt := 9) C0 dX2_deliverLeft_59 rfl ?_
  refine zg_sub [1, 2, 3, 0] rfl ?_
  exact hrec _ _ _ hw
def wb_X2_deliverLeft_9 (Z : zZ) (x0 : Nat) (x1 : Int32) (Qp : zS → Prop) (K : zS → Prop) (rec : Int32 → Int32 → zS → Prop) (x2 : Int32) (x3 : Int32) (S : zS) : Prop :=
  ((100 < x3 → K S) ∧ (¬ 100 < x3 → zk Z x0 2 ∧ ∃ b4, zQ Z x0 4 = some b4 ∧ zk Z b4 11 ∧ vp_in x3 (zN Z b4) ∧ ∀ r8 : Option Nat, r8 = zR S b4 x3.toNatClampNeg → ((∀ b9, r8 = some b9 → ((x2 = 0 → wJ_X2_deliverLeft_49 Z Qp K rec x0 x1 x2 x3 b9 S) ∧ (¬ x2 = 0 → zk Z b9 1 ∧ w_X6_isIn Z (zI S b9 0) x1 S (fun (v16 : Int32) (S15 : zS) => ((v16 = 0 → ∀ y17 : Int32, y17 = x3 + 1 → rec x2 y17 S15) ∧ (¬ v16 = 0 → wJ_X2_deliverLeft_49 Z Qp K rec x0 x1 x2 x3 b9 S15)))))) ∧ (r8 = none → ∀ y20 : Int32, y20 = x3 + 1 → rec 1 y20 S))))
def wL_X2_deliverLeft_9 (Z : zZ) (x0 : Nat) (x1 : Int32) (Qp : zS → Prop) (K : zS → Prop) (x2 : Int32) (x3 : Int32) (S : zS) : Prop := ∃ n, zit3 (wb_X2_deliverLeft_9 Z x0 x1 Qp K) n x2 x3 S
set_option maxHeartbeats 4000000 in
set_option maxRecDepth 100000 in
theorem ab_X2_deliverLeft_9 {p : Program} {l : Launch} {e : Env} {s : State} {m : MethodId} {args : Array Value} {below : List Frame} {meth : Method} {c : Code} {D : va_G} {cy : Nat → ClassId} {A : Nat → Prop} {Q : State → Prop} {Z : zZ} (C0 : zC p s m args meth c cX2_deliverLeft 5 wsX2_deliverLeft RX2 D cy A none) {x0 : Nat} {x1 : Int32} {Qp : zS → Prop} {K : zS → Prop} (hK : ∀  S, K  S → zG p l e rm_X2_deliverLeft s m args below meth c D cy A 5 0 0 Q Z S 62 [] []) {rec : Int32 → Int32 → zS → Prop} (hrec : ∀ x2 x3 S, rec x2 x3 S → zG p l e rm_X2_deliverLeft s m args below meth c D cy A 5 0 0 Q Z S 9 [(0, .ref x0), (1, .int x1), (2, .int x2), (3, .int x3)] []) {x2 : Int32} {x3 : Int32} {S : zS} (hw : wb_X2_deliverLeft_9 Z x0 x1 Qp K rec x2 x3 S) : zG p l e rm_X2_deliverLeft s m args below meth c D cy A 5 0 0 Q Z S 9 [(0, .ref x0), (1, .int x1), (2, .int x2), (3, .int x3)] [] := by
  unfold wb_X2_deliverLeft_9 at hw
  refine zg_iload_n (q := 10) C0 3 dX2_deliverLeft_9 rfl rfl ?_
  refine zg_bipush (q := 12) C0 dX2_deliverLeft_10 zc_bipush_100 rfl ?_
  refine zg_icmp_gt (q := 15) (tgt := 62) C0 dX2_deliverLeft_12 rfl rfl (fun c22 => ?_) (fun c22 => ?_)
  · have hw := hw.1 c22
    refine zg_sub [] rfl ?_
    exact hK  _ hw
  · have hw := hw.2 c22
    refine zg_aload_n (q := 16) C0 0 dX2_deliverLeft_15 rfl rfl ?_
    obtain ⟨hz3, hw⟩ := hw
    refine zg_get (q := 19) (T := TX2) (k := 4) C0 dX2_deliverLeft_16 hz3 (zF_2 cy hz3) rfl (by decide) hX_X2_deliverLeft_2 (zwm (i := 2) rfl) rfl rfl rfl ?_
    obtain ⟨b4, hb5, hw⟩ := hw
    refine zg_nn hb5 ?_
    refine zg_iload_n (q := 20) C0 3 dX2_deliverLeft_19 rfl rfl ?_
    obtain ⟨hz6, hw⟩ := hw
    obtain ⟨hi7, hw⟩ := hw
    refine zg_aald_11 (q := 21) C0 dX2_deliverLeft_20 hz6 hi7 rfl ?_
    refine zg_nq (fun r8 er8 => ?_)
    have hw := hw r8 er8
    refine zg_astoreq (q := 23) (lv' := [(4, va_rf r8), (0, .ref x0), (1, .int x1), (2, .int x2), (3, .int x3)]) C0 dX2_deliverLeft_21 (by decide) rfl rfl ?_
    refine zg_aloadq (q := 25) C0 0 dX2_deliverLeft_23 rfl rfl ?_
    refine zg_ifnonnull (q := 28) (tgt := 33) C0 dX2_deliverLeft_25 rfl rfl (fun b9 hb10 => ?_) (fun c21 => ?_)
    · have hw := hw.1 b9 hb10
      refine zg_lv (lv' := [(4, .ref b9), (0, .ref x0), (1, .int x1), (2, .int x2), (3, .int x3)]) (by subst hb10; rfl) ?_
      refine zg_iload_n (q := 34) C0 3 dX2_deliverLeft_33 rfl rfl ?_
      refine zg_if_eq (q := 37) (tgt := 49) C0 dX2_deliverLeft_34 rfl rfl (fun c19 => ?_) (fun c19 => ?_)
      · have hw := hw.1 c19
        refine zg_sub [1, 2, 3, 4, 0] rfl ?_
        exact aJ_X2_deliverLeft_49 C0 hK hrec hw
      · have hw := hw.2 c19
        refine zg_aload (q := 39) C0 0 dX2_deliverLeft_37 rfl rfl ?_
        obtain ⟨hz14, hw⟩ := hw
        refine zg_get (q := 42) (T := TX1) (k := 0) C0 dX2_deliverLeft_39 hz14 (zF_1 cy hz14) rfl (by decide) hX_X2_deliverLeft_1 (zwm (i := 3) rfl) rfl rfl rfl ?_
        refine zg_iload_n (q := 43) C0 2 dX2_deliverLeft_42 rfl rfl ?_
        refine zg_callSNi (q := 46) C0 [.int (zI S b9 0), .int x1] [] dX2_deliverLeft_43 (fun sz => a_X6_isIn l D cy Z S sz (zI S b9 0) x1 _ hw) rfl gX2_deliverLeft_X6_isIn_n88 hdS_X6_isIn (zwm (i := 4) rfl) (zwm (i := 5) rfl) (zwm (i := 4) rfl) rfl ⟨Nat.le_of_ble_eq_true rfl, Nat.le_of_ble_eq_true rfl⟩ (Nat.le_of_ble_eq_true rfl) ⟨Nat.zero_le _, Nat.zero_le _⟩ ⟨rfl, rfl⟩ rfl (fun v16 S15 hw => ?_)
        refine zg_if_eq (q := 49) (tgt := 56) C0 dX2_deliverLeft_46 rfl rfl (fun c18 => ?_) (fun c18 => ?_)
        · have hw := hw.1 c18
          refine zg_iinc (q := 59) C0 4 dX2_deliverLeft_56 rfl (by decide) zc_iconst_1 rfl (fun y17 ey17 => ?_)
          have hw := hw y17 ey17
          refine zg_lv (lv' := [(3, .int y17), (4, .ref b9), (0, .ref x0), (1, .int x1), (2, .int x2)]) rfl ?_
          refine zg_goto (tgt := 9) C0 dX2_deliverLeft_59 rfl ?_
          refine zg_sub [2, 3, 4, 0] rfl ?_
          exact hrec _ _ _ hw
        · have hw := hw.2 c18
          refine zg_sub [1, 2, 3, 4, 0] rfl ?_
          exact aJ_X2_deliverLeft_49 C0 hK hrec hw
    · have hw := hw.2 c21
      refine zg_iconst (q := 29) C0 dX2_deliverLeft_28 zc_iconst_1 rfl ?_
      refine zg_istore_n (q := 30) (lv' := [(2, .int 1), (4, va_rf r8), (0, .ref x0), (1, .int x1), (3, .int x3)]) C0 dX2_deliverLeft_29 (by decide) rfl rfl ?_
      refine zg_goto (tgt := 56) C0 dX2_deliverLeft_30 rfl ?_
      refine zg_iinc (q := 59) C0 4 dX2_deliverLeft_56 rfl (by decide) zc_iconst_1 rfl (fun y20 ey20 => ?_)
      have hw := hw y20 ey20
      refine zg_lv (lv' := [(3, .int y20), (2, .int 1), (4, va_rf r8), (0, .ref x0), (1, .int x1)]) rfl ?_
      refine zg_goto (tgt := 9) C0 dX2_deliverLeft_59 rfl ?_
      refine zg_sub [3, 4, 1, 0] rfl ?_
      exact hrec _ _ _ hw
theorem aL_X2_deliverLeft_9 {p : Program} {l : Launch} {e : Env} {s : State} {m : MethodId} {args : Array Value} {below : List Frame} {meth : Method} {c : Code} {D : va_G} {cy : Nat → ClassId} {A : Nat → Prop} {Q : State → Prop} {Z : zZ} (C0 : zC p s m args meth c cX2_deliverLeft 5 wsX2_deliverLeft RX2 D cy A none) {x0 : Nat} {x1 : Int32} {Qp : zS → Prop} {K : zS → Prop} (hK : ∀  S, K  S → zG p l e rm_X2_deliverLeft s m args below meth c D cy A 5 0 0 Q Z S 62 [] []) : ∀ x2 x3 S, wL_X2_deliverLeft_9 Z x0 x1 Qp K x2 x3 S → zG p l e rm_X2_deliverLeft s m args below meth c D cy A 5 0 0 Q Z S 9 [(0, .ref x0), (1, .int x1), (2, .int x2), (3, .int x3)] [] := by
  intro x2 x3 S hw
  obtain ⟨n, hw⟩ := hw
  induction n generalizing x2 x3 S with
  | zero => exact hw.elim
  | succ n ih => exact ab_X2_deliverLeft_9 C0 hK (fun x2 x3 S hw => ih x2 x3 S hw) hw
def w_X2_deliverLeft (Z : zZ) (h0 : Nat) (p0 : Int32) (S : zS) (Qp : zS → Prop) : Prop :=
  zk Z h0 2 ∧ ∀ y2 : Int32, y2 = (zI S h0 11) + 1 → wL_X2_deliverLeft_9 Z h0 p0 Qp (fun  (S23 : zS) => Qp S23) 0 y2 S
set_option maxHeartbeats 4000000 in
set_option maxRecDepth 100000 in
theorem a_X2_deliverLeft (l : Launch) (D : va_G) (cy : Nat → ClassId) (Z : zZ) (S : zS) (sz : Nat) (h0 : Nat) (p0 : Int32) (Qp : zS → Prop) (hw : w_X2_deliverLeft Z h0 p0 S Qp) : zMv l yX2_deliverLeft wsX2_deliverLeft rm_X2_deliverLeft D cy Z S sz [.ref h0, .int p0] Qp := by
  unfold w_X2_deliverLeft at hw
  refine zMv_of (cc := cX2_deliverLeft) (maxL := 5) (rt := none) (by decide +kernel) rfl (Nat.le_of_ble_eq_true rfl) ?_
  intro p e s m args below meth c A C0 _
  refine zg_lv (lv' := [(0, .ref h0), (1, .int p0)]) rfl ?_
  refine zg_iconst (q := 1) C0 dX2_deliverLeft_0 zc_iconst_0 rfl ?_
  refine zg_istore_n (q := 2) (lv' := [(2, .int 0), (0, .ref h0), (1, .int p0)]) C0 dX2_deliverLeft_1 (by decide) rfl rfl ?_
  refine zg_aload_n (q := 3) C0 1 dX2_deliverLeft_2 rfl rfl ?_
  obtain ⟨hz1, hw⟩ := hw
  refine zg_get (q := 6) (T := TX2) (k := 11) C0 dX2_deliverLeft_3 hz1 (zF_2 cy hz1) rfl (by decide) hX_X2_deliverLeft_2 (zwm (i := 1) rfl) rfl rfl rfl ?_
  refine zg_iconst (q := 7) C0 dX2_deliverLeft_6 zc_iconst_1 rfl ?_
  refine zg_iadd (q := 8) C0 dX2_deliverLeft_7 rfl ?_
  refine zg_ni (fun y2 ey2 => ?_)
  have hw := hw y2 ey2
  refine zg_istore_n (q := 9) (lv' := [(3, .int y2), (2, .int 0), (0, .ref h0), (1, .int p0)]) C0 dX2_deliverLeft_8 (by decide) rfl rfl ?_
  refine zg_sub [2, 3, 1, 0] rfl ?_
  refine aL_X2_deliverLeft_9 C0 (fun  S23 hw => ?_) _ _ _ hw
  exact zg_vret C0 dX2_deliverLeft_62 rfl (Nat.le_refl 0) (Nat.le_refl 0) hw
-- X2_leaveRing
abbrev rm_X2_leaveRing : Room := { frames := 0, cells := 0, slots := 0, locals := 0 }
theorem hX_X2_leaveRing_2 : ∀ w ∈ u_ws RX2 TX2 13, w ∈ wsX2_leaveRing := by decide +kernel
theorem hX_X2_leaveRing_5 : ∀ w ∈ u_ws RX5 TX5 6, w ∈ wsX2_leaveRing := by decide +kernel
theorem hdV_X2_leaveRing : yX2_leaveRing.cls = RX2 ∧ yX2_leaveRing.cls ≠ "java/lang/invoke/MethodHandle" ∧ yX2_leaveRing.cls ≠ "java/lang/invoke/VarHandle" ∧ (parseMethodDescriptor yX2_leaveRing.desc).map (fun d => d.parameters.length) = some 1 := by decide +kernel
def wb_X2_leaveRing_39 (Z : zZ) (x0 : Nat) (Qp : zS → Prop) (K : zS → Prop) (rec : Int32 → zS → Prop) (x2 : Int32) (S : zS) : Prop :=
  ((100 < x2 → K S) ∧ (¬ 100 < x2 → zk Z x0 2 ∧ ∃ b9, zQ Z x0 4 = some b9 ∧ zk Z b9 11 ∧ vp_in x2 (zN Z b9) ∧ ∀ S13 : zS, S13 = zsR S b9 x2.toNatClampNeg (none) → ∀ y14 : Int32, y14 = x2 + 1 → rec y14 S13))
def wL_X2_leaveRing_39 (Z : zZ) (x0 : Nat) (Qp : zS → Prop) (K : zS → Prop) (x2 : Int32) (S : zS) : Prop := ∃ n, zit2 (wb_X2_leaveRing_39 Z x0 Qp K) n x2 S
set_option maxHeartbeats 4000000 in
set_option maxRecDepth 100000 in
theorem ab_X2_leaveRing_39 {p : Program} {l : Launch} {e : Env} {s : State} {m : MethodId} {args : Array Value} {below : List Frame} {meth : Method} {c : Code} {D : va_G} {cy : Nat → ClassId} {A : Nat → Prop} {Q : State → Prop} {Z : zZ} (C0 : zC p s m args meth c cX2_leaveRing 3 wsX2_leaveRing RX2 D cy A none) {x0 : Nat} {Qp : zS → Prop} {K : zS → Prop} (hK : ∀  S, K  S → zG p l e rm_X2_leaveRing s m args below meth c D cy A 3 0 0 Q Z S 58 [] []) {rec : Int32 → zS → Prop} (hrec : ∀ x2 S, rec x2 S → zG p l e rm_X2_leaveRing s m args below meth c D cy A 3 0 0 Q Z S 39 [(0, .ref x0), (2, .int x2)] []) {x2 : Int32} {S : zS} (hw : wb_X2_leaveRing_39 Z x0 Qp K rec x2 S) : zG p l e rm_X2_leaveRing s m args below meth c D cy A 3 0 0 Q Z S 39 [(0, .ref x0), (2, .int x2)] [] := by
  unfold wb_X2_leaveRing_39 at hw
  refine zg_iload_n (q := 40) C0 1 dX2_leaveRing_39 rfl rfl ?_
  refine zg_bipush (q := 42) C0 dX2_leaveRing_40 zc_bipush_100 rfl ?_
  refine zg_icmp_gt (q := 45) (tgt := 58) C0 dX2_leaveRing_42 rfl rfl (fun c15 => ?_) (fun c15 => ?_)
  · have hw := hw.1 c15
    refine zg_sub [] rfl ?_
    exact hK  _ hw
  · have hw := hw.2 c15
    refine zg_aload_n (q := 46) C0 0 dX2_leaveRing_45 rfl rfl ?_
    obtain ⟨hz8, hw⟩ := hw
    refine zg_get (q := 49) (T := TX2) (k := 4) C0 dX2_leaveRing_46 hz8 (zF_2 cy hz8) rfl (by decide) hX_X2_leaveRing_2 (zwm (i := 6) rfl) rfl rfl rfl ?_
    obtain ⟨b9, hb10, hw⟩ := hw
    refine zg_nn hb10 ?_
    refine zg_iload_n (q := 50) C0 1 dX2_leaveRing_49 rfl rfl ?_
    refine zg_null (q := 51) C0 dX2_leaveRing_50 rfl ?_
    obtain ⟨hz11, hw⟩ := hw
    obtain ⟨hi12, hw⟩ := hw
    refine zg_aastN_11 (q := 52) C0 dX2_leaveRing_51 hz11 hi12 rfl (fun S13 eS13 => ?_)
    have hw := hw S13 eS13
    refine zg_iinc (q := 55) C0 1 dX2_leaveRing_52 rfl (by decide) zc_iconst_1 rfl (fun y14 ey14 => ?_)
    have hw := hw y14 ey14
    refine zg_lv (lv' := [(2, .int y14), (0, .ref x0)]) rfl ?_
    refine zg_goto (tgt := 39) C0 dX2_leaveRing_55 rfl ?_
    refine zg_sub [1, 0] rfl ?_
    exact hrec _ _ hw
theorem aL_X2_leaveRing_39 {p : Program} {l : Launch} {e : Env} {s : State} {m : MethodId} {args : Array Value} {below : List Frame} {meth : Method} {c : Code} {D : va_G} {cy : Nat → ClassId} {A : Nat → Prop} {Q : State → Prop} {Z : zZ} (C0 : zC p s m args meth c cX2_leaveRing 3 wsX2_leaveRing RX2 D cy A none) {x0 : Nat} {Qp : zS → Prop} {K : zS → Prop} (hK : ∀  S, K  S → zG p l e rm_X2_leaveRing s m args below meth c D cy A 3 0 0 Q Z S 58 [] []) : ∀ x2 S, wL_X2_leaveRing_39 Z x0 Qp K x2 S → zG p l e rm_X2_leaveRing s m args below meth c D cy A 3 0 0 Q Z S 39 [(0, .ref x0), (2, .int x2)] [] := by
  intro x2 S hw
  obtain ⟨n, hw⟩ := hw
  induction n generalizing x2 S with
  | zero => exact hw.elim
  | succ n ih => exact ab_X2_leaveRing_39 C0 hK (fun x2 S hw => ih x2 S hw) hw
def w_X2_leaveRing (Z : zZ) (h0 : Nat) (p0 : Nat) (S : zS) (Qp : zS → Prop) : Prop :=
  zk Z h0 2 ∧ ∃ b2, zR S h0 7 = some b2 ∧ zk Z b2 5 ∧ ((¬ (zI S b2 4) = (zI S h0 0) → ∀ S5 : zS, S5 = zsR S h0 7 (some p0) → ∀ S6 : zS, S6 = zsI S5 h0 11 0 → ∀ S7 : zS, S7 = zsI S6 h0 12 0 → wL_X2_leaveRing_39 Z h0 Qp (fun  (S16 : zS) => Qp S16) 0 S7) ∧ ((zI S b2 4) = (zI S h0 0) → ∀ S17 : zS, S17 = zsI S b2 4 (-1) → ∀ S18 : zS, S18 = zsR S17 h0 7 (some p0) → ∀ S19 : zS, S19 = zsI S18 h0 11 0 → ∀ S20 : zS, S20 = zsI S19 h0 12 0 → wL_X2_leaveRing_39 Z h0 Qp (fun  (S21 : zS) => Qp S21) 0 S20))
set_option maxHeartbeats 4000000 in
set_option maxRecDepth 100000 in
theorem a_X2_leaveRing (l : Launch) (D : va_G) (cy : Nat → ClassId) (Z : zZ) (S : zS) (sz : Nat) (h0 : Nat) (p0 : Nat) (Qp : zS → Prop) (hw : w_X2_leaveRing Z h0 p0 S Qp) : zMv l yX2_leaveRing wsX2_leaveRing rm_X2_leaveRing D cy Z S sz [.ref h0, .ref p0] Qp := by
  unfold w_X2_leaveRing at hw
  refine zMv_of (cc := cX2_leaveRing) (maxL := 3) (rt := none) (by decide +kernel) rfl (Nat.le_of_ble_eq_true rfl) ?_
  intro p e s m args below meth c A C0 _
  refine zg_lv (lv' := [(0, .ref h0), (1, .ref p0)]) rfl ?_
  refine zg_aload_n (q := 1) C0 0 dX2_leaveRing_0 rfl rfl ?_
  obtain ⟨hz1, hw⟩ := hw
  refine zg_get (q := 4) (T := TX2) (k := 7) C0 dX2_leaveRing_1 hz1 (zF_2 cy hz1) rfl (by decide) hX_X2_leaveRing_2 (zwm (i := 1) rfl) rfl rfl rfl ?_
  obtain ⟨b2, hb3, hw⟩ := hw
  refine zg_nn hb3 ?_
  obtain ⟨hz4, hw⟩ := hw
  refine zg_get (q := 7) (T := TX5) (k := 4) C0 dX2_leaveRing_4 hz4 (zF_5 cy hz4) rfl (by decide) hX_X2_leaveRing_5 (zwm (i := 2) rfl) rfl rfl rfl ?_
  refine zg_aload_n (q := 8) C0 0 dX2_leaveRing_7 rfl rfl ?_
  refine zg_get (q := 11) (T := TX2) (k := 0) C0 dX2_leaveRing_8 hz1 (zF_2 cy hz1) rfl (by decide) hX_X2_leaveRing_2 (zwm (i := 3) rfl) rfl rfl rfl ?_
  refine zg_icmp_ne (q := 14) (tgt := 22) C0 dX2_leaveRing_11 rfl rfl (fun c22 => ?_) (fun c22 => ?_)
  · have hw := hw.1 c22
    refine zg_aload_n (q := 23) C0 0 dX2_leaveRing_22 rfl rfl ?_
    refine zg_aload_n (q := 24) C0 1 dX2_leaveRing_23 rfl rfl ?_
    refine zg_putR (q := 27) (v := some p0) (T := TX2) (k := 7) (ty0 := tyX2) C0 dX2_leaveRing_24 hz1 (zF_2 cy hz1) rfl (by decide) hX_X2_leaveRing_2 tyX2_ok nmX2 (zwm (i := 1) rfl) rfl rfl rfl rfl (Nat.le_of_ble_eq_true rfl) (zF_2 cy hz1) (zP_2_7 Z S _ _) rfl (fun S5 eS5 => ?_)
    have hw := hw S5 eS5
    refine zg_aload_n (q := 28) C0 0 dX2_leaveRing_27 rfl rfl ?_
    refine zg_iconst (q := 29) C0 dX2_leaveRing_28 zc_iconst_0 rfl ?_
    refine zg_putI (q := 32) (T := TX2) (k := 11) (ty0 := tyX2) C0 dX2_leaveRing_29 hz1 (zF_2 cy hz1) rfl (by decide) hX_X2_leaveRing_2 tyX2_ok nmX2 (zwm (i := 4) rfl) rfl rfl rfl rfl (Nat.le_of_ble_eq_true rfl) (zF_2 cy hz1) (zP_2_11 Z S5 _ _) rfl (fun S6 eS6 => ?_)
    have hw := hw S6 eS6
    refine zg_aload_n (q := 33) C0 0 dX2_leaveRing_32 rfl rfl ?_
    refine zg_iconst (q := 34) C0 dX2_leaveRing_33 zc_iconst_0 rfl ?_
    refine zg_putI (q := 37) (T := TX2) (k := 12) (ty0 := tyX2) C0 dX2_leaveRing_34 hz1 (zF_2 cy hz1) rfl (by decide) hX_X2_leaveRing_2 tyX2_ok nmX2 (zwm (i := 5) rfl) rfl rfl rfl rfl (Nat.le_of_ble_eq_true rfl) (zF_2 cy hz1) (zP_2_12 Z S6 _ _) rfl (fun S7 eS7 => ?_)
    have hw := hw S7 eS7
    refine zg_iconst (q := 38) C0 dX2_leaveRing_37 zc_iconst_0 rfl ?_
    refine zg_istore_n (q := 39) (lv' := [(2, .int 0), (0, .ref h0), (1, .ref p0)]) C0 dX2_leaveRing_38 (by decide) rfl rfl ?_
    refine zg_sub [1, 0] rfl ?_
    refine aL_X2_leaveRing_39 C0 (fun  S16 hw => ?_) _ _ hw
    exact zg_vret C0 dX2_leaveRing_58 rfl (Nat.le_refl 0) (Nat.le_refl 0) hw
  · have hw := hw.2 c22
    refine zg_aload_n (q := 15) C0 0 dX2_leaveRing_14 rfl rfl ?_
    refine zg_get (q := 18) (T := TX2) (k := 7) C0 dX2_leaveRing_15 hz1 (zF_2 cy hz1) rfl (by decide) hX_X2_leaveRing_2 (zwm (i := 1) rfl) rfl rfl rfl ?_
    refine zg_nn hb3 ?_
    refine zg_iconst (q := 19) C0 dX2_leaveRing_18 zc_iconst_m1 rfl ?_
    refine zg_putI (q := 22) (T := TX5) (k := 4) (ty0 := tyX5) C0 dX2_leaveRing_19 hz4 (zF_5 cy hz4) rfl (by decide) hX_X2_leaveRing_5 tyX5_ok nmX5 (zwm (i := 2) rfl) rfl rfl rfl rfl (Nat.le_of_ble_eq_true rfl) (zF_5 cy hz4) (zP_5_4 Z S _ _) rfl (fun S17 eS17 => ?_)
    have hw := hw S17 eS17
    refine zg_aload_n (q := 23) C0 0 dX2_leaveRing_22 rfl rfl ?_
    refine zg_aload_n (q := 24) C0 1 dX2_leaveRing_23 rfl rfl ?_
    refine zg_putR (q := 27) (v := some p0) (T := TX2) (k := 7) (ty0 := tyX2) C0 dX2_leaveRing_24 hz1 (zF_2 cy hz1) rfl (by decide) hX_X2_leaveRing_2 tyX2_ok nmX2 (zwm (i := 1) rfl) rfl rfl rfl rfl (Nat.le_of_ble_eq_true rfl) (zF_2 cy hz1) (zP_2_7 Z S17 _ _) rfl (fun S18 eS18 => ?_)
    have hw := hw S18 eS18
    refine zg_aload_n (q := 28) C0 0 dX2_leaveRing_27 rfl rfl ?_
    refine zg_iconst (q := 29) C0 dX2_leaveRing_28 zc_iconst_0 rfl ?_
    refine zg_putI (q := 32) (T := TX2) (k := 11) (ty0 := tyX2) C0 dX2_leaveRing_29 hz1 (zF_2 cy hz1) rfl (by decide) hX_X2_leaveRing_2 tyX2_ok nmX2 (zwm (i := 4) rfl) rfl rfl rfl rfl (Nat.le_of_ble_eq_true rfl) (zF_2 cy hz1) (zP_2_11 Z S18 _ _) rfl (fun S19 eS19 => ?_)
    have hw := hw S19 eS19
    refine zg_aload_n (q := 33) C0 0 dX2_leaveRing_32 rfl rfl ?_
    refine zg_iconst (q := 34) C0 dX2_leaveRing_33 zc_iconst_0 rfl ?_
    refine zg_putI (q := 37) (T := TX2) (k := 12) (ty0 := tyX2) C0 dX2_leaveRing_34 hz1 (zF_2 cy hz1) rfl (by decide) hX_X2_leaveRing_2 tyX2_ok nmX2 (zwm (i := 5) rfl) rfl rfl rfl rfl (Nat.le_of_ble_eq_true rfl) (zF_2 cy hz1) (zP_2_12 Z S19 _ _) rfl (fun S20 eS20 => ?_)
    have hw := hw S20 eS20
    refine zg_iconst (q := 38) C0 dX2_leaveRing_37 zc_iconst_0 rfl ?_
    refine zg_istore_n (q := 39) (lv' := [(2, .int 0), (0, .ref h0), (1, .ref p0)]) C0 dX2_leaveRing_38 (by decide) rfl rfl ?_
    refine zg_sub [1, 0] rfl ?_
    refine aL_X2_leaveRing_39 C0 (fun  S21 hw => ?_) _ _ hw
    exact zg_vret C0 dX2_leaveRing_58 rfl (Nat.le_refl 0) (Nat.le_refl 0) hw
-- X2_joinRing
abbrev rm_X2_joinRing : Room := { frames := 2, cells := 0, slots := 0, locals := 50 }
theorem hX_X2_joinRing_2 : ∀ w ∈ u_ws RX2 TX2 13, w ∈ wsX2_joinRing := by decide +kernel
theorem hX_X2_joinRing_5 : ∀ w ∈ u_ws RX5 TX5 6, w ∈ wsX2_joinRing := by decide +kernel
theorem hdV_X2_joinRing : yX2_joinRing.cls = RX2 ∧ yX2_joinRing.cls ≠ "java/lang/invoke/MethodHandle" ∧ yX2_joinRing.cls ≠ "java/lang/invoke/VarHandle" ∧ (parseMethodDescriptor yX2_joinRing.desc).map (fun d => d.parameters.length) = some 2 := by decide +kernel
def wJ_X2_joinRing_40 (Z : zZ) (Qp : zS → Prop)  (x0 : Nat) (x1 : Nat) (S : zS) : Prop :=
  zk Z x0 2 ∧ ∃ b6, zQ Z x0 3 = some b6 ∧ zk Z x1 5 ∧ zk Z b6 0 ∧ w_X0_add Z b6 3 (zI S x1 3) 0 0 0 (zI S x1 2) S (fun (S10 : zS) => Qp S10)
set_option maxHeartbeats 4000000 in
set_option maxRecDepth 100000 in
theorem aJ_X2_joinRing_40 {p : Program} {l : Launch} {e : Env} {s : State} {m : MethodId} {args : Array Value} {below : List Frame} {meth : Method} {c : Code} {D : va_G} {cy : Nat → ClassId} {A : Nat → Prop} {Z : zZ} (C0 : zC p s m args meth c cX2_joinRing 3 wsX2_joinRing RX2 D cy A none) {Qp : zS → Prop} {x0 : Nat} {x1 : Nat}    {S : zS} (hw : wJ_X2_joinRing_40 Z Qp  x0 x1 S) : zG p l e rm_X2_joinRing s m args below meth c D cy A 3 0 0 (zQv below D cy A Z Qp args s 0 0) Z S 40 [(0, .ref x0), (1, .ref x1)] [] := by
  unfold wJ_X2_joinRing_40 at hw
  refine zg_aload_n (q := 41) C0 0 dX2_joinRing_40 rfl rfl ?_
  obtain ⟨hz5, hw⟩ := hw
  refine zg_get (q := 44) (T := TX2) (k := 3) C0 dX2_joinRing_41 hz5 (zF_2 cy hz5) rfl (by decide) hX_X2_joinRing_2 (zwm (i := 8) rfl) rfl rfl rfl ?_
  obtain ⟨b6, hb7, hw⟩ := hw
  refine zg_nn hb7 ?_
  refine zg_iconst (q := 45) C0 dX2_joinRing_44 zc_iconst_3 rfl ?_
  refine zg_aload_n (q := 46) C0 1 dX2_joinRing_45 rfl rfl ?_
  obtain ⟨hz8, hw⟩ := hw
  refine zg_get (q := 49) (T := TX5) (k := 3) C0 dX2_joinRing_46 hz8 (zF_5 cy hz8) rfl (by decide) hX_X2_joinRing_5 (zwm (i := 5) rfl) rfl rfl rfl ?_
  refine zg_iconst (q := 50) C0 dX2_joinRing_49 zc_iconst_0 rfl ?_
  refine zg_iconst (q := 51) C0 dX2_joinRing_50 zc_iconst_0 rfl ?_
  refine zg_lconst (q := 52) (v := 0) C0 dX2_joinRing_51 (by decide) rfl ?_
  refine zg_aload_n (q := 53) C0 1 dX2_joinRing_52 rfl rfl ?_
  refine zg_get (q := 56) (T := TX5) (k := 2) C0 dX2_joinRing_53 hz8 (zF_5 cy hz8) rfl (by decide) hX_X2_joinRing_5 (zwm (i := 2) rfl) rfl rfl rfl ?_
  obtain ⟨hz9, hw⟩ := hw
  refine zg_callVv (q := 59) C0 [.int 3, .int (zI S x1 3), .int 0, .int 0, .long 0, .int (zI S x1 2)] [] dX2_joinRing_56 (fun sz => a_X0_add l D cy Z S sz b6 3 (zI S x1 3) 0 0 0 (zI S x1 2) _ hw) rfl gX2_joinRing_X0_add hdV_X0_add hz9 (zF_0 cy hz9) rfl rfl ⟨Nat.le_of_ble_eq_true rfl, Nat.le_of_ble_eq_true rfl⟩ (Nat.le_of_ble_eq_true rfl) ⟨Nat.zero_le _, Nat.zero_le _⟩ ⟨rfl, rfl⟩ rfl (fun S10 hw => ?_)
  exact zg_vret C0 dX2_joinRing_59 rfl (Nat.le_refl 0) (Nat.le_refl 0) hw
def w_X2_joinRing (Z : zZ) (h0 : Nat) (p0 : Nat) (p1 : Int32) (S : zS) (Qp : zS → Prop) : Prop :=
  zk Z h0 2 ∧ ∀ S2 : zS, S2 = zsR S h0 7 (some p0) → zk Z p0 5 ∧ ∀ S4 : zS, S4 = zsI S2 h0 8 (zI S2 p0 2) → ((p1 = 0 → wJ_X2_joinRing_40 Z Qp  h0 p0 S4) ∧ (¬ p1 = 0 → ∀ S11 : zS, S11 = zsI S4 h0 9 (zI S4 p0 2) → ∀ S12 : zS, S12 = zsI S11 h0 10 (zI S11 p0 3) → ∃ b13, zQ Z h0 2 = some b13 ∧ zk Z b13 4 ∧ w_X4_forgetKept Z b13 S12 (fun (S16 : zS) => wJ_X2_joinRing_40 Z Qp  h0 p0 S16)))
set_option maxHeartbeats 4000000 in
set_option maxRecDepth 100000 in
theorem a_X2_joinRing (l : Launch) (D : va_G) (cy : Nat → ClassId) (Z : zZ) (S : zS) (sz : Nat) (h0 : Nat) (p0 : Nat) (p1 : Int32) (Qp : zS → Prop) (hw : w_X2_joinRing Z h0 p0 p1 S Qp) : zMv l yX2_joinRing wsX2_joinRing rm_X2_joinRing D cy Z S sz [.ref h0, .ref p0, .int p1] Qp := by
  unfold w_X2_joinRing at hw
  refine zMv_of (cc := cX2_joinRing) (maxL := 3) (rt := none) (by decide +kernel) rfl (Nat.le_of_ble_eq_true rfl) ?_
  intro p e s m args below meth c A C0 _
  refine zg_lv (lv' := [(0, .ref h0), (1, .ref p0), (2, .int p1)]) rfl ?_
  refine zg_aload_n (q := 1) C0 0 dX2_joinRing_0 rfl rfl ?_
  refine zg_aload_n (q := 2) C0 1 dX2_joinRing_1 rfl rfl ?_
  obtain ⟨hz1, hw⟩ := hw
  refine zg_putR (q := 5) (v := some p0) (T := TX2) (k := 7) (ty0 := tyX2) C0 dX2_joinRing_2 hz1 (zF_2 cy hz1) rfl (by decide) hX_X2_joinRing_2 tyX2_ok nmX2 (zwm (i := 1) rfl) rfl rfl rfl rfl (Nat.le_of_ble_eq_true rfl) (zF_2 cy hz1) (zP_2_7 Z S _ _) rfl (fun S2 eS2 => ?_)
  have hw := hw S2 eS2
  refine zg_aload_n (q := 6) C0 0 dX2_joinRing_5 rfl rfl ?_
  refine zg_aload_n (q := 7) C0 1 dX2_joinRing_6 rfl rfl ?_
  obtain ⟨hz3, hw⟩ := hw
  refine zg_get (q := 10) (T := TX5) (k := 2) C0 dX2_joinRing_7 hz3 (zF_5 cy hz3) rfl (by decide) hX_X2_joinRing_5 (zwm (i := 2) rfl) rfl rfl rfl ?_
  refine zg_putI (q := 13) (T := TX2) (k := 8) (ty0 := tyX2) C0 dX2_joinRing_10 hz1 (zF_2 cy hz1) rfl (by decide) hX_X2_joinRing_2 tyX2_ok nmX2 (zwm (i := 3) rfl) rfl rfl rfl rfl (Nat.le_of_ble_eq_true rfl) (zF_2 cy hz1) (zP_2_8 Z S2 _ _) rfl (fun S4 eS4 => ?_)
  have hw := hw S4 eS4
  refine zg_iload_n (q := 14) C0 2 dX2_joinRing_13 rfl rfl ?_
  refine zg_if_eq (q := 17) (tgt := 40) C0 dX2_joinRing_14 rfl rfl (fun c17 => ?_) (fun c17 => ?_)
  · have hw := hw.1 c17
    refine zg_sub [0, 1] rfl ?_
    exact aJ_X2_joinRing_40 C0  hw
  · have hw := hw.2 c17
    refine zg_aload_n (q := 18) C0 0 dX2_joinRing_17 rfl rfl ?_
    refine zg_aload_n (q := 19) C0 1 dX2_joinRing_18 rfl rfl ?_
    refine zg_get (q := 22) (T := TX5) (k := 2) C0 dX2_joinRing_19 hz3 (zF_5 cy hz3) rfl (by decide) hX_X2_joinRing_5 (zwm (i := 2) rfl) rfl rfl rfl ?_
    refine zg_putI (q := 25) (T := TX2) (k := 9) (ty0 := tyX2) C0 dX2_joinRing_22 hz1 (zF_2 cy hz1) rfl (by decide) hX_X2_joinRing_2 tyX2_ok nmX2 (zwm (i := 4) rfl) rfl rfl rfl rfl (Nat.le_of_ble_eq_true rfl) (zF_2 cy hz1) (zP_2_9 Z S4 _ _) rfl (fun S11 eS11 => ?_)
    have hw := hw S11 eS11
    refine zg_aload_n (q := 26) C0 0 dX2_joinRing_25 rfl rfl ?_
    refine zg_aload_n (q := 27) C0 1 dX2_joinRing_26 rfl rfl ?_
    refine zg_get (q := 30) (T := TX5) (k := 3) C0 dX2_joinRing_27 hz3 (zF_5 cy hz3) rfl (by decide) hX_X2_joinRing_5 (zwm (i := 5) rfl) rfl rfl rfl ?_
    refine zg_putI (q := 33) (T := TX2) (k := 10) (ty0 := tyX2) C0 dX2_joinRing_30 hz1 (zF_2 cy hz1) rfl (by decide) hX_X2_joinRing_2 tyX2_ok nmX2 (zwm (i := 6) rfl) rfl rfl rfl rfl (Nat.le_of_ble_eq_true rfl) (zF_2 cy hz1) (zP_2_10 Z S11 _ _) rfl (fun S12 eS12 => ?_)
    have hw := hw S12 eS12
    refine zg_aload_n (q := 34) C0 0 dX2_joinRing_33 rfl rfl ?_
    refine zg_get (q := 37) (T := TX2) (k := 2) C0 dX2_joinRing_34 hz1 (zF_2 cy hz1) rfl (by decide) hX_X2_joinRing_2 (zwm (i := 7) rfl) rfl rfl rfl ?_
    obtain ⟨b13, hb14, hw⟩ := hw
    refine zg_nn hb14 ?_
    obtain ⟨hz15, hw⟩ := hw
    refine zg_callVv (q := 40) C0 [] [] dX2_joinRing_37 (fun sz => a_X4_forgetKept l D cy Z S12 sz b13 _ hw) rfl gX2_joinRing_X4_forgetKept hdV_X4_forgetKept hz15 (zF_4 cy hz15) rfl rfl ⟨Nat.le_of_ble_eq_true rfl, Nat.le_of_ble_eq_true rfl⟩ (Nat.le_of_ble_eq_true rfl) ⟨Nat.zero_le _, Nat.zero_le _⟩ ⟨rfl, rfl⟩ rfl (fun S16 hw => ?_)
    refine zg_sub [0, 1] rfl ?_
    exact aJ_X2_joinRing_40 C0  hw
