-- X4_apply
abbrev rm_X4_apply : Room := { frames := 0, cells := 0, slots := 0, locals := 0 }
theorem hX_X4_apply_1 : ∀ w ∈ u_ws RX1 TX1 4, w ∈ wsX4_apply := by decide +kernel
theorem hX_X4_apply_4 : ∀ w ∈ u_ws RX4 TX4 5, w ∈ wsX4_apply := by decide +kernel
theorem hdV_X4_apply : yX4_apply.cls = RX4 ∧ yX4_apply.cls ≠ "java/lang/invoke/MethodHandle" ∧ yX4_apply.cls ≠ "java/lang/invoke/VarHandle" ∧ (parseMethodDescriptor yX4_apply.desc).map (fun d => d.parameters.length) = some 2 := by decide +kernel
def w_X4_apply (Z : zZ) (h0 : Nat) (p0 : Int32) (p1 : Nat) (S : zS) (Qp : zS → Prop) : Prop :=
  zk Z h0 4 ∧ ∃ b2, zQ Z h0 0 = some b2 ∧ zk Z p1 1 ∧ zk Z b2 9 ∧ vp_in (zI S p1 1) (zN Z b2) ∧ ∀ S7 : zS, S7 = zsJ S b2 (zI S p1 1).toNatClampNeg (zJ S p1 2) → ∀ S8 : zS, S8 = zsI S7 h0 2 ((zI S7 h0 2) + 1) → ∀ S9 : zS, S9 = zsJ S8 h0 3 ((((zJ S8 h0 3) * 31) + (((zI S8 p1 1) * 17 : Int32).toInt64)) + (zJ S8 p1 2)) → ∀ S10 : zS, S10 = zsI S9 h0 4 p0 → Qp S10
set_option maxHeartbeats 4000000 in
set_option maxRecDepth 100000 in
theorem a_X4_apply (l : Launch) (D : va_G) (cy : Nat → ClassId) (Z : zZ) (S : zS) (sz : Nat) (h0 : Nat) (p0 : Int32) (p1 : Nat) (Qp : zS → Prop) (hw : w_X4_apply Z h0 p0 p1 S Qp) : zMv l yX4_apply wsX4_apply rm_X4_apply D cy Z S sz [.ref h0, .int p0, .ref p1] Qp := by
  unfold w_X4_apply at hw
  refine zMv_of (cc := cX4_apply) (maxL := 3) (rt := none) (by decide +kernel) rfl (Nat.le_of_ble_eq_true rfl) ?_
  intro p e s m args below meth c A C0 _
  refine zg_lv (lv' := [(0, .ref h0), (1, .int p0), (2, .ref p1)]) rfl ?_
  refine zg_aload_n (q := 1) C0 0 dX4_apply_0 rfl rfl ?_
  obtain ⟨hz1, hw⟩ := hw
  refine zg_get (q := 4) (T := TX4) (k := 0) C0 dX4_apply_1 hz1 (zF_4 cy hz1) rfl (by decide) hX_X4_apply_4 (zwm (i := 1) rfl) rfl rfl rfl ?_
  obtain ⟨b2, hb3, hw⟩ := hw
  refine zg_nn hb3 ?_
  refine zg_aload_n (q := 5) C0 2 dX4_apply_4 rfl rfl ?_
  obtain ⟨hz4, hw⟩ := hw
  refine zg_get (q := 8) (T := TX1) (k := 1) C0 dX4_apply_5 hz4 (zF_1 cy hz4) rfl (by decide) hX_X4_apply_1 (zwm (i := 2) rfl) rfl rfl rfl ?_
  refine zg_aload_n (q := 9) C0 2 dX4_apply_8 rfl rfl ?_
  refine zg_get (q := 12) (T := TX1) (k := 2) C0 dX4_apply_9 hz4 (zF_1 cy hz4) rfl (by decide) hX_X4_apply_1 (zwm (i := 3) rfl) rfl rfl rfl ?_
  obtain ⟨hz5, hw⟩ := hw
  obtain ⟨hi6, hw⟩ := hw
  refine zg_last (q := 13) C0 dX4_apply_12 hz5 hi6 rfl (fun S7 eS7 => ?_)
  have hw := hw S7 eS7
  refine zg_aload_n (q := 14) C0 0 dX4_apply_13 rfl rfl ?_
  refine zg_dup (q := 15) C0 dX4_apply_14 rfl rfl ?_
  refine zg_get (q := 18) (T := TX4) (k := 2) C0 dX4_apply_15 hz1 (zF_4 cy hz1) rfl (by decide) hX_X4_apply_4 (zwm (i := 4) rfl) rfl rfl rfl ?_
  refine zg_iconst (q := 19) C0 dX4_apply_18 zc_iconst_1 rfl ?_
  refine zg_iadd (q := 20) C0 dX4_apply_19 rfl ?_
  refine zg_putI (q := 23) (T := TX4) (k := 2) (ty0 := tyX4) C0 dX4_apply_20 hz1 (zF_4 cy hz1) rfl (by decide) hX_X4_apply_4 tyX4_ok nmX4 (zwm (i := 4) rfl) rfl rfl rfl rfl (Nat.le_of_ble_eq_true rfl) (zF_4 cy hz1) (zP_4_2 Z S7 _ _) rfl (fun S8 eS8 => ?_)
  have hw := hw S8 eS8
  refine zg_aload_n (q := 24) C0 0 dX4_apply_23 rfl rfl ?_
  refine zg_aload_n (q := 25) C0 0 dX4_apply_24 rfl rfl ?_
  refine zg_get (q := 28) (T := TX4) (k := 3) C0 dX4_apply_25 hz1 (zF_4 cy hz1) rfl (by decide) hX_X4_apply_4 (zwm (i := 5) rfl) rfl rfl rfl ?_
  refine zg_ldc2 (q := 31) (v := 31) C0 dX4_apply_28 (zwm (i := 6) rfl) rfl ?_
  refine zg_lmul (q := 32) C0 dX4_apply_31 rfl ?_
  refine zg_aload_n (q := 33) C0 2 dX4_apply_32 rfl rfl ?_
  refine zg_get (q := 36) (T := TX1) (k := 1) C0 dX4_apply_33 hz4 (zF_1 cy hz4) rfl (by decide) hX_X4_apply_1 (zwm (i := 2) rfl) rfl rfl rfl ?_
  refine zg_bipush (q := 38) C0 dX4_apply_36 zc_bipush_17 rfl ?_
  refine zg_imul (q := 39) C0 dX4_apply_38 rfl ?_
  refine zg_i2l (q := 40) C0 dX4_apply_39 rfl ?_
  refine zg_ladd (q := 41) C0 dX4_apply_40 rfl ?_
  refine zg_aload_n (q := 42) C0 2 dX4_apply_41 rfl rfl ?_
  refine zg_get (q := 45) (T := TX1) (k := 2) C0 dX4_apply_42 hz4 (zF_1 cy hz4) rfl (by decide) hX_X4_apply_1 (zwm (i := 3) rfl) rfl rfl rfl ?_
  refine zg_ladd (q := 46) C0 dX4_apply_45 rfl ?_
  refine zg_putJ (q := 49) (T := TX4) (k := 3) (ty0 := tyX4) C0 dX4_apply_46 hz1 (zF_4 cy hz1) rfl (by decide) hX_X4_apply_4 tyX4_ok nmX4 (zwm (i := 5) rfl) rfl rfl rfl rfl (Nat.le_of_ble_eq_true rfl) (zF_4 cy hz1) (zP_4_3 Z S8 _ _) rfl (fun S9 eS9 => ?_)
  have hw := hw S9 eS9
  refine zg_aload_n (q := 50) C0 0 dX4_apply_49 rfl rfl ?_
  refine zg_iload_n (q := 51) C0 1 dX4_apply_50 rfl rfl ?_
  refine zg_putI (q := 54) (T := TX4) (k := 4) (ty0 := tyX4) C0 dX4_apply_51 hz1 (zF_4 cy hz1) rfl (by decide) hX_X4_apply_4 tyX4_ok nmX4 (zwm (i := 7) rfl) rfl rfl rfl rfl (Nat.le_of_ble_eq_true rfl) (zF_4 cy hz1) (zP_4_4 Z S9 _ _) rfl (fun S10 eS10 => ?_)
  have hw := hw S10 eS10
  exact zg_vret C0 dX4_apply_54 rfl (Nat.le_refl 0) (Nat.le_refl 0) hw
-- X4_forgetKept
abbrev rm_X4_forgetKept : Room := { frames := 0, cells := 0, slots := 0, locals := 0 }
theorem hX_X4_forgetKept_4 : ∀ w ∈ u_ws RX4 TX4 5, w ∈ wsX4_forgetKept := by decide +kernel
theorem hdV_X4_forgetKept : yX4_forgetKept.cls = RX4 ∧ yX4_forgetKept.cls ≠ "java/lang/invoke/MethodHandle" ∧ yX4_forgetKept.cls ≠ "java/lang/invoke/VarHandle" ∧ (parseMethodDescriptor yX4_forgetKept.desc).map (fun d => d.parameters.length) = some 0 := by decide +kernel
def wb_X4_forgetKept_7 (Z : zZ) (x0 : Nat) (Qp : zS → Prop) (K : zS → Prop) (rec : Int32 → zS → Prop) (x1 : Int32) (S : zS) : Prop :=
  ((100 < x1 → K S) ∧ (¬ 100 < x1 → zk Z x0 4 ∧ ∃ b4, zQ Z x0 1 = some b4 ∧ zk Z b4 11 ∧ vp_in x1 (zN Z b4) ∧ ∀ S8 : zS, S8 = zsR S b4 x1.toNatClampNeg (none) → ∀ y9 : Int32, y9 = x1 + 1 → rec y9 S8))
def wL_X4_forgetKept_7 (Z : zZ) (x0 : Nat) (Qp : zS → Prop) (K : zS → Prop) (x1 : Int32) (S : zS) : Prop := ∃ n, zit2 (wb_X4_forgetKept_7 Z x0 Qp K) n x1 S
set_option maxHeartbeats 4000000 in
set_option maxRecDepth 100000 in
theorem ab_X4_forgetKept_7 {p : Program} {l : Launch} {e : Env} {s : State} {m : MethodId} {args : Array Value} {below : List Frame} {meth : Method} {c : Code} {D : va_G} {cy : Nat → ClassId} {A : Nat → Prop} {Q : State → Prop} {Z : zZ} (C0 : zC p s m args meth c cX4_forgetKept 2 wsX4_forgetKept RX4 D cy A none) {x0 : Nat} {Qp : zS → Prop} {K : zS → Prop} (hK : ∀  S, K  S → zG p l e rm_X4_forgetKept s m args below meth c D cy A 2 0 0 Q Z S 26 [] []) {rec : Int32 → zS → Prop} (hrec : ∀ x1 S, rec x1 S → zG p l e rm_X4_forgetKept s m args below meth c D cy A 2 0 0 Q Z S 7 [(0, .ref x0), (1, .int x1)] []) {x1 : Int32} {S : zS} (hw : wb_X4_forgetKept_7 Z x0 Qp K rec x1 S) : zG p l e rm_X4_forgetKept s m args below meth c D cy A 2 0 0 Q Z S 7 [(0, .ref x0), (1, .int x1)] [] := by
  unfold wb_X4_forgetKept_7 at hw
  refine zg_iload_n (q := 8) C0 1 dX4_forgetKept_7 rfl rfl ?_
  refine zg_bipush (q := 10) C0 dX4_forgetKept_8 zc_bipush_100 rfl ?_
  refine zg_icmp_gt (q := 13) (tgt := 26) C0 dX4_forgetKept_10 rfl rfl (fun c10 => ?_) (fun c10 => ?_)
  · have hw := hw.1 c10
    refine zg_sub [] rfl ?_
    exact hK  _ hw
  · have hw := hw.2 c10
    refine zg_aload_n (q := 14) C0 0 dX4_forgetKept_13 rfl rfl ?_
    obtain ⟨hz3, hw⟩ := hw
    refine zg_get (q := 17) (T := TX4) (k := 1) C0 dX4_forgetKept_14 hz3 (zF_4 cy hz3) rfl (by decide) hX_X4_forgetKept_4 (zwm (i := 2) rfl) rfl rfl rfl ?_
    obtain ⟨b4, hb5, hw⟩ := hw
    refine zg_nn hb5 ?_
    refine zg_iload_n (q := 18) C0 1 dX4_forgetKept_17 rfl rfl ?_
    refine zg_null (q := 19) C0 dX4_forgetKept_18 rfl ?_
    obtain ⟨hz6, hw⟩ := hw
    obtain ⟨hi7, hw⟩ := hw
    refine zg_aastN_11 (q := 20) C0 dX4_forgetKept_19 hz6 hi7 rfl (fun S8 eS8 => ?_)
    have hw := hw S8 eS8
    refine zg_iinc (q := 23) C0 1 dX4_forgetKept_20 rfl (by decide) zc_iconst_1 rfl (fun y9 ey9 => ?_)
    have hw := hw y9 ey9
    refine zg_lv (lv' := [(1, .int y9), (0, .ref x0)]) rfl ?_
    refine zg_goto (tgt := 7) C0 dX4_forgetKept_23 rfl ?_
    refine zg_sub [1, 0] rfl ?_
    exact hrec _ _ hw
theorem aL_X4_forgetKept_7 {p : Program} {l : Launch} {e : Env} {s : State} {m : MethodId} {args : Array Value} {below : List Frame} {meth : Method} {c : Code} {D : va_G} {cy : Nat → ClassId} {A : Nat → Prop} {Q : State → Prop} {Z : zZ} (C0 : zC p s m args meth c cX4_forgetKept 2 wsX4_forgetKept RX4 D cy A none) {x0 : Nat} {Qp : zS → Prop} {K : zS → Prop} (hK : ∀  S, K  S → zG p l e rm_X4_forgetKept s m args below meth c D cy A 2 0 0 Q Z S 26 [] []) : ∀ x1 S, wL_X4_forgetKept_7 Z x0 Qp K x1 S → zG p l e rm_X4_forgetKept s m args below meth c D cy A 2 0 0 Q Z S 7 [(0, .ref x0), (1, .int x1)] [] := by
  intro x1 S hw
  obtain ⟨n, hw⟩ := hw
  induction n generalizing x1 S with
  | zero => exact hw.elim
  | succ n ih => exact ab_X4_forgetKept_7 C0 hK (fun x1 S hw => ih x1 S hw) hw
def w_X4_forgetKept (Z : zZ) (h0 : Nat) (S : zS) (Qp : zS → Prop) : Prop :=
  zk Z h0 4 ∧ ∀ S2 : zS, S2 = zsI S h0 4 0 → wL_X4_forgetKept_7 Z h0 Qp (fun  (S11 : zS) => Qp S11) 0 S2
set_option maxHeartbeats 4000000 in
set_option maxRecDepth 100000 in
theorem a_X4_forgetKept (l : Launch) (D : va_G) (cy : Nat → ClassId) (Z : zZ) (S : zS) (sz : Nat) (h0 : Nat) (Qp : zS → Prop) (hw : w_X4_forgetKept Z h0 S Qp) : zMv l yX4_forgetKept wsX4_forgetKept rm_X4_forgetKept D cy Z S sz [.ref h0] Qp := by
  unfold w_X4_forgetKept at hw
  refine zMv_of (cc := cX4_forgetKept) (maxL := 2) (rt := none) (by decide +kernel) rfl (Nat.le_of_ble_eq_true rfl) ?_
  intro p e s m args below meth c A C0 _
  refine zg_lv (lv' := [(0, .ref h0)]) rfl ?_
  refine zg_aload_n (q := 1) C0 0 dX4_forgetKept_0 rfl rfl ?_
  refine zg_iconst (q := 2) C0 dX4_forgetKept_1 zc_iconst_0 rfl ?_
  obtain ⟨hz1, hw⟩ := hw
  refine zg_putI (q := 5) (T := TX4) (k := 4) (ty0 := tyX4) C0 dX4_forgetKept_2 hz1 (zF_4 cy hz1) rfl (by decide) hX_X4_forgetKept_4 tyX4_ok nmX4 (zwm (i := 1) rfl) rfl rfl rfl rfl (Nat.le_of_ble_eq_true rfl) (zF_4 cy hz1) (zP_4_4 Z S _ _) rfl (fun S2 eS2 => ?_)
  have hw := hw S2 eS2
  refine zg_iconst (q := 6) C0 dX4_forgetKept_5 zc_iconst_0 rfl ?_
  refine zg_istore_n (q := 7) (lv' := [(1, .int 0), (0, .ref h0)]) C0 dX4_forgetKept_6 (by decide) rfl rfl ?_
  refine zg_sub [1, 0] rfl ?_
  refine aL_X4_forgetKept_7 C0 (fun  S11 hw => ?_) _ _ hw
  exact zg_vret C0 dX4_forgetKept_26 rfl (Nat.le_refl 0) (Nat.le_refl 0) hw
-- X3_isFull
abbrev rm_X3_isFull : Room := { frames := 0, cells := 0, slots := 0, locals := 0 }
theorem hX_X3_isFull_3 : ∀ w ∈ u_ws RX3 TX3 2, w ∈ wsX3_isFull := by decide +kernel
theorem hdV_X3_isFull : yX3_isFull.cls = RX3 ∧ yX3_isFull.cls ≠ "java/lang/invoke/MethodHandle" ∧ yX3_isFull.cls ≠ "java/lang/invoke/VarHandle" ∧ (parseMethodDescriptor yX3_isFull.desc).map (fun d => d.parameters.length) = some 0 := by decide +kernel
def w_X3_isFull (Z : zZ) (h0 : Nat) (S : zS) (Qp : Int32 → zS → Prop) : Prop :=
  zk Z h0 3 ∧ (((zI S h0 1) < 12 → Qp 0 S) ∧ (¬ (zI S h0 1) < 12 → Qp 1 S))
set_option maxHeartbeats 4000000 in
set_option maxRecDepth 100000 in
theorem a_X3_isFull (l : Launch) (D : va_G) (cy : Nat → ClassId) (Z : zZ) (S : zS) (sz : Nat) (h0 : Nat) (Qp : Int32 → zS → Prop) (hw : w_X3_isFull Z h0 S Qp) : zMi l yX3_isFull wsX3_isFull rm_X3_isFull D cy Z S sz [.ref h0] Qp := by
  unfold w_X3_isFull at hw
  refine zMi_of (cc := cX3_isFull) (maxL := 1) (rt := (some .boolean)) (by decide +kernel) rfl (Nat.le_of_ble_eq_true rfl) ?_
  intro p e s m args below meth c A C0 _
  refine zg_lv (lv' := [(0, .ref h0)]) rfl ?_
  refine zg_aload_n (q := 1) C0 0 dX3_isFull_0 rfl rfl ?_
  obtain ⟨hz1, hw⟩ := hw
  refine zg_get (q := 4) (T := TX3) (k := 1) C0 dX3_isFull_1 hz1 (zF_3 cy hz1) rfl (by decide) hX_X3_isFull_3 (zwm (i := 1) rfl) rfl rfl rfl ?_
  refine zg_bipush (q := 6) C0 dX3_isFull_4 zc_bipush_12 rfl ?_
  refine zg_icmp_lt (q := 9) (tgt := 13) C0 dX3_isFull_6 rfl rfl (fun c2 => ?_) (fun c2 => ?_)
  · have hw := hw.1 c2
    refine zg_iconst (q := 14) C0 dX3_isFull_13 zc_iconst_0 rfl ?_
    exact zg_iret C0 dX3_isFull_14 rfl (by decide) (Nat.le_refl 0) (Nat.le_refl 0) hw
  · have hw := hw.2 c2
    refine zg_iconst (q := 10) C0 dX3_isFull_9 zc_iconst_1 rfl ?_
    refine zg_goto (tgt := 14) C0 dX3_isFull_10 rfl ?_
    exact zg_iret C0 dX3_isFull_14 rfl (by decide) (Nat.le_refl 0) (Nat.le_refl 0) hw
-- X3_put
abbrev rm_X3_put : Room := { frames := 0, cells := 0, slots := 0, locals := 0 }
theorem hX_X3_put_3 : ∀ w ∈ u_ws RX3 TX3 2, w ∈ wsX3_put := by decide +kernel
theorem hdV_X3_put : yX3_put.cls = RX3 ∧ yX3_put.cls ≠ "java/lang/invoke/MethodHandle" ∧ yX3_put.cls ≠ "java/lang/invoke/VarHandle" ∧ (parseMethodDescriptor yX3_put.desc).map (fun d => d.parameters.length) = some 1 := by decide +kernel
def w_X3_put (Z : zZ) (h0 : Nat) (p0 : Nat) (S : zS) (Qp : Int32 → zS → Prop) : Prop :=
  zk Z h0 3 ∧ ∃ b2, zQ Z h0 0 = some b2 ∧ zk Z b2 11 ∧ zk Z p0 1 ∧ vp_in (zI S h0 1) (zN Z b2) ∧ ∀ S7 : zS, S7 = zsR S b2 (zI S h0 1).toNatClampNeg (some p0) → ∀ S8 : zS, S8 = zsI S7 h0 1 ((zI S7 h0 1) + 1) → Qp (zI S8 h0 1) S8
set_option maxHeartbeats 4000000 in
set_option maxRecDepth 100000 in
theorem a_X3_put (l : Launch) (D : va_G) (cy : Nat → ClassId) (Z : zZ) (S : zS) (sz : Nat) (h0 : Nat) (p0 : Nat) (Qp : Int32 → zS → Prop) (hw : w_X3_put Z h0 p0 S Qp) : zMi l yX3_put wsX3_put rm_X3_put D cy Z S sz [.ref h0, .ref p0] Qp := by
  unfold w_X3_put at hw
  refine zMi_of (cc := cX3_put) (maxL := 2) (rt := (some .int)) (by decide +kernel) rfl (Nat.le_of_ble_eq_true rfl) ?_
  intro p e s m args below meth c A C0 _
  refine zg_lv (lv' := [(0, .ref h0), (1, .ref p0)]) rfl ?_
  refine zg_aload_n (q := 1) C0 0 dX3_put_0 rfl rfl ?_
  obtain ⟨hz1, hw⟩ := hw
  refine zg_get (q := 4) (T := TX3) (k := 0) C0 dX3_put_1 hz1 (zF_3 cy hz1) rfl (by decide) hX_X3_put_3 (zwm (i := 1) rfl) rfl rfl rfl ?_
  obtain ⟨b2, hb3, hw⟩ := hw
  refine zg_nn hb3 ?_
  refine zg_aload_n (q := 5) C0 0 dX3_put_4 rfl rfl ?_
  refine zg_get (q := 8) (T := TX3) (k := 1) C0 dX3_put_5 hz1 (zF_3 cy hz1) rfl (by decide) hX_X3_put_3 (zwm (i := 2) rfl) rfl rfl rfl ?_
  refine zg_aload_n (q := 9) C0 1 dX3_put_8 rfl rfl ?_
  obtain ⟨hz4, hw⟩ := hw
  obtain ⟨hz5, hw⟩ := hw
  obtain ⟨hi6, hw⟩ := hw
  refine zg_aast_11 (q := 10) C0 dX3_put_9 hz4 hz5 hi6 rfl (fun S7 eS7 => ?_)
  have hw := hw S7 eS7
  refine zg_aload_n (q := 11) C0 0 dX3_put_10 rfl rfl ?_
  refine zg_dup (q := 12) C0 dX3_put_11 rfl rfl ?_
  refine zg_get (q := 15) (T := TX3) (k := 1) C0 dX3_put_12 hz1 (zF_3 cy hz1) rfl (by decide) hX_X3_put_3 (zwm (i := 2) rfl) rfl rfl rfl ?_
  refine zg_iconst (q := 16) C0 dX3_put_15 zc_iconst_1 rfl ?_
  refine zg_iadd (q := 17) C0 dX3_put_16 rfl ?_
  refine zg_putI (q := 20) (T := TX3) (k := 1) (ty0 := tyX3) C0 dX3_put_17 hz1 (zF_3 cy hz1) rfl (by decide) hX_X3_put_3 tyX3_ok nmX3 (zwm (i := 2) rfl) rfl rfl rfl rfl (Nat.le_of_ble_eq_true rfl) (zF_3 cy hz1) (zP_3_1 Z S7 _ _) rfl (fun S8 eS8 => ?_)
  have hw := hw S8 eS8
  refine zg_aload_n (q := 21) C0 0 dX3_put_20 rfl rfl ?_
  refine zg_get (q := 24) (T := TX3) (k := 1) C0 dX3_put_21 hz1 (zF_3 cy hz1) rfl (by decide) hX_X3_put_3 (zwm (i := 2) rfl) rfl rfl rfl ?_
  exact zg_iret C0 dX3_put_24 rfl rfl (Nat.le_refl 0) (Nat.le_refl 0) hw
-- X3_takeFirst
abbrev rm_X3_takeFirst : Room := { frames := 0, cells := 0, slots := 0, locals := 0 }
theorem hX_X3_takeFirst_3 : ∀ w ∈ u_ws RX3 TX3 2, w ∈ wsX3_takeFirst := by decide +kernel
theorem hdV_X3_takeFirst : yX3_takeFirst.cls = RX3 ∧ yX3_takeFirst.cls ≠ "java/lang/invoke/MethodHandle" ∧ yX3_takeFirst.cls ≠ "java/lang/invoke/VarHandle" ∧ (parseMethodDescriptor yX3_takeFirst.desc).map (fun d => d.parameters.length) = some 0 := by decide +kernel
def wb_X3_takeFirst_28 (Z : zZ) (x0 : Nat) (x1 : Option Nat) (Qp : Option Nat → zS → Prop) (K : zS → Prop) (rec : Int32 → zS → Prop) (x2 : Int32) (S : zS) : Prop :=
  zk Z x0 3 ∧ (((zI S x0 1) ≤ x2 → K S) ∧ (¬ (zI S x0 1) ≤ x2 → ∃ b9, zQ Z x0 0 = some b9 ∧ zk Z b9 11 ∧ vp_in (x2 + 1) (zN Z b9) ∧ ∃ b13, zR S b9 (x2 + 1).toNatClampNeg = some b13 ∧ zk Z b13 1 ∧ vp_in x2 (zN Z b9) ∧ ∀ S17 : zS, S17 = zsR S b9 x2.toNatClampNeg (some b13) → ∀ y18 : Int32, y18 = x2 + 1 → rec y18 S17))
def wL_X3_takeFirst_28 (Z : zZ) (x0 : Nat) (x1 : Option Nat) (Qp : Option Nat → zS → Prop) (K : zS → Prop) (x2 : Int32) (S : zS) : Prop := ∃ n, zit2 (wb_X3_takeFirst_28 Z x0 x1 Qp K) n x2 S
set_option maxHeartbeats 4000000 in
set_option maxRecDepth 100000 in
theorem ab_X3_takeFirst_28 {p : Program} {l : Launch} {e : Env} {s : State} {m : MethodId} {args : Array Value} {below : List Frame} {meth : Method} {c : Code} {D : va_G} {cy : Nat → ClassId} {A : Nat → Prop} {Q : State → Prop} {Z : zZ} (C0 : zC p s m args meth c cX3_takeFirst 3 wsX3_takeFirst RX3 D cy A (some (.object "RingGroup$Message"))) {x0 : Nat} {x1 : Option Nat} {Qp : Option Nat → zS → Prop} {K : zS → Prop} (hK : ∀  S, K  S → zG p l e rm_X3_takeFirst s m args below meth c D cy A 3 0 0 Q Z S 56 [(1, va_rf x1)] []) {rec : Int32 → zS → Prop} (hrec : ∀ x2 S, rec x2 S → zG p l e rm_X3_takeFirst s m args below meth c D cy A 3 0 0 Q Z S 28 [(0, .ref x0), (1, va_rf x1), (2, .int x2)] []) {x2 : Int32} {S : zS} (hw : wb_X3_takeFirst_28 Z x0 x1 Qp K rec x2 S) : zG p l e rm_X3_takeFirst s m args below meth c D cy A 3 0 0 Q Z S 28 [(0, .ref x0), (1, va_rf x1), (2, .int x2)] [] := by
  unfold wb_X3_takeFirst_28 at hw
  refine zg_iload_n (q := 29) C0 2 dX3_takeFirst_28 rfl rfl ?_
  refine zg_aload_n (q := 30) C0 0 dX3_takeFirst_29 rfl rfl ?_
  obtain ⟨hz8, hw⟩ := hw
  refine zg_get (q := 33) (T := TX3) (k := 1) C0 dX3_takeFirst_30 hz8 (zF_3 cy hz8) rfl (by decide) hX_X3_takeFirst_3 (zwm (i := 1) rfl) rfl rfl rfl ?_
  refine zg_icmp_ge (q := 36) (tgt := 56) C0 dX3_takeFirst_33 rfl rfl (fun c19 => ?_) (fun c19 => ?_)
  · have hw := hw.1 c19
    refine zg_sub [1] rfl ?_
    exact hK  _ hw
  · have hw := hw.2 c19
    refine zg_aload_n (q := 37) C0 0 dX3_takeFirst_36 rfl rfl ?_
    refine zg_get (q := 40) (T := TX3) (k := 0) C0 dX3_takeFirst_37 hz8 (zF_3 cy hz8) rfl (by decide) hX_X3_takeFirst_3 (zwm (i := 2) rfl) rfl rfl rfl ?_
    obtain ⟨b9, hb10, hw⟩ := hw
    refine zg_nn hb10 ?_
    refine zg_iload_n (q := 41) C0 2 dX3_takeFirst_40 rfl rfl ?_
    refine zg_aload_n (q := 42) C0 0 dX3_takeFirst_41 rfl rfl ?_
    refine zg_get (q := 45) (T := TX3) (k := 0) C0 dX3_takeFirst_42 hz8 (zF_3 cy hz8) rfl (by decide) hX_X3_takeFirst_3 (zwm (i := 2) rfl) rfl rfl rfl ?_
    refine zg_nn hb10 ?_
    refine zg_iload_n (q := 46) C0 2 dX3_takeFirst_45 rfl rfl ?_
    refine zg_iconst (q := 47) C0 dX3_takeFirst_46 zc_iconst_1 rfl ?_
    refine zg_iadd (q := 48) C0 dX3_takeFirst_47 rfl ?_
    obtain ⟨hz11, hw⟩ := hw
    obtain ⟨hi12, hw⟩ := hw
    refine zg_aald_11 (q := 49) C0 dX3_takeFirst_48 hz11 hi12 rfl ?_
    obtain ⟨b13, hb14, hw⟩ := hw
    refine zg_nn hb14 ?_
    obtain ⟨hz15, hw⟩ := hw
    obtain ⟨hi16, hw⟩ := hw
    refine zg_aast_11 (q := 50) C0 dX3_takeFirst_49 hz11 hz15 hi16 rfl (fun S17 eS17 => ?_)
    have hw := hw S17 eS17
    refine zg_iinc (q := 53) C0 2 dX3_takeFirst_50 rfl (by decide) zc_iconst_1 rfl (fun y18 ey18 => ?_)
    have hw := hw y18 ey18
    refine zg_lv (lv' := [(2, .int y18), (0, .ref x0), (1, va_rf x1)]) (by simp [zrfc]) ?_
    refine zg_goto (tgt := 28) C0 dX3_takeFirst_53 rfl ?_
    refine zg_sub [1, 2, 0] rfl ?_
    exact hrec _ _ hw
theorem aL_X3_takeFirst_28 {p : Program} {l : Launch} {e : Env} {s : State} {m : MethodId} {args : Array Value} {below : List Frame} {meth : Method} {c : Code} {D : va_G} {cy : Nat → ClassId} {A : Nat → Prop} {Q : State → Prop} {Z : zZ} (C0 : zC p s m args meth c cX3_takeFirst 3 wsX3_takeFirst RX3 D cy A (some (.object "RingGroup$Message"))) {x0 : Nat} {x1 : Option Nat} {Qp : Option Nat → zS → Prop} {K : zS → Prop} (hK : ∀  S, K  S → zG p l e rm_X3_takeFirst s m args below meth c D cy A 3 0 0 Q Z S 56 [(1, va_rf x1)] []) : ∀ x2 S, wL_X3_takeFirst_28 Z x0 x1 Qp K x2 S → zG p l e rm_X3_takeFirst s m args below meth c D cy A 3 0 0 Q Z S 28 [(0, .ref x0), (1, va_rf x1), (2, .int x2)] [] := by
  intro x2 S hw
  obtain ⟨n, hw⟩ := hw
  induction n generalizing x2 S with
  | zero => exact hw.elim
  | succ n ih => exact ab_X3_takeFirst_28 C0 hK (fun x2 S hw => ih x2 S hw) hw
def w_X3_takeFirst (Z : zZ) (h0 : Nat) (S : zS) (Qp : Option Nat → zS → Prop) : Prop :=
  zk Z h0 3 ∧ ((¬ (zI S h0 1) = 0 → ∃ b2, zQ Z h0 0 = some b2 ∧ zk Z b2 11 ∧ vp_in 0 (zN Z b2) ∧ ∀ r6 : Option Nat, r6 = zR S b2 (0 : Int32).toNatClampNeg → ∀ S7 : zS, S7 = zsI S h0 1 ((zI S h0 1) - 1) → wL_X3_takeFirst_28 Z h0 r6 Qp (fun  (S20 : zS) => Qp r6 S20) 0 S7) ∧ ((zI S h0 1) = 0 → Qp none S))
set_option maxHeartbeats 4000000 in
set_option maxRecDepth 100000 in
theorem a_X3_takeFirst (l : Launch) (D : va_G) (cy : Nat → ClassId) (Z : zZ) (S : zS) (sz : Nat) (h0 : Nat) (Qp : Option Nat → zS → Prop) (hw : w_X3_takeFirst Z h0 S Qp) : zMq l yX3_takeFirst wsX3_takeFirst rm_X3_takeFirst D cy Z S sz [.ref h0] Qp := by
  unfold w_X3_takeFirst at hw
  refine zMq_of (cc := cX3_takeFirst) (maxL := 3) (rt := (some (.object "RingGroup$Message"))) (by decide +kernel) rfl (Nat.le_of_ble_eq_true rfl) ?_
  intro p e s m args below meth c A C0 _
  refine zg_lv (lv' := [(0, .ref h0)]) rfl ?_
  refine zg_aload_n (q := 1) C0 0 dX3_takeFirst_0 rfl rfl ?_
  obtain ⟨hz1, hw⟩ := hw
  refine zg_get (q := 4) (T := TX3) (k := 1) C0 dX3_takeFirst_1 hz1 (zF_3 cy hz1) rfl (by decide) hX_X3_takeFirst_3 (zwm (i := 1) rfl) rfl rfl rfl ?_
  refine zg_if_ne (q := 7) (tgt := 9) C0 dX3_takeFirst_4 rfl rfl (fun c21 => ?_) (fun c21 => ?_)
  · have hw := hw.1 c21
    refine zg_aload_n (q := 10) C0 0 dX3_takeFirst_9 rfl rfl ?_
    refine zg_get (q := 13) (T := TX3) (k := 0) C0 dX3_takeFirst_10 hz1 (zF_3 cy hz1) rfl (by decide) hX_X3_takeFirst_3 (zwm (i := 2) rfl) rfl rfl rfl ?_
    obtain ⟨b2, hb3, hw⟩ := hw
    refine zg_nn hb3 ?_
    refine zg_iconst (q := 14) C0 dX3_takeFirst_13 zc_iconst_0 rfl ?_
    obtain ⟨hz4, hw⟩ := hw
    obtain ⟨hi5, hw⟩ := hw
    refine zg_aald_11 (q := 15) C0 dX3_takeFirst_14 hz4 hi5 rfl ?_
    refine zg_nq (fun r6 er6 => ?_)
    have hw := hw r6 er6
    refine zg_astoreq_n (q := 16) (lv' := [(1, va_rf r6), (0, .ref h0)]) C0 dX3_takeFirst_15 (by decide) rfl rfl ?_
    refine zg_aload_n (q := 17) C0 1 dX3_takeFirst_16 rfl rfl ?_
    refine zg_dup (q := 18) C0 dX3_takeFirst_17 rfl rfl ?_
    refine zg_get (q := 21) (T := TX3) (k := 1) C0 dX3_takeFirst_18 hz1 (zF_3 cy hz1) rfl (by decide) hX_X3_takeFirst_3 (zwm (i := 1) rfl) rfl rfl rfl ?_
    refine zg_iconst (q := 22) C0 dX3_takeFirst_21 zc_iconst_1 rfl ?_
    refine zg_isub (q := 23) C0 dX3_takeFirst_22 rfl ?_
    refine zg_putI (q := 26) (T := TX3) (k := 1) (ty0 := tyX3) C0 dX3_takeFirst_23 hz1 (zF_3 cy hz1) rfl (by decide) hX_X3_takeFirst_3 tyX3_ok nmX3 (zwm (i := 1) rfl) rfl rfl rfl rfl (Nat.le_of_ble_eq_true rfl) (zF_3 cy hz1) (zP_3_1 Z S _ _) rfl (fun S7 eS7 => ?_)
    have hw := hw S7 eS7
    refine zg_iconst (q := 27) C0 dX3_takeFirst_26 zc_iconst_0 rfl ?_
    refine zg_istore_n (q := 28) (lv' := [(2, .int 0), (1, va_rf r6), (0, .ref h0)]) C0 dX3_takeFirst_27 (by decide) (by simp [zrfc]) rfl ?_
    refine zg_sub [2, 1, 0] rfl ?_
    refine aL_X3_takeFirst_28 C0 (fun  S20 hw => ?_) _ _ hw
    refine zg_aloadq_n (q := 57) C0 0 dX3_takeFirst_56 rfl rfl ?_
    exact zg_aret (v := r6) C0 dX3_takeFirst_57 rfl rfl (Nat.le_refl 0) (Nat.le_refl 0) hw
  · have hw := hw.2 c21
    refine zg_null (q := 8) C0 dX3_takeFirst_7 rfl ?_
    exact zg_aret (v := none) C0 dX3_takeFirst_8 rfl rfl (Nat.le_refl 0) (Nat.le_refl 0) hw
-- X3_drop
abbrev rm_X3_drop : Room := { frames := 0, cells := 0, slots := 0, locals := 0 }
theorem hX_X3_drop_3 : ∀ w ∈ u_ws RX3 TX3 2, w ∈ wsX3_drop := by decide +kernel
theorem hdV_X3_drop : yX3_drop.cls = RX3 ∧ yX3_drop.cls ≠ "java/lang/invoke/MethodHandle" ∧ yX3_drop.cls ≠ "java/lang/invoke/VarHandle" ∧ (parseMethodDescriptor yX3_drop.desc).map (fun d => d.parameters.length) = some 0 := by decide +kernel
def w_X3_drop (Z : zZ) (h0 : Nat) (S : zS) (Qp : zS → Prop) : Prop :=
  zk Z h0 3 ∧ ∀ S2 : zS, S2 = zsI S h0 1 0 → Qp S2
set_option maxHeartbeats 4000000 in
set_option maxRecDepth 100000 in
theorem a_X3_drop (l : Launch) (D : va_G) (cy : Nat → ClassId) (Z : zZ) (S : zS) (sz : Nat) (h0 : Nat) (Qp : zS → Prop) (hw : w_X3_drop Z h0 S Qp) : zMv l yX3_drop wsX3_drop rm_X3_drop D cy Z S sz [.ref h0] Qp := by
  unfold w_X3_drop at hw
  refine zMv_of (cc := cX3_drop) (maxL := 1) (rt := none) (by decide +kernel) rfl (Nat.le_of_ble_eq_true rfl) ?_
  intro p e s m args below meth c A C0 _
  refine zg_lv (lv' := [(0, .ref h0)]) rfl ?_
  refine zg_aload_n (q := 1) C0 0 dX3_drop_0 rfl rfl ?_
  refine zg_iconst (q := 2) C0 dX3_drop_1 zc_iconst_0 rfl ?_
  obtain ⟨hz1, hw⟩ := hw
  refine zg_putI (q := 5) (T := TX3) (k := 1) (ty0 := tyX3) C0 dX3_drop_2 hz1 (zF_3 cy hz1) rfl (by decide) hX_X3_drop_3 tyX3_ok nmX3 (zwm (i := 1) rfl) rfl rfl rfl rfl (Nat.le_of_ble_eq_true rfl) (zF_3 cy hz1) (zP_3_1 Z S _ _) rfl (fun S2 eS2 => ?_)
  have hw := hw S2 eS2
  exact zg_vret C0 dX3_drop_5 rfl (Nat.le_refl 0) (Nat.le_refl 0) hw
-- X4_copyTable
abbrev rm_X4_copyTable : Room := { frames := 0, cells := 0, slots := 0, locals := 0 }
theorem hX_X4_copyTable_4 : ∀ w ∈ u_ws RX4 TX4 5, w ∈ wsX4_copyTable := by decide +kernel
theorem hdV_X4_copyTable : yX4_copyTable.cls = RX4 ∧ yX4_copyTable.cls ≠ "java/lang/invoke/MethodHandle" ∧ yX4_copyTable.cls ≠ "java/lang/invoke/VarHandle" ∧ (parseMethodDescriptor yX4_copyTable.desc).map (fun d => d.parameters.length) = some 1 := by decide +kernel
def wb_X4_copyTable_2 (Z : zZ) (x0 : Nat) (x1 : Nat) (Qp : zS → Prop) (K : zS → Prop) (rec : Int32 → zS → Prop) (x2 : Int32) (S : zS) : Prop :=
  ((16 ≤ x2 → K S) ∧ (¬ 16 ≤ x2 → zk Z x0 4 ∧ ∃ b2, zQ Z x0 0 = some b2 ∧ zk Z x1 4 ∧ ∃ b5, zQ Z x1 0 = some b5 ∧ zk Z b5 9 ∧ vp_in x2 (zN Z b5) ∧ zk Z b2 9 ∧ vp_in x2 (zN Z b2) ∧ ∀ S11 : zS, S11 = zsJ S b2 x2.toNatClampNeg (zJ S b5 x2.toNatClampNeg) → ∀ y12 : Int32, y12 = x2 + 1 → rec y12 S11))
def wL_X4_copyTable_2 (Z : zZ) (x0 : Nat) (x1 : Nat) (Qp : zS → Prop) (K : zS → Prop) (x2 : Int32) (S : zS) : Prop := ∃ n, zit2 (wb_X4_copyTable_2 Z x0 x1 Qp K) n x2 S
set_option maxHeartbeats 4000000 in
set_option maxRecDepth 100000 in
theorem ab_X4_copyTable_2 {p : Program} {l : Launch} {e : Env} {s : State} {m : MethodId} {args : Array Value} {below : List Frame} {meth : Method} {c : Code} {D : va_G} {cy : Nat → ClassId} {A : Nat → Prop} {Q : State → Prop} {Z : zZ} (C0 : zC p s m args meth c cX4_copyTable 3 wsX4_copyTable RX4 D cy A none) {x0 : Nat} {x1 : Nat} {Qp : zS → Prop} {K : zS → Prop} (hK : ∀  S, K  S → zG p l e rm_X4_copyTable s m args below meth c D cy A 3 0 0 Q Z S 26 [(0, .ref x0), (1, .ref x1)] []) {rec : Int32 → zS → Prop} (hrec : ∀ x2 S, rec x2 S → zG p l e rm_X4_copyTable s m args below meth c D cy A 3 0 0 Q Z S 2 [(0, .ref x0), (1, .ref x1), (2, .int x2)] []) {x2 : Int32} {S : zS} (hw : wb_X4_copyTable_2 Z x0 x1 Qp K rec x2 S) : zG p l e rm_X4_copyTable s m args below meth c D cy A 3 0 0 Q Z S 2 [(0, .ref x0), (1, .ref x1), (2, .int x2)] [] := by
  unfold wb_X4_copyTable_2 at hw
  refine zg_iload_n (q := 3) C0 2 dX4_copyTable_2 rfl rfl ?_
  refine zg_bipush (q := 5) C0 dX4_copyTable_3 zc_bipush_16 rfl ?_
  refine zg_icmp_ge (q := 8) (tgt := 26) C0 dX4_copyTable_5 rfl rfl (fun c13 => ?_) (fun c13 => ?_)
  · have hw := hw.1 c13
    refine zg_sub [0, 1] rfl ?_
    exact hK  _ hw
  · have hw := hw.2 c13
    refine zg_aload_n (q := 9) C0 0 dX4_copyTable_8 rfl rfl ?_
    obtain ⟨hz1, hw⟩ := hw
    refine zg_get (q := 12) (T := TX4) (k := 0) C0 dX4_copyTable_9 hz1 (zF_4 cy hz1) rfl (by decide) hX_X4_copyTable_4 (zwm (i := 1) rfl) rfl rfl rfl ?_
    obtain ⟨b2, hb3, hw⟩ := hw
    refine zg_nn hb3 ?_
    refine zg_iload_n (q := 13) C0 2 dX4_copyTable_12 rfl rfl ?_
    refine zg_aload_n (q := 14) C0 1 dX4_copyTable_13 rfl rfl ?_
    obtain ⟨hz4, hw⟩ := hw
    refine zg_get (q := 17) (T := TX4) (k := 0) C0 dX4_copyTable_14 hz4 (zF_4 cy hz4) rfl (by decide) hX_X4_copyTable_4 (zwm (i := 1) rfl) rfl rfl rfl ?_
    obtain ⟨b5, hb6, hw⟩ := hw
    refine zg_nn hb6 ?_
    refine zg_iload_n (q := 18) C0 2 dX4_copyTable_17 rfl rfl ?_
    obtain ⟨hz7, hw⟩ := hw
    obtain ⟨hi8, hw⟩ := hw
    refine zg_lald (q := 19) C0 dX4_copyTable_18 hz7 hi8 rfl ?_
    obtain ⟨hz9, hw⟩ := hw
    obtain ⟨hi10, hw⟩ := hw
    refine zg_last (q := 20) C0 dX4_copyTable_19 hz9 hi10 rfl (fun S11 eS11 => ?_)
    have hw := hw S11 eS11
    refine zg_iinc (q := 23) C0 2 dX4_copyTable_20 rfl (by decide) zc_iconst_1 rfl (fun y12 ey12 => ?_)
    have hw := hw y12 ey12
    refine zg_lv (lv' := [(2, .int y12), (0, .ref x0), (1, .ref x1)]) rfl ?_
    refine zg_goto (tgt := 2) C0 dX4_copyTable_23 rfl ?_
    refine zg_sub [1, 2, 0] rfl ?_
    exact hrec _ _ hw
theorem aL_X4_copyTable_2 {p : Program} {l : Launch} {e : Env} {s : State} {m : MethodId} {args : Array Value} {below : List Frame} {meth : Method} {c : Code} {D : va_G} {cy : Nat → ClassId} {A : Nat → Prop} {Q : State → Prop} {Z : zZ} (C0 : zC p s m args meth c cX4_copyTable 3 wsX4_copyTable RX4 D cy A none) {x0 : Nat} {x1 : Nat} {Qp : zS → Prop} {K : zS → Prop} (hK : ∀  S, K  S → zG p l e rm_X4_copyTable s m args below meth c D cy A 3 0 0 Q Z S 26 [(0, .ref x0), (1, .ref x1)] []) : ∀ x2 S, wL_X4_copyTable_2 Z x0 x1 Qp K x2 S → zG p l e rm_X4_copyTable s m args below meth c D cy A 3 0 0 Q Z S 2 [(0, .ref x0), (1, .ref x1), (2, .int x2)] [] := by
  intro x2 S hw
  obtain ⟨n, hw⟩ := hw
  induction n generalizing x2 S with
  | zero => exact hw.elim
  | succ n ih => exact ab_X4_copyTable_2 C0 hK (fun x2 S hw => ih x2 S hw) hw
def w_X4_copyTable (Z : zZ) (h0 : Nat) (p0 : Nat) (S : zS) (Qp : zS → Prop) : Prop :=
  wL_X4_copyTable_2 Z h0 p0 Qp (fun  (S14 : zS) => zk Z p0 4 ∧ zk Z h0 4 ∧ ∀ S17 : zS, S17 = zsI S14 h0 2 (zI S14 p0 2) → ∀ S18 : zS, S18 = zsJ S17 h0 3 (zJ S17 p0 3) → Qp S18) 0 S
set_option maxHeartbeats 4000000 in
set_option maxRecDepth 100000 in
theorem a_X4_copyTable (l : Launch) (D : va_G) (cy : Nat → ClassId) (Z : zZ) (S : zS) (sz : Nat) (h0 : Nat) (p0 : Nat) (Qp : zS → Prop) (hw : w_X4_copyTable Z h0 p0 S Qp) : zMv l yX4_copyTable wsX4_copyTable rm_X4_copyTable D cy Z S sz [.ref h0, .ref p0] Qp := by
  unfold w_X4_copyTable at hw
  refine zMv_of (cc := cX4_copyTable) (maxL := 3) (rt := none) (by decide +kernel) rfl (Nat.le_of_ble_eq_true rfl) ?_
  intro p e s m args below meth c A C0 _
  refine zg_lv (lv' := [(0, .ref h0), (1, .ref p0)]) rfl ?_
  refine zg_iconst (q := 1) C0 dX4_copyTable_0 zc_iconst_0 rfl ?_
  refine zg_istore_n (q := 2) (lv' := [(2, .int 0), (0, .ref h0), (1, .ref p0)]) C0 dX4_copyTable_1 (by decide) rfl rfl ?_
  refine zg_sub [1, 2, 0] rfl ?_
  refine aL_X4_copyTable_2 C0 (fun  S14 hw => ?_) _ _ hw
  refine zg_aload_n (q := 27) C0 0 dX4_copyTable_26 rfl rfl ?_
  refine zg_aload_n (q := 28) C0 1 dX4_copyTable_27 rfl rfl ?_
  obtain ⟨hz15, hw⟩ := hw
  refine zg_get (q := 31) (T := TX4) (k := 2) C0 dX4_copyTable_28 hz15 (zF_4 cy hz15) rfl (by decide) hX_X4_copyTable_4 (zwm (i := 2) rfl) rfl rfl rfl ?_
  obtain ⟨hz16, hw⟩ := hw
  refine zg_putI (q := 34) (T := TX4) (k := 2) (ty0 := tyX4) C0 dX4_copyTable_31 hz16 (zF_4 cy hz16) rfl (by decide) hX_X4_copyTable_4 tyX4_ok nmX4 (zwm (i := 2) rfl) rfl rfl rfl rfl (Nat.le_of_ble_eq_true rfl) (zF_4 cy hz16) (zP_4_2 Z S14 _ _) rfl (fun S17 eS17 => ?_)
  have hw := hw S17 eS17
  refine zg_aload_n (q := 35) C0 0 dX4_copyTable_34 rfl rfl ?_
  refine zg_aload_n (q := 36) C0 1 dX4_copyTable_35 rfl rfl ?_
  refine zg_get (q := 39) (T := TX4) (k := 3) C0 dX4_copyTable_36 hz15 (zF_4 cy hz15) rfl (by decide) hX_X4_copyTable_4 (zwm (i := 3) rfl) rfl rfl rfl ?_
  refine zg_putJ (q := 42) (T := TX4) (k := 3) (ty0 := tyX4) C0 dX4_copyTable_39 hz16 (zF_4 cy hz16) rfl (by decide) hX_X4_copyTable_4 tyX4_ok nmX4 (zwm (i := 3) rfl) rfl rfl rfl rfl (Nat.le_of_ble_eq_true rfl) (zF_4 cy hz16) (zP_4_3 Z S17 _ _) rfl (fun S18 eS18 => ?_)
  have hw := hw S18 eS18
  exact zg_vret C0 dX4_copyTable_42 rfl (Nat.le_refl 0) (Nat.le_refl 0) hw
-- X5_begin
abbrev rm_X5_begin : Room := { frames := 2, cells := 0, slots := 0, locals := 42 }
theorem hX_X5_begin_5 : ∀ w ∈ u_ws RX5 TX5 6, w ∈ wsX5_begin := by decide +kernel
theorem hdV_X5_begin : yX5_begin.cls = RX5 ∧ yX5_begin.cls ≠ "java/lang/invoke/MethodHandle" ∧ yX5_begin.cls ≠ "java/lang/invoke/VarHandle" ∧ (parseMethodDescriptor yX5_begin.desc).map (fun d => d.parameters.length) = some 2 := by decide +kernel
def wb_X5_begin_25 (Z : zZ) (x0 : Nat) (Qp : zS → Prop) (K : zS → Prop) (rec : Int32 → zS → Prop) (x3 : Int32) (S : zS) : Prop :=
  ((100 < x3 → K S) ∧ (¬ 100 < x3 → zk Z x0 5 ∧ ∃ b9, zQ Z x0 0 = some b9 ∧ zk Z b9 10 ∧ vp_in x3 (zN Z b9) ∧ ∀ S13 : zS, S13 = zsI S b9 x3.toNatClampNeg 0 → ∀ y14 : Int32, y14 = x3 + 1 → rec y14 S13))
def wL_X5_begin_25 (Z : zZ) (x0 : Nat) (Qp : zS → Prop) (K : zS → Prop) (x3 : Int32) (S : zS) : Prop := ∃ n, zit2 (wb_X5_begin_25 Z x0 Qp K) n x3 S
set_option maxHeartbeats 4000000 in
set_option maxRecDepth 100000 in
theorem ab_X5_begin_25 {p : Program} {l : Launch} {e : Env} {s : State} {m : MethodId} {args : Array Value} {below : List Frame} {meth : Method} {c : Code} {D : va_G} {cy : Nat → ClassId} {A : Nat → Prop} {Q : State → Prop} {Z : zZ} (C0 : zC p s m args meth c cX5_begin 4 wsX5_begin RX5 D cy A none) {x0 : Nat} {Qp : zS → Prop} {K : zS → Prop} (hK : ∀  S, K  S → zG p l e rm_X5_begin s m args below meth c D cy A 4 0 0 Q Z S 44 [(0, .ref x0)] []) {rec : Int32 → zS → Prop} (hrec : ∀ x3 S, rec x3 S → zG p l e rm_X5_begin s m args below meth c D cy A 4 0 0 Q Z S 25 [(0, .ref x0), (3, .int x3)] []) {x3 : Int32} {S : zS} (hw : wb_X5_begin_25 Z x0 Qp K rec x3 S) : zG p l e rm_X5_begin s m args below meth c D cy A 4 0 0 Q Z S 25 [(0, .ref x0), (3, .int x3)] [] := by
  unfold wb_X5_begin_25 at hw
  refine zg_iload_n (q := 26) C0 1 dX5_begin_25 rfl rfl ?_
  refine zg_bipush (q := 28) C0 dX5_begin_26 zc_bipush_100 rfl ?_
  refine zg_icmp_gt (q := 31) (tgt := 44) C0 dX5_begin_28 rfl rfl (fun c15 => ?_) (fun c15 => ?_)
  · have hw := hw.1 c15
    refine zg_sub [0] rfl ?_
    exact hK  _ hw
  · have hw := hw.2 c15
    refine zg_aload_n (q := 32) C0 0 dX5_begin_31 rfl rfl ?_
    obtain ⟨hz8, hw⟩ := hw
    refine zg_get (q := 35) (T := TX5) (k := 0) C0 dX5_begin_32 hz8 (zF_5 cy hz8) rfl (by decide) hX_X5_begin_5 (zwm (i := 5) rfl) rfl rfl rfl ?_
    obtain ⟨b9, hb10, hw⟩ := hw
    refine zg_nn hb10 ?_
    refine zg_iload_n (q := 36) C0 1 dX5_begin_35 rfl rfl ?_
    refine zg_iconst (q := 37) C0 dX5_begin_36 zc_iconst_0 rfl ?_
    obtain ⟨hz11, hw⟩ := hw
    obtain ⟨hi12, hw⟩ := hw
    refine zg_zast (q := 38) C0 dX5_begin_37 hz11 hi12 (by decide) rfl (fun S13 eS13 => ?_)
    have hw := hw S13 eS13
    refine zg_iinc (q := 41) C0 1 dX5_begin_38 rfl (by decide) zc_iconst_1 rfl (fun y14 ey14 => ?_)
    have hw := hw y14 ey14
    refine zg_lv (lv' := [(3, .int y14), (0, .ref x0)]) rfl ?_
    refine zg_goto (tgt := 25) C0 dX5_begin_41 rfl ?_
    refine zg_sub [1, 0] rfl ?_
    exact hrec _ _ hw
theorem aL_X5_begin_25 {p : Program} {l : Launch} {e : Env} {s : State} {m : MethodId} {args : Array Value} {below : List Frame} {meth : Method} {c : Code} {D : va_G} {cy : Nat → ClassId} {A : Nat → Prop} {Q : State → Prop} {Z : zZ} (C0 : zC p s m args meth c cX5_begin 4 wsX5_begin RX5 D cy A none) {x0 : Nat} {Qp : zS → Prop} {K : zS → Prop} (hK : ∀  S, K  S → zG p l e rm_X5_begin s m args below meth c D cy A 4 0 0 Q Z S 44 [(0, .ref x0)] []) : ∀ x3 S, wL_X5_begin_25 Z x0 Qp K x3 S → zG p l e rm_X5_begin s m args below meth c D cy A 4 0 0 Q Z S 25 [(0, .ref x0), (3, .int x3)] [] := by
  intro x3 S hw
  obtain ⟨n, hw⟩ := hw
  induction n generalizing x3 S with
  | zero => exact hw.elim
  | succ n ih => exact ab_X5_begin_25 C0 hK (fun x3 S hw => ih x3 S hw) hw
def wb_X5_begin_46 (Z : zZ) (x0 : Nat) (Qp : zS → Prop) (K : zS → Prop) (rec : Int32 → zS → Prop) (x3 : Int32) (S : zS) : Prop :=
  ((8 ≤ x3 → K S) ∧ (¬ 8 ≤ x3 → zk Z x0 5 ∧ ∃ b18, zQ Z x0 1 = some b18 ∧ zk Z b18 8 ∧ vp_in x3 (zN Z b18) ∧ ∀ S22 : zS, S22 = zsI S b18 x3.toNatClampNeg 0 → ∀ y23 : Int32, y23 = x3 + 1 → rec y23 S22))
def wL_X5_begin_46 (Z : zZ) (x0 : Nat) (Qp : zS → Prop) (K : zS → Prop) (x3 : Int32) (S : zS) : Prop := ∃ n, zit2 (wb_X5_begin_46 Z x0 Qp K) n x3 S
set_option maxHeartbeats 4000000 in
set_option maxRecDepth 100000 in
theorem ab_X5_begin_46 {p : Program} {l : Launch} {e : Env} {s : State} {m : MethodId} {args : Array Value} {below : List Frame} {meth : Method} {c : Code} {D : va_G} {cy : Nat → ClassId} {A : Nat → Prop} {Q : State → Prop} {Z : zZ} (C0 : zC p s m args meth c cX5_begin 4 wsX5_begin RX5 D cy A none) {x0 : Nat} {Qp : zS → Prop} {K : zS → Prop} (hK : ∀  S, K  S → zG p l e rm_X5_begin s m args below meth c D cy A 4 0 0 Q Z S 65 [] []) {rec : Int32 → zS → Prop} (hrec : ∀ x3 S, rec x3 S → zG p l e rm_X5_begin s m args below meth c D cy A 4 0 0 Q Z S 46 [(0, .ref x0), (3, .int x3)] []) {x3 : Int32} {S : zS} (hw : wb_X5_begin_46 Z x0 Qp K rec x3 S) : zG p l e rm_X5_begin s m args below meth c D cy A 4 0 0 Q Z S 46 [(0, .ref x0), (3, .int x3)] [] := by
  unfold wb_X5_begin_46 at hw
  refine zg_iload_n (q := 47) C0 1 dX5_begin_46 rfl rfl ?_
  refine zg_bipush (q := 49) C0 dX5_begin_47 zc_bipush_8 rfl ?_
  refine zg_icmp_ge (q := 52) (tgt := 65) C0 dX5_begin_49 rfl rfl (fun c24 => ?_) (fun c24 => ?_)
  · have hw := hw.1 c24
    refine zg_sub [] rfl ?_
    exact hK  _ hw
  · have hw := hw.2 c24
    refine zg_aload_n (q := 53) C0 0 dX5_begin_52 rfl rfl ?_
    obtain ⟨hz17, hw⟩ := hw
    refine zg_get (q := 56) (T := TX5) (k := 1) C0 dX5_begin_53 hz17 (zF_5 cy hz17) rfl (by decide) hX_X5_begin_5 (zwm (i := 6) rfl) rfl rfl rfl ?_
    obtain ⟨b18, hb19, hw⟩ := hw
    refine zg_nn hb19 ?_
    refine zg_iload_n (q := 57) C0 1 dX5_begin_56 rfl rfl ?_
    refine zg_iconst (q := 58) C0 dX5_begin_57 zc_iconst_0 rfl ?_
    obtain ⟨hz20, hw⟩ := hw
    obtain ⟨hi21, hw⟩ := hw
    refine zg_iast (q := 59) C0 dX5_begin_58 hz20 hi21 rfl (fun S22 eS22 => ?_)
    have hw := hw S22 eS22
    refine zg_iinc (q := 62) C0 1 dX5_begin_59 rfl (by decide) zc_iconst_1 rfl (fun y23 ey23 => ?_)
    have hw := hw y23 ey23
    refine zg_lv (lv' := [(3, .int y23), (0, .ref x0)]) rfl ?_
    refine zg_goto (tgt := 46) C0 dX5_begin_62 rfl ?_
    refine zg_sub [1, 0] rfl ?_
    exact hrec _ _ hw
theorem aL_X5_begin_46 {p : Program} {l : Launch} {e : Env} {s : State} {m : MethodId} {args : Array Value} {below : List Frame} {meth : Method} {c : Code} {D : va_G} {cy : Nat → ClassId} {A : Nat → Prop} {Q : State → Prop} {Z : zZ} (C0 : zC p s m args meth c cX5_begin 4 wsX5_begin RX5 D cy A none) {x0 : Nat} {Qp : zS → Prop} {K : zS → Prop} (hK : ∀  S, K  S → zG p l e rm_X5_begin s m args below meth c D cy A 4 0 0 Q Z S 65 [] []) : ∀ x3 S, wL_X5_begin_46 Z x0 Qp K x3 S → zG p l e rm_X5_begin s m args below meth c D cy A 4 0 0 Q Z S 46 [(0, .ref x0), (3, .int x3)] [] := by
  intro x3 S hw
  obtain ⟨n, hw⟩ := hw
  induction n generalizing x3 S with
  | zero => exact hw.elim
  | succ n ih => exact ab_X5_begin_46 C0 hK (fun x3 S hw => ih x3 S hw) hw
def w_X5_begin (Z : zZ) (h0 : Nat) (p0 : Int32) (p1 : Int32) (S : zS) (Qp : zS → Prop) : Prop :=
  zk Z h0 5 ∧ ∀ S2 : zS, S2 = zsI S h0 2 p0 → ∀ S3 : zS, S3 = zsI S2 h0 3 p1 → w_X6_leastOf Z p1 S3 (fun (v5 : Int32) (S4 : zS) => ∀ S6 : zS, S6 = zsI S4 h0 4 v5 → ∀ S7 : zS, S7 = zsI S6 h0 5 0 → wL_X5_begin_25 Z h0 Qp (fun  (S16 : zS) => wL_X5_begin_46 Z h0 Qp (fun  (S25 : zS) => Qp S25) 0 S16) 0 S7)
set_option maxHeartbeats 4000000 in
set_option maxRecDepth 100000 in
theorem a_X5_begin (l : Launch) (D : va_G) (cy : Nat → ClassId) (Z : zZ) (S : zS) (sz : Nat) (h0 : Nat) (p0 : Int32) (p1 : Int32) (Qp : zS → Prop) (hw : w_X5_begin Z h0 p0 p1 S Qp) : zMv l yX5_begin wsX5_begin rm_X5_begin D cy Z S sz [.ref h0, .int p0, .int p1] Qp := by
  unfold w_X5_begin at hw
  refine zMv_of (cc := cX5_begin) (maxL := 4) (rt := none) (by decide +kernel) rfl (Nat.le_of_ble_eq_true rfl) ?_
  intro p e s m args below meth c A C0 _
  refine zg_lv (lv' := [(0, .ref h0), (1, .int p0), (2, .int p1)]) rfl ?_
  refine zg_aload_n (q := 1) C0 0 dX5_begin_0 rfl rfl ?_
  refine zg_iload_n (q := 2) C0 1 dX5_begin_1 rfl rfl ?_
  obtain ⟨hz1, hw⟩ := hw
  refine zg_putI (q := 5) (T := TX5) (k := 2) (ty0 := tyX5) C0 dX5_begin_2 hz1 (zF_5 cy hz1) rfl (by decide) hX_X5_begin_5 tyX5_ok nmX5 (zwm (i := 1) rfl) rfl rfl rfl rfl (Nat.le_of_ble_eq_true rfl) (zF_5 cy hz1) (zP_5_2 Z S _ _) rfl (fun S2 eS2 => ?_)
  have hw := hw S2 eS2
  refine zg_aload_n (q := 6) C0 0 dX5_begin_5 rfl rfl ?_
  refine zg_iload_n (q := 7) C0 2 dX5_begin_6 rfl rfl ?_
  refine zg_putI (q := 10) (T := TX5) (k := 3) (ty0 := tyX5) C0 dX5_begin_7 hz1 (zF_5 cy hz1) rfl (by decide) hX_X5_begin_5 tyX5_ok nmX5 (zwm (i := 2) rfl) rfl rfl rfl rfl (Nat.le_of_ble_eq_true rfl) (zF_5 cy hz1) (zP_5_3 Z S2 _ _) rfl (fun S3 eS3 => ?_)
  have hw := hw S3 eS3
  refine zg_aload_n (q := 11) C0 0 dX5_begin_10 rfl rfl ?_
  refine zg_iload_n (q := 12) C0 2 dX5_begin_11 rfl rfl ?_
  refine zg_callSNi (q := 15) C0 [.int p1] [.ref h0] dX5_begin_12 (fun sz => a_X6_leastOf l D cy Z S3 sz p1 _ hw) rfl gX5_begin_X6_leastOf_n29 hdS_X6_leastOf (zwm (i := 5) rfl) (zwm (i := 8) rfl) (zwm (i := 7) rfl) rfl ⟨Nat.le_of_ble_eq_true rfl, Nat.le_of_ble_eq_true rfl⟩ (Nat.le_of_ble_eq_true rfl) ⟨Nat.zero_le _, Nat.zero_le _⟩ ⟨rfl, rfl⟩ rfl (fun v5 S4 hw => ?_)
  refine zg_putI (q := 18) (T := TX5) (k := 4) (ty0 := tyX5) C0 dX5_begin_15 hz1 (zF_5 cy hz1) rfl (by decide) hX_X5_begin_5 tyX5_ok nmX5 (zwm (i := 3) rfl) rfl rfl rfl rfl (Nat.le_of_ble_eq_true rfl) (zF_5 cy hz1) (zP_5_4 Z S4 _ _) rfl (fun S6 eS6 => ?_)
  have hw := hw S6 eS6
  refine zg_aload_n (q := 19) C0 0 dX5_begin_18 rfl rfl ?_
  refine zg_iconst (q := 20) C0 dX5_begin_19 zc_iconst_0 rfl ?_
  refine zg_putI (q := 23) (T := TX5) (k := 5) (ty0 := tyX5) C0 dX5_begin_20 hz1 (zF_5 cy hz1) rfl (by decide) hX_X5_begin_5 tyX5_ok nmX5 (zwm (i := 4) rfl) rfl rfl rfl rfl (Nat.le_of_ble_eq_true rfl) (zF_5 cy hz1) (zP_5_5 Z S6 _ _) rfl (fun S7 eS7 => ?_)
  have hw := hw S7 eS7
  refine zg_iconst (q := 24) C0 dX5_begin_23 zc_iconst_0 rfl ?_
  refine zg_istore_n (q := 25) (lv' := [(3, .int 0), (0, .ref h0), (1, .int p0), (2, .int p1)]) C0 dX5_begin_24 (by decide) rfl rfl ?_
  refine zg_sub [1, 0] rfl ?_
  refine aL_X5_begin_25 C0 (fun  S16 hw => ?_) _ _ hw
  refine zg_iconst (q := 45) C0 dX5_begin_44 zc_iconst_0 rfl ?_
  refine zg_istore_n (q := 46) (lv' := [(3, .int 0), (0, .ref h0)]) C0 dX5_begin_45 (by decide) rfl rfl ?_
  refine zg_sub [1, 0] rfl ?_
  refine aL_X5_begin_46 C0 (fun  S25 hw => ?_) _ _ hw
  exact zg_vret C0 dX5_begin_65 rfl (Nat.le_refl 0) (Nat.le_refl 0) hw
-- X5_memberBehind
abbrev rm_X5_memberBehind : Room := { frames := 1, cells := 0, slots := 0, locals := 21 }
theorem hX_X5_memberBehind_5 : ∀ w ∈ u_ws RX5 TX5 6, w ∈ wsX5_memberBehind := by decide +kernel
theorem hdV_X5_memberBehind : yX5_memberBehind.cls = RX5 ∧ yX5_memberBehind.cls ≠ "java/lang/invoke/MethodHandle" ∧ yX5_memberBehind.cls ≠ "java/lang/invoke/VarHandle" ∧ (parseMethodDescriptor yX5_memberBehind.desc).map (fun d => d.parameters.length) = some 1 := by decide +kernel
def wb_X5_memberBehind_2 (Z : zZ) (x0 : Nat) (x1 : Int32) (Qp : Int32 → zS → Prop) (K : zS → Prop) (rec : Int32 → zS → Prop) (x2 : Int32) (S : zS) : Prop :=
  ((8 ≤ x2 → K S) ∧ (¬ 8 ≤ x2 → ∀ y1 : Int32, y1 = (x1 + x2) - (x1 + x2) / 8 * 8 → zk Z x0 5 ∧ w_X6_isIn Z y1 (zI S x0 3) S (fun (v4 : Int32) (S3 : zS) => ((v4 = 0 → ∀ y5 : Int32, y5 = x2 + 1 → rec y5 S3) ∧ (¬ v4 = 0 → Qp y1 S3)))))
def wL_X5_memberBehind_2 (Z : zZ) (x0 : Nat) (x1 : Int32) (Qp : Int32 → zS → Prop) (K : zS → Prop) (x2 : Int32) (S : zS) : Prop := ∃ n, zit2 (wb_X5_memberBehind_2 Z x0 x1 Qp K) n x2 S
set_option maxHeartbeats 4000000 in
set_option maxRecDepth 100000 in
theorem ab_X5_memberBehind_2 {p : Program} {l : Launch} {e : Env} {s : State} {m : MethodId} {args : Array Value} {below : List Frame} {meth : Method} {c : Code} {D : va_G} {cy : Nat → ClassId} {A : Nat → Prop} {Z : zZ} (C0 : zC p s m args meth c cX5_memberBehind 4 wsX5_memberBehind RX5 D cy A (some .int)) {x0 : Nat} {x1 : Int32} {Qp : Int32 → zS → Prop} {K : zS → Prop} (hK : ∀  S, K  S → zG p l e rm_X5_memberBehind s m args below meth c D cy A 4 0 0 (zQi below D cy A Z Qp args s 0 0) Z S 34 [(1, .int x1)] []) {rec : Int32 → zS → Prop} (hrec : ∀ x2 S, rec x2 S → zG p l e rm_X5_memberBehind s m args below meth c D cy A 4 0 0 (zQi below D cy A Z Qp args s 0 0) Z S 2 [(0, .ref x0), (1, .int x1), (2, .int x2)] []) {x2 : Int32} {S : zS} (hw : wb_X5_memberBehind_2 Z x0 x1 Qp K rec x2 S) : zG p l e rm_X5_memberBehind s m args below meth c D cy A 4 0 0 (zQi below D cy A Z Qp args s 0 0) Z S 2 [(0, .ref x0), (1, .int x1), (2, .int x2)] [] := by
  unfold wb_X5_memberBehind_2 at hw
  refine zg_iload_n (q := 3) C0 2 dX5_memberBehind_2 rfl rfl ?_
  refine zg_bipush (q := 5) C0 dX5_memberBehind_3 zc_bipush_8 rfl ?_
  refine zg_icmp_ge (q := 8) (tgt := 34) C0 dX5_memberBehind_5 rfl rfl (fun c7 => ?_) (fun c7 => ?_)
  · have hw := hw.1 c7
    refine zg_sub [1] rfl ?_
    exact hK  _ hw
  · have hw := hw.2 c7
    refine zg_iload_n (q := 9) C0 1 dX5_memberBehind_8 rfl rfl ?_
    refine zg_iload_n (q := 10) C0 2 dX5_memberBehind_9 rfl rfl ?_
    refine zg_iadd (q := 11) C0 dX5_memberBehind_10 rfl ?_
    refine zg_bipush (q := 13) C0 dX5_memberBehind_11 zc_bipush_8 rfl ?_
    refine zg_irem (q := 14) C0 dX5_memberBehind_13 (by decide) rfl ?_
    refine zg_ni (fun y1 ey1 => ?_)
    have hw := hw y1 ey1
    refine zg_istore_n (q := 15) (lv' := [(3, .int y1), (0, .ref x0), (1, .int x1), (2, .int x2)]) C0 dX5_memberBehind_14 (by decide) rfl rfl ?_
    refine zg_iload_n (q := 16) C0 0 dX5_memberBehind_15 rfl rfl ?_
    refine zg_aload_n (q := 17) C0 1 dX5_memberBehind_16 rfl rfl ?_
    obtain ⟨hz2, hw⟩ := hw
    refine zg_get (q := 20) (T := TX5) (k := 3) C0 dX5_memberBehind_17 hz2 (zF_5 cy hz2) rfl (by decide) hX_X5_memberBehind_5 (zwm (i := 1) rfl) rfl rfl rfl ?_
    refine zg_callSNi (q := 23) C0 [.int y1, .int (zI S x0 3)] [] dX5_memberBehind_20 (fun sz => a_X6_isIn l D cy Z S sz y1 (zI S x0 3) _ hw) rfl gX5_memberBehind_X6_isIn_n36 hdS_X6_isIn (zwm (i := 6) rfl) (zwm (i := 3) rfl) (zwm (i := 2) rfl) rfl ⟨Nat.le_of_ble_eq_true rfl, Nat.le_of_ble_eq_true rfl⟩ (Nat.le_of_ble_eq_true rfl) ⟨Nat.zero_le _, Nat.zero_le _⟩ ⟨rfl, rfl⟩ rfl (fun v4 S3 hw => ?_)
    refine zg_if_eq (q := 26) (tgt := 28) C0 dX5_memberBehind_23 rfl rfl (fun c6 => ?_) (fun c6 => ?_)
    · have hw := hw.1 c6
      refine zg_iinc (q := 31) C0 3 dX5_memberBehind_28 rfl (by decide) zc_iconst_1 rfl (fun y5 ey5 => ?_)
      have hw := hw y5 ey5
      refine zg_lv (lv' := [(2, .int y5), (3, .int y1), (0, .ref x0), (1, .int x1)]) rfl ?_
      refine zg_goto (tgt := 2) C0 dX5_memberBehind_31 rfl ?_
      refine zg_sub [2, 3, 0] rfl ?_
      exact hrec _ _ hw
    · have hw := hw.2 c6
      refine zg_iload_n (q := 27) C0 0 dX5_memberBehind_26 rfl rfl ?_
      exact zg_iret C0 dX5_memberBehind_27 rfl rfl (Nat.le_refl 0) (Nat.le_refl 0) hw
theorem aL_X5_memberBehind_2 {p : Program} {l : Launch} {e : Env} {s : State} {m : MethodId} {args : Array Value} {below : List Frame} {meth : Method} {c : Code} {D : va_G} {cy : Nat → ClassId} {A : Nat → Prop} {Z : zZ} (C0 : zC p s m args meth c cX5_memberBehind 4 wsX5_memberBehind RX5 D cy A (some .int)) {x0 : Nat} {x1 : Int32} {Qp : Int32 → zS → Prop} {K : zS → Prop} (hK : ∀  S, K  S → zG p l e rm_X5_memberBehind s m args below meth c D cy A 4 0 0 (zQi below D cy A Z Qp args s 0 0) Z S 34 [(1, .int x1)] []) : ∀ x2 S, wL_X5_memberBehind_2 Z x0 x1 Qp K x2 S → zG p l e rm_X5_memberBehind s m args below meth c D cy A 4 0 0 (zQi below D cy A Z Qp args s 0 0) Z S 2 [(0, .ref x0), (1, .int x1), (2, .int x2)] [] := by
  intro x2 S hw
  obtain ⟨n, hw⟩ := hw
  induction n generalizing x2 S with
  | zero => exact hw.elim
  | succ n ih => exact ab_X5_memberBehind_2 C0 hK (fun x2 S hw => ih x2 S hw) hw
def w_X5_memberBehind (Z : zZ) (h0 : Nat) (p0 : Int32) (S : zS) (Qp : Int32 → zS → Prop) : Prop :=
  wL_X5_memberBehind_2 Z h0 p0 Qp (fun  (S8 : zS) => Qp p0 S8) 1 S
set_option maxHeartbeats 4000000 in
set_option maxRecDepth 100000 in
theorem a_X5_memberBehind (l : Launch) (D : va_G) (cy : Nat → ClassId) (Z : zZ) (S : zS) (sz : Nat) (h0 : Nat) (p0 : Int32) (Qp : Int32 → zS → Prop) (hw : w_X5_memberBehind Z h0 p0 S Qp) : zMi l yX5_memberBehind wsX5_memberBehind rm_X5_memberBehind D cy Z S sz [.ref h0, .int p0] Qp := by
  unfold w_X5_memberBehind at hw
  refine zMi_of (cc := cX5_memberBehind) (maxL := 4) (rt := (some .int)) (by decide +kernel) rfl (Nat.le_of_ble_eq_true rfl) ?_
  intro p e s m args below meth c A C0 _
  refine zg_lv (lv' := [(0, .ref h0), (1, .int p0)]) rfl ?_
  refine zg_iconst (q := 1) C0 dX5_memberBehind_0 zc_iconst_1 rfl ?_
  refine zg_istore_n (q := 2) (lv' := [(2, .int 1), (0, .ref h0), (1, .int p0)]) C0 dX5_memberBehind_1 (by decide) rfl rfl ?_
  refine zg_sub [1, 2, 0] rfl ?_
  refine aL_X5_memberBehind_2 C0 (fun  S8 hw => ?_) _ _ hw
  refine zg_iload_n (q := 35) C0 0 dX5_memberBehind_34 rfl rfl ?_
  exact zg_iret C0 dX5_memberBehind_35 rfl rfl (Nat.le_refl 0) (Nat.le_refl 0) hw
-- X5_leastFull
abbrev rm_X5_leastFull : Room := { frames := 1, cells := 0, slots := 0, locals := 24 }
theorem hX_X5_leastFull_5 : ∀ w ∈ u_ws RX5 TX5 6, w ∈ wsX5_leastFull := by decide +kernel
theorem hdV_X5_leastFull : yX5_leastFull.cls = RX5 ∧ yX5_leastFull.cls ≠ "java/lang/invoke/MethodHandle" ∧ yX5_leastFull.cls ≠ "java/lang/invoke/VarHandle" ∧ (parseMethodDescriptor yX5_leastFull.desc).map (fun d => d.parameters.length) = some 0 := by decide +kernel
def wb_X5_leastFull_5 (Z : zZ) (x0 : Nat) (Qp : Int32 → zS → Prop) (K : Int32 → zS → Prop) (rec : Int32 → Int32 → zS → Prop) (x1 : Int32) (x2 : Int32) (S : zS) : Prop :=
  ((8 ≤ x2 → K x1 S) ∧ (¬ 8 ≤ x2 → zk Z x0 5 ∧ w_X6_isIn Z x2 (zI S x0 3) S (fun (v3 : Int32) (S2 : zS) => ((v3 = 0 → ∀ y4 : Int32, y4 = x2 + 1 → rec x1 y4 S2) ∧ (¬ v3 = 0 → ∃ b5, zQ Z x0 1 = some b5 ∧ zk Z b5 8 ∧ vp_in x2 (zN Z b5) ∧ ∀ y9 : Int32, y9 = (if (zI S2 b5 x2.toNatClampNeg) < x1 then (zI S2 b5 x2.toNatClampNeg) else x1) → ∀ y10 : Int32, y10 = x2 + 1 → rec y9 y10 S2)))))
def wL_X5_leastFull_5 (Z : zZ) (x0 : Nat) (Qp : Int32 → zS → Prop) (K : Int32 → zS → Prop) (x1 : Int32) (x2 : Int32) (S : zS) : Prop := ∃ n, zit3 (wb_X5_leastFull_5 Z x0 Qp K) n x1 x2 S
set_option maxHeartbeats 4000000 in
set_option maxRecDepth 100000 in
theorem ab_X5_leastFull_5 {p : Program} {l : Launch} {e : Env} {s : State} {m : MethodId} {args : Array Value} {below : List Frame} {meth : Method} {c : Code} {D : va_G} {cy : Nat → ClassId} {A : Nat → Prop} {Q : State → Prop} {Z : zZ} (C0 : zC p s m args meth c cX5_leastFull 3 wsX5_leastFull RX5 D cy A (some .int)) {x0 : Nat} {Qp : Int32 → zS → Prop} {K : Int32 → zS → Prop} (hK : ∀ x1 S, K x1 S → zG p l e rm_X5_leastFull s m args below meth c D cy A 3 0 0 Q Z S 39 [(1, .int x1)] []) {rec : Int32 → Int32 → zS → Prop} (hrec : ∀ x1 x2 S, rec x1 x2 S → zG p l e rm_X5_leastFull s m args below meth c D cy A 3 0 0 Q Z S 5 [(0, .ref x0), (1, .int x1), (2, .int x2)] []) {x1 : Int32} {x2 : Int32} {S : zS} (hw : wb_X5_leastFull_5 Z x0 Qp K rec x1 x2 S) : zG p l e rm_X5_leastFull s m args below meth c D cy A 3 0 0 Q Z S 5 [(0, .ref x0), (1, .int x1), (2, .int x2)] [] := by
  unfold wb_X5_leastFull_5 at hw
  refine zg_iload_n (q := 6) C0 2 dX5_leastFull_5 rfl rfl ?_
  refine zg_bipush (q := 8) C0 dX5_leastFull_6 zc_bipush_8 rfl ?_
  refine zg_icmp_ge (q := 11) (tgt := 39) C0 dX5_leastFull_8 rfl rfl (fun c12 => ?_) (fun c12 => ?_)
  · have hw := hw.1 c12
    refine zg_sub [1] rfl ?_
    exact hK _ _ hw
  · have hw := hw.2 c12
    refine zg_iload_n (q := 12) C0 2 dX5_leastFull_11 rfl rfl ?_
    refine zg_aload_n (q := 13) C0 0 dX5_leastFull_12 rfl rfl ?_
    obtain ⟨hz1, hw⟩ := hw
    refine zg_get (q := 16) (T := TX5) (k := 3) C0 dX5_leastFull_13 hz1 (zF_5 cy hz1) rfl (by decide) hX_X5_leastFull_5 (zwm (i := 1) rfl) rfl rfl rfl ?_
    refine zg_callSNi (q := 19) C0 [.int x2, .int (zI S x0 3)] [] dX5_leastFull_16 (fun sz => a_X6_isIn l D cy Z S sz x2 (zI S x0 3) _ hw) rfl gX5_leastFull_X6_isIn_n36 hdS_X6_isIn (zwm (i := 6) rfl) (zwm (i := 8) rfl) (zwm (i := 7) rfl) rfl ⟨Nat.le_of_ble_eq_true rfl, Nat.le_of_ble_eq_true rfl⟩ (Nat.le_of_ble_eq_true rfl) ⟨Nat.zero_le _, Nat.zero_le _⟩ ⟨rfl, rfl⟩ rfl (fun v3 S2 hw => ?_)
    refine zg_if_eq (q := 22) (tgt := 33) C0 dX5_leastFull_19 rfl rfl (fun c11 => ?_) (fun c11 => ?_)
    · have hw := hw.1 c11
      refine zg_iinc (q := 36) C0 2 dX5_leastFull_33 rfl (by decide) zc_iconst_1 rfl (fun y4 ey4 => ?_)
      have hw := hw y4 ey4
      refine zg_lv (lv' := [(2, .int y4), (0, .ref x0), (1, .int x1)]) rfl ?_
      refine zg_goto (tgt := 5) C0 dX5_leastFull_36 rfl ?_
      refine zg_sub [1, 2, 0] rfl ?_
      exact hrec _ _ _ hw
    · have hw := hw.2 c11
      refine zg_iload_n (q := 23) C0 1 dX5_leastFull_22 rfl rfl ?_
      refine zg_aload_n (q := 24) C0 0 dX5_leastFull_23 rfl rfl ?_
      refine zg_get (q := 27) (T := TX5) (k := 1) C0 dX5_leastFull_24 hz1 (zF_5 cy hz1) rfl (by decide) hX_X5_leastFull_5 (zwm (i := 2) rfl) rfl rfl rfl ?_
      obtain ⟨b5, hb6, hw⟩ := hw
      refine zg_nn hb6 ?_
      refine zg_iload_n (q := 28) C0 2 dX5_leastFull_27 rfl rfl ?_
      obtain ⟨hz7, hw⟩ := hw
      obtain ⟨hi8, hw⟩ := hw
      refine zg_iald (q := 29) C0 dX5_leastFull_28 hz7 hi8 rfl ?_
      refine zg_mmin (q := 32) C0 dX5_leastFull_29 (zwm (i := 3) rfl) (zwm (i := 4) rfl) (zwm (i := 5) rfl) (zwm (i := 6) rfl) (Nat.le_of_ble_eq_true rfl) (Nat.le_of_ble_eq_true rfl) ⟨Nat.le_of_ble_eq_true rfl, Nat.le_of_ble_eq_true rfl⟩ rfl ?_
      refine zg_ni (fun y9 ey9 => ?_)
      have hw := hw y9 ey9
      refine zg_istore_n (q := 33) (lv' := [(1, .int y9), (0, .ref x0), (2, .int x2)]) C0 dX5_leastFull_32 (by decide) rfl rfl ?_
      refine zg_iinc (q := 36) C0 2 dX5_leastFull_33 rfl (by decide) zc_iconst_1 rfl (fun y10 ey10 => ?_)
      have hw := hw y10 ey10
      refine zg_lv (lv' := [(2, .int y10), (1, .int y9), (0, .ref x0)]) rfl ?_
      refine zg_goto (tgt := 5) C0 dX5_leastFull_36 rfl ?_
      refine zg_sub [2, 1, 0] rfl ?_
      exact hrec _ _ _ hw
theorem aL_X5_leastFull_5 {p : Program} {l : Launch} {e : Env} {s : State} {m : MethodId} {args : Array Value} {below : List Frame} {meth : Method} {c : Code} {D : va_G} {cy : Nat → ClassId} {A : Nat → Prop} {Q : State → Prop} {Z : zZ} (C0 : zC p s m args meth c cX5_leastFull 3 wsX5_leastFull RX5 D cy A (some .int)) {x0 : Nat} {Qp : Int32 → zS → Prop} {K : Int32 → zS → Prop} (hK : ∀ x1 S, K x1 S → zG p l e rm_X5_leastFull s m args below meth c D cy A 3 0 0 Q Z S 39 [(1, .int x1)] []) : ∀ x1 x2 S, wL_X5_leastFull_5 Z x0 Qp K x1 x2 S → zG p l e rm_X5_leastFull s m args below meth c D cy A 3 0 0 Q Z S 5 [(0, .ref x0), (1, .int x1), (2, .int x2)] [] := by
  intro x1 x2 S hw
  obtain ⟨n, hw⟩ := hw
  induction n generalizing x1 x2 S with
  | zero => exact hw.elim
  | succ n ih => exact ab_X5_leastFull_5 C0 hK (fun x1 x2 S hw => ih x1 x2 S hw) hw
def w_X5_leastFull (Z : zZ) (h0 : Nat) (S : zS) (Qp : Int32 → zS → Prop) : Prop :=
  wL_X5_leastFull_5 Z h0 Qp (fun (v14 : Int32) (S13 : zS) => Qp v14 S13) 100 0 S
set_option maxHeartbeats 4000000 in
set_option maxRecDepth 100000 in
theorem a_X5_leastFull (l : Launch) (D : va_G) (cy : Nat → ClassId) (Z : zZ) (S : zS) (sz : Nat) (h0 : Nat) (Qp : Int32 → zS → Prop) (hw : w_X5_leastFull Z h0 S Qp) : zMi l yX5_leastFull wsX5_leastFull rm_X5_leastFull D cy Z S sz [.ref h0] Qp := by
  unfold w_X5_leastFull at hw
  refine zMi_of (cc := cX5_leastFull) (maxL := 3) (rt := (some .int)) (by decide +kernel) rfl (Nat.le_of_ble_eq_true rfl) ?_
  intro p e s m args below meth c A C0 _
  refine zg_lv (lv' := [(0, .ref h0)]) rfl ?_
  refine zg_bipush (q := 2) C0 dX5_leastFull_0 zc_bipush_100 rfl ?_
  refine zg_istore_n (q := 3) (lv' := [(1, .int 100), (0, .ref h0)]) C0 dX5_leastFull_2 (by decide) rfl rfl ?_
  refine zg_iconst (q := 4) C0 dX5_leastFull_3 zc_iconst_0 rfl ?_
  refine zg_istore_n (q := 5) (lv' := [(2, .int 0), (1, .int 100), (0, .ref h0)]) C0 dX5_leastFull_4 (by decide) rfl rfl ?_
  refine zg_sub [2, 1, 0] rfl ?_
  refine aL_X5_leastFull_5 C0 (fun v14 S13 hw => ?_) _ _ _ hw
  refine zg_iload_n (q := 40) C0 0 dX5_leastFull_39 rfl rfl ?_
  exact zg_iret C0 dX5_leastFull_40 rfl rfl (Nat.le_refl 0) (Nat.le_refl 0) hw
