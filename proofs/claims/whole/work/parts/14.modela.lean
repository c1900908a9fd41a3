-- X7_thrown
abbrev rm_X7_thrown : Room := { frames := 0, cells := 0, slots := 0, locals := 0 }
theorem hX_X7_thrown_7 : ∀ w ∈ u_ws RX7 TX7 36, w ∈ wsX7_thrown := by decide +kernel
theorem hdV_X7_thrown : yX7_thrown.cls = RX7 ∧ yX7_thrown.cls ≠ "java/lang/invoke/MethodHandle" ∧ yX7_thrown.cls ≠ "java/lang/invoke/VarHandle" ∧ (parseMethodDescriptor yX7_thrown.desc).map (fun d => d.parameters.length) = some 0 := by decide +kernel
def w_X7_thrown (Z : zZ) (h0 : Nat) (S : zS) (Qp : Int32 → zS → Prop) : Prop :=
  zk Z h0 7 ∧ Qp (zI S h0 0) S
set_option maxHeartbeats 4000000 in
set_option maxRecDepth 100000 in
theorem a_X7_thrown (l : Launch) (D : va_G) (cy : Nat → ClassId) (Z : zZ) (S : zS) (sz : Nat) (h0 : Nat) (Qp : Int32 → zS → Prop) (hw : w_X7_thrown Z h0 S Qp) : zMi l yX7_thrown wsX7_thrown rm_X7_thrown D cy Z S sz [.ref h0] Qp := by
  unfold w_X7_thrown at hw
  refine zMi_of (cc := cX7_thrown) (maxL := 1) (rt := (some .int)) (by decide +kernel) rfl (Nat.le_of_ble_eq_true rfl) ?_
  intro p e s m args below meth c A C0 _
  refine zg_lv (lv' := [(0, .ref h0)]) rfl ?_
  refine zg_aload_n (q := 1) C0 0 dX7_thrown_0 rfl rfl ?_
  obtain ⟨hz1, hw⟩ := hw
  refine zg_get (q := 4) (T := TX7) (k := 0) C0 dX7_thrown_1 hz1 (zF_7 cy hz1) rfl (by decide) hX_X7_thrown_7 (zwm (i := 1) rfl) rfl rfl rfl ?_
  exact zg_iret C0 dX7_thrown_4 rfl rfl (Nat.le_refl 0) (Nat.le_refl 0) hw
-- X7_noNode
abbrev rm_X7_noNode : Room := { frames := 0, cells := 0, slots := 0, locals := 0 }
theorem hX_X7_noNode_7 : ∀ w ∈ u_ws RX7 TX7 36, w ∈ wsX7_noNode := by decide +kernel
theorem hdV_X7_noNode : yX7_noNode.cls = RX7 ∧ yX7_noNode.cls ≠ "java/lang/invoke/MethodHandle" ∧ yX7_noNode.cls ≠ "java/lang/invoke/VarHandle" ∧ (parseMethodDescriptor yX7_noNode.desc).map (fun d => d.parameters.length) = some 1 := by decide +kernel
def w_X7_noNode (Z : zZ) (h0 : Nat) (p0 : Int32) (S : zS) (Qp : Int32 → zS → Prop) : Prop :=
  ((p0 < 0 → Qp 1 S) ∧ (¬ p0 < 0 → zk Z h0 7 ∧ ((p0 < (zI S h0 1) → Qp 0 S) ∧ (¬ p0 < (zI S h0 1) → Qp 1 S))))
set_option maxHeartbeats 4000000 in
set_option maxRecDepth 100000 in
theorem a_X7_noNode (l : Launch) (D : va_G) (cy : Nat → ClassId) (Z : zZ) (S : zS) (sz : Nat) (h0 : Nat) (p0 : Int32) (Qp : Int32 → zS → Prop) (hw : w_X7_noNode Z h0 p0 S Qp) : zMi l yX7_noNode wsX7_noNode rm_X7_noNode D cy Z S sz [.ref h0, .int p0] Qp := by
  unfold w_X7_noNode at hw
  refine zMi_of (cc := cX7_noNode) (maxL := 2) (rt := (some .boolean)) (by decide +kernel) rfl (Nat.le_of_ble_eq_true rfl) ?_
  intro p e s m args below meth c A C0 _
  refine zg_lv (lv' := [(0, .ref h0), (1, .int p0)]) rfl ?_
  refine zg_iload_n (q := 1) C0 1 dX7_noNode_0 rfl rfl ?_
  refine zg_if_lt (q := 4) (tgt := 12) C0 dX7_noNode_1 rfl rfl (fun c3 => ?_) (fun c3 => ?_)
  · have hw := hw.1 c3
    refine zg_iconst (q := 13) C0 dX7_noNode_12 zc_iconst_1 rfl ?_
    refine zg_goto (tgt := 17) C0 dX7_noNode_13 rfl ?_
    exact zg_iret C0 dX7_noNode_17 rfl (by decide) (Nat.le_refl 0) (Nat.le_refl 0) hw
  · have hw := hw.2 c3
    refine zg_iload_n (q := 5) C0 1 dX7_noNode_4 rfl rfl ?_
    refine zg_aload_n (q := 6) C0 0 dX7_noNode_5 rfl rfl ?_
    obtain ⟨hz1, hw⟩ := hw
    refine zg_get (q := 9) (T := TX7) (k := 1) C0 dX7_noNode_6 hz1 (zF_7 cy hz1) rfl (by decide) hX_X7_noNode_7 (zwm (i := 1) rfl) rfl rfl rfl ?_
    refine zg_icmp_lt (q := 12) (tgt := 16) C0 dX7_noNode_9 rfl rfl (fun c2 => ?_) (fun c2 => ?_)
    · have hw := hw.1 c2
      refine zg_iconst (q := 17) C0 dX7_noNode_16 zc_iconst_0 rfl ?_
      exact zg_iret C0 dX7_noNode_17 rfl (by decide) (Nat.le_refl 0) (Nat.le_refl 0) hw
    · have hw := hw.2 c2
      refine zg_iconst (q := 13) C0 dX7_noNode_12 zc_iconst_1 rfl ?_
      refine zg_goto (tgt := 17) C0 dX7_noNode_13 rfl ?_
      exact zg_iret C0 dX7_noNode_17 rfl (by decide) (Nat.le_refl 0) (Nat.le_refl 0) hw
-- X7_isIn
abbrev rm_X7_isIn : Room := { frames := 0, cells := 0, slots := 0, locals := 0 }
theorem hdS_X7_isIn : yX7_isIn.cls ≠ "java/lang/invoke/MethodHandle" ∧ yX7_isIn.cls ≠ "java/lang/invoke/VarHandle" ∧ (parseMethodDescriptor yX7_isIn.desc).map (fun d => d.parameters.length) = some 2 := by decide +kernel
def w_X7_isIn (Z : zZ) (p0 : Int32) (p1 : Int32) (S : zS) (Qp : Int32 → zS → Prop) : Prop :=
  ((¬ ((p0 >>> (p1 &&& 31)) &&& 1) = 1 → Qp 0 S) ∧ (((p0 >>> (p1 &&& 31)) &&& 1) = 1 → Qp 1 S))
set_option maxHeartbeats 4000000 in
set_option maxRecDepth 100000 in
theorem a_X7_isIn (l : Launch) (D : va_G) (cy : Nat → ClassId) (Z : zZ) (S : zS) (sz : Nat) (p0 : Int32) (p1 : Int32) (Qp : Int32 → zS → Prop) (hw : w_X7_isIn Z p0 p1 S Qp) : zMi l yX7_isIn wsX7_isIn rm_X7_isIn D cy Z S sz [.int p0, .int p1] Qp := by
  unfold w_X7_isIn at hw
  refine zMi_of (cc := cX7_isIn) (maxL := 2) (rt := (some .boolean)) (by decide +kernel) rfl (Nat.le_of_ble_eq_true rfl) ?_
  intro p e s m args below meth c A C0 _
  refine zg_lv (lv' := [(0, .int p0), (1, .int p1)]) rfl ?_
  refine zg_iload_n (q := 1) C0 0 dX7_isIn_0 rfl rfl ?_
  refine zg_iload_n (q := 2) C0 1 dX7_isIn_1 rfl rfl ?_
  refine zg_ishr (q := 3) C0 dX7_isIn_2 rfl ?_
  refine zg_iconst (q := 4) C0 dX7_isIn_3 zc_iconst_1 rfl ?_
  refine zg_iand (q := 5) C0 dX7_isIn_4 rfl ?_
  refine zg_iconst (q := 6) C0 dX7_isIn_5 zc_iconst_1 rfl ?_
  refine zg_icmp_ne (q := 9) (tgt := 13) C0 dX7_isIn_6 rfl rfl (fun c1 => ?_) (fun c1 => ?_)
  · have hw := hw.1 c1
    refine zg_iconst (q := 14) C0 dX7_isIn_13 zc_iconst_0 rfl ?_
    exact zg_iret C0 dX7_isIn_14 rfl (by decide) (Nat.le_refl 0) (Nat.le_refl 0) hw
  · have hw := hw.2 c1
    refine zg_iconst (q := 10) C0 dX7_isIn_9 zc_iconst_1 rfl ?_
    refine zg_goto (tgt := 14) C0 dX7_isIn_10 rfl ?_
    exact zg_iret C0 dX7_isIn_14 rfl (by decide) (Nat.le_refl 0) (Nat.le_refl 0) hw
-- X7_place
abbrev rm_X7_place : Room := { frames := 0, cells := 0, slots := 0, locals := 0 }
theorem hdS_X7_place : yX7_place.cls ≠ "java/lang/invoke/MethodHandle" ∧ yX7_place.cls ≠ "java/lang/invoke/VarHandle" ∧ (parseMethodDescriptor yX7_place.desc).map (fun d => d.parameters.length) = some 2 := by decide +kernel
def w_X7_place (Z : zZ) (p0 : Int32) (p1 : Int32) (S : zS) (Qp : Int32 → zS → Prop) : Prop :=
  Qp ((101 * p0) + p1) S
set_option maxHeartbeats 4000000 in
set_option maxRecDepth 100000 in
theorem a_X7_place (l : Launch) (D : va_G) (cy : Nat → ClassId) (Z : zZ) (S : zS) (sz : Nat) (p0 : Int32) (p1 : Int32) (Qp : Int32 → zS → Prop) (hw : w_X7_place Z p0 p1 S Qp) : zMi l yX7_place wsX7_place rm_X7_place D cy Z S sz [.int p0, .int p1] Qp := by
  unfold w_X7_place at hw
  refine zMi_of (cc := cX7_place) (maxL := 2) (rt := (some .int)) (by decide +kernel) rfl (Nat.le_of_ble_eq_true rfl) ?_
  intro p e s m args below meth c A C0 _
  refine zg_lv (lv' := [(0, .int p0), (1, .int p1)]) rfl ?_
  refine zg_bipush (q := 2) C0 dX7_place_0 zc_bipush_101 rfl ?_
  refine zg_iload_n (q := 3) C0 0 dX7_place_2 rfl rfl ?_
  refine zg_imul (q := 4) C0 dX7_place_3 rfl ?_
  refine zg_iload_n (q := 5) C0 1 dX7_place_4 rfl rfl ?_
  refine zg_iadd (q := 6) C0 dX7_place_5 rfl ?_
  exact zg_iret C0 dX7_place_6 rfl rfl (Nat.le_refl 0) (Nat.le_refl 0) hw
-- X7_hasPlace
abbrev rm_X7_hasPlace : Room := { frames := 1, cells := 0, slots := 0, locals := 21 }
theorem hX_X7_hasPlace_7 : ∀ w ∈ u_ws RX7 TX7 36, w ∈ wsX7_hasPlace := by decide +kernel
theorem hdV_X7_hasPlace : yX7_hasPlace.cls = RX7 ∧ yX7_hasPlace.cls ≠ "java/lang/invoke/MethodHandle" ∧ yX7_hasPlace.cls ≠ "java/lang/invoke/VarHandle" ∧ (parseMethodDescriptor yX7_hasPlace.desc).map (fun d => d.parameters.length) = some 2 := by decide +kernel
def w_X7_hasPlace (Z : zZ) (h0 : Nat) (p0 : Int32) (p1 : Int32) (S : zS) (Qp : Int32 → zS → Prop) : Prop :=
  zk Z h0 7 ∧ ∃ b2, zQ Z h0 33 = some b2 ∧ ∃ b4, zQ Z h0 5 = some b4 ∧ zk Z b4 8 ∧ vp_in p0 (zN Z b4) ∧ w_X7_place Z (zI S b4 p0.toNatClampNeg) p1 S (fun (v9 : Int32) (S8 : zS) => zk Z b2 8 ∧ vp_in v9 (zN Z b2) ∧ w_X7_isIn Z (zI S8 b2 v9.toNatClampNeg) p0 S8 (fun (v13 : Int32) (S12 : zS) => zb v13 ∧ Qp v13 S12))
set_option maxHeartbeats 4000000 in
set_option maxRecDepth 100000 in
theorem a_X7_hasPlace (l : Launch) (D : va_G) (cy : Nat → ClassId) (Z : zZ) (S : zS) (sz : Nat) (h0 : Nat) (p0 : Int32) (p1 : Int32) (Qp : Int32 → zS → Prop) (hw : w_X7_hasPlace Z h0 p0 p1 S Qp) : zMi l yX7_hasPlace wsX7_hasPlace rm_X7_hasPlace D cy Z S sz [.ref h0, .int p0, .int p1] Qp := by
  unfold w_X7_hasPlace at hw
  refine zMi_of (cc := cX7_hasPlace) (maxL := 3) (rt := (some .boolean)) (by decide +kernel) rfl (Nat.le_of_ble_eq_true rfl) ?_
  intro p e s m args below meth c A C0 _
  refine zg_lv (lv' := [(0, .ref h0), (1, .int p0), (2, .int p1)]) rfl ?_
  refine zg_aload_n (q := 1) C0 0 dX7_hasPlace_0 rfl rfl ?_
  obtain ⟨hz1, hw⟩ := hw
  refine zg_get (q := 4) (T := TX7) (k := 33) C0 dX7_hasPlace_1 hz1 (zF_7 cy hz1) rfl (by decide) hX_X7_hasPlace_7 (zwm (i := 1) rfl) rfl rfl rfl ?_
  obtain ⟨b2, hb3, hw⟩ := hw
  refine zg_nn hb3 ?_
  refine zg_aload_n (q := 5) C0 0 dX7_hasPlace_4 rfl rfl ?_
  refine zg_get (q := 8) (T := TX7) (k := 5) C0 dX7_hasPlace_5 hz1 (zF_7 cy hz1) rfl (by decide) hX_X7_hasPlace_7 (zwm (i := 2) rfl) rfl rfl rfl ?_
  obtain ⟨b4, hb5, hw⟩ := hw
  refine zg_nn hb5 ?_
  refine zg_iload_n (q := 9) C0 1 dX7_hasPlace_8 rfl rfl ?_
  obtain ⟨hz6, hw⟩ := hw
  obtain ⟨hi7, hw⟩ := hw
  refine zg_iald (q := 10) C0 dX7_hasPlace_9 hz6 hi7 rfl ?_
  refine zg_iload_n (q := 11) C0 2 dX7_hasPlace_10 rfl rfl ?_
  refine zg_callSi (q := 14) C0 [.int (zI S b4 p0.toNatClampNeg), .int p1] [.ref b2] dX7_hasPlace_11 (fun sz => a_X7_place l D cy Z S sz (zI S b4 p0.toNatClampNeg) p1 _ hw) rfl gX7_hasPlace_X7_place hdS_X7_place rfl ⟨Nat.le_of_ble_eq_true rfl, Nat.le_of_ble_eq_true rfl⟩ (Nat.le_of_ble_eq_true rfl) ⟨Nat.zero_le _, Nat.zero_le _⟩ ⟨rfl, rfl⟩ rfl (fun v9 S8 hw => ?_)
  obtain ⟨hz10, hw⟩ := hw
  obtain ⟨hi11, hw⟩ := hw
  refine zg_iald (q := 15) C0 dX7_hasPlace_14 hz10 hi11 rfl ?_
  refine zg_iload_n (q := 16) C0 1 dX7_hasPlace_15 rfl rfl ?_
  refine zg_callSi (q := 19) C0 [.int (zI S8 b2 v9.toNatClampNeg), .int p0] [] dX7_hasPlace_16 (fun sz => a_X7_isIn l D cy Z S8 sz (zI S8 b2 v9.toNatClampNeg) p0 _ hw) rfl gX7_hasPlace_X7_isIn hdS_X7_isIn rfl ⟨Nat.le_of_ble_eq_true rfl, Nat.le_of_ble_eq_true rfl⟩ (Nat.le_of_ble_eq_true rfl) ⟨Nat.zero_le _, Nat.zero_le _⟩ ⟨rfl, rfl⟩ rfl (fun v13 S12 hw => ?_)
  obtain ⟨hb14, hw⟩ := hw
  exact zg_iret C0 dX7_hasPlace_19 rfl (zb_n hb14) (Nat.le_refl 0) (Nat.le_refl 0) hw
-- X7_full
abbrev rm_X7_full : Room := { frames := 2, cells := 0, slots := 0, locals := 43 }
theorem hX_X7_full_7 : ∀ w ∈ u_ws RX7 TX7 36, w ∈ wsX7_full := by decide +kernel
theorem hdV_X7_full : yX7_full.cls = RX7 ∧ yX7_full.cls ≠ "java/lang/invoke/MethodHandle" ∧ yX7_full.cls ≠ "java/lang/invoke/VarHandle" ∧ (parseMethodDescriptor yX7_full.desc).map (fun d => d.parameters.length) = some 1 := by decide +kernel
def wb_X7_full_2 (Z : zZ) (x0 : Nat) (x1 : Int32) (Qp : Int32 → zS → Prop) (K : Int32 → zS → Prop) (rec : Int32 → zS → Prop) (x2 : Int32) (S : zS) : Prop :=
  zk Z x0 7 ∧ ∃ b2, zQ Z x0 28 = some b2 ∧ ∃ b4, zQ Z x0 5 = some b4 ∧ zk Z b4 8 ∧ vp_in x1 (zN Z b4) ∧ zk Z b2 8 ∧ vp_in (zI S b4 x1.toNatClampNeg) (zN Z b2) ∧ (((zI S b2 (zI S b4 x1.toNatClampNeg).toNatClampNeg) ≤ x2 → K x2 S) ∧ (¬ (zI S b2 (zI S b4 x1.toNatClampNeg).toNatClampNeg) ≤ x2 → w_X7_hasPlace Z x0 x1 (x2 + 1) S (fun (v11 : Int32) (S10 : zS) => ((v11 = 0 → K x2 S10) ∧ (¬ v11 = 0 → ∀ y12 : Int32, y12 = x2 + 1 → rec y12 S10)))))
def wL_X7_full_2 (Z : zZ) (x0 : Nat) (x1 : Int32) (Qp : Int32 → zS → Prop) (K : Int32 → zS → Prop) (x2 : Int32) (S : zS) : Prop := ∃ n, zit2 (wb_X7_full_2 Z x0 x1 Qp K) n x2 S
set_option maxHeartbeats 4000000 in
set_option maxRecDepth 100000 in
theorem ab_X7_full_2 {p : Program} {l : Launch} {e : Env} {s : State} {m : MethodId} {args : Array Value} {below : List Frame} {meth : Method} {c : Code} {D : va_G} {cy : Nat → ClassId} {A : Nat → Prop} {Q : State → Prop} {Z : zZ} (C0 : zC p s m args meth c cX7_full 3 wsX7_full RX7 D cy A (some .int)) {x0 : Nat} {x1 : Int32} {Qp : Int32 → zS → Prop} {K : Int32 → zS → Prop} (hK : ∀ x2 S, K x2 S → zG p l e rm_X7_full s m args below meth c D cy A 3 0 0 Q Z S 34 [(2, .int x2)] []) {rec : Int32 → zS → Prop} (hrec : ∀ x2 S, rec x2 S → zG p l e rm_X7_full s m args below meth c D cy A 3 0 0 Q Z S 2 [(0, .ref x0), (1, .int x1), (2, .int x2)] []) {x2 : Int32} {S : zS} (hw : wb_X7_full_2 Z x0 x1 Qp K rec x2 S) : zG p l e rm_X7_full s m args below meth c D cy A 3 0 0 Q Z S 2 [(0, .ref x0), (1, .int x1), (2, .int x2)] [] := by
  unfold wb_X7_full_2 at hw
  refine zg_iload_n (q := 3) C0 2 dX7_full_2 rfl rfl ?_
  refine zg_aload_n (q := 4) C0 0 dX7_full_3 rfl rfl ?_
  obtain ⟨hz1, hw⟩ := hw
  refine zg_get (q := 7) (T := TX7) (k := 28) C0 dX7_full_4 hz1 (zF_7 cy hz1) rfl (by decide) hX_X7_full_7 (zwm (i := 1) rfl) rfl rfl rfl ?_
  obtain ⟨b2, hb3, hw⟩ := hw
  refine zg_nn hb3 ?_
  refine zg_aload_n (q := 8) C0 0 dX7_full_7 rfl rfl ?_
  refine zg_get (q := 11) (T := TX7) (k := 5) C0 dX7_full_8 hz1 (zF_7 cy hz1) rfl (by decide) hX_X7_full_7 (zwm (i := 2) rfl) rfl rfl rfl ?_
  obtain ⟨b4, hb5, hw⟩ := hw
  refine zg_nn hb5 ?_
  refine zg_iload_n (q := 12) C0 1 dX7_full_11 rfl rfl ?_
  obtain ⟨hz6, hw⟩ := hw
  obtain ⟨hi7, hw⟩ := hw
  refine zg_iald (q := 13) C0 dX7_full_12 hz6 hi7 rfl ?_
  obtain ⟨hz8, hw⟩ := hw
  obtain ⟨hi9, hw⟩ := hw
  refine zg_iald (q := 14) C0 dX7_full_13 hz8 hi9 rfl ?_
  refine zg_icmp_ge (q := 17) (tgt := 34) C0 dX7_full_14 rfl rfl (fun c14 => ?_) (fun c14 => ?_)
  · have hw := hw.1 c14
    refine zg_sub [2] rfl ?_
    exact hK _ _ hw
  · have hw := hw.2 c14
    refine zg_aload_n (q := 18) C0 0 dX7_full_17 rfl rfl ?_
    refine zg_iload_n (q := 19) C0 1 dX7_full_18 rfl rfl ?_
    refine zg_iload_n (q := 20) C0 2 dX7_full_19 rfl rfl ?_
    refine zg_iconst (q := 21) C0 dX7_full_20 zc_iconst_1 rfl ?_
    refine zg_iadd (q := 22) C0 dX7_full_21 rfl ?_
    refine zg_callVi (q := 25) C0 [.int x1, .int (x2 + 1)] [] dX7_full_22 (fun sz => a_X7_hasPlace l D cy Z S sz x0 x1 (x2 + 1) _ hw) rfl gX7_full_X7_hasPlace hdV_X7_hasPlace hz1 (zF_7 cy hz1) rfl rfl ⟨Nat.le_of_ble_eq_true rfl, Nat.le_of_ble_eq_true rfl⟩ (Nat.le_of_ble_eq_true rfl) ⟨Nat.zero_le _, Nat.zero_le _⟩ ⟨rfl, rfl⟩ rfl (fun v11 S10 hw => ?_)
    refine zg_if_eq (q := 28) (tgt := 34) C0 dX7_full_25 rfl rfl (fun c13 => ?_) (fun c13 => ?_)
    · have hw := hw.1 c13
      refine zg_sub [2] rfl ?_
      exact hK _ _ hw
    · have hw := hw.2 c13
      refine zg_iinc (q := 31) C0 2 dX7_full_28 rfl (by decide) zc_iconst_1 rfl (fun y12 ey12 => ?_)
      have hw := hw y12 ey12
      refine zg_lv (lv' := [(2, .int y12), (0, .ref x0), (1, .int x1)]) rfl ?_
      refine zg_goto (tgt := 2) C0 dX7_full_31 rfl ?_
      refine zg_sub [1, 2, 0] rfl ?_
      exact hrec _ _ hw
theorem aL_X7_full_2 {p : Program} {l : Launch} {e : Env} {s : State} {m : MethodId} {args : Array Value} {below : List Frame} {meth : Method} {c : Code} {D : va_G} {cy : Nat → ClassId} {A : Nat → Prop} {Q : State → Prop} {Z : zZ} (C0 : zC p s m args meth c cX7_full 3 wsX7_full RX7 D cy A (some .int)) {x0 : Nat} {x1 : Int32} {Qp : Int32 → zS → Prop} {K : Int32 → zS → Prop} (hK : ∀ x2 S, K x2 S → zG p l e rm_X7_full s m args below meth c D cy A 3 0 0 Q Z S 34 [(2, .int x2)] []) : ∀ x2 S, wL_X7_full_2 Z x0 x1 Qp K x2 S → zG p l e rm_X7_full s m args below meth c D cy A 3 0 0 Q Z S 2 [(0, .ref x0), (1, .int x1), (2, .int x2)] [] := by
  intro x2 S hw
  obtain ⟨n, hw⟩ := hw
  induction n generalizing x2 S with
  | zero => exact hw.elim
  | succ n ih => exact ab_X7_full_2 C0 hK (fun x2 S hw => ih x2 S hw) hw
def w_X7_full (Z : zZ) (h0 : Nat) (p0 : Int32) (S : zS) (Qp : Int32 → zS → Prop) : Prop :=
  wL_X7_full_2 Z h0 p0 Qp (fun (v16 : Int32) (S15 : zS) => Qp v16 S15) 0 S
set_option maxHeartbeats 4000000 in
set_option maxRecDepth 100000 in
theorem a_X7_full (l : Launch) (D : va_G) (cy : Nat → ClassId) (Z : zZ) (S : zS) (sz : Nat) (h0 : Nat) (p0 : Int32) (Qp : Int32 → zS → Prop) (hw : w_X7_full Z h0 p0 S Qp) : zMi l yX7_full wsX7_full rm_X7_full D cy Z S sz [.ref h0, .int p0] Qp := by
  unfold w_X7_full at hw
  refine zMi_of (cc := cX7_full) (maxL := 3) (rt := (some .int)) (by decide +kernel) rfl (Nat.le_of_ble_eq_true rfl) ?_
  intro p e s m args below meth c A C0 _
  refine zg_lv (lv' := [(0, .ref h0), (1, .int p0)]) rfl ?_
  refine zg_iconst (q := 1) C0 dX7_full_0 zc_iconst_0 rfl ?_
  refine zg_istore_n (q := 2) (lv' := [(2, .int 0), (0, .ref h0), (1, .int p0)]) C0 dX7_full_1 (by decide) rfl rfl ?_
  refine zg_sub [1, 2, 0] rfl ?_
  refine aL_X7_full_2 C0 (fun v16 S15 hw => ?_) _ _ hw
  refine zg_iload_n (q := 35) C0 0 dX7_full_34 rfl rfl ?_
  exact zg_iret C0 dX7_full_35 rfl rfl (Nat.le_refl 0) (Nat.le_refl 0) hw
-- X7_holds
abbrev rm_X7_holds : Room := { frames := 0, cells := 0, slots := 0, locals := 0 }
theorem hX_X7_holds_7 : ∀ w ∈ u_ws RX7 TX7 36, w ∈ wsX7_holds := by decide +kernel
theorem hdV_X7_holds : yX7_holds.cls = RX7 ∧ yX7_holds.cls ≠ "java/lang/invoke/MethodHandle" ∧ yX7_holds.cls ≠ "java/lang/invoke/VarHandle" ∧ (parseMethodDescriptor yX7_holds.desc).map (fun d => d.parameters.length) = some 1 := by decide +kernel
def w_X7_holds (Z : zZ) (h0 : Nat) (p0 : Int32) (S : zS) (Qp : Int32 → zS → Prop) : Prop :=
  zk Z h0 7 ∧ ∃ b2, zQ Z h0 3 = some b2 ∧ zk Z b2 10 ∧ vp_in p0 (zN Z b2) ∧ (((zI S b2 p0.toNatClampNeg) = 0 → Qp 0 S) ∧ (¬ (zI S b2 p0.toNatClampNeg) = 0 → ∃ b6, zQ Z h0 5 = some b6 ∧ zk Z b6 8 ∧ vp_in p0 (zN Z b6) ∧ (((zI S b6 p0.toNatClampNeg) = (-1) → Qp 0 S) ∧ (¬ (zI S b6 p0.toNatClampNeg) = (-1) → ∃ b10, zQ Z h0 26 = some b10 ∧ zk Z b10 10 ∧ vp_in (zI S b6 p0.toNatClampNeg) (zN Z b10) ∧ ((¬ (zI S b10 (zI S b6 p0.toNatClampNeg).toNatClampNeg) = 0 → Qp 0 S) ∧ ((zI S b10 (zI S b6 p0.toNatClampNeg).toNatClampNeg) = 0 → ∃ b14, zQ Z h0 27 = some b14 ∧ zk Z b14 8 ∧ vp_in (zI S b6 p0.toNatClampNeg) (zN Z b14) ∧ ((¬ (zI S b14 (zI S b6 p0.toNatClampNeg).toNatClampNeg) = p0 → Qp 0 S) ∧ ((zI S b14 (zI S b6 p0.toNatClampNeg).toNatClampNeg) = p0 → Qp 1 S))))))))
set_option maxHeartbeats 4000000 in
set_option maxRecDepth 100000 in
theorem a_X7_holds (l : Launch) (D : va_G) (cy : Nat → ClassId) (Z : zZ) (S : zS) (sz : Nat) (h0 : Nat) (p0 : Int32) (Qp : Int32 → zS → Prop) (hw : w_X7_holds Z h0 p0 S Qp) : zMi l yX7_holds wsX7_holds rm_X7_holds D cy Z S sz [.ref h0, .int p0] Qp := by
  unfold w_X7_holds at hw
  refine zMi_of (cc := cX7_holds) (maxL := 2) (rt := (some .boolean)) (by decide +kernel) rfl (Nat.le_of_ble_eq_true rfl) ?_
  intro p e s m args below meth c A C0 _
  refine zg_lv (lv' := [(0, .ref h0), (1, .int p0)]) rfl ?_
  refine zg_aload_n (q := 1) C0 0 dX7_holds_0 rfl rfl ?_
  obtain ⟨hz1, hw⟩ := hw
  refine zg_get (q := 4) (T := TX7) (k := 3) C0 dX7_holds_1 hz1 (zF_7 cy hz1) rfl (by decide) hX_X7_holds_7 (zwm (i := 1) rfl) rfl rfl rfl ?_
  obtain ⟨b2, hb3, hw⟩ := hw
  refine zg_nn hb3 ?_
  refine zg_iload_n (q := 5) C0 1 dX7_holds_4 rfl rfl ?_
  obtain ⟨hz4, hw⟩ := hw
  obtain ⟨hi5, hw⟩ := hw
  refine zg_zald (q := 6) C0 dX7_holds_5 hz4 hi5 rfl ?_
  refine zg_if_eq (q := 9) (tgt := 52) C0 dX7_holds_6 rfl rfl (fun c21 => ?_) (fun c21 => ?_)
  · have hw := hw.1 c21
    refine zg_iconst (q := 53) C0 dX7_holds_52 zc_iconst_0 rfl ?_
    exact zg_iret C0 dX7_holds_53 rfl (by decide) (Nat.le_refl 0) (Nat.le_refl 0) hw
  · have hw := hw.2 c21
    refine zg_aload_n (q := 10) C0 0 dX7_holds_9 rfl rfl ?_
    refine zg_get (q := 13) (T := TX7) (k := 5) C0 dX7_holds_10 hz1 (zF_7 cy hz1) rfl (by decide) hX_X7_holds_7 (zwm (i := 2) rfl) rfl rfl rfl ?_
    obtain ⟨b6, hb7, hw⟩ := hw
    refine zg_nn hb7 ?_
    refine zg_iload_n (q := 14) C0 1 dX7_holds_13 rfl rfl ?_
    obtain ⟨hz8, hw⟩ := hw
    obtain ⟨hi9, hw⟩ := hw
    refine zg_iald (q := 15) C0 dX7_holds_14 hz8 hi9 rfl ?_
    refine zg_iconst (q := 16) C0 dX7_holds_15 zc_iconst_m1 rfl ?_
    refine zg_icmp_eq (q := 19) (tgt := 52) C0 dX7_holds_16 rfl rfl (fun c20 => ?_) (fun c20 => ?_)
    · have hw := hw.1 c20
      refine zg_iconst (q := 53) C0 dX7_holds_52 zc_iconst_0 rfl ?_
      exact zg_iret C0 dX7_holds_53 rfl (by decide) (Nat.le_refl 0) (Nat.le_refl 0) hw
    · have hw := hw.2 c20
      refine zg_aload_n (q := 20) C0 0 dX7_holds_19 rfl rfl ?_
      refine zg_get (q := 23) (T := TX7) (k := 26) C0 dX7_holds_20 hz1 (zF_7 cy hz1) rfl (by decide) hX_X7_holds_7 (zwm (i := 3) rfl) rfl rfl rfl ?_
      obtain ⟨b10, hb11, hw⟩ := hw
      refine zg_nn hb11 ?_
      refine zg_aload_n (q := 24) C0 0 dX7_holds_23 rfl rfl ?_
      refine zg_get (q := 27) (T := TX7) (k := 5) C0 dX7_holds_24 hz1 (zF_7 cy hz1) rfl (by decide) hX_X7_holds_7 (zwm (i := 2) rfl) rfl rfl rfl ?_
      refine zg_nn hb7 ?_
      refine zg_iload_n (q := 28) C0 1 dX7_holds_27 rfl rfl ?_
      refine zg_iald (q := 29) C0 dX7_holds_28 hz8 hi9 rfl ?_
      obtain ⟨hz12, hw⟩ := hw
      obtain ⟨hi13, hw⟩ := hw
      refine zg_zald (q := 30) C0 dX7_holds_29 hz12 hi13 rfl ?_
      refine zg_if_ne (q := 33) (tgt := 52) C0 dX7_holds_30 rfl rfl (fun c19 => ?_) (fun c19 => ?_)
      · have hw := hw.1 c19
        refine zg_iconst (q := 53) C0 dX7_holds_52 zc_iconst_0 rfl ?_
        exact zg_iret C0 dX7_holds_53 rfl (by decide) (Nat.le_refl 0) (Nat.le_refl 0) hw
      · have hw := hw.2 c19
        refine zg_aload_n (q := 34) C0 0 dX7_holds_33 rfl rfl ?_
        refine zg_get (q := 37) (T := TX7) (k := 27) C0 dX7_holds_34 hz1 (zF_7 cy hz1) rfl (by decide) hX_X7_holds_7 (zwm (i := 4) rfl) rfl rfl rfl ?_
        obtain ⟨b14, hb15, hw⟩ := hw
        refine zg_nn hb15 ?_
        refine zg_aload_n (q := 38) C0 0 dX7_holds_37 rfl rfl ?_
        refine zg_get (q := 41) (T := TX7) (k := 5) C0 dX7_holds_38 hz1 (zF_7 cy hz1) rfl (by decide) hX_X7_holds_7 (zwm (i := 2) rfl) rfl rfl rfl ?_
        refine zg_nn hb7 ?_
        refine zg_iload_n (q := 42) C0 1 dX7_holds_41 rfl rfl ?_
        refine zg_iald (q := 43) C0 dX7_holds_42 hz8 hi9 rfl ?_
        obtain ⟨hz16, hw⟩ := hw
        obtain ⟨hi17, hw⟩ := hw
        refine zg_iald (q := 44) C0 dX7_holds_43 hz16 hi17 rfl ?_
        refine zg_iload_n (q := 45) C0 1 dX7_holds_44 rfl rfl ?_
        refine zg_icmp_ne (q := 48) (tgt := 52) C0 dX7_holds_45 rfl rfl (fun c18 => ?_) (fun c18 => ?_)
        · have hw := hw.1 c18
          refine zg_iconst (q := 53) C0 dX7_holds_52 zc_iconst_0 rfl ?_
          exact zg_iret C0 dX7_holds_53 rfl (by decide) (Nat.le_refl 0) (Nat.le_refl 0) hw
        · have hw := hw.2 c18
          refine zg_iconst (q := 49) C0 dX7_holds_48 zc_iconst_1 rfl ?_
          refine zg_goto (tgt := 53) C0 dX7_holds_49 rfl ?_
          exact zg_iret C0 dX7_holds_53 rfl (by decide) (Nat.le_refl 0) (Nat.le_refl 0) hw
-- X7_tell
abbrev rm_X7_tell : Room := { frames := 0, cells := 0, slots := 0, locals := 0 }
theorem hX_X7_tell_7 : ∀ w ∈ u_ws RX7 TX7 36, w ∈ wsX7_tell := by decide +kernel
theorem hdV_X7_tell : yX7_tell.cls = RX7 ∧ yX7_tell.cls ≠ "java/lang/invoke/MethodHandle" ∧ yX7_tell.cls ≠ "java/lang/invoke/VarHandle" ∧ (parseMethodDescriptor yX7_tell.desc).map (fun d => d.parameters.length) = some 7 := by decide +kernel
def w_X7_tell (Z : zZ) (h0 : Nat) (p0 : Int32) (p1 : Int64) (p2 : Int64) (p3 : Int64) (p4 : Int64) (p5 : Int64) (p6 : Int64) (S : zS) (Qp : zS → Prop) : Prop :=
  zk Z h0 7 ∧ ∃ b2, zQ Z h0 18 = some b2 ∧ zk Z b2 8 ∧ vp_in p0 (zN Z b2) ∧ ∀ y6 : Int32, y6 = 6 * ((100 * p0) + ((zI S b2 p0.toNatClampNeg) - (zI S b2 p0.toNatClampNeg) / 100 * 100)) → ∃ b7, zQ Z h0 23 = some b7 ∧ zk Z b7 9 ∧ vp_in y6 (zN Z b7) ∧ ∀ S11 : zS, S11 = zsJ S b7 y6.toNatClampNeg p1 → vp_in (y6 + 1) (zN Z b7) ∧ ∀ S13 : zS, S13 = zsJ S11 b7 (y6 + 1).toNatClampNeg p2 → vp_in (y6 + 2) (zN Z b7) ∧ ∀ S15 : zS, S15 = zsJ S13 b7 (y6 + 2).toNatClampNeg p3 → vp_in (y6 + 3) (zN Z b7) ∧ ∀ S17 : zS, S17 = zsJ S15 b7 (y6 + 3).toNatClampNeg p4 → vp_in (y6 + 4) (zN Z b7) ∧ ∀ S19 : zS, S19 = zsJ S17 b7 (y6 + 4).toNatClampNeg p5 → vp_in (y6 + 5) (zN Z b7) ∧ ∀ S21 : zS, S21 = zsJ S19 b7 (y6 + 5).toNatClampNeg p6 → ∀ S22 : zS, S22 = zsI S21 b2 p0.toNatClampNeg ((zI S21 b2 p0.toNatClampNeg) + 1) → Qp S22
set_option maxHeartbeats 4000000 in
set_option maxRecDepth 100000 in
theorem a_X7_tell (l : Launch) (D : va_G) (cy : Nat → ClassId) (Z : zZ) (S : zS) (sz : Nat) (h0 : Nat) (p0 : Int32) (p1 : Int64) (p2 : Int64) (p3 : Int64) (p4 : Int64) (p5 : Int64) (p6 : Int64) (Qp : zS → Prop) (hw : w_X7_tell Z h0 p0 p1 p2 p3 p4 p5 p6 S Qp) : zMv l yX7_tell wsX7_tell rm_X7_tell D cy Z S sz [.ref h0, .int p0, .long p1, .long p2, .long p3, .long p4, .long p5, .long p6] Qp := by
  unfold w_X7_tell at hw
  refine zMv_of (cc := cX7_tell) (maxL := 15) (rt := none) (by decide +kernel) rfl (Nat.le_of_ble_eq_true rfl) ?_
  intro p e s m args below meth c A C0 _
  refine zg_lv (lv' := [(0, .ref h0), (1, .int p0), (2, .long p1), (4, .long p2), (6, .long p3), (8, .long p4), (10, .long p5), (12, .long p6)]) rfl ?_
  refine zg_bipush (q := 2) C0 dX7_tell_0 zc_bipush_6 rfl ?_
  refine zg_bipush (q := 4) C0 dX7_tell_2 zc_bipush_100 rfl ?_
  refine zg_iload_n (q := 5) C0 1 dX7_tell_4 rfl rfl ?_
  refine zg_imul (q := 6) C0 dX7_tell_5 rfl ?_
  refine zg_aload_n (q := 7) C0 0 dX7_tell_6 rfl rfl ?_
  obtain ⟨hz1, hw⟩ := hw
  refine zg_get (q := 10) (T := TX7) (k := 18) C0 dX7_tell_7 hz1 (zF_7 cy hz1) rfl (by decide) hX_X7_tell_7 (zwm (i := 1) rfl) rfl rfl rfl ?_
  obtain ⟨b2, hb3, hw⟩ := hw
  refine zg_nn hb3 ?_
  refine zg_iload_n (q := 11) C0 1 dX7_tell_10 rfl rfl ?_
  obtain ⟨hz4, hw⟩ := hw
  obtain ⟨hi5, hw⟩ := hw
  refine zg_iald (q := 12) C0 dX7_tell_11 hz4 hi5 rfl ?_
  refine zg_bipush (q := 14) C0 dX7_tell_12 zc_bipush_100 rfl ?_
  refine zg_irem (q := 15) C0 dX7_tell_14 (by decide) rfl ?_
  refine zg_iadd (q := 16) C0 dX7_tell_15 rfl ?_
  refine zg_imul (q := 17) C0 dX7_tell_16 rfl ?_
  refine zg_ni (fun y6 ey6 => ?_)
  have hw := hw y6 ey6
  refine zg_istore (q := 19) (lv' := [(14, .int y6), (0, .ref h0), (1, .int p0), (2, .long p1), (4, .long p2), (6, .long p3), (8, .long p4), (10, .long p5), (12, .long p6)]) C0 dX7_tell_17 (by decide) rfl rfl ?_
  refine zg_aload_n (q := 20) C0 1 dX7_tell_19 rfl rfl ?_
  refine zg_get (q := 23) (T := TX7) (k := 23) C0 dX7_tell_20 hz1 (zF_7 cy hz1) rfl (by decide) hX_X7_tell_7 (zwm (i := 2) rfl) rfl rfl rfl ?_
  obtain ⟨b7, hb8, hw⟩ := hw
  refine zg_nn hb8 ?_
  refine zg_iload (q := 25) C0 0 dX7_tell_23 rfl rfl ?_
  refine zg_lload_n (q := 26) C0 3 dX7_tell_25 rfl rfl ?_
  obtain ⟨hz9, hw⟩ := hw
  obtain ⟨hi10, hw⟩ := hw
  refine zg_last (q := 27) C0 dX7_tell_26 hz9 hi10 rfl (fun S11 eS11 => ?_)
  have hw := hw S11 eS11
  refine zg_aload_n (q := 28) C0 1 dX7_tell_27 rfl rfl ?_
  refine zg_get (q := 31) (T := TX7) (k := 23) C0 dX7_tell_28 hz1 (zF_7 cy hz1) rfl (by decide) hX_X7_tell_7 (zwm (i := 2) rfl) rfl rfl rfl ?_
  refine zg_nn hb8 ?_
  refine zg_iload (q := 33) C0 0 dX7_tell_31 rfl rfl ?_
  refine zg_iconst (q := 34) C0 dX7_tell_33 zc_iconst_1 rfl ?_
  refine zg_iadd (q := 35) C0 dX7_tell_34 rfl ?_
  refine zg_lload (q := 37) C0 4 dX7_tell_35 rfl rfl ?_
  obtain ⟨hi12, hw⟩ := hw
  refine zg_last (q := 38) C0 dX7_tell_37 hz9 hi12 rfl (fun S13 eS13 => ?_)
  have hw := hw S13 eS13
  refine zg_aload_n (q := 39) C0 1 dX7_tell_38 rfl rfl ?_
  refine zg_get (q := 42) (T := TX7) (k := 23) C0 dX7_tell_39 hz1 (zF_7 cy hz1) rfl (by decide) hX_X7_tell_7 (zwm (i := 2) rfl) rfl rfl rfl ?_
  refine zg_nn hb8 ?_
  refine zg_iload (q := 44) C0 0 dX7_tell_42 rfl rfl ?_
  refine zg_iconst (q := 45) C0 dX7_tell_44 zc_iconst_2 rfl ?_
  refine zg_iadd (q := 46) C0 dX7_tell_45 rfl ?_
  refine zg_lload (q := 48) C0 5 dX7_tell_46 rfl rfl ?_
  obtain ⟨hi14, hw⟩ := hw
  refine zg_last (q := 49) C0 dX7_tell_48 hz9 hi14 rfl (fun S15 eS15 => ?_)
  have hw := hw S15 eS15
  refine zg_aload_n (q := 50) C0 1 dX7_tell_49 rfl rfl ?_
  refine zg_get (q := 53) (T := TX7) (k := 23) C0 dX7_tell_50 hz1 (zF_7 cy hz1) rfl (by decide) hX_X7_tell_7 (zwm (i := 2) rfl) rfl rfl rfl ?_
  refine zg_nn hb8 ?_
  refine zg_iload (q := 55) C0 0 dX7_tell_53 rfl rfl ?_
  refine zg_iconst (q := 56) C0 dX7_tell_55 zc_iconst_3 rfl ?_
  refine zg_iadd (q := 57) C0 dX7_tell_56 rfl ?_
  refine zg_lload (q := 59) C0 6 dX7_tell_57 rfl rfl ?_
  obtain ⟨hi16, hw⟩ := hw
  refine zg_last (q := 60) C0 dX7_tell_59 hz9 hi16 rfl (fun S17 eS17 => ?_)
  have hw := hw S17 eS17
  refine zg_aload_n (q := 61) C0 1 dX7_tell_60 rfl rfl ?_
  refine zg_get (q := 64) (T := TX7) (k := 23) C0 dX7_tell_61 hz1 (zF_7 cy hz1) rfl (by decide) hX_X7_tell_7 (zwm (i := 2) rfl) rfl rfl rfl ?_
  refine zg_nn hb8 ?_
  refine zg_iload (q := 66) C0 0 dX7_tell_64 rfl rfl ?_
  refine zg_iconst (q := 67) C0 dX7_tell_66 zc_iconst_4 rfl ?_
  refine zg_iadd (q := 68) C0 dX7_tell_67 rfl ?_
  refine zg_lload (q := 70) C0 7 dX7_tell_68 rfl rfl ?_
  obtain ⟨hi18, hw⟩ := hw
  refine zg_last (q := 71) C0 dX7_tell_70 hz9 hi18 rfl (fun S19 eS19 => ?_)
  have hw := hw S19 eS19
  refine zg_aload_n (q := 72) C0 1 dX7_tell_71 rfl rfl ?_
  refine zg_get (q := 75) (T := TX7) (k := 23) C0 dX7_tell_72 hz1 (zF_7 cy hz1) rfl (by decide) hX_X7_tell_7 (zwm (i := 2) rfl) rfl rfl rfl ?_
  refine zg_nn hb8 ?_
  refine zg_iload (q := 77) C0 0 dX7_tell_75 rfl rfl ?_
  refine zg_iconst (q := 78) C0 dX7_tell_77 zc_iconst_5 rfl ?_
  refine zg_iadd (q := 79) C0 dX7_tell_78 rfl ?_
  refine zg_lload (q := 81) C0 8 dX7_tell_79 rfl rfl ?_
  obtain ⟨hi20, hw⟩ := hw
  refine zg_last (q := 82) C0 dX7_tell_81 hz9 hi20 rfl (fun S21 eS21 => ?_)
  have hw := hw S21 eS21
  refine zg_aload_n (q := 83) C0 1 dX7_tell_82 rfl rfl ?_
  refine zg_get (q := 86) (T := TX7) (k := 18) C0 dX7_tell_83 hz1 (zF_7 cy hz1) rfl (by decide) hX_X7_tell_7 (zwm (i := 1) rfl) rfl rfl rfl ?_
  refine zg_nn hb3 ?_
  refine zg_iload_n (q := 87) C0 2 dX7_tell_86 rfl rfl ?_
  refine zg_dup2 (q := 88) C0 dX7_tell_87 rfl rfl rfl ?_
  refine zg_iald (q := 89) C0 dX7_tell_88 hz4 hi5 rfl ?_
  refine zg_iconst (q := 90) C0 dX7_tell_89 zc_iconst_1 rfl ?_
  refine zg_iadd (q := 91) C0 dX7_tell_90 rfl ?_
  refine zg_iast (q := 92) C0 dX7_tell_91 hz4 hi5 rfl (fun S22 eS22 => ?_)
  have hw := hw S22 eS22
  exact zg_vret C0 dX7_tell_92 rfl (Nat.le_refl 0) (Nat.le_refl 0) hw
-- X7_send
abbrev rm_X7_send : Room := { frames := 1, cells := 0, slots := 0, locals := 21 }
theorem hX_X7_send_7 : ∀ w ∈ u_ws RX7 TX7 36, w ∈ wsX7_send := by decide +kernel
theorem hdV_X7_send : yX7_send.cls = RX7 ∧ yX7_send.cls ≠ "java/lang/invoke/MethodHandle" ∧ yX7_send.cls ≠ "java/lang/invoke/VarHandle" ∧ (parseMethodDescriptor yX7_send.desc).map (fun d => d.parameters.length) = some 4 := by decide +kernel
def wJ_X7_send_48 (Z : zZ) (Qp : Int32 → zS → Prop)  (x0 : Nat) (x1 : Int32) (x2 : Int32) (x3 : Int64) (x5 : Int32) (t0 : Int32) (t1 : Nat) (S : zS) : Prop :=
  zk Z t1 7 ∧ ∀ S5 : zS, S5 = zsI S t1 0 t0 → zk Z x0 7 ∧ (((zI S5 x0 0) ≤ 0 → ∃ b7, zQ Z x0 12 = some b7 ∧ zk Z b7 8 ∧ vp_in x1 (zN Z b7) ∧ ∀ y11 : Int32, y11 = (12 * x1) + (zI S5 b7 x1.toNatClampNeg) → ∃ b12, zQ Z x0 13 = some b12 ∧ zk Z b12 8 ∧ vp_in y11 (zN Z b12) ∧ ∀ S16 : zS, S16 = zsI S5 b12 y11.toNatClampNeg x2 → ∃ b17, zQ Z x0 14 = some b17 ∧ zk Z b17 9 ∧ vp_in y11 (zN Z b17) ∧ ∀ S21 : zS, S21 = zsJ S16 b17 y11.toNatClampNeg x3 → ∃ b22, zQ Z x0 15 = some b22 ∧ zk Z b22 10 ∧ vp_in y11 (zN Z b22) ∧ zb x5 ∧ ∀ S26 : zS, S26 = zsI S21 b22 y11.toNatClampNeg x5 → ∀ S28 : zS, S28 = zsI S26 b7 x1.toNatClampNeg ((zI S26 b7 x1.toNatClampNeg) + 1) → Qp (zI S28 b7 x1.toNatClampNeg) S28) ∧ (¬ (zI S5 x0 0) ≤ 0 → Qp 0 S5))
set_option maxHeartbeats 4000000 in
set_option maxRecDepth 100000 in
theorem aJ_X7_send_48 {p : Program} {l : Launch} {e : Env} {s : State} {m : MethodId} {args : Array Value} {below : List Frame} {meth : Method} {c : Code} {D : va_G} {cy : Nat → ClassId} {A : Nat → Prop} {Z : zZ} (C0 : zC p s m args meth c cX7_send 7 wsX7_send RX7 D cy A (some .int)) {Qp : Int32 → zS → Prop} {x0 : Nat} {x1 : Int32} {x2 : Int32} {x3 : Int64} {x5 : Int32} {t0 : Int32} {t1 : Nat}    {S : zS} (hw : wJ_X7_send_48 Z Qp  x0 x1 x2 x3 x5 t0 t1 S) : zG p l e rm_X7_send s m args below meth c D cy A 7 0 0 (zQi below D cy A Z Qp args s 0 0) Z S 48 [(0, .ref x0), (1, .int x1), (2, .int x2), (3, .long x3), (5, .int x5)] [.int t0, .ref t1] := by
  unfold wJ_X7_send_48 at hw
  obtain ⟨hz4, hw⟩ := hw
  refine zg_putI (q := 51) (T := TX7) (k := 0) (ty0 := tyX7) C0 dX7_send_48 hz4 (zF_7 cy hz4) rfl (by decide) hX_X7_send_7 tyX7_ok nmX7 (zwm (i := 3) rfl) rfl rfl rfl rfl (Nat.le_of_ble_eq_true rfl) (zF_7 cy hz4) (zP_7_0 Z S _ _) rfl (fun S5 eS5 => ?_)
  have hw := hw S5 eS5
  refine zg_aload_n (q := 52) C0 0 dX7_send_51 rfl rfl ?_
  obtain ⟨hz6, hw⟩ := hw
  refine zg_get (q := 55) (T := TX7) (k := 0) C0 dX7_send_52 hz6 (zF_7 cy hz6) rfl (by decide) hX_X7_send_7 (zwm (i := 3) rfl) rfl rfl rfl ?_
  refine zg_if_le (q := 58) (tgt := 60) C0 dX7_send_55 rfl rfl (fun c29 => ?_) (fun c29 => ?_)
  · have hw := hw.1 c29
    refine zg_bipush (q := 62) C0 dX7_send_60 zc_bipush_12 rfl ?_
    refine zg_iload_n (q := 63) C0 1 dX7_send_62 rfl rfl ?_
    refine zg_imul (q := 64) C0 dX7_send_63 rfl ?_
    refine zg_aload_n (q := 65) C0 0 dX7_send_64 rfl rfl ?_
    refine zg_get (q := 68) (T := TX7) (k := 12) C0 dX7_send_65 hz6 (zF_7 cy hz6) rfl (by decide) hX_X7_send_7 (zwm (i := 2) rfl) rfl rfl rfl ?_
    obtain ⟨b7, hb8, hw⟩ := hw
    refine zg_nn hb8 ?_
    refine zg_iload_n (q := 69) C0 1 dX7_send_68 rfl rfl ?_
    obtain ⟨hz9, hw⟩ := hw
    obtain ⟨hi10, hw⟩ := hw
    refine zg_iald (q := 70) C0 dX7_send_69 hz9 hi10 rfl ?_
    refine zg_iadd (q := 71) C0 dX7_send_70 rfl ?_
    refine zg_ni (fun y11 ey11 => ?_)
    have hw := hw y11 ey11
    refine zg_istore (q := 73) (lv' := [(6, .int y11), (0, .ref x0), (1, .int x1), (2, .int x2), (3, .long x3), (5, .int x5)]) C0 dX7_send_71 (by decide) rfl rfl ?_
    refine zg_aload_n (q := 74) C0 1 dX7_send_73 rfl rfl ?_
    refine zg_get (q := 77) (T := TX7) (k := 13) C0 dX7_send_74 hz6 (zF_7 cy hz6) rfl (by decide) hX_X7_send_7 (zwm (i := 4) rfl) rfl rfl rfl ?_
    obtain ⟨b12, hb13, hw⟩ := hw
    refine zg_nn hb13 ?_
    refine zg_iload (q := 79) C0 0 dX7_send_77 rfl rfl ?_
    refine zg_iload_n (q := 80) C0 3 dX7_send_79 rfl rfl ?_
    obtain ⟨hz14, hw⟩ := hw
    obtain ⟨hi15, hw⟩ := hw
    refine zg_iast (q := 81) C0 dX7_send_80 hz14 hi15 rfl (fun S16 eS16 => ?_)
    have hw := hw S16 eS16
    refine zg_aload_n (q := 82) C0 1 dX7_send_81 rfl rfl ?_
    refine zg_get (q := 85) (T := TX7) (k := 14) C0 dX7_send_82 hz6 (zF_7 cy hz6) rfl (by decide) hX_X7_send_7 (zwm (i := 5) rfl) rfl rfl rfl ?_
    obtain ⟨b17, hb18, hw⟩ := hw
    refine zg_nn hb18 ?_
    refine zg_iload (q := 87) C0 0 dX7_send_85 rfl rfl ?_
    refine zg_lload_n (q := 88) C0 4 dX7_send_87 rfl rfl ?_
    obtain ⟨hz19, hw⟩ := hw
    obtain ⟨hi20, hw⟩ := hw
    refine zg_last (q := 89) C0 dX7_send_88 hz19 hi20 rfl (fun S21 eS21 => ?_)
    have hw := hw S21 eS21
    refine zg_aload_n (q := 90) C0 1 dX7_send_89 rfl rfl ?_
    refine zg_get (q := 93) (T := TX7) (k := 15) C0 dX7_send_90 hz6 (zF_7 cy hz6) rfl (by decide) hX_X7_send_7 (zwm (i := 6) rfl) rfl rfl rfl ?_
    obtain ⟨b22, hb23, hw⟩ := hw
    refine zg_nn hb23 ?_
    refine zg_iload (q := 95) C0 0 dX7_send_93 rfl rfl ?_
    refine zg_iload (q := 97) C0 5 dX7_send_95 rfl rfl ?_
    obtain ⟨hz24, hw⟩ := hw
    obtain ⟨hi25, hw⟩ := hw
    obtain ⟨hb27, hw⟩ := hw
    refine zg_zast (q := 98) C0 dX7_send_97 hz24 hi25 (zb_v hb27) rfl (fun S26 eS26 => ?_)
    have hw := hw S26 eS26
    refine zg_aload_n (q := 99) C0 1 dX7_send_98 rfl rfl ?_
    refine zg_get (q := 102) (T := TX7) (k := 12) C0 dX7_send_99 hz6 (zF_7 cy hz6) rfl (by decide) hX_X7_send_7 (zwm (i := 2) rfl) rfl rfl rfl ?_
    refine zg_nn hb8 ?_
    refine zg_iload_n (q := 103) C0 2 dX7_send_102 rfl rfl ?_
    refine zg_dup2 (q := 104) C0 dX7_send_103 rfl rfl rfl ?_
    refine zg_iald (q := 105) C0 dX7_send_104 hz9 hi10 rfl ?_
    refine zg_iconst (q := 106) C0 dX7_send_105 zc_iconst_1 rfl ?_
    refine zg_iadd (q := 107) C0 dX7_send_106 rfl ?_
    refine zg_iast (q := 108) C0 dX7_send_107 hz9 hi10 rfl (fun S28 eS28 => ?_)
    have hw := hw S28 eS28
    refine zg_aload_n (q := 109) C0 1 dX7_send_108 rfl rfl ?_
    refine zg_get (q := 112) (T := TX7) (k := 12) C0 dX7_send_109 hz6 (zF_7 cy hz6) rfl (by decide) hX_X7_send_7 (zwm (i := 2) rfl) rfl rfl rfl ?_
    refine zg_nn hb8 ?_
    refine zg_iload_n (q := 113) C0 2 dX7_send_112 rfl rfl ?_
    refine zg_iald (q := 114) C0 dX7_send_113 hz9 hi10 rfl ?_
    exact zg_iret C0 dX7_send_114 rfl rfl (Nat.le_refl 0) (Nat.le_refl 0) hw
  · have hw := hw.2 c29
    refine zg_iconst (q := 59) C0 dX7_send_58 zc_iconst_0 rfl ?_
    exact zg_iret C0 dX7_send_59 rfl rfl (Nat.le_refl 0) (Nat.le_refl 0) hw
def wJ_X7_send_19 (Z : zZ) (Qp : Int32 → zS → Prop)  (x0 : Nat) (x1 : Int32) (x2 : Int32) (x3 : Int64) (x5 : Int32) (t0 : Nat) (S : zS) : Prop :=
  wJ_X7_send_48 Z Qp  x0 x1 x2 x3 x5 1 t0 S
set_option maxHeartbeats 4000000 in
set_option maxRecDepth 100000 in
theorem aJ_X7_send_19 {p : Program} {l : Launch} {e : Env} {s : State} {m : MethodId} {args : Array Value} {below : List Frame} {meth : Method} {c : Code} {D : va_G} {cy : Nat → ClassId} {A : Nat → Prop} {Z : zZ} (C0 : zC p s m args meth c cX7_send 7 wsX7_send RX7 D cy A (some .int)) {Qp : Int32 → zS → Prop} {x0 : Nat} {x1 : Int32} {x2 : Int32} {x3 : Int64} {x5 : Int32} {t0 : Nat}    {S : zS} (hw : wJ_X7_send_19 Z Qp  x0 x1 x2 x3 x5 t0 S) : zG p l e rm_X7_send s m args below meth c D cy A 7 0 0 (zQi below D cy A Z Qp args s 0 0) Z S 19 [(0, .ref x0), (1, .int x1), (2, .int x2), (3, .long x3), (5, .int x5)] [.ref t0] := by
  unfold wJ_X7_send_19 at hw
  refine zg_iconst (q := 20) C0 dX7_send_19 zc_iconst_1 rfl ?_
  refine zg_goto (tgt := 48) C0 dX7_send_20 rfl ?_
  refine zg_sub [0, 1, 2, 3, 4] rfl ?_
  exact aJ_X7_send_48 C0  hw
def wJ_X7_send_43 (Z : zZ) (Qp : Int32 → zS → Prop)  (x0 : Nat) (x1 : Int32) (x2 : Int32) (x3 : Int64) (x5 : Int32) (t0 : Nat) (S : zS) : Prop :=
  wJ_X7_send_48 Z Qp  x0 x1 x2 x3 x5 2 t0 S
set_option maxHeartbeats 4000000 in
set_option maxRecDepth 100000 in
theorem aJ_X7_send_43 {p : Program} {l : Launch} {e : Env} {s : State} {m : MethodId} {args : Array Value} {below : List Frame} {meth : Method} {c : Code} {D : va_G} {cy : Nat → ClassId} {A : Nat → Prop} {Z : zZ} (C0 : zC p s m args meth c cX7_send 7 wsX7_send RX7 D cy A (some .int)) {Qp : Int32 → zS → Prop} {x0 : Nat} {x1 : Int32} {x2 : Int32} {x3 : Int64} {x5 : Int32} {t0 : Nat}    {S : zS} (hw : wJ_X7_send_43 Z Qp  x0 x1 x2 x3 x5 t0 S) : zG p l e rm_X7_send s m args below meth c D cy A 7 0 0 (zQi below D cy A Z Qp args s 0 0) Z S 43 [(0, .ref x0), (1, .int x1), (2, .int x2), (3, .long x3), (5, .int x5)] [.ref t0] := by
  unfold wJ_X7_send_43 at hw
  refine zg_iconst (q := 44) C0 dX7_send_43 zc_iconst_2 rfl ?_
  refine zg_goto (tgt := 48) C0 dX7_send_44 rfl ?_
  refine zg_sub [0, 1, 2, 3, 4] rfl ?_
  exact aJ_X7_send_48 C0  hw
def w_X7_send (Z : zZ) (h0 : Nat) (p0 : Int32) (p1 : Int32) (p2 : Int64) (p3 : Int32) (S : zS) (Qp : Int32 → zS → Prop) : Prop :=
  zk Z h0 7 ∧ w_X7_noNode Z h0 p0 S (fun (v3 : Int32) (S2 : zS) => ((¬ v3 = 0 → wJ_X7_send_19 Z Qp  h0 p0 p1 p2 p3 h0 S2) ∧ (v3 = 0 → ((p1 < 0 → wJ_X7_send_19 Z Qp  h0 p0 p1 p2 p3 h0 S2) ∧ (¬ p1 < 0 → ((p1 < 16 → ∃ b30, zQ Z h0 3 = some b30 ∧ zk Z b30 10 ∧ vp_in p0 (zN Z b30) ∧ (((zI S2 b30 p0.toNatClampNeg) = 0 → wJ_X7_send_43 Z Qp  h0 p0 p1 p2 p3 h0 S2) ∧ (¬ (zI S2 b30 p0.toNatClampNeg) = 0 → ∃ b34, zQ Z h0 12 = some b34 ∧ zk Z b34 8 ∧ vp_in p0 (zN Z b34) ∧ ((¬ (zI S2 b34 p0.toNatClampNeg) = 12 → wJ_X7_send_48 Z Qp  h0 p0 p1 p2 p3 0 h0 S2) ∧ ((zI S2 b34 p0.toNatClampNeg) = 12 → wJ_X7_send_43 Z Qp  h0 p0 p1 p2 p3 h0 S2))))) ∧ (¬ p1 < 16 → wJ_X7_send_19 Z Qp  h0 p0 p1 p2 p3 h0 S2)))))))
set_option maxHeartbeats 4000000 in
set_option maxRecDepth 100000 in
theorem a_X7_send (l : Launch) (D : va_G) (cy : Nat → ClassId) (Z : zZ) (S : zS) (sz : Nat) (h0 : Nat) (p0 : Int32) (p1 : Int32) (p2 : Int64) (p3 : Int32) (Qp : Int32 → zS → Prop) (hw : w_X7_send Z h0 p0 p1 p2 p3 S Qp) : zMi l yX7_send wsX7_send rm_X7_send D cy Z S sz [.ref h0, .int p0, .int p1, .long p2, .int p3] Qp := by
  unfold w_X7_send at hw
  refine zMi_of (cc := cX7_send) (maxL := 7) (rt := (some .int)) (by decide +kernel) rfl (Nat.le_of_ble_eq_true rfl) ?_
  intro p e s m args below meth c A C0 _
  refine zg_lv (lv' := [(0, .ref h0), (1, .int p0), (2, .int p1), (3, .long p2), (5, .int p3)]) rfl ?_
  refine zg_aload_n (q := 1) C0 0 dX7_send_0 rfl rfl ?_
  refine zg_aload_n (q := 2) C0 0 dX7_send_1 rfl rfl ?_
  refine zg_iload_n (q := 3) C0 1 dX7_send_2 rfl rfl ?_
  obtain ⟨hz1, hw⟩ := hw
  refine zg_callVi (q := 6) C0 [.int p0] [.ref h0] dX7_send_3 (fun sz => a_X7_noNode l D cy Z S sz h0 p0 _ hw) rfl gX7_send_X7_noNode hdV_X7_noNode hz1 (zF_7 cy hz1) rfl rfl ⟨Nat.le_of_ble_eq_true rfl, Nat.le_of_ble_eq_true rfl⟩ (Nat.le_of_ble_eq_true rfl) ⟨Nat.zero_le _, Nat.zero_le _⟩ ⟨rfl, rfl⟩ rfl (fun v3 S2 hw => ?_)
  refine zg_if_ne (q := 9) (tgt := 19) C0 dX7_send_6 rfl rfl (fun c42 => ?_) (fun c42 => ?_)
  · have hw := hw.1 c42
    refine zg_sub [0, 1, 2, 3, 4] rfl ?_
    exact aJ_X7_send_19 C0  hw
  · have hw := hw.2 c42
    refine zg_iload_n (q := 10) C0 2 dX7_send_9 rfl rfl ?_
    refine zg_if_lt (q := 13) (tgt := 19) C0 dX7_send_10 rfl rfl (fun c41 => ?_) (fun c41 => ?_)
    · have hw := hw.1 c41
      refine zg_sub [0, 1, 2, 3, 4] rfl ?_
      exact aJ_X7_send_19 C0  hw
    · have hw := hw.2 c41
      refine zg_iload_n (q := 14) C0 2 dX7_send_13 rfl rfl ?_
      refine zg_bipush (q := 16) C0 dX7_send_14 zc_bipush_16 rfl ?_
      refine zg_icmp_lt (q := 19) (tgt := 23) C0 dX7_send_16 rfl rfl (fun c40 => ?_) (fun c40 => ?_)
      · have hw := hw.1 c40
        refine zg_aload_n (q := 24) C0 0 dX7_send_23 rfl rfl ?_
        refine zg_get (q := 27) (T := TX7) (k := 3) C0 dX7_send_24 hz1 (zF_7 cy hz1) rfl (by decide) hX_X7_send_7 (zwm (i := 1) rfl) rfl rfl rfl ?_
        obtain ⟨b30, hb31, hw⟩ := hw
        refine zg_nn hb31 ?_
        refine zg_iload_n (q := 28) C0 1 dX7_send_27 rfl rfl ?_
        obtain ⟨hz32, hw⟩ := hw
        obtain ⟨hi33, hw⟩ := hw
        refine zg_zald (q := 29) C0 dX7_send_28 hz32 hi33 rfl ?_
        refine zg_if_eq (q := 32) (tgt := 43) C0 dX7_send_29 rfl rfl (fun c39 => ?_) (fun c39 => ?_)
        · have hw := hw.1 c39
          refine zg_sub [0, 1, 2, 3, 4] rfl ?_
          exact aJ_X7_send_43 C0  hw
        · have hw := hw.2 c39
          refine zg_aload_n (q := 33) C0 0 dX7_send_32 rfl rfl ?_
          refine zg_get (q := 36) (T := TX7) (k := 12) C0 dX7_send_33 hz1 (zF_7 cy hz1) rfl (by decide) hX_X7_send_7 (zwm (i := 2) rfl) rfl rfl rfl ?_
          obtain ⟨b34, hb35, hw⟩ := hw
          refine zg_nn hb35 ?_
          refine zg_iload_n (q := 37) C0 1 dX7_send_36 rfl rfl ?_
          obtain ⟨hz36, hw⟩ := hw
          obtain ⟨hi37, hw⟩ := hw
          refine zg_iald (q := 38) C0 dX7_send_37 hz36 hi37 rfl ?_
          refine zg_bipush (q := 40) C0 dX7_send_38 zc_bipush_12 rfl ?_
          refine zg_icmp_ne (q := 43) (tgt := 47) C0 dX7_send_40 rfl rfl (fun c38 => ?_) (fun c38 => ?_)
          · have hw := hw.1 c38
            refine zg_iconst (q := 48) C0 dX7_send_47 zc_iconst_0 rfl ?_
            refine zg_sub [0, 1, 2, 3, 4] rfl ?_
            exact aJ_X7_send_48 C0  hw
          · have hw := hw.2 c38
            refine zg_sub [0, 1, 2, 3, 4] rfl ?_
            exact aJ_X7_send_43 C0  hw
      · have hw := hw.2 c40
        refine zg_sub [0, 1, 2, 3, 4] rfl ?_
        exact aJ_X7_send_19 C0  hw
-- X7_apply
abbrev rm_X7_apply : Room := { frames := 0, cells := 0, slots := 0, locals := 0 }
theorem hX_X7_apply_7 : ∀ w ∈ u_ws RX7 TX7 36, w ∈ wsX7_apply := by decide +kernel
theorem hdV_X7_apply : yX7_apply.cls = RX7 ∧ yX7_apply.cls ≠ "java/lang/invoke/MethodHandle" ∧ yX7_apply.cls ≠ "java/lang/invoke/VarHandle" ∧ (parseMethodDescriptor yX7_apply.desc).map (fun d => d.parameters.length) = some 4 := by decide +kernel
def w_X7_apply (Z : zZ) (h0 : Nat) (p0 : Int32) (p1 : Int32) (p2 : Int32) (p3 : Int64) (S : zS) (Qp : zS → Prop) : Prop :=
  zk Z h0 7 ∧ ∃ b2, zQ Z h0 7 = some b2 ∧ zk Z b2 9 ∧ vp_in ((16 * p0) + p2) (zN Z b2) ∧ ∀ S6 : zS, S6 = zsJ S b2 ((16 * p0) + p2).toNatClampNeg p3 → ∃ b7, zQ Z h0 8 = some b7 ∧ zk Z b7 8 ∧ vp_in p0 (zN Z b7) ∧ ∀ S11 : zS, S11 = zsI S6 b7 p0.toNatClampNeg ((zI S6 b7 p0.toNatClampNeg) + 1) → ∃ b12, zQ Z h0 9 = some b12 ∧ zk Z b12 9 ∧ vp_in p0 (zN Z b12) ∧ ∀ S16 : zS, S16 = zsJ S11 b12 p0.toNatClampNeg ((((zJ S11 b12 p0.toNatClampNeg) * 31) + (((p2 : Int32).toInt64) * 17)) + p3) → ∃ b17, zQ Z h0 22 = some b17 ∧ zk Z b17 8 ∧ vp_in p0 (zN Z b17) ∧ ∀ S21 : zS, S21 = zsI S16 b17 p0.toNatClampNeg p1 → Qp S21
set_option maxHeartbeats 4000000 in
set_option maxRecDepth 100000 in
theorem a_X7_apply (l : Launch) (D : va_G) (cy : Nat → ClassId) (Z : zZ) (S : zS) (sz : Nat) (h0 : Nat) (p0 : Int32) (p1 : Int32) (p2 : Int32) (p3 : Int64) (Qp : zS → Prop) (hw : w_X7_apply Z h0 p0 p1 p2 p3 S Qp) : zMv l yX7_apply wsX7_apply rm_X7_apply D cy Z S sz [.ref h0, .int p0, .int p1, .int p2, .long p3] Qp := by
  unfold w_X7_apply at hw
  refine zMv_of (cc := cX7_apply) (maxL := 6) (rt := none) (by decide +kernel) rfl (Nat.le_of_ble_eq_true rfl) ?_
  intro p e s m args below meth c A C0 _
  refine zg_lv (lv' := [(0, .ref h0), (1, .int p0), (2, .int p1), (3, .int p2), (4, .long p3)]) rfl ?_
  refine zg_aload_n (q := 1) C0 0 dX7_apply_0 rfl rfl ?_
  obtain ⟨hz1, hw⟩ := hw
  refine zg_get (q := 4) (T := TX7) (k := 7) C0 dX7_apply_1 hz1 (zF_7 cy hz1) rfl (by decide) hX_X7_apply_7 (zwm (i := 1) rfl) rfl rfl rfl ?_
  obtain ⟨b2, hb3, hw⟩ := hw
  refine zg_nn hb3 ?_
  refine zg_bipush (q := 6) C0 dX7_apply_4 zc_bipush_16 rfl ?_
  refine zg_iload_n (q := 7) C0 1 dX7_apply_6 rfl rfl ?_
  refine zg_imul (q := 8) C0 dX7_apply_7 rfl ?_
  refine zg_iload_n (q := 9) C0 3 dX7_apply_8 rfl rfl ?_
  refine zg_iadd (q := 10) C0 dX7_apply_9 rfl ?_
  refine zg_lload (q := 12) C0 4 dX7_apply_10 rfl rfl ?_
  obtain ⟨hz4, hw⟩ := hw
  obtain ⟨hi5, hw⟩ := hw
  refine zg_last (q := 13) C0 dX7_apply_12 hz4 hi5 rfl (fun S6 eS6 => ?_)
  have hw := hw S6 eS6
  refine zg_aload_n (q := 14) C0 0 dX7_apply_13 rfl rfl ?_
  refine zg_get (q := 17) (T := TX7) (k := 8) C0 dX7_apply_14 hz1 (zF_7 cy hz1) rfl (by decide) hX_X7_apply_7 (zwm (i := 2) rfl) rfl rfl rfl ?_
  obtain ⟨b7, hb8, hw⟩ := hw
  refine zg_nn hb8 ?_
  refine zg_iload_n (q := 18) C0 1 dX7_apply_17 rfl rfl ?_
  refine zg_dup2 (q := 19) C0 dX7_apply_18 rfl rfl rfl ?_
  obtain ⟨hz9, hw⟩ := hw
  obtain ⟨hi10, hw⟩ := hw
  refine zg_iald (q := 20) C0 dX7_apply_19 hz9 hi10 rfl ?_
  refine zg_iconst (q := 21) C0 dX7_apply_20 zc_iconst_1 rfl ?_
  refine zg_iadd (q := 22) C0 dX7_apply_21 rfl ?_
  refine zg_iast (q := 23) C0 dX7_apply_22 hz9 hi10 rfl (fun S11 eS11 => ?_)
  have hw := hw S11 eS11
  refine zg_aload_n (q := 24) C0 0 dX7_apply_23 rfl rfl ?_
  refine zg_get (q := 27) (T := TX7) (k := 9) C0 dX7_apply_24 hz1 (zF_7 cy hz1) rfl (by decide) hX_X7_apply_7 (zwm (i := 3) rfl) rfl rfl rfl ?_
  obtain ⟨b12, hb13, hw⟩ := hw
  refine zg_nn hb13 ?_
  refine zg_iload_n (q := 28) C0 1 dX7_apply_27 rfl rfl ?_
  refine zg_aload_n (q := 29) C0 0 dX7_apply_28 rfl rfl ?_
  refine zg_get (q := 32) (T := TX7) (k := 9) C0 dX7_apply_29 hz1 (zF_7 cy hz1) rfl (by decide) hX_X7_apply_7 (zwm (i := 3) rfl) rfl rfl rfl ?_
  refine zg_nn hb13 ?_
  refine zg_iload_n (q := 33) C0 1 dX7_apply_32 rfl rfl ?_
  obtain ⟨hz14, hw⟩ := hw
  obtain ⟨hi15, hw⟩ := hw
  refine zg_lald (q := 34) C0 dX7_apply_33 hz14 hi15 rfl ?_
  refine zg_ldc2 (q := 37) (v := 31) C0 dX7_apply_34 (zwm (i := 4) rfl) rfl ?_
  refine zg_lmul (q := 38) C0 dX7_apply_37 rfl ?_
  refine zg_iload_n (q := 39) C0 3 dX7_apply_38 rfl rfl ?_
  refine zg_i2l (q := 40) C0 dX7_apply_39 rfl ?_
  refine zg_ldc2 (q := 43) (v := 17) C0 dX7_apply_40 (zwm (i := 5) rfl) rfl ?_
  refine zg_lmul (q := 44) C0 dX7_apply_43 rfl ?_
  refine zg_ladd (q := 45) C0 dX7_apply_44 rfl ?_
  refine zg_lload (q := 47) C0 4 dX7_apply_45 rfl rfl ?_
  refine zg_ladd (q := 48) C0 dX7_apply_47 rfl ?_
  refine zg_last (q := 49) C0 dX7_apply_48 hz14 hi15 rfl (fun S16 eS16 => ?_)
  have hw := hw S16 eS16
  refine zg_aload_n (q := 50) C0 0 dX7_apply_49 rfl rfl ?_
  refine zg_get (q := 53) (T := TX7) (k := 22) C0 dX7_apply_50 hz1 (zF_7 cy hz1) rfl (by decide) hX_X7_apply_7 (zwm (i := 6) rfl) rfl rfl rfl ?_
  obtain ⟨b17, hb18, hw⟩ := hw
  refine zg_nn hb18 ?_
  refine zg_iload_n (q := 54) C0 1 dX7_apply_53 rfl rfl ?_
  refine zg_iload_n (q := 55) C0 2 dX7_apply_54 rfl rfl ?_
  obtain ⟨hz19, hw⟩ := hw
  obtain ⟨hi20, hw⟩ := hw
  refine zg_iast (q := 56) C0 dX7_apply_55 hz19 hi20 rfl (fun S21 eS21 => ?_)
  have hw := hw S21 eS21
  exact zg_vret C0 dX7_apply_56 rfl (Nat.le_refl 0) (Nat.le_refl 0) hw
-- X7_deliver
abbrev rm_X7_deliver : Room := { frames := 1, cells := 0, slots := 0, locals := 34 }
theorem hX_X7_deliver_7 : ∀ w ∈ u_ws RX7 TX7 36, w ∈ wsX7_deliver := by decide +kernel
theorem hdV_X7_deliver : yX7_deliver.cls = RX7 ∧ yX7_deliver.cls ≠ "java/lang/invoke/MethodHandle" ∧ yX7_deliver.cls ≠ "java/lang/invoke/VarHandle" ∧ (parseMethodDescriptor yX7_deliver.desc).map (fun d => d.parameters.length) = some 3 := by decide +kernel
def w_X7_deliver (Z : zZ) (h0 : Nat) (p0 : Int32) (p1 : Int32) (p2 : Int32) (S : zS) (Qp : zS → Prop) : Prop :=
  zk Z h0 7 ∧ ∃ b2, zQ Z h0 5 = some b2 ∧ zk Z b2 8 ∧ vp_in p0 (zN Z b2) ∧ w_X7_place Z (zI S b2 p0.toNatClampNeg) p1 S (fun (v7 : Int32) (S6 : zS) => ∃ b8, zQ Z h0 29 = some b8 ∧ zk Z b8 8 ∧ vp_in v7 (zN Z b8) ∧ ∃ b12, zQ Z h0 30 = some b12 ∧ zk Z b12 8 ∧ vp_in v7 (zN Z b12) ∧ ∃ b16, zQ Z h0 31 = some b16 ∧ zk Z b16 9 ∧ vp_in v7 (zN Z b16) ∧ ∃ b20, zQ Z h0 24 = some b20 ∧ zk Z b20 8 ∧ vp_in (zI S6 b2 p0.toNatClampNeg) (zN Z b20) ∧ w_X7_tell Z h0 p0 1 ((p1 : Int32).toInt64) ((zI S6 b8 v7.toNatClampNeg : Int32).toInt64) ((zI S6 b12 v7.toNatClampNeg : Int32).toInt64) (zJ S6 b16 v7.toNatClampNeg) ((zI S6 b20 (zI S6 b2 p0.toNatClampNeg).toNatClampNeg : Int32).toInt64) S6 (fun (S24 : zS) => ∃ b25, zQ Z h0 32 = some b25 ∧ zk Z b25 10 ∧ vp_in v7 (zN Z b25) ∧ (((zI S24 b25 v7.toNatClampNeg) = 0 → Qp S24) ∧ (¬ (zI S24 b25 v7.toNatClampNeg) = 0 → ((p2 = 0 → Qp S24) ∧ (¬ p2 = 0 → ∃ b29, zQ Z h0 10 = some b29 ∧ zk Z b29 8 ∧ vp_in p0 (zN Z b29) ∧ vp_in (zI S24 b2 p0.toNatClampNeg) (zN Z b20) ∧ ((¬ (zI S24 b29 p0.toNatClampNeg) = (zI S24 b20 (zI S24 b2 p0.toNatClampNeg).toNatClampNeg) → Qp S24) ∧ ((zI S24 b29 p0.toNatClampNeg) = (zI S24 b20 (zI S24 b2 p0.toNatClampNeg).toNatClampNeg) → w_X7_apply Z h0 p0 p1 (zI S24 b12 v7.toNatClampNeg) (zJ S24 b16 v7.toNatClampNeg) S24 (fun (S34 : zS) => Qp S34)))))))))
set_option maxHeartbeats 4000000 in
set_option maxRecDepth 100000 in
theorem a_X7_deliver (l : Launch) (D : va_G) (cy : Nat → ClassId) (Z : zZ) (S : zS) (sz : Nat) (h0 : Nat) (p0 : Int32) (p1 : Int32) (p2 : Int32) (Qp : zS → Prop) (hw : w_X7_deliver Z h0 p0 p1 p2 S Qp) : zMv l yX7_deliver wsX7_deliver rm_X7_deliver D cy Z S sz [.ref h0, .int p0, .int p1, .int p2] Qp := by
  unfold w_X7_deliver at hw
  refine zMv_of (cc := cX7_deliver) (maxL := 5) (rt := none) (by decide +kernel) rfl (Nat.le_of_ble_eq_true rfl) ?_
  intro p e s m args below meth c A C0 _
  refine zg_lv (lv' := [(0, .ref h0), (1, .int p0), (2, .int p1), (3, .int p2)]) rfl ?_
  refine zg_aload_n (q := 1) C0 0 dX7_deliver_0 rfl rfl ?_
  obtain ⟨hz1, hw⟩ := hw
  refine zg_get (q := 4) (T := TX7) (k := 5) C0 dX7_deliver_1 hz1 (zF_7 cy hz1) rfl (by decide) hX_X7_deliver_7 (zwm (i := 1) rfl) rfl rfl rfl ?_
  obtain ⟨b2, hb3, hw⟩ := hw
  refine zg_nn hb3 ?_
  refine zg_iload_n (q := 5) C0 1 dX7_deliver_4 rfl rfl ?_
  obtain ⟨hz4, hw⟩ := hw
  obtain ⟨hi5, hw⟩ := hw
  refine zg_iald (q := 6) C0 dX7_deliver_5 hz4 hi5 rfl ?_
  refine zg_iload_n (q := 7) C0 2 dX7_deliver_6 rfl rfl ?_
  refine zg_callSi (q := 10) C0 [.int (zI S b2 p0.toNatClampNeg), .int p1] [] dX7_deliver_7 (fun sz => a_X7_place l D cy Z S sz (zI S b2 p0.toNatClampNeg) p1 _ hw) rfl gX7_deliver_X7_place hdS_X7_place rfl ⟨Nat.le_of_ble_eq_true rfl, Nat.le_of_ble_eq_true rfl⟩ (Nat.le_of_ble_eq_true rfl) ⟨Nat.zero_le _, Nat.zero_le _⟩ ⟨rfl, rfl⟩ rfl (fun v7 S6 hw => ?_)
  refine zg_istore (q := 12) (lv' := [(4, .int v7), (0, .ref h0), (1, .int p0), (2, .int p1), (3, .int p2)]) C0 dX7_deliver_10 (by decide) rfl rfl ?_
  refine zg_aload_n (q := 13) C0 1 dX7_deliver_12 rfl rfl ?_
  refine zg_iload_n (q := 14) C0 2 dX7_deliver_13 rfl rfl ?_
  refine zg_lconst (q := 15) (v := 1) C0 dX7_deliver_14 (by decide) rfl ?_
  refine zg_iload_n (q := 16) C0 3 dX7_deliver_15 rfl rfl ?_
  refine zg_i2l (q := 17) C0 dX7_deliver_16 rfl ?_
  refine zg_aload_n (q := 18) C0 1 dX7_deliver_17 rfl rfl ?_
  refine zg_get (q := 21) (T := TX7) (k := 29) C0 dX7_deliver_18 hz1 (zF_7 cy hz1) rfl (by decide) hX_X7_deliver_7 (zwm (i := 2) rfl) rfl rfl rfl ?_
  obtain ⟨b8, hb9, hw⟩ := hw
  refine zg_nn hb9 ?_
  refine zg_iload (q := 23) C0 0 dX7_deliver_21 rfl rfl ?_
  obtain ⟨hz10, hw⟩ := hw
  obtain ⟨hi11, hw⟩ := hw
  refine zg_iald (q := 24) C0 dX7_deliver_23 hz10 hi11 rfl ?_
  refine zg_i2l (q := 25) C0 dX7_deliver_24 rfl ?_
  refine zg_aload_n (q := 26) C0 1 dX7_deliver_25 rfl rfl ?_
  refine zg_get (q := 29) (T := TX7) (k := 30) C0 dX7_deliver_26 hz1 (zF_7 cy hz1) rfl (by decide) hX_X7_deliver_7 (zwm (i := 3) rfl) rfl rfl rfl ?_
  obtain ⟨b12, hb13, hw⟩ := hw
  refine zg_nn hb13 ?_
  refine zg_iload (q := 31) C0 0 dX7_deliver_29 rfl rfl ?_
  obtain ⟨hz14, hw⟩ := hw
  obtain ⟨hi15, hw⟩ := hw
  refine zg_iald (q := 32) C0 dX7_deliver_31 hz14 hi15 rfl ?_
  refine zg_i2l (q := 33) C0 dX7_deliver_32 rfl ?_
  refine zg_aload_n (q := 34) C0 1 dX7_deliver_33 rfl rfl ?_
  refine zg_get (q := 37) (T := TX7) (k := 31) C0 dX7_deliver_34 hz1 (zF_7 cy hz1) rfl (by decide) hX_X7_deliver_7 (zwm (i := 4) rfl) rfl rfl rfl ?_
  obtain ⟨b16, hb17, hw⟩ := hw
  refine zg_nn hb17 ?_
  refine zg_iload (q := 39) C0 0 dX7_deliver_37 rfl rfl ?_
  obtain ⟨hz18, hw⟩ := hw
  obtain ⟨hi19, hw⟩ := hw
  refine zg_lald (q := 40) C0 dX7_deliver_39 hz18 hi19 rfl ?_
  refine zg_aload_n (q := 41) C0 1 dX7_deliver_40 rfl rfl ?_
  refine zg_get (q := 44) (T := TX7) (k := 24) C0 dX7_deliver_41 hz1 (zF_7 cy hz1) rfl (by decide) hX_X7_deliver_7 (zwm (i := 5) rfl) rfl rfl rfl ?_
  obtain ⟨b20, hb21, hw⟩ := hw
  refine zg_nn hb21 ?_
  refine zg_aload_n (q := 45) C0 1 dX7_deliver_44 rfl rfl ?_
  refine zg_get (q := 48) (T := TX7) (k := 5) C0 dX7_deliver_45 hz1 (zF_7 cy hz1) rfl (by decide) hX_X7_deliver_7 (zwm (i := 1) rfl) rfl rfl rfl ?_
  refine zg_nn hb3 ?_
  refine zg_iload_n (q := 49) C0 2 dX7_deliver_48 rfl rfl ?_
  refine zg_iald (q := 50) C0 dX7_deliver_49 hz4 hi5 rfl ?_
  obtain ⟨hz22, hw⟩ := hw
  obtain ⟨hi23, hw⟩ := hw
  refine zg_iald (q := 51) C0 dX7_deliver_50 hz22 hi23 rfl ?_
  refine zg_i2l (q := 52) C0 dX7_deliver_51 rfl ?_
  refine zg_callVv (q := 55) C0 [.int p0, .long 1, .long ((p1 : Int32).toInt64), .long ((zI S6 b8 v7.toNatClampNeg : Int32).toInt64), .long ((zI S6 b12 v7.toNatClampNeg : Int32).toInt64), .long (zJ S6 b16 v7.toNatClampNeg), .long ((zI S6 b20 (zI S6 b2 p0.toNatClampNeg).toNatClampNeg : Int32).toInt64)] [] dX7_deliver_52 (fun sz => a_X7_tell l D cy Z S6 sz h0 p0 1 ((p1 : Int32).toInt64) ((zI S6 b8 v7.toNatClampNeg : Int32).toInt64) ((zI S6 b12 v7.toNatClampNeg : Int32).toInt64) (zJ S6 b16 v7.toNatClampNeg) ((zI S6 b20 (zI S6 b2 p0.toNatClampNeg).toNatClampNeg : Int32).toInt64) _ hw) rfl gX7_deliver_X7_tell hdV_X7_tell hz1 (zF_7 cy hz1) rfl rfl ⟨Nat.le_of_ble_eq_true rfl, Nat.le_of_ble_eq_true rfl⟩ (Nat.le_of_ble_eq_true rfl) ⟨Nat.zero_le _, Nat.zero_le _⟩ ⟨rfl, rfl⟩ rfl (fun S24 hw => ?_)
  refine zg_aload_n (q := 56) C0 1 dX7_deliver_55 rfl rfl ?_
  refine zg_get (q := 59) (T := TX7) (k := 32) C0 dX7_deliver_56 hz1 (zF_7 cy hz1) rfl (by decide) hX_X7_deliver_7 (zwm (i := 6) rfl) rfl rfl rfl ?_
  obtain ⟨b25, hb26, hw⟩ := hw
  refine zg_nn hb26 ?_
  refine zg_iload (q := 61) C0 0 dX7_deliver_59 rfl rfl ?_
  obtain ⟨hz27, hw⟩ := hw
  obtain ⟨hi28, hw⟩ := hw
  refine zg_zald (q := 62) C0 dX7_deliver_61 hz27 hi28 rfl ?_
  refine zg_if_eq (q := 65) (tgt := 109) C0 dX7_deliver_62 rfl rfl (fun c37 => ?_) (fun c37 => ?_)
  · have hw := hw.1 c37
    exact zg_vret C0 dX7_deliver_109 rfl (Nat.le_refl 0) (Nat.le_refl 0) hw
  · have hw := hw.2 c37
    refine zg_iload_n (q := 66) C0 4 dX7_deliver_65 rfl rfl ?_
    refine zg_if_eq (q := 69) (tgt := 109) C0 dX7_deliver_66 rfl rfl (fun c36 => ?_) (fun c36 => ?_)
    · have hw := hw.1 c36
      exact zg_vret C0 dX7_deliver_109 rfl (Nat.le_refl 0) (Nat.le_refl 0) hw
    · have hw := hw.2 c36
      refine zg_aload_n (q := 70) C0 1 dX7_deliver_69 rfl rfl ?_
      refine zg_get (q := 73) (T := TX7) (k := 10) C0 dX7_deliver_70 hz1 (zF_7 cy hz1) rfl (by decide) hX_X7_deliver_7 (zwm (i := 7) rfl) rfl rfl rfl ?_
      obtain ⟨b29, hb30, hw⟩ := hw
      refine zg_nn hb30 ?_
      refine zg_iload_n (q := 74) C0 2 dX7_deliver_73 rfl rfl ?_
      obtain ⟨hz31, hw⟩ := hw
      obtain ⟨hi32, hw⟩ := hw
      refine zg_iald (q := 75) C0 dX7_deliver_74 hz31 hi32 rfl ?_
      refine zg_aload_n (q := 76) C0 1 dX7_deliver_75 rfl rfl ?_
      refine zg_get (q := 79) (T := TX7) (k := 24) C0 dX7_deliver_76 hz1 (zF_7 cy hz1) rfl (by decide) hX_X7_deliver_7 (zwm (i := 5) rfl) rfl rfl rfl ?_
      refine zg_nn hb21 ?_
      refine zg_aload_n (q := 80) C0 1 dX7_deliver_79 rfl rfl ?_
      refine zg_get (q := 83) (T := TX7) (k := 5) C0 dX7_deliver_80 hz1 (zF_7 cy hz1) rfl (by decide) hX_X7_deliver_7 (zwm (i := 1) rfl) rfl rfl rfl ?_
      refine zg_nn hb3 ?_
      refine zg_iload_n (q := 84) C0 2 dX7_deliver_83 rfl rfl ?_
      refine zg_iald (q := 85) C0 dX7_deliver_84 hz4 hi5 rfl ?_
      obtain ⟨hi33, hw⟩ := hw
      refine zg_iald (q := 86) C0 dX7_deliver_85 hz22 hi33 rfl ?_
      refine zg_icmp_ne (q := 89) (tgt := 109) C0 dX7_deliver_86 rfl rfl (fun c35 => ?_) (fun c35 => ?_)
      · have hw := hw.1 c35
        exact zg_vret C0 dX7_deliver_109 rfl (Nat.le_refl 0) (Nat.le_refl 0) hw
      · have hw := hw.2 c35
        refine zg_aload_n (q := 90) C0 1 dX7_deliver_89 rfl rfl ?_
        refine zg_iload_n (q := 91) C0 2 dX7_deliver_90 rfl rfl ?_
        refine zg_iload_n (q := 92) C0 3 dX7_deliver_91 rfl rfl ?_
        refine zg_aload_n (q := 93) C0 1 dX7_deliver_92 rfl rfl ?_
        refine zg_get (q := 96) (T := TX7) (k := 30) C0 dX7_deliver_93 hz1 (zF_7 cy hz1) rfl (by decide) hX_X7_deliver_7 (zwm (i := 3) rfl) rfl rfl rfl ?_
        refine zg_nn hb13 ?_
        refine zg_iload (q := 98) C0 0 dX7_deliver_96 rfl rfl ?_
        refine zg_iald (q := 99) C0 dX7_deliver_98 hz14 hi15 rfl ?_
        refine zg_aload_n (q := 100) C0 1 dX7_deliver_99 rfl rfl ?_
        refine zg_get (q := 103) (T := TX7) (k := 31) C0 dX7_deliver_100 hz1 (zF_7 cy hz1) rfl (by decide) hX_X7_deliver_7 (zwm (i := 4) rfl) rfl rfl rfl ?_
        refine zg_nn hb17 ?_
        refine zg_iload (q := 105) C0 0 dX7_deliver_103 rfl rfl ?_
        refine zg_lald (q := 106) C0 dX7_deliver_105 hz18 hi19 rfl ?_
        refine zg_callVv (q := 109) C0 [.int p0, .int p1, .int (zI S24 b12 v7.toNatClampNeg), .long (zJ S24 b16 v7.toNatClampNeg)] [] dX7_deliver_106 (fun sz => a_X7_apply l D cy Z S24 sz h0 p0 p1 (zI S24 b12 v7.toNatClampNeg) (zJ S24 b16 v7.toNatClampNeg) _ hw) rfl gX7_deliver_X7_apply hdV_X7_apply hz1 (zF_7 cy hz1) rfl rfl ⟨Nat.le_of_ble_eq_true rfl, Nat.le_of_ble_eq_true rfl⟩ (Nat.le_of_ble_eq_true rfl) ⟨Nat.zero_le _, Nat.zero_le _⟩ ⟨rfl, rfl⟩ rfl (fun S34 hw => ?_)
        exact zg_vret C0 dX7_deliver_109 rfl (Nat.le_refl 0) (Nat.le_refl 0) hw
-- X7_gets
abbrev rm_X7_gets : Room := { frames := 1, cells := 0, slots := 0, locals := 21 }
theorem hX_X7_gets_7 : ∀ w ∈ u_ws RX7 TX7 36, w ∈ wsX7_gets := by decide +kernel
theorem hdV_X7_gets : yX7_gets.cls = RX7 ∧ yX7_gets.cls ≠ "java/lang/invoke/MethodHandle" ∧ yX7_gets.cls ≠ "java/lang/invoke/VarHandle" ∧ (parseMethodDescriptor yX7_gets.desc).map (fun d => d.parameters.length) = some 2 := by decide +kernel
def w_X7_gets (Z : zZ) (h0 : Nat) (p0 : Int32) (p1 : Int32) (S : zS) (Qp : zS → Prop) : Prop :=
  zk Z h0 7 ∧ ∃ b2, zQ Z h0 5 = some b2 ∧ zk Z b2 8 ∧ vp_in p0 (zN Z b2) ∧ w_X7_place Z (zI S b2 p0.toNatClampNeg) p1 S (fun (v7 : Int32) (S6 : zS) => ∃ b8, zQ Z h0 33 = some b8 ∧ zk Z b8 8 ∧ vp_in v7 (zN Z b8) ∧ ∀ S12 : zS, S12 = zsI S6 b8 v7.toNatClampNeg ((zI S6 b8 v7.toNatClampNeg) ||| (1 <<< (p0 &&& 31))) → ∃ b13, zQ Z h0 32 = some b13 ∧ zk Z b13 10 ∧ vp_in v7 (zN Z b13) ∧ (((zI S12 b13 v7.toNatClampNeg) = 0 → Qp S12) ∧ (¬ (zI S12 b13 v7.toNatClampNeg) = 0 → ∃ b17, zQ Z h0 10 = some b17 ∧ zk Z b17 8 ∧ vp_in p0 (zN Z b17) ∧ ∃ b21, zQ Z h0 24 = some b21 ∧ zk Z b21 8 ∧ vp_in (zI S12 b2 p0.toNatClampNeg) (zN Z b21) ∧ ((¬ (zI S12 b17 p0.toNatClampNeg) = (zI S12 b21 (zI S12 b2 p0.toNatClampNeg).toNatClampNeg) → Qp S12) ∧ ((zI S12 b17 p0.toNatClampNeg) = (zI S12 b21 (zI S12 b2 p0.toNatClampNeg).toNatClampNeg) → ∃ b25, zQ Z h0 19 = some b25 ∧ zk Z b25 10 ∧ vp_in ((101 * p0) + p1) (zN Z b25) ∧ ∀ S29 : zS, S29 = zsI S12 b25 ((101 * p0) + p1).toNatClampNeg 1 → ∃ b30, zQ Z h0 20 = some b30 ∧ ∃ b32, zQ Z h0 30 = some b32 ∧ zk Z b32 8 ∧ vp_in v7 (zN Z b32) ∧ zk Z b30 8 ∧ vp_in ((101 * p0) + p1) (zN Z b30) ∧ ∀ S38 : zS, S38 = zsI S29 b30 ((101 * p0) + p1).toNatClampNeg (zI S29 b32 v7.toNatClampNeg) → ∃ b39, zQ Z h0 21 = some b39 ∧ ∃ b41, zQ Z h0 31 = some b41 ∧ zk Z b41 9 ∧ vp_in v7 (zN Z b41) ∧ zk Z b39 9 ∧ vp_in ((101 * p0) + p1) (zN Z b39) ∧ ∀ S47 : zS, S47 = zsJ S38 b39 ((101 * p0) + p1).toNatClampNeg (zJ S38 b41 v7.toNatClampNeg) → Qp S47)))))
set_option maxHeartbeats 4000000 in
set_option maxRecDepth 100000 in
theorem a_X7_gets (l : Launch) (D : va_G) (cy : Nat → ClassId) (Z : zZ) (S : zS) (sz : Nat) (h0 : Nat) (p0 : Int32) (p1 : Int32) (Qp : zS → Prop) (hw : w_X7_gets Z h0 p0 p1 S Qp) : zMv l yX7_gets wsX7_gets rm_X7_gets D cy Z S sz [.ref h0, .int p0, .int p1] Qp := by
  unfold w_X7_gets at hw
  refine zMv_of (cc := cX7_gets) (maxL := 4) (rt := none) (by decide +kernel) rfl (Nat.le_of_ble_eq_true rfl) ?_
  intro p e s m args below meth c A C0 _
  refine zg_lv (lv' := [(0, .ref h0), (1, .int p0), (2, .int p1)]) rfl ?_
  refine zg_aload_n (q := 1) C0 0 dX7_gets_0 rfl rfl ?_
  obtain ⟨hz1, hw⟩ := hw
  refine zg_get (q := 4) (T := TX7) (k := 5) C0 dX7_gets_1 hz1 (zF_7 cy hz1) rfl (by decide) hX_X7_gets_7 (zwm (i := 1) rfl) rfl rfl rfl ?_
  obtain ⟨b2, hb3, hw⟩ := hw
  refine zg_nn hb3 ?_
  refine zg_iload_n (q := 5) C0 1 dX7_gets_4 rfl rfl ?_
  obtain ⟨hz4, hw⟩ := hw
  obtain ⟨hi5, hw⟩ := hw
  refine zg_iald (q := 6) C0 dX7_gets_5 hz4 hi5 rfl ?_
  refine zg_iload_n (q := 7) C0 2 dX7_gets_6 rfl rfl ?_
  refine zg_callSi (q := 10) C0 [.int (zI S b2 p0.toNatClampNeg), .int p1] [] dX7_gets_7 (fun sz => a_X7_place l D cy Z S sz (zI S b2 p0.toNatClampNeg) p1 _ hw) rfl gX7_gets_X7_place hdS_X7_place rfl ⟨Nat.le_of_ble_eq_true rfl, Nat.le_of_ble_eq_true rfl⟩ (Nat.le_of_ble_eq_true rfl) ⟨Nat.zero_le _, Nat.zero_le _⟩ ⟨rfl, rfl⟩ rfl (fun v7 S6 hw => ?_)
  refine zg_istore_n (q := 11) (lv' := [(3, .int v7), (0, .ref h0), (1, .int p0), (2, .int p1)]) C0 dX7_gets_10 (by decide) rfl rfl ?_
  refine zg_aload_n (q := 12) C0 1 dX7_gets_11 rfl rfl ?_
  refine zg_get (q := 15) (T := TX7) (k := 33) C0 dX7_gets_12 hz1 (zF_7 cy hz1) rfl (by decide) hX_X7_gets_7 (zwm (i := 2) rfl) rfl rfl rfl ?_
  obtain ⟨b8, hb9, hw⟩ := hw
  refine zg_nn hb9 ?_
  refine zg_iload_n (q := 16) C0 0 dX7_gets_15 rfl rfl ?_
  refine zg_aload_n (q := 17) C0 1 dX7_gets_16 rfl rfl ?_
  refine zg_get (q := 20) (T := TX7) (k := 33) C0 dX7_gets_17 hz1 (zF_7 cy hz1) rfl (by decide) hX_X7_gets_7 (zwm (i := 2) rfl) rfl rfl rfl ?_
  refine zg_nn hb9 ?_
  refine zg_iload_n (q := 21) C0 0 dX7_gets_20 rfl rfl ?_
  obtain ⟨hz10, hw⟩ := hw
  obtain ⟨hi11, hw⟩ := hw
  refine zg_iald (q := 22) C0 dX7_gets_21 hz10 hi11 rfl ?_
  refine zg_iconst (q := 23) C0 dX7_gets_22 zc_iconst_1 rfl ?_
  refine zg_iload_n (q := 24) C0 2 dX7_gets_23 rfl rfl ?_
  refine zg_ishl (q := 25) C0 dX7_gets_24 rfl ?_
  refine zg_ior (q := 26) C0 dX7_gets_25 rfl ?_
  refine zg_iast (q := 27) C0 dX7_gets_26 hz10 hi11 rfl (fun S12 eS12 => ?_)
  have hw := hw S12 eS12
  refine zg_aload_n (q := 28) C0 1 dX7_gets_27 rfl rfl ?_
  refine zg_get (q := 31) (T := TX7) (k := 32) C0 dX7_gets_28 hz1 (zF_7 cy hz1) rfl (by decide) hX_X7_gets_7 (zwm (i := 3) rfl) rfl rfl rfl ?_
  obtain ⟨b13, hb14, hw⟩ := hw
  refine zg_nn hb14 ?_
  refine zg_iload_n (q := 32) C0 0 dX7_gets_31 rfl rfl ?_
  obtain ⟨hz15, hw⟩ := hw
  obtain ⟨hi16, hw⟩ := hw
  refine zg_zald (q := 33) C0 dX7_gets_32 hz15 hi16 rfl ?_
  refine zg_if_eq (q := 36) (tgt := 102) C0 dX7_gets_33 rfl rfl (fun c49 => ?_) (fun c49 => ?_)
  · have hw := hw.1 c49
    exact zg_vret C0 dX7_gets_102 rfl (Nat.le_refl 0) (Nat.le_refl 0) hw
  · have hw := hw.2 c49
    refine zg_aload_n (q := 37) C0 1 dX7_gets_36 rfl rfl ?_
    refine zg_get (q := 40) (T := TX7) (k := 10) C0 dX7_gets_37 hz1 (zF_7 cy hz1) rfl (by decide) hX_X7_gets_7 (zwm (i := 4) rfl) rfl rfl rfl ?_
    obtain ⟨b17, hb18, hw⟩ := hw
    refine zg_nn hb18 ?_
    refine zg_iload_n (q := 41) C0 2 dX7_gets_40 rfl rfl ?_
    obtain ⟨hz19, hw⟩ := hw
    obtain ⟨hi20, hw⟩ := hw
    refine zg_iald (q := 42) C0 dX7_gets_41 hz19 hi20 rfl ?_
    refine zg_aload_n (q := 43) C0 1 dX7_gets_42 rfl rfl ?_
    refine zg_get (q := 46) (T := TX7) (k := 24) C0 dX7_gets_43 hz1 (zF_7 cy hz1) rfl (by decide) hX_X7_gets_7 (zwm (i := 5) rfl) rfl rfl rfl ?_
    obtain ⟨b21, hb22, hw⟩ := hw
    refine zg_nn hb22 ?_
    refine zg_aload_n (q := 47) C0 1 dX7_gets_46 rfl rfl ?_
    refine zg_get (q := 50) (T := TX7) (k := 5) C0 dX7_gets_47 hz1 (zF_7 cy hz1) rfl (by decide) hX_X7_gets_7 (zwm (i := 1) rfl) rfl rfl rfl ?_
    refine zg_nn hb3 ?_
    refine zg_iload_n (q := 51) C0 2 dX7_gets_50 rfl rfl ?_
    refine zg_iald (q := 52) C0 dX7_gets_51 hz4 hi5 rfl ?_
    obtain ⟨hz23, hw⟩ := hw
    obtain ⟨hi24, hw⟩ := hw
    refine zg_iald (q := 53) C0 dX7_gets_52 hz23 hi24 rfl ?_
    refine zg_icmp_ne (q := 56) (tgt := 102) C0 dX7_gets_53 rfl rfl (fun c48 => ?_) (fun c48 => ?_)
    · have hw := hw.1 c48
      exact zg_vret C0 dX7_gets_102 rfl (Nat.le_refl 0) (Nat.le_refl 0) hw
    · have hw := hw.2 c48
      refine zg_aload_n (q := 57) C0 1 dX7_gets_56 rfl rfl ?_
      refine zg_get (q := 60) (T := TX7) (k := 19) C0 dX7_gets_57 hz1 (zF_7 cy hz1) rfl (by decide) hX_X7_gets_7 (zwm (i := 6) rfl) rfl rfl rfl ?_
      obtain ⟨b25, hb26, hw⟩ := hw
      refine zg_nn hb26 ?_
      refine zg_bipush (q := 62) C0 dX7_gets_60 zc_bipush_101 rfl ?_
      refine zg_iload_n (q := 63) C0 2 dX7_gets_62 rfl rfl ?_
      refine zg_imul (q := 64) C0 dX7_gets_63 rfl ?_
      refine zg_iload_n (q := 65) C0 3 dX7_gets_64 rfl rfl ?_
      refine zg_iadd (q := 66) C0 dX7_gets_65 rfl ?_
      refine zg_iconst (q := 67) C0 dX7_gets_66 zc_iconst_1 rfl ?_
      obtain ⟨hz27, hw⟩ := hw
      obtain ⟨hi28, hw⟩ := hw
      refine zg_zast (q := 68) C0 dX7_gets_67 hz27 hi28 (by decide) rfl (fun S29 eS29 => ?_)
      have hw := hw S29 eS29
      refine zg_aload_n (q := 69) C0 1 dX7_gets_68 rfl rfl ?_
      refine zg_get (q := 72) (T := TX7) (k := 20) C0 dX7_gets_69 hz1 (zF_7 cy hz1) rfl (by decide) hX_X7_gets_7 (zwm (i := 7) rfl) rfl rfl rfl ?_
      obtain ⟨b30, hb31, hw⟩ := hw
      refine zg_nn hb31 ?_
      refine zg_bipush (q := 74) C0 dX7_gets_72 zc_bipush_101 rfl ?_
      refine zg_iload_n (q := 75) C0 2 dX7_gets_74 rfl rfl ?_
      refine zg_imul (q := 76) C0 dX7_gets_75 rfl ?_
      refine zg_iload_n (q := 77) C0 3 dX7_gets_76 rfl rfl ?_
      refine zg_iadd (q := 78) C0 dX7_gets_77 rfl ?_
      refine zg_aload_n (q := 79) C0 1 dX7_gets_78 rfl rfl ?_
      refine zg_get (q := 82) (T := TX7) (k := 30) C0 dX7_gets_79 hz1 (zF_7 cy hz1) rfl (by decide) hX_X7_gets_7 (zwm (i := 8) rfl) rfl rfl rfl ?_
      obtain ⟨b32, hb33, hw⟩ := hw
      refine zg_nn hb33 ?_
      refine zg_iload_n (q := 83) C0 0 dX7_gets_82 rfl rfl ?_
      obtain ⟨hz34, hw⟩ := hw
      obtain ⟨hi35, hw⟩ := hw
      refine zg_iald (q := 84) C0 dX7_gets_83 hz34 hi35 rfl ?_
      obtain ⟨hz36, hw⟩ := hw
      obtain ⟨hi37, hw⟩ := hw
      refine zg_iast (q := 85) C0 dX7_gets_84 hz36 hi37 rfl (fun S38 eS38 => ?_)
      have hw := hw S38 eS38
      refine zg_aload_n (q := 86) C0 1 dX7_gets_85 rfl rfl ?_
      refine zg_get (q := 89) (T := TX7) (k := 21) C0 dX7_gets_86 hz1 (zF_7 cy hz1) rfl (by decide) hX_X7_gets_7 (zwm (i := 9) rfl) rfl rfl rfl ?_
      obtain ⟨b39, hb40, hw⟩ := hw
      refine zg_nn hb40 ?_
      refine zg_bipush (q := 91) C0 dX7_gets_89 zc_bipush_101 rfl ?_
      refine zg_iload_n (q := 92) C0 2 dX7_gets_91 rfl rfl ?_
      refine zg_imul (q := 93) C0 dX7_gets_92 rfl ?_
      refine zg_iload_n (q := 94) C0 3 dX7_gets_93 rfl rfl ?_
      refine zg_iadd (q := 95) C0 dX7_gets_94 rfl ?_
      refine zg_aload_n (q := 96) C0 1 dX7_gets_95 rfl rfl ?_
      refine zg_get (q := 99) (T := TX7) (k := 31) C0 dX7_gets_96 hz1 (zF_7 cy hz1) rfl (by decide) hX_X7_gets_7 (zwm (i := 10) rfl) rfl rfl rfl ?_
      obtain ⟨b41, hb42, hw⟩ := hw
      refine zg_nn hb42 ?_
      refine zg_iload_n (q := 100) C0 0 dX7_gets_99 rfl rfl ?_
      obtain ⟨hz43, hw⟩ := hw
      obtain ⟨hi44, hw⟩ := hw
      refine zg_lald (q := 101) C0 dX7_gets_100 hz43 hi44 rfl ?_
      obtain ⟨hz45, hw⟩ := hw
      obtain ⟨hi46, hw⟩ := hw
      refine zg_last (q := 102) C0 dX7_gets_101 hz45 hi46 rfl (fun S47 eS47 => ?_)
      have hw := hw S47 eS47
      exact zg_vret C0 dX7_gets_102 rfl (Nat.le_refl 0) (Nat.le_refl 0) hw
-- X7_deliverAll
abbrev rm_X7_deliverAll : Room := { frames := 2, cells := 0, slots := 0, locals := 58 }
theorem hX_X7_deliverAll_7 : ∀ w ∈ u_ws RX7 TX7 36, w ∈ wsX7_deliverAll := by decide +kernel
theorem hdV_X7_deliverAll : yX7_deliverAll.cls = RX7 ∧ yX7_deliverAll.cls ≠ "java/lang/invoke/MethodHandle" ∧ yX7_deliverAll.cls ≠ "java/lang/invoke/VarHandle" ∧ (parseMethodDescriptor yX7_deliverAll.desc).map (fun d => d.parameters.length) = some 1 := by decide +kernel
def wJ_X7_deliverAll_63 (Z : zZ) (Qp : Int32 → zS → Prop) (K : Int32 → zS → Prop) (rec : Int32 → Int32 → zS → Prop) (x0 : Nat) (x1 : Int32) (x2 : Int32) (x3 : Int32) (S : zS) : Prop :=
  zk Z x0 7 ∧ w_X7_deliver Z x0 x1 x3 1 S (fun (S25 : zS) => ∃ b26, zQ Z x0 16 = some b26 ∧ zk Z b26 8 ∧ vp_in x1 (zN Z b26) ∧ ∀ S30 : zS, S30 = zsI S25 b26 x1.toNatClampNeg x3 → ∀ y31 : Int32, y31 = x2 + 1 → ∀ y32 : Int32, y32 = x3 + 1 → rec y31 y32 S30)
set_option maxHeartbeats 4000000 in
set_option maxRecDepth 100000 in
theorem aJ_X7_deliverAll_63 {p : Program} {l : Launch} {e : Env} {s : State} {m : MethodId} {args : Array Value} {below : List Frame} {meth : Method} {c : Code} {D : va_G} {cy : Nat → ClassId} {A : Nat → Prop} {Q : State → Prop} {Z : zZ} (C0 : zC p s m args meth c cX7_deliverAll 4 wsX7_deliverAll RX7 D cy A (some .int)) {Qp : Int32 → zS → Prop} {x0 : Nat} {x1 : Int32} {x2 : Int32} {x3 : Int32}  {K : Int32 → zS → Prop} {rec : Int32 → Int32 → zS → Prop} (hK : ∀ x2 S, K x2 S → zG p l e rm_X7_deliverAll s m args below meth c D cy A 4 0 0 Q Z S 86 [(2, .int x2)] []) (hrec : ∀ x2 x3 S, rec x2 x3 S → zG p l e rm_X7_deliverAll s m args below meth c D cy A 4 0 0 Q Z S 11 [(0, .ref x0), (1, .int x1), (2, .int x2), (3, .int x3)] []) {S : zS} (hw : wJ_X7_deliverAll_63 Z Qp K rec x0 x1 x2 x3 S) : zG p l e rm_X7_deliverAll s m args below meth c D cy A 4 0 0 Q Z S 63 [(0, .ref x0), (1, .int x1), (2, .int x2), (3, .int x3)] [] := by
  unfold wJ_X7_deliverAll_63 at hw
  refine zg_aload_n (q := 64) C0 0 dX7_deliverAll_63 rfl rfl ?_
  refine zg_iload_n (q := 65) C0 1 dX7_deliverAll_64 rfl rfl ?_
  refine zg_iload_n (q := 66) C0 3 dX7_deliverAll_65 rfl rfl ?_
  refine zg_iconst (q := 67) C0 dX7_deliverAll_66 zc_iconst_1 rfl ?_
  obtain ⟨hz24, hw⟩ := hw
  refine zg_callVv (q := 70) C0 [.int x1, .int x3, .int 1] [] dX7_deliverAll_67 (fun sz => a_X7_deliver l D cy Z S sz x0 x1 x3 1 _ hw) rfl gX7_deliverAll_X7_deliver hdV_X7_deliver hz24 (zF_7 cy hz24) rfl rfl ⟨Nat.le_of_ble_eq_true rfl, Nat.le_of_ble_eq_true rfl⟩ (Nat.le_of_ble_eq_true rfl) ⟨Nat.zero_le _, Nat.zero_le _⟩ ⟨rfl, rfl⟩ rfl (fun S25 hw => ?_)
  refine zg_aload_n (q := 71) C0 0 dX7_deliverAll_70 rfl rfl ?_
  refine zg_get (q := 74) (T := TX7) (k := 16) C0 dX7_deliverAll_71 hz24 (zF_7 cy hz24) rfl (by decide) hX_X7_deliverAll_7 (zwm (i := 1) rfl) rfl rfl rfl ?_
  obtain ⟨b26, hb27, hw⟩ := hw
  refine zg_nn hb27 ?_
  refine zg_iload_n (q := 75) C0 1 dX7_deliverAll_74 rfl rfl ?_
  refine zg_iload_n (q := 76) C0 3 dX7_deliverAll_75 rfl rfl ?_
  obtain ⟨hz28, hw⟩ := hw
  obtain ⟨hi29, hw⟩ := hw
  refine zg_iast (q := 77) C0 dX7_deliverAll_76 hz28 hi29 rfl (fun S30 eS30 => ?_)
  have hw := hw S30 eS30
  refine zg_iinc (q := 80) C0 2 dX7_deliverAll_77 rfl (by decide) zc_iconst_1 rfl (fun y31 ey31 => ?_)
  have hw := hw y31 ey31
  refine zg_lv (lv' := [(2, .int y31), (0, .ref x0), (1, .int x1), (3, .int x3)]) rfl ?_
  refine zg_iinc (q := 83) C0 3 dX7_deliverAll_80 rfl (by decide) zc_iconst_1 rfl (fun y32 ey32 => ?_)
  have hw := hw y32 ey32
  refine zg_lv (lv' := [(3, .int y32), (2, .int y31), (0, .ref x0), (1, .int x1)]) rfl ?_
  refine zg_goto (tgt := 11) C0 dX7_deliverAll_83 rfl ?_
  refine zg_sub [2, 3, 1, 0] rfl ?_
  exact hrec _ _ _ hw
def wb_X7_deliverAll_11 (Z : zZ) (x0 : Nat) (x1 : Int32) (Qp : Int32 → zS → Prop) (K : Int32 → zS → Prop) (rec : Int32 → Int32 → zS → Prop) (x2 : Int32) (x3 : Int32) (S : zS) : Prop :=
  zk Z x0 7 ∧ ∃ b8, zQ Z x0 28 = some b8 ∧ ∃ b10, zQ Z x0 5 = some b10 ∧ zk Z b10 8 ∧ vp_in x1 (zN Z b10) ∧ zk Z b8 8 ∧ vp_in (zI S b10 x1.toNatClampNeg) (zN Z b8) ∧ (((zI S b8 (zI S b10 x1.toNatClampNeg).toNatClampNeg) < x3 → K x2 S) ∧ (¬ (zI S b8 (zI S b10 x1.toNatClampNeg).toNatClampNeg) < x3 → w_X7_hasPlace Z x0 x1 x3 S (fun (v17 : Int32) (S16 : zS) => ((v17 = 0 → K x2 S16) ∧ (¬ v17 = 0 → ∃ b18, zQ Z x0 32 = some b18 ∧ w_X7_place Z (zI S16 b10 x1.toNatClampNeg) x3 S16 (fun (v21 : Int32) (S20 : zS) => zk Z b18 10 ∧ vp_in v21 (zN Z b18) ∧ (((zI S20 b18 v21.toNatClampNeg) = 0 → wJ_X7_deliverAll_63 Z Qp K rec x0 x1 x2 x3 S20) ∧ (¬ (zI S20 b18 v21.toNatClampNeg) = 0 → ∃ b33, zQ Z x0 17 = some b33 ∧ zk Z b33 8 ∧ vp_in x1 (zN Z b33) ∧ (((zI S20 b33 x1.toNatClampNeg) < x3 → K x2 S20) ∧ (¬ (zI S20 b33 x1.toNatClampNeg) < x3 → wJ_X7_deliverAll_63 Z Qp K rec x0 x1 x2 x3 S20))))))))))
def wL_X7_deliverAll_11 (Z : zZ) (x0 : Nat) (x1 : Int32) (Qp : Int32 → zS → Prop) (K : Int32 → zS → Prop) (x2 : Int32) (x3 : Int32) (S : zS) : Prop := ∃ n, zit3 (wb_X7_deliverAll_11 Z x0 x1 Qp K) n x2 x3 S
set_option maxHeartbeats 4000000 in
set_option maxRecDepth 100000 in
theorem ab_X7_deliverAll_11 {p : Program} {l : Launch} {e : Env} {s : State} {m : MethodId} {args : Array Value} {below : List Frame} {meth : Method} {c : Code} {D : va_G} {cy : Nat → ClassId} {A : Nat → Prop} {Q : State → Prop} {Z : zZ} (C0 : zC p s m args meth c cX7_deliverAll 4 wsX7_deliverAll RX7 D cy A (some .int)) {x0 : Nat} {x1 : Int32} {Qp : Int32 → zS → Prop} {K : Int32 → zS → Prop} (hK : ∀ x2 S, K x2 S → zG p l e rm_X7_deliverAll s m args below meth c D cy A 4 0 0 Q Z S 86 [(2, .int x2)] []) {rec : Int32 → Int32 → zS → Prop} (hrec : ∀ x2 x3 S, rec x2 x3 S → zG p l e rm_X7_deliverAll s m args below meth c D cy A 4 0 0 Q Z S 11 [(0, .ref x0), (1, .int x1), (2, .int x2), (3, .int x3)] []) {x2 : Int32} {x3 : Int32} {S : zS} (hw : wb_X7_deliverAll_11 Z x0 x1 Qp K rec x2 x3 S) : zG p l e rm_X7_deliverAll s m args below meth c D cy A 4 0 0 Q Z S 11 [(0, .ref x0), (1, .int x1), (2, .int x2), (3, .int x3)] [] := by
  unfold wb_X7_deliverAll_11 at hw
  refine zg_iload_n (q := 12) C0 3 dX7_deliverAll_11 rfl rfl ?_
  refine zg_aload_n (q := 13) C0 0 dX7_deliverAll_12 rfl rfl ?_
  obtain ⟨hz7, hw⟩ := hw
  refine zg_get (q := 16) (T := TX7) (k := 28) C0 dX7_deliverAll_13 hz7 (zF_7 cy hz7) rfl (by decide) hX_X7_deliverAll_7 (zwm (i := 2) rfl) rfl rfl rfl ?_
  obtain ⟨b8, hb9, hw⟩ := hw
  refine zg_nn hb9 ?_
  refine zg_aload_n (q := 17) C0 0 dX7_deliverAll_16 rfl rfl ?_
  refine zg_get (q := 20) (T := TX7) (k := 5) C0 dX7_deliverAll_17 hz7 (zF_7 cy hz7) rfl (by decide) hX_X7_deliverAll_7 (zwm (i := 3) rfl) rfl rfl rfl ?_
  obtain ⟨b10, hb11, hw⟩ := hw
  refine zg_nn hb11 ?_
  refine zg_iload_n (q := 21) C0 1 dX7_deliverAll_20 rfl rfl ?_
  obtain ⟨hz12, hw⟩ := hw
  obtain ⟨hi13, hw⟩ := hw
  refine zg_iald (q := 22) C0 dX7_deliverAll_21 hz12 hi13 rfl ?_
  obtain ⟨hz14, hw⟩ := hw
  obtain ⟨hi15, hw⟩ := hw
  refine zg_iald (q := 23) C0 dX7_deliverAll_22 hz14 hi15 rfl ?_
  refine zg_icmp_gt (q := 26) (tgt := 86) C0 dX7_deliverAll_23 rfl rfl (fun c40 => ?_) (fun c40 => ?_)
  · have hw := hw.1 c40
    refine zg_sub [2] rfl ?_
    exact hK _ _ hw
  · have hw := hw.2 c40
    refine zg_aload_n (q := 27) C0 0 dX7_deliverAll_26 rfl rfl ?_
    refine zg_iload_n (q := 28) C0 1 dX7_deliverAll_27 rfl rfl ?_
    refine zg_iload_n (q := 29) C0 3 dX7_deliverAll_28 rfl rfl ?_
    refine zg_callVi (q := 32) C0 [.int x1, .int x3] [] dX7_deliverAll_29 (fun sz => a_X7_hasPlace l D cy Z S sz x0 x1 x3 _ hw) rfl gX7_deliverAll_X7_hasPlace hdV_X7_hasPlace hz7 (zF_7 cy hz7) rfl rfl ⟨Nat.le_of_ble_eq_true rfl, Nat.le_of_ble_eq_true rfl⟩ (Nat.le_of_ble_eq_true rfl) ⟨Nat.zero_le _, Nat.zero_le _⟩ ⟨rfl, rfl⟩ rfl (fun v17 S16 hw => ?_)
    refine zg_if_eq (q := 35) (tgt := 86) C0 dX7_deliverAll_32 rfl rfl (fun c39 => ?_) (fun c39 => ?_)
    · have hw := hw.1 c39
      refine zg_sub [2] rfl ?_
      exact hK _ _ hw
    · have hw := hw.2 c39
      refine zg_aload_n (q := 36) C0 0 dX7_deliverAll_35 rfl rfl ?_
      refine zg_get (q := 39) (T := TX7) (k := 32) C0 dX7_deliverAll_36 hz7 (zF_7 cy hz7) rfl (by decide) hX_X7_deliverAll_7 (zwm (i := 4) rfl) rfl rfl rfl ?_
      obtain ⟨b18, hb19, hw⟩ := hw
      refine zg_nn hb19 ?_
      refine zg_aload_n (q := 40) C0 0 dX7_deliverAll_39 rfl rfl ?_
      refine zg_get (q := 43) (T := TX7) (k := 5) C0 dX7_deliverAll_40 hz7 (zF_7 cy hz7) rfl (by decide) hX_X7_deliverAll_7 (zwm (i := 3) rfl) rfl rfl rfl ?_
      refine zg_nn hb11 ?_
      refine zg_iload_n (q := 44) C0 1 dX7_deliverAll_43 rfl rfl ?_
      refine zg_iald (q := 45) C0 dX7_deliverAll_44 hz12 hi13 rfl ?_
      refine zg_iload_n (q := 46) C0 3 dX7_deliverAll_45 rfl rfl ?_
      refine zg_callSi (q := 49) C0 [.int (zI S16 b10 x1.toNatClampNeg), .int x3] [.ref b18] dX7_deliverAll_46 (fun sz => a_X7_place l D cy Z S16 sz (zI S16 b10 x1.toNatClampNeg) x3 _ hw) rfl gX7_deliverAll_X7_place hdS_X7_place rfl ⟨Nat.le_of_ble_eq_true rfl, Nat.le_of_ble_eq_true rfl⟩ (Nat.le_of_ble_eq_true rfl) ⟨Nat.zero_le _, Nat.zero_le _⟩ ⟨rfl, rfl⟩ rfl (fun v21 S20 hw => ?_)
      obtain ⟨hz22, hw⟩ := hw
      obtain ⟨hi23, hw⟩ := hw
      refine zg_zald (q := 50) C0 dX7_deliverAll_49 hz22 hi23 rfl ?_
      refine zg_if_eq (q := 53) (tgt := 63) C0 dX7_deliverAll_50 rfl rfl (fun c38 => ?_) (fun c38 => ?_)
      · have hw := hw.1 c38
        refine zg_sub [0, 1, 2, 3] rfl ?_
        exact aJ_X7_deliverAll_63 C0 hK hrec hw
      · have hw := hw.2 c38
        refine zg_iload_n (q := 54) C0 3 dX7_deliverAll_53 rfl rfl ?_
        refine zg_aload_n (q := 55) C0 0 dX7_deliverAll_54 rfl rfl ?_
        refine zg_get (q := 58) (T := TX7) (k := 17) C0 dX7_deliverAll_55 hz7 (zF_7 cy hz7) rfl (by decide) hX_X7_deliverAll_7 (zwm (i := 5) rfl) rfl rfl rfl ?_
        obtain ⟨b33, hb34, hw⟩ := hw
        refine zg_nn hb34 ?_
        refine zg_iload_n (q := 59) C0 1 dX7_deliverAll_58 rfl rfl ?_
        obtain ⟨hz35, hw⟩ := hw
        obtain ⟨hi36, hw⟩ := hw
        refine zg_iald (q := 60) C0 dX7_deliverAll_59 hz35 hi36 rfl ?_
        refine zg_icmp_gt (q := 63) (tgt := 86) C0 dX7_deliverAll_60 rfl rfl (fun c37 => ?_) (fun c37 => ?_)
        · have hw := hw.1 c37
          refine zg_sub [2] rfl ?_
          exact hK _ _ hw
        · have hw := hw.2 c37
          refine zg_sub [0, 1, 2, 3] rfl ?_
          exact aJ_X7_deliverAll_63 C0 hK hrec hw
theorem aL_X7_deliverAll_11 {p : Program} {l : Launch} {e : Env} {s : State} {m : MethodId} {args : Array Value} {below : List Frame} {meth : Method} {c : Code} {D : va_G} {cy : Nat → ClassId} {A : Nat → Prop} {Q : State → Prop} {Z : zZ} (C0 : zC p s m args meth c cX7_deliverAll 4 wsX7_deliverAll RX7 D cy A (some .int)) {x0 : Nat} {x1 : Int32} {Qp : Int32 → zS → Prop} {K : Int32 → zS → Prop} (hK : ∀ x2 S, K x2 S → zG p l e rm_X7_deliverAll s m args below meth c D cy A 4 0 0 Q Z S 86 [(2, .int x2)] []) : ∀ x2 x3 S, wL_X7_deliverAll_11 Z x0 x1 Qp K x2 x3 S → zG p l e rm_X7_deliverAll s m args below meth c D cy A 4 0 0 Q Z S 11 [(0, .ref x0), (1, .int x1), (2, .int x2), (3, .int x3)] [] := by
  intro x2 x3 S hw
  obtain ⟨n, hw⟩ := hw
  induction n generalizing x2 x3 S with
  | zero => exact hw.elim
  | succ n ih => exact ab_X7_deliverAll_11 C0 hK (fun x2 x3 S hw => ih x2 x3 S hw) hw
def w_X7_deliverAll (Z : zZ) (h0 : Nat) (p0 : Int32) (S : zS) (Qp : Int32 → zS → Prop) : Prop :=
  zk Z h0 7 ∧ ∃ b2, zQ Z h0 16 = some b2 ∧ zk Z b2 8 ∧ vp_in p0 (zN Z b2) ∧ ∀ y6 : Int32, y6 = (zI S b2 p0.toNatClampNeg) + 1 → wL_X7_deliverAll_11 Z h0 p0 Qp (fun (v42 : Int32) (S41 : zS) => Qp v42 S41) 0 y6 S
set_option maxHeartbeats 4000000 in
set_option maxRecDepth 100000 in
theorem a_X7_deliverAll (l : Launch) (D : va_G) (cy : Nat → ClassId) (Z : zZ) (S : zS) (sz : Nat) (h0 : Nat) (p0 : Int32) (Qp : Int32 → zS → Prop) (hw : w_X7_deliverAll Z h0 p0 S Qp) : zMi l yX7_deliverAll wsX7_deliverAll rm_X7_deliverAll D cy Z S sz [.ref h0, .int p0] Qp := by
  unfold w_X7_deliverAll at hw
  refine zMi_of (cc := cX7_deliverAll) (maxL := 4) (rt := (some .int)) (by decide +kernel) rfl (Nat.le_of_ble_eq_true rfl) ?_
  intro p e s m args below meth c A C0 _
  refine zg_lv (lv' := [(0, .ref h0), (1, .int p0)]) rfl ?_
  refine zg_iconst (q := 1) C0 dX7_deliverAll_0 zc_iconst_0 rfl ?_
  refine zg_istore_n (q := 2) (lv' := [(2, .int 0), (0, .ref h0), (1, .int p0)]) C0 dX7_deliverAll_1 (by decide) rfl rfl ?_
  refine zg_aload_n (q := 3) C0 1 dX7_deliverAll_2 rfl rfl ?_
  obtain ⟨hz1, hw⟩ := hw
  refine zg_get (q := 6) (T := TX7) (k := 16) C0 dX7_deliverAll_3 hz1 (zF_7 cy hz1) rfl (by decide) hX_X7_deliverAll_7 (zwm (i := 1) rfl) rfl rfl rfl ?_
  obtain ⟨b2, hb3, hw⟩ := hw
  refine zg_nn hb3 ?_
  refine zg_iload_n (q := 7) C0 2 dX7_deliverAll_6 rfl rfl ?_
  obtain ⟨hz4, hw⟩ := hw
  obtain ⟨hi5, hw⟩ := hw
  refine zg_iald (q := 8) C0 dX7_deliverAll_7 hz4 hi5 rfl ?_
  refine zg_iconst (q := 9) C0 dX7_deliverAll_8 zc_iconst_1 rfl ?_
  refine zg_iadd (q := 10) C0 dX7_deliverAll_9 rfl ?_
  refine zg_ni (fun y6 ey6 => ?_)
  have hw := hw y6 ey6
  refine zg_istore_n (q := 11) (lv' := [(3, .int y6), (2, .int 0), (0, .ref h0), (1, .int p0)]) C0 dX7_deliverAll_10 (by decide) rfl rfl ?_
  refine zg_sub [2, 3, 1, 0] rfl ?_
  refine aL_X7_deliverAll_11 C0 (fun v42 S41 hw => ?_) _ _ _ hw
  refine zg_iload_n (q := 87) C0 0 dX7_deliverAll_86 rfl rfl ?_
  exact zg_iret C0 dX7_deliverAll_87 rfl rfl (Nat.le_refl 0) (Nat.le_refl 0) hw
