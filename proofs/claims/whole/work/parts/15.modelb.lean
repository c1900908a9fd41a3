-- X7_comes
abbrev rm_X7_comes : Room := { frames := 2, cells := 0, slots := 0, locals := 44 }
theorem hX_X7_comes_7 : ∀ w ∈ u_ws RX7 TX7 36, w ∈ wsX7_comes := by decide +kernel
theorem hdV_X7_comes : yX7_comes.cls = RX7 ∧ yX7_comes.cls ≠ "java/lang/invoke/MethodHandle" ∧ yX7_comes.cls ≠ "java/lang/invoke/VarHandle" ∧ (parseMethodDescriptor yX7_comes.desc).map (fun d => d.parameters.length) = some 3 := by decide +kernel
def wb_X7_comes_3 (Z : zZ) (x0 : Nat) (x1 : Int32) (x2 : Int32) (x3 : Int32) (Qp : zS → Prop) (K : zS → Prop) (rec : Int32 → zS → Prop) (x4 : Int32) (S : zS) : Prop :=
  zk Z x0 7 ∧ (((zI S x0 1) ≤ x4 → K S) ∧ (¬ (zI S x0 1) ≤ x4 → ((x4 = x1 → ∀ y2 : Int32, y2 = x4 + 1 → rec y2 S) ∧ (¬ x4 = x1 → ∃ b3, zQ Z x0 3 = some b3 ∧ zk Z b3 10 ∧ vp_in x4 (zN Z b3) ∧ (((zI S b3 x4.toNatClampNeg) = 0 → ∀ y7 : Int32, y7 = x4 + 1 → rec y7 S) ∧ (¬ (zI S b3 x4.toNatClampNeg) = 0 → ∃ b8, zQ Z x0 4 = some b8 ∧ zk Z b8 8 ∧ vp_in x4 (zN Z b8) ∧ vp_in x1 (zN Z b8) ∧ ((¬ (zI S b8 x4.toNatClampNeg) = (zI S b8 x1.toNatClampNeg) → ∀ y13 : Int32, y13 = x4 + 1 → rec y13 S) ∧ ((zI S b8 x4.toNatClampNeg) = (zI S b8 x1.toNatClampNeg) → ∃ b14, zQ Z x0 5 = some b14 ∧ zk Z b14 8 ∧ vp_in x4 (zN Z b14) ∧ vp_in x1 (zN Z b14) ∧ ((¬ (zI S b14 x4.toNatClampNeg) = (zI S b14 x1.toNatClampNeg) → ∀ y19 : Int32, y19 = x4 + 1 → rec y19 S) ∧ ((zI S b14 x4.toNatClampNeg) = (zI S b14 x1.toNatClampNeg) → w_X7_isIn Z x3 x4 S (fun (v21 : Int32) (S20 : zS) => ((¬ v21 = 0 → ∀ y22 : Int32, y22 = x4 + 1 → rec y22 S20) ∧ (v21 = 0 → w_X7_gets Z x0 x4 x2 S20 (fun (S23 : zS) => ∀ y24 : Int32, y24 = x4 + 1 → rec y24 S23))))))))))))))
def wL_X7_comes_3 (Z : zZ) (x0 : Nat) (x1 : Int32) (x2 : Int32) (x3 : Int32) (Qp : zS → Prop) (K : zS → Prop) (x4 : Int32) (S : zS) : Prop := ∃ n, zit2 (wb_X7_comes_3 Z x0 x1 x2 x3 Qp K) n x4 S
set_option maxHeartbeats 4000000 in
set_option maxRecDepth 100000 in
theorem ab_X7_comes_3 {p : Program} {l : Launch} {e : Env} {s : State} {m : MethodId} {args : Array Value} {below : List Frame} {meth : Method} {c : Code} {D : va_G} {cy : Nat → ClassId} {A : Nat → Prop} {Q : State → Prop} {Z : zZ} (C0 : zC p s m args meth c cX7_comes 5 wsX7_comes RX7 D cy A none) {x0 : Nat} {x1 : Int32} {x2 : Int32} {x3 : Int32} {Qp : zS → Prop} {K : zS → Prop} (hK : ∀  S, K  S → zG p l e rm_X7_comes s m args below meth c D cy A 5 0 0 Q Z S 82 [] []) {rec : Int32 → zS → Prop} (hrec : ∀ x4 S, rec x4 S → zG p l e rm_X7_comes s m args below meth c D cy A 5 0 0 Q Z S 3 [(0, .ref x0), (1, .int x1), (2, .int x2), (3, .int x3), (4, .int x4)] []) {x4 : Int32} {S : zS} (hw : wb_X7_comes_3 Z x0 x1 x2 x3 Qp K rec x4 S) : zG p l e rm_X7_comes s m args below meth c D cy A 5 0 0 Q Z S 3 [(0, .ref x0), (1, .int x1), (2, .int x2), (3, .int x3), (4, .int x4)] [] := by
  unfold wb_X7_comes_3 at hw
  refine zg_iload (q := 5) C0 4 dX7_comes_3 rfl rfl ?_
  refine zg_aload_n (q := 6) C0 0 dX7_comes_5 rfl rfl ?_
  obtain ⟨hz1, hw⟩ := hw
  refine zg_get (q := 9) (T := TX7) (k := 1) C0 dX7_comes_6 hz1 (zF_7 cy hz1) rfl (by decide) hX_X7_comes_7 (zwm (i := 1) rfl) rfl rfl rfl ?_
  refine zg_icmp_ge (q := 12) (tgt := 82) C0 dX7_comes_9 rfl rfl (fun c30 => ?_) (fun c30 => ?_)
  · have hw := hw.1 c30
    refine zg_sub [] rfl ?_
    exact hK  _ hw
  · have hw := hw.2 c30
    refine zg_iload (q := 14) C0 4 dX7_comes_12 rfl rfl ?_
    refine zg_iload_n (q := 15) C0 1 dX7_comes_14 rfl rfl ?_
    refine zg_icmp_eq (q := 18) (tgt := 76) C0 dX7_comes_15 rfl rfl (fun c29 => ?_) (fun c29 => ?_)
    · have hw := hw.1 c29
      refine zg_iinc (q := 79) C0 4 dX7_comes_76 rfl (by decide) zc_iconst_1 rfl (fun y2 ey2 => ?_)
      have hw := hw y2 ey2
      refine zg_lv (lv' := [(4, .int y2), (0, .ref x0), (1, .int x1), (2, .int x2), (3, .int x3)]) rfl ?_
      refine zg_goto (tgt := 3) C0 dX7_comes_79 rfl ?_
      refine zg_sub [1, 2, 3, 4, 0] rfl ?_
      exact hrec _ _ hw
    · have hw := hw.2 c29
      refine zg_aload_n (q := 19) C0 0 dX7_comes_18 rfl rfl ?_
      refine zg_get (q := 22) (T := TX7) (k := 3) C0 dX7_comes_19 hz1 (zF_7 cy hz1) rfl (by decide) hX_X7_comes_7 (zwm (i := 2) rfl) rfl rfl rfl ?_
      obtain ⟨b3, hb4, hw⟩ := hw
      refine zg_nn hb4 ?_
      refine zg_iload (q := 24) C0 4 dX7_comes_22 rfl rfl ?_
      obtain ⟨hz5, hw⟩ := hw
      obtain ⟨hi6, hw⟩ := hw
      refine zg_zald (q := 25) C0 dX7_comes_24 hz5 hi6 rfl ?_
      refine zg_if_eq (q := 28) (tgt := 76) C0 dX7_comes_25 rfl rfl (fun c28 => ?_) (fun c28 => ?_)
      · have hw := hw.1 c28
        refine zg_iinc (q := 79) C0 4 dX7_comes_76 rfl (by decide) zc_iconst_1 rfl (fun y7 ey7 => ?_)
        have hw := hw y7 ey7
        refine zg_lv (lv' := [(4, .int y7), (0, .ref x0), (1, .int x1), (2, .int x2), (3, .int x3)]) rfl ?_
        refine zg_goto (tgt := 3) C0 dX7_comes_79 rfl ?_
        refine zg_sub [1, 2, 3, 4, 0] rfl ?_
        exact hrec _ _ hw
      · have hw := hw.2 c28
        refine zg_aload_n (q := 29) C0 0 dX7_comes_28 rfl rfl ?_
        refine zg_get (q := 32) (T := TX7) (k := 4) C0 dX7_comes_29 hz1 (zF_7 cy hz1) rfl (by decide) hX_X7_comes_7 (zwm (i := 3) rfl) rfl rfl rfl ?_
        obtain ⟨b8, hb9, hw⟩ := hw
        refine zg_nn hb9 ?_
        refine zg_iload (q := 34) C0 4 dX7_comes_32 rfl rfl ?_
        obtain ⟨hz10, hw⟩ := hw
        obtain ⟨hi11, hw⟩ := hw
        refine zg_iald (q := 35) C0 dX7_comes_34 hz10 hi11 rfl ?_
        refine zg_aload_n (q := 36) C0 0 dX7_comes_35 rfl rfl ?_
        refine zg_get (q := 39) (T := TX7) (k := 4) C0 dX7_comes_36 hz1 (zF_7 cy hz1) rfl (by decide) hX_X7_comes_7 (zwm (i := 3) rfl) rfl rfl rfl ?_
        refine zg_nn hb9 ?_
        refine zg_iload_n (q := 40) C0 1 dX7_comes_39 rfl rfl ?_
        obtain ⟨hi12, hw⟩ := hw
        refine zg_iald (q := 41) C0 dX7_comes_40 hz10 hi12 rfl ?_
        refine zg_icmp_ne (q := 44) (tgt := 76) C0 dX7_comes_41 rfl rfl (fun c27 => ?_) (fun c27 => ?_)
        · have hw := hw.1 c27
          refine zg_iinc (q := 79) C0 4 dX7_comes_76 rfl (by decide) zc_iconst_1 rfl (fun y13 ey13 => ?_)
          have hw := hw y13 ey13
          refine zg_lv (lv' := [(4, .int y13), (0, .ref x0), (1, .int x1), (2, .int x2), (3, .int x3)]) rfl ?_
          refine zg_goto (tgt := 3) C0 dX7_comes_79 rfl ?_
          refine zg_sub [1, 2, 3, 4, 0] rfl ?_
          exact hrec _ _ hw
        · have hw := hw.2 c27
          refine zg_aload_n (q := 45) C0 0 dX7_comes_44 rfl rfl ?_
          refine zg_get (q := 48) (T := TX7) (k := 5) C0 dX7_comes_45 hz1 (zF_7 cy hz1) rfl (by decide) hX_X7_comes_7 (zwm (i := 4) rfl) rfl rfl rfl ?_
          obtain ⟨b14, hb15, hw⟩ := hw
          refine zg_nn hb15 ?_
          refine zg_iload (q := 50) C0 4 dX7_comes_48 rfl rfl ?_
          obtain ⟨hz16, hw⟩ := hw
          obtain ⟨hi17, hw⟩ := hw
          refine zg_iald (q := 51) C0 dX7_comes_50 hz16 hi17 rfl ?_
          refine zg_aload_n (q := 52) C0 0 dX7_comes_51 rfl rfl ?_
          refine zg_get (q := 55) (T := TX7) (k := 5) C0 dX7_comes_52 hz1 (zF_7 cy hz1) rfl (by decide) hX_X7_comes_7 (zwm (i := 4) rfl) rfl rfl rfl ?_
          refine zg_nn hb15 ?_
          refine zg_iload_n (q := 56) C0 1 dX7_comes_55 rfl rfl ?_
          obtain ⟨hi18, hw⟩ := hw
          refine zg_iald (q := 57) C0 dX7_comes_56 hz16 hi18 rfl ?_
          refine zg_icmp_ne (q := 60) (tgt := 76) C0 dX7_comes_57 rfl rfl (fun c26 => ?_) (fun c26 => ?_)
          · have hw := hw.1 c26
            refine zg_iinc (q := 79) C0 4 dX7_comes_76 rfl (by decide) zc_iconst_1 rfl (fun y19 ey19 => ?_)
            have hw := hw y19 ey19
            refine zg_lv (lv' := [(4, .int y19), (0, .ref x0), (1, .int x1), (2, .int x2), (3, .int x3)]) rfl ?_
            refine zg_goto (tgt := 3) C0 dX7_comes_79 rfl ?_
            refine zg_sub [1, 2, 3, 4, 0] rfl ?_
            exact hrec _ _ hw
          · have hw := hw.2 c26
            refine zg_iload_n (q := 61) C0 3 dX7_comes_60 rfl rfl ?_
            refine zg_iload (q := 63) C0 4 dX7_comes_61 rfl rfl ?_
            refine zg_callSi (q := 66) C0 [.int x3, .int x4] [] dX7_comes_63 (fun sz => a_X7_isIn l D cy Z S sz x3 x4 _ hw) rfl gX7_comes_X7_isIn hdS_X7_isIn rfl ⟨Nat.le_of_ble_eq_true rfl, Nat.le_of_ble_eq_true rfl⟩ (Nat.le_of_ble_eq_true rfl) ⟨Nat.zero_le _, Nat.zero_le _⟩ ⟨rfl, rfl⟩ rfl (fun v21 S20 hw => ?_)
            refine zg_if_ne (q := 69) (tgt := 76) C0 dX7_comes_66 rfl rfl (fun c25 => ?_) (fun c25 => ?_)
            · have hw := hw.1 c25
              refine zg_iinc (q := 79) C0 4 dX7_comes_76 rfl (by decide) zc_iconst_1 rfl (fun y22 ey22 => ?_)
              have hw := hw y22 ey22
              refine zg_lv (lv' := [(4, .int y22), (0, .ref x0), (1, .int x1), (2, .int x2), (3, .int x3)]) rfl ?_
              refine zg_goto (tgt := 3) C0 dX7_comes_79 rfl ?_
              refine zg_sub [1, 2, 3, 4, 0] rfl ?_
              exact hrec _ _ hw
            · have hw := hw.2 c25
              refine zg_aload_n (q := 70) C0 0 dX7_comes_69 rfl rfl ?_
              refine zg_iload (q := 72) C0 4 dX7_comes_70 rfl rfl ?_
              refine zg_iload_n (q := 73) C0 2 dX7_comes_72 rfl rfl ?_
              refine zg_callVv (q := 76) C0 [.int x4, .int x2] [] dX7_comes_73 (fun sz => a_X7_gets l D cy Z S20 sz x0 x4 x2 _ hw) rfl gX7_comes_X7_gets hdV_X7_gets hz1 (zF_7 cy hz1) rfl rfl ⟨Nat.le_of_ble_eq_true rfl, Nat.le_of_ble_eq_true rfl⟩ (Nat.le_of_ble_eq_true rfl) ⟨Nat.zero_le _, Nat.zero_le _⟩ ⟨rfl, rfl⟩ rfl (fun S23 hw => ?_)
              refine zg_iinc (q := 79) C0 4 dX7_comes_76 rfl (by decide) zc_iconst_1 rfl (fun y24 ey24 => ?_)
              have hw := hw y24 ey24
              refine zg_lv (lv' := [(4, .int y24), (0, .ref x0), (1, .int x1), (2, .int x2), (3, .int x3)]) rfl ?_
              refine zg_goto (tgt := 3) C0 dX7_comes_79 rfl ?_
              refine zg_sub [1, 2, 3, 4, 0] rfl ?_
              exact hrec _ _ hw
theorem aL_X7_comes_3 {p : Program} {l : Launch} {e : Env} {s : State} {m : MethodId} {args : Array Value} {below : List Frame} {meth : Method} {c : Code} {D : va_G} {cy : Nat → ClassId} {A : Nat → Prop} {Q : State → Prop} {Z : zZ} (C0 : zC p s m args meth c cX7_comes 5 wsX7_comes RX7 D cy A none) {x0 : Nat} {x1 : Int32} {x2 : Int32} {x3 : Int32} {Qp : zS → Prop} {K : zS → Prop} (hK : ∀  S, K  S → zG p l e rm_X7_comes s m args below meth c D cy A 5 0 0 Q Z S 82 [] []) : ∀ x4 S, wL_X7_comes_3 Z x0 x1 x2 x3 Qp K x4 S → zG p l e rm_X7_comes s m args below meth c D cy A 5 0 0 Q Z S 3 [(0, .ref x0), (1, .int x1), (2, .int x2), (3, .int x3), (4, .int x4)] [] := by
  intro x4 S hw
  obtain ⟨n, hw⟩ := hw
  induction n generalizing x4 S with
  | zero => exact hw.elim
  | succ n ih => exact ab_X7_comes_3 C0 hK (fun x4 S hw => ih x4 S hw) hw
def w_X7_comes (Z : zZ) (h0 : Nat) (p0 : Int32) (p1 : Int32) (p2 : Int32) (S : zS) (Qp : zS → Prop) : Prop :=
  wL_X7_comes_3 Z h0 p0 p1 p2 Qp (fun  (S31 : zS) => Qp S31) 0 S
set_option maxHeartbeats 4000000 in
set_option maxRecDepth 100000 in
theorem a_X7_comes (l : Launch) (D : va_G) (cy : Nat → ClassId) (Z : zZ) (S : zS) (sz : Nat) (h0 : Nat) (p0 : Int32) (p1 : Int32) (p2 : Int32) (Qp : zS → Prop) (hw : w_X7_comes Z h0 p0 p1 p2 S Qp) : zMv l yX7_comes wsX7_comes rm_X7_comes D cy Z S sz [.ref h0, .int p0, .int p1, .int p2] Qp := by
  unfold w_X7_comes at hw
  refine zMv_of (cc := cX7_comes) (maxL := 5) (rt := none) (by decide +kernel) rfl (Nat.le_of_ble_eq_true rfl) ?_
  intro p e s m args below meth c A C0 _
  refine zg_lv (lv' := [(0, .ref h0), (1, .int p0), (2, .int p1), (3, .int p2)]) rfl ?_
  refine zg_iconst (q := 1) C0 dX7_comes_0 zc_iconst_0 rfl ?_
  refine zg_istore (q := 3) (lv' := [(4, .int 0), (0, .ref h0), (1, .int p0), (2, .int p1), (3, .int p2)]) C0 dX7_comes_1 (by decide) rfl rfl ?_
  refine zg_sub [1, 2, 3, 4, 0] rfl ?_
  refine aL_X7_comes_3 C0 (fun  S31 hw => ?_) _ _ hw
  exact zg_vret C0 dX7_comes_82 rfl (Nat.le_refl 0) (Nat.le_refl 0) hw
-- X7_give
abbrev rm_X7_give : Room := { frames := 3, cells := 0, slots := 0, locals := 68 }
theorem hX_X7_give_7 : ∀ w ∈ u_ws RX7 TX7 36, w ∈ wsX7_give := by decide +kernel
theorem hdV_X7_give : yX7_give.cls = RX7 ∧ yX7_give.cls ≠ "java/lang/invoke/MethodHandle" ∧ yX7_give.cls ≠ "java/lang/invoke/VarHandle" ∧ (parseMethodDescriptor yX7_give.desc).map (fun d => d.parameters.length) = some 2 := by decide +kernel
def wb_X7_give_10 (Z : zZ) (x0 : Nat) (x1 : Int32) (x2 : Int32) (x3 : Int32) (Qp : zS → Prop) (K : Int32 → zS → Prop) (rec : Int32 → zS → Prop) (x4 : Int32) (S : zS) : Prop :=
  zk Z x0 7 ∧ (((zI S x0 2) ≤ x4 → K x4 S) ∧ (¬ (zI S x0 2) ≤ x4 → ∃ b8, zQ Z x0 12 = some b8 ∧ zk Z b8 8 ∧ vp_in x1 (zN Z b8) ∧ (((zI S b8 x1.toNatClampNeg) ≤ x4 → K x4 S) ∧ (¬ (zI S b8 x1.toNatClampNeg) ≤ x4 → ∃ b12, zQ Z x0 28 = some b12 ∧ zk Z b12 8 ∧ vp_in x3 (zN Z b12) ∧ ((100 ≤ (zI S b12 x3.toNatClampNeg) → K x4 S) ∧ (¬ 100 ≤ (zI S b12 x3.toNatClampNeg) → ∀ S16 : zS, S16 = zsI S b12 x3.toNatClampNeg ((zI S b12 x3.toNatClampNeg) + 1) → w_X7_place Z x3 (zI S16 b12 x3.toNatClampNeg) S16 (fun (v18 : Int32) (S17 : zS) => ∃ b19, zQ Z x0 29 = some b19 ∧ zk Z b19 8 ∧ vp_in v18 (zN Z b19) ∧ ∀ S23 : zS, S23 = zsI S17 b19 v18.toNatClampNeg x1 → ∃ b24, zQ Z x0 30 = some b24 ∧ ∃ b26, zQ Z x0 13 = some b26 ∧ zk Z b26 8 ∧ vp_in ((12 * x1) + x4) (zN Z b26) ∧ zk Z b24 8 ∧ vp_in v18 (zN Z b24) ∧ ∀ S32 : zS, S32 = zsI S23 b24 v18.toNatClampNeg (zI S23 b26 ((12 * x1) + x4).toNatClampNeg) → ∃ b33, zQ Z x0 31 = some b33 ∧ ∃ b35, zQ Z x0 14 = some b35 ∧ zk Z b35 9 ∧ vp_in ((12 * x1) + x4) (zN Z b35) ∧ zk Z b33 9 ∧ vp_in v18 (zN Z b33) ∧ ∀ S41 : zS, S41 = zsJ S32 b33 v18.toNatClampNeg (zJ S32 b35 ((12 * x1) + x4).toNatClampNeg) → ∃ b42, zQ Z x0 32 = some b42 ∧ ∃ b44, zQ Z x0 15 = some b44 ∧ zk Z b44 10 ∧ vp_in ((12 * x1) + x4) (zN Z b44) ∧ zk Z b42 10 ∧ vp_in v18 (zN Z b42) ∧ zb (zI S41 b44 ((12 * x1) + x4).toNatClampNeg) ∧ ∀ S50 : zS, S50 = zsI S41 b42 v18.toNatClampNeg (zI S41 b44 ((12 * x1) + x4).toNatClampNeg) → ∃ b52, zQ Z x0 33 = some b52 ∧ zk Z b52 8 ∧ vp_in v18 (zN Z b52) ∧ ∀ S56 : zS, S56 = zsI S50 b52 v18.toNatClampNeg 0 → ∃ b57, zQ Z x0 34 = some b57 ∧ zk Z b57 10 ∧ vp_in v18 (zN Z b57) ∧ ∀ S61 : zS, S61 = zsI S56 b57 v18.toNatClampNeg 0 → w_X7_gets Z x0 x1 (zI S61 b12 x3.toNatClampNeg) S61 (fun (S62 : zS) => w_X7_comes Z x0 x1 (zI S62 b12 x3.toNatClampNeg) x2 S62 (fun (S63 : zS) => ∀ y64 : Int32, y64 = x4 + 1 → rec y64 S63)))))))))
def wL_X7_give_10 (Z : zZ) (x0 : Nat) (x1 : Int32) (x2 : Int32) (x3 : Int32) (Qp : zS → Prop) (K : Int32 → zS → Prop) (x4 : Int32) (S : zS) : Prop := ∃ n, zit2 (wb_X7_give_10 Z x0 x1 x2 x3 Qp K) n x4 S
set_option maxHeartbeats 4000000 in
set_option maxRecDepth 100000 in
theorem ab_X7_give_10 {p : Program} {l : Launch} {e : Env} {s : State} {m : MethodId} {args : Array Value} {below : List Frame} {meth : Method} {c : Code} {D : va_G} {cy : Nat → ClassId} {A : Nat → Prop} {Q : State → Prop} {Z : zZ} (C0 : zC p s m args meth c cX7_give 7 wsX7_give RX7 D cy A none) {x0 : Nat} {x1 : Int32} {x2 : Int32} {x3 : Int32} {Qp : zS → Prop} {K : Int32 → zS → Prop} (hK : ∀ x4 S, K x4 S → zG p l e rm_X7_give s m args below meth c D cy A 7 0 0 Q Z S 173 [(0, .ref x0), (1, .int x1), (4, .int x4)] []) {rec : Int32 → zS → Prop} (hrec : ∀ x4 S, rec x4 S → zG p l e rm_X7_give s m args below meth c D cy A 7 0 0 Q Z S 10 [(0, .ref x0), (1, .int x1), (2, .int x2), (3, .int x3), (4, .int x4)] []) {x4 : Int32} {S : zS} (hw : wb_X7_give_10 Z x0 x1 x2 x3 Qp K rec x4 S) : zG p l e rm_X7_give s m args below meth c D cy A 7 0 0 Q Z S 10 [(0, .ref x0), (1, .int x1), (2, .int x2), (3, .int x3), (4, .int x4)] [] := by
  unfold wb_X7_give_10 at hw
  refine zg_iload (q := 12) C0 4 dX7_give_10 rfl rfl ?_
  refine zg_aload_n (q := 13) C0 0 dX7_give_12 rfl rfl ?_
  obtain ⟨hz7, hw⟩ := hw
  refine zg_get (q := 16) (T := TX7) (k := 2) C0 dX7_give_13 hz7 (zF_7 cy hz7) rfl (by decide) hX_X7_give_7 (zwm (i := 2) rfl) rfl rfl rfl ?_
  refine zg_icmp_ge (q := 19) (tgt := 173) C0 dX7_give_16 rfl rfl (fun c67 => ?_) (fun c67 => ?_)
  · have hw := hw.1 c67
    refine zg_sub [0, 1, 4] rfl ?_
    exact hK _ _ hw
  · have hw := hw.2 c67
    refine zg_iload (q := 21) C0 4 dX7_give_19 rfl rfl ?_
    refine zg_aload_n (q := 22) C0 0 dX7_give_21 rfl rfl ?_
    refine zg_get (q := 25) (T := TX7) (k := 12) C0 dX7_give_22 hz7 (zF_7 cy hz7) rfl (by decide) hX_X7_give_7 (zwm (i := 3) rfl) rfl rfl rfl ?_
    obtain ⟨b8, hb9, hw⟩ := hw
    refine zg_nn hb9 ?_
    refine zg_iload_n (q := 26) C0 1 dX7_give_25 rfl rfl ?_
    obtain ⟨hz10, hw⟩ := hw
    obtain ⟨hi11, hw⟩ := hw
    refine zg_iald (q := 27) C0 dX7_give_26 hz10 hi11 rfl ?_
    refine zg_icmp_ge (q := 30) (tgt := 173) C0 dX7_give_27 rfl rfl (fun c66 => ?_) (fun c66 => ?_)
    · have hw := hw.1 c66
      refine zg_sub [0, 1, 4] rfl ?_
      exact hK _ _ hw
    · have hw := hw.2 c66
      refine zg_aload_n (q := 31) C0 0 dX7_give_30 rfl rfl ?_
      refine zg_get (q := 34) (T := TX7) (k := 28) C0 dX7_give_31 hz7 (zF_7 cy hz7) rfl (by decide) hX_X7_give_7 (zwm (i := 4) rfl) rfl rfl rfl ?_
      obtain ⟨b12, hb13, hw⟩ := hw
      refine zg_nn hb13 ?_
      refine zg_iload_n (q := 35) C0 3 dX7_give_34 rfl rfl ?_
      obtain ⟨hz14, hw⟩ := hw
      obtain ⟨hi15, hw⟩ := hw
      refine zg_iald (q := 36) C0 dX7_give_35 hz14 hi15 rfl ?_
      refine zg_bipush (q := 38) C0 dX7_give_36 zc_bipush_100 rfl ?_
      refine zg_icmp_ge (q := 41) (tgt := 173) C0 dX7_give_38 rfl rfl (fun c65 => ?_) (fun c65 => ?_)
      · have hw := hw.1 c65
        refine zg_sub [0, 1, 4] rfl ?_
        exact hK _ _ hw
      · have hw := hw.2 c65
        refine zg_aload_n (q := 42) C0 0 dX7_give_41 rfl rfl ?_
        refine zg_get (q := 45) (T := TX7) (k := 28) C0 dX7_give_42 hz7 (zF_7 cy hz7) rfl (by decide) hX_X7_give_7 (zwm (i := 4) rfl) rfl rfl rfl ?_
        refine zg_nn hb13 ?_
        refine zg_iload_n (q := 46) C0 3 dX7_give_45 rfl rfl ?_
        refine zg_dup2 (q := 47) C0 dX7_give_46 rfl rfl rfl ?_
        refine zg_iald (q := 48) C0 dX7_give_47 hz14 hi15 rfl ?_
        refine zg_iconst (q := 49) C0 dX7_give_48 zc_iconst_1 rfl ?_
        refine zg_iadd (q := 50) C0 dX7_give_49 rfl ?_
        refine zg_iast (q := 51) C0 dX7_give_50 hz14 hi15 rfl (fun S16 eS16 => ?_)
        have hw := hw S16 eS16
        refine zg_iload_n (q := 52) C0 3 dX7_give_51 rfl rfl ?_
        refine zg_aload_n (q := 53) C0 0 dX7_give_52 rfl rfl ?_
        refine zg_get (q := 56) (T := TX7) (k := 28) C0 dX7_give_53 hz7 (zF_7 cy hz7) rfl (by decide) hX_X7_give_7 (zwm (i := 4) rfl) rfl rfl rfl ?_
        refine zg_nn hb13 ?_
        refine zg_iload_n (q := 57) C0 3 dX7_give_56 rfl rfl ?_
        refine zg_iald (q := 58) C0 dX7_give_57 hz14 hi15 rfl ?_
        refine zg_callSi (q := 61) C0 [.int x3, .int (zI S16 b12 x3.toNatClampNeg)] [] dX7_give_58 (fun sz => a_X7_place l D cy Z S16 sz x3 (zI S16 b12 x3.toNatClampNeg) _ hw) rfl gX7_give_X7_place hdS_X7_place rfl ⟨Nat.le_of_ble_eq_true rfl, Nat.le_of_ble_eq_true rfl⟩ (Nat.le_of_ble_eq_true rfl) ⟨Nat.zero_le _, Nat.zero_le _⟩ ⟨rfl, rfl⟩ rfl (fun v18 S17 hw => ?_)
        refine zg_istore (q := 63) (lv' := [(5, .int v18), (0, .ref x0), (1, .int x1), (2, .int x2), (3, .int x3), (4, .int x4)]) C0 dX7_give_61 (by decide) rfl rfl ?_
        refine zg_aload_n (q := 64) C0 1 dX7_give_63 rfl rfl ?_
        refine zg_get (q := 67) (T := TX7) (k := 29) C0 dX7_give_64 hz7 (zF_7 cy hz7) rfl (by decide) hX_X7_give_7 (zwm (i := 5) rfl) rfl rfl rfl ?_
        obtain ⟨b19, hb20, hw⟩ := hw
        refine zg_nn hb20 ?_
        refine zg_iload (q := 69) C0 0 dX7_give_67 rfl rfl ?_
        refine zg_iload_n (q := 70) C0 2 dX7_give_69 rfl rfl ?_
        obtain ⟨hz21, hw⟩ := hw
        obtain ⟨hi22, hw⟩ := hw
        refine zg_iast (q := 71) C0 dX7_give_70 hz21 hi22 rfl (fun S23 eS23 => ?_)
        have hw := hw S23 eS23
        refine zg_aload_n (q := 72) C0 1 dX7_give_71 rfl rfl ?_
        refine zg_get (q := 75) (T := TX7) (k := 30) C0 dX7_give_72 hz7 (zF_7 cy hz7) rfl (by decide) hX_X7_give_7 (zwm (i := 6) rfl) rfl rfl rfl ?_
        obtain ⟨b24, hb25, hw⟩ := hw
        refine zg_nn hb25 ?_
        refine zg_iload (q := 77) C0 0 dX7_give_75 rfl rfl ?_
        refine zg_aload_n (q := 78) C0 1 dX7_give_77 rfl rfl ?_
        refine zg_get (q := 81) (T := TX7) (k := 13) C0 dX7_give_78 hz7 (zF_7 cy hz7) rfl (by decide) hX_X7_give_7 (zwm (i := 7) rfl) rfl rfl rfl ?_
        obtain ⟨b26, hb27, hw⟩ := hw
        refine zg_nn hb27 ?_
        refine zg_bipush (q := 83) C0 dX7_give_81 zc_bipush_12 rfl ?_
        refine zg_iload_n (q := 84) C0 2 dX7_give_83 rfl rfl ?_
        refine zg_imul (q := 85) C0 dX7_give_84 rfl ?_
        refine zg_iload (q := 87) C0 5 dX7_give_85 rfl rfl ?_
        refine zg_iadd (q := 88) C0 dX7_give_87 rfl ?_
        obtain ⟨hz28, hw⟩ := hw
        obtain ⟨hi29, hw⟩ := hw
        refine zg_iald (q := 89) C0 dX7_give_88 hz28 hi29 rfl ?_
        obtain ⟨hz30, hw⟩ := hw
        obtain ⟨hi31, hw⟩ := hw
        refine zg_iast (q := 90) C0 dX7_give_89 hz30 hi31 rfl (fun S32 eS32 => ?_)
        have hw := hw S32 eS32
        refine zg_aload_n (q := 91) C0 1 dX7_give_90 rfl rfl ?_
        refine zg_get (q := 94) (T := TX7) (k := 31) C0 dX7_give_91 hz7 (zF_7 cy hz7) rfl (by decide) hX_X7_give_7 (zwm (i := 8) rfl) rfl rfl rfl ?_
        obtain ⟨b33, hb34, hw⟩ := hw
        refine zg_nn hb34 ?_
        refine zg_iload (q := 96) C0 0 dX7_give_94 rfl rfl ?_
        refine zg_aload_n (q := 97) C0 1 dX7_give_96 rfl rfl ?_
        refine zg_get (q := 100) (T := TX7) (k := 14) C0 dX7_give_97 hz7 (zF_7 cy hz7) rfl (by decide) hX_X7_give_7 (zwm (i := 9) rfl) rfl rfl rfl ?_
        obtain ⟨b35, hb36, hw⟩ := hw
        refine zg_nn hb36 ?_
        refine zg_bipush (q := 102) C0 dX7_give_100 zc_bipush_12 rfl ?_
        refine zg_iload_n (q := 103) C0 2 dX7_give_102 rfl rfl ?_
        refine zg_imul (q := 104) C0 dX7_give_103 rfl ?_
        refine zg_iload (q := 106) C0 5 dX7_give_104 rfl rfl ?_
        refine zg_iadd (q := 107) C0 dX7_give_106 rfl ?_
        obtain ⟨hz37, hw⟩ := hw
        obtain ⟨hi38, hw⟩ := hw
        refine zg_lald (q := 108) C0 dX7_give_107 hz37 hi38 rfl ?_
        obtain ⟨hz39, hw⟩ := hw
        obtain ⟨hi40, hw⟩ := hw
        refine zg_last (q := 109) C0 dX7_give_108 hz39 hi40 rfl (fun S41 eS41 => ?_)
        have hw := hw S41 eS41
        refine zg_aload_n (q := 110) C0 1 dX7_give_109 rfl rfl ?_
        refine zg_get (q := 113) (T := TX7) (k := 32) C0 dX7_give_110 hz7 (zF_7 cy hz7) rfl (by decide) hX_X7_give_7 (zwm (i := 10) rfl) rfl rfl rfl ?_
        obtain ⟨b42, hb43, hw⟩ := hw
        refine zg_nn hb43 ?_
        refine zg_iload (q := 115) C0 0 dX7_give_113 rfl rfl ?_
        refine zg_aload_n (q := 116) C0 1 dX7_give_115 rfl rfl ?_
        refine zg_get (q := 119) (T := TX7) (k := 15) C0 dX7_give_116 hz7 (zF_7 cy hz7) rfl (by decide) hX_X7_give_7 (zwm (i := 11) rfl) rfl rfl rfl ?_
        obtain ⟨b44, hb45, hw⟩ := hw
        refine zg_nn hb45 ?_
        refine zg_bipush (q := 121) C0 dX7_give_119 zc_bipush_12 rfl ?_
        refine zg_iload_n (q := 122) C0 2 dX7_give_121 rfl rfl ?_
        refine zg_imul (q := 123) C0 dX7_give_122 rfl ?_
        refine zg_iload (q := 125) C0 5 dX7_give_123 rfl rfl ?_
        refine zg_iadd (q := 126) C0 dX7_give_125 rfl ?_
        obtain ⟨hz46, hw⟩ := hw
        obtain ⟨hi47, hw⟩ := hw
        refine zg_zald (q := 127) C0 dX7_give_126 hz46 hi47 rfl ?_
        obtain ⟨hz48, hw⟩ := hw
        obtain ⟨hi49, hw⟩ := hw
        obtain ⟨hb51, hw⟩ := hw
        refine zg_zast (q := 128) C0 dX7_give_127 hz48 hi49 (zb_v hb51) rfl (fun S50 eS50 => ?_)
        have hw := hw S50 eS50
        refine zg_aload_n (q := 129) C0 1 dX7_give_128 rfl rfl ?_
        refine zg_get (q := 132) (T := TX7) (k := 33) C0 dX7_give_129 hz7 (zF_7 cy hz7) rfl (by decide) hX_X7_give_7 (zwm (i := 12) rfl) rfl rfl rfl ?_
        obtain ⟨b52, hb53, hw⟩ := hw
        refine zg_nn hb53 ?_
        refine zg_iload (q := 134) C0 0 dX7_give_132 rfl rfl ?_
        refine zg_iconst (q := 135) C0 dX7_give_134 zc_iconst_0 rfl ?_
        obtain ⟨hz54, hw⟩ := hw
        obtain ⟨hi55, hw⟩ := hw
        refine zg_iast (q := 136) C0 dX7_give_135 hz54 hi55 rfl (fun S56 eS56 => ?_)
        have hw := hw S56 eS56
        refine zg_aload_n (q := 137) C0 1 dX7_give_136 rfl rfl ?_
        refine zg_get (q := 140) (T := TX7) (k := 34) C0 dX7_give_137 hz7 (zF_7 cy hz7) rfl (by decide) hX_X7_give_7 (zwm (i := 13) rfl) rfl rfl rfl ?_
        obtain ⟨b57, hb58, hw⟩ := hw
        refine zg_nn hb58 ?_
        refine zg_iload (q := 142) C0 0 dX7_give_140 rfl rfl ?_
        refine zg_iconst (q := 143) C0 dX7_give_142 zc_iconst_0 rfl ?_
        obtain ⟨hz59, hw⟩ := hw
        obtain ⟨hi60, hw⟩ := hw
        refine zg_zast (q := 144) C0 dX7_give_143 hz59 hi60 (by decide) rfl (fun S61 eS61 => ?_)
        have hw := hw S61 eS61
        refine zg_aload_n (q := 145) C0 1 dX7_give_144 rfl rfl ?_
        refine zg_iload_n (q := 146) C0 2 dX7_give_145 rfl rfl ?_
        refine zg_aload_n (q := 147) C0 1 dX7_give_146 rfl rfl ?_
        refine zg_get (q := 150) (T := TX7) (k := 28) C0 dX7_give_147 hz7 (zF_7 cy hz7) rfl (by decide) hX_X7_give_7 (zwm (i := 4) rfl) rfl rfl rfl ?_
        refine zg_nn hb13 ?_
        refine zg_iload_n (q := 151) C0 4 dX7_give_150 rfl rfl ?_
        refine zg_iald (q := 152) C0 dX7_give_151 hz14 hi15 rfl ?_
        refine zg_callVv (q := 155) C0 [.int x1, .int (zI S61 b12 x3.toNatClampNeg)] [] dX7_give_152 (fun sz => a_X7_gets l D cy Z S61 sz x0 x1 (zI S61 b12 x3.toNatClampNeg) _ hw) rfl gX7_give_X7_gets hdV_X7_gets hz7 (zF_7 cy hz7) rfl rfl ⟨Nat.le_of_ble_eq_true rfl, Nat.le_of_ble_eq_true rfl⟩ (Nat.le_of_ble_eq_true rfl) ⟨Nat.zero_le _, Nat.zero_le _⟩ ⟨rfl, rfl⟩ rfl (fun S62 hw => ?_)
        refine zg_aload_n (q := 156) C0 1 dX7_give_155 rfl rfl ?_
        refine zg_iload_n (q := 157) C0 2 dX7_give_156 rfl rfl ?_
        refine zg_aload_n (q := 158) C0 1 dX7_give_157 rfl rfl ?_
        refine zg_get (q := 161) (T := TX7) (k := 28) C0 dX7_give_158 hz7 (zF_7 cy hz7) rfl (by decide) hX_X7_give_7 (zwm (i := 4) rfl) rfl rfl rfl ?_
        refine zg_nn hb13 ?_
        refine zg_iload_n (q := 162) C0 4 dX7_give_161 rfl rfl ?_
        refine zg_iald (q := 163) C0 dX7_give_162 hz14 hi15 rfl ?_
        refine zg_iload_n (q := 164) C0 3 dX7_give_163 rfl rfl ?_
        refine zg_callVv (q := 167) C0 [.int x1, .int (zI S62 b12 x3.toNatClampNeg), .int x2] [] dX7_give_164 (fun sz => a_X7_comes l D cy Z S62 sz x0 x1 (zI S62 b12 x3.toNatClampNeg) x2 _ hw) rfl gX7_give_X7_comes hdV_X7_comes hz7 (zF_7 cy hz7) rfl rfl ⟨Nat.le_of_ble_eq_true rfl, Nat.le_of_ble_eq_true rfl⟩ (Nat.le_of_ble_eq_true rfl) ⟨Nat.zero_le _, Nat.zero_le _⟩ ⟨rfl, rfl⟩ rfl (fun S63 hw => ?_)
        refine zg_iinc (q := 170) C0 5 dX7_give_167 rfl (by decide) zc_iconst_1 rfl (fun y64 ey64 => ?_)
        have hw := hw y64 ey64
        refine zg_lv (lv' := [(4, .int y64), (5, .int v18), (0, .ref x0), (1, .int x1), (2, .int x2), (3, .int x3)]) rfl ?_
        refine zg_goto (tgt := 10) C0 dX7_give_170 rfl ?_
        refine zg_sub [2, 3, 4, 5, 0] rfl ?_
        exact hrec _ _ hw
theorem aL_X7_give_10 {p : Program} {l : Launch} {e : Env} {s : State} {m : MethodId} {args : Array Value} {below : List Frame} {meth : Method} {c : Code} {D : va_G} {cy : Nat → ClassId} {A : Nat → Prop} {Q : State → Prop} {Z : zZ} (C0 : zC p s m args meth c cX7_give 7 wsX7_give RX7 D cy A none) {x0 : Nat} {x1 : Int32} {x2 : Int32} {x3 : Int32} {Qp : zS → Prop} {K : Int32 → zS → Prop} (hK : ∀ x4 S, K x4 S → zG p l e rm_X7_give s m args below meth c D cy A 7 0 0 Q Z S 173 [(0, .ref x0), (1, .int x1), (4, .int x4)] []) : ∀ x4 S, wL_X7_give_10 Z x0 x1 x2 x3 Qp K x4 S → zG p l e rm_X7_give s m args below meth c D cy A 7 0 0 Q Z S 10 [(0, .ref x0), (1, .int x1), (2, .int x2), (3, .int x3), (4, .int x4)] [] := by
  intro x4 S hw
  obtain ⟨n, hw⟩ := hw
  induction n generalizing x4 S with
  | zero => exact hw.elim
  | succ n ih => exact ab_X7_give_10 C0 hK (fun x4 S hw => ih x4 S hw) hw
def wb_X7_give_191 (Z : zZ) (x0 : Nat) (x1 : Int32) (x4 : Int32) (Qp : zS → Prop) (K : zS → Prop) (rec : Int32 → zS → Prop) (x5 : Int32) (S : zS) : Prop :=
  zk Z x0 7 ∧ ∃ b76, zQ Z x0 12 = some b76 ∧ zk Z b76 8 ∧ vp_in x1 (zN Z b76) ∧ (((zI S b76 x1.toNatClampNeg) ≤ x5 → K S) ∧ (¬ (zI S b76 x1.toNatClampNeg) ≤ x5 → ∀ y80 : Int32, y80 = (12 * x1) + x5 → ∃ b81, zQ Z x0 13 = some b81 ∧ zk Z b81 8 ∧ vp_in (y80 + x4) (zN Z b81) ∧ vp_in y80 (zN Z b81) ∧ ∀ S86 : zS, S86 = zsI S b81 y80.toNatClampNeg (zI S b81 (y80 + x4).toNatClampNeg) → ∃ b87, zQ Z x0 14 = some b87 ∧ zk Z b87 9 ∧ vp_in (y80 + x4) (zN Z b87) ∧ vp_in y80 (zN Z b87) ∧ ∀ S92 : zS, S92 = zsJ S86 b87 y80.toNatClampNeg (zJ S86 b87 (y80 + x4).toNatClampNeg) → ∃ b93, zQ Z x0 15 = some b93 ∧ zk Z b93 10 ∧ vp_in (y80 + x4) (zN Z b93) ∧ vp_in y80 (zN Z b93) ∧ zb (zI S92 b93 (y80 + x4).toNatClampNeg) ∧ ∀ S98 : zS, S98 = zsI S92 b93 y80.toNatClampNeg (zI S92 b93 (y80 + x4).toNatClampNeg) → ∀ y100 : Int32, y100 = x5 + 1 → rec y100 S98))
def wL_X7_give_191 (Z : zZ) (x0 : Nat) (x1 : Int32) (x4 : Int32) (Qp : zS → Prop) (K : zS → Prop) (x5 : Int32) (S : zS) : Prop := ∃ n, zit2 (wb_X7_give_191 Z x0 x1 x4 Qp K) n x5 S
set_option maxHeartbeats 4000000 in
set_option maxRecDepth 100000 in
theorem ab_X7_give_191 {p : Program} {l : Launch} {e : Env} {s : State} {m : MethodId} {args : Array Value} {below : List Frame} {meth : Method} {c : Code} {D : va_G} {cy : Nat → ClassId} {A : Nat → Prop} {Q : State → Prop} {Z : zZ} (C0 : zC p s m args meth c cX7_give 7 wsX7_give RX7 D cy A none) {x0 : Nat} {x1 : Int32} {x4 : Int32} {Qp : zS → Prop} {K : zS → Prop} (hK : ∀  S, K  S → zG p l e rm_X7_give s m args below meth c D cy A 7 0 0 Q Z S 268 [] []) {rec : Int32 → zS → Prop} (hrec : ∀ x5 S, rec x5 S → zG p l e rm_X7_give s m args below meth c D cy A 7 0 0 Q Z S 191 [(0, .ref x0), (1, .int x1), (4, .int x4), (5, .int x5)] []) {x5 : Int32} {S : zS} (hw : wb_X7_give_191 Z x0 x1 x4 Qp K rec x5 S) : zG p l e rm_X7_give s m args below meth c D cy A 7 0 0 Q Z S 191 [(0, .ref x0), (1, .int x1), (4, .int x4), (5, .int x5)] [] := by
  unfold wb_X7_give_191 at hw
  refine zg_iload (q := 193) C0 3 dX7_give_191 rfl rfl ?_
  refine zg_aload_n (q := 194) C0 0 dX7_give_193 rfl rfl ?_
  obtain ⟨hz75, hw⟩ := hw
  refine zg_get (q := 197) (T := TX7) (k := 12) C0 dX7_give_194 hz75 (zF_7 cy hz75) rfl (by decide) hX_X7_give_7 (zwm (i := 3) rfl) rfl rfl rfl ?_
  obtain ⟨b76, hb77, hw⟩ := hw
  refine zg_nn hb77 ?_
  refine zg_iload_n (q := 198) C0 1 dX7_give_197 rfl rfl ?_
  obtain ⟨hz78, hw⟩ := hw
  obtain ⟨hi79, hw⟩ := hw
  refine zg_iald (q := 199) C0 dX7_give_198 hz78 hi79 rfl ?_
  refine zg_icmp_ge (q := 202) (tgt := 268) C0 dX7_give_199 rfl rfl (fun c101 => ?_) (fun c101 => ?_)
  · have hw := hw.1 c101
    refine zg_sub [] rfl ?_
    exact hK  _ hw
  · have hw := hw.2 c101
    refine zg_bipush (q := 204) C0 dX7_give_202 zc_bipush_12 rfl ?_
    refine zg_iload_n (q := 205) C0 1 dX7_give_204 rfl rfl ?_
    refine zg_imul (q := 206) C0 dX7_give_205 rfl ?_
    refine zg_iload (q := 208) C0 3 dX7_give_206 rfl rfl ?_
    refine zg_iadd (q := 209) C0 dX7_give_208 rfl ?_
    refine zg_ni (fun y80 ey80 => ?_)
    have hw := hw y80 ey80
    refine zg_istore (q := 211) (lv' := [(6, .int y80), (0, .ref x0), (1, .int x1), (4, .int x4), (5, .int x5)]) C0 dX7_give_209 (by decide) rfl rfl ?_
    refine zg_aload_n (q := 212) C0 1 dX7_give_211 rfl rfl ?_
    refine zg_get (q := 215) (T := TX7) (k := 13) C0 dX7_give_212 hz75 (zF_7 cy hz75) rfl (by decide) hX_X7_give_7 (zwm (i := 7) rfl) rfl rfl rfl ?_
    obtain ⟨b81, hb82, hw⟩ := hw
    refine zg_nn hb82 ?_
    refine zg_iload (q := 217) C0 0 dX7_give_215 rfl rfl ?_
    refine zg_aload_n (q := 218) C0 1 dX7_give_217 rfl rfl ?_
    refine zg_get (q := 221) (T := TX7) (k := 13) C0 dX7_give_218 hz75 (zF_7 cy hz75) rfl (by decide) hX_X7_give_7 (zwm (i := 7) rfl) rfl rfl rfl ?_
    refine zg_nn hb82 ?_
    refine zg_iload (q := 223) C0 0 dX7_give_221 rfl rfl ?_
    refine zg_iload (q := 225) C0 3 dX7_give_223 rfl rfl ?_
    refine zg_iadd (q := 226) C0 dX7_give_225 rfl ?_
    obtain ⟨hz83, hw⟩ := hw
    obtain ⟨hi84, hw⟩ := hw
    refine zg_iald (q := 227) C0 dX7_give_226 hz83 hi84 rfl ?_
    obtain ⟨hi85, hw⟩ := hw
    refine zg_iast (q := 228) C0 dX7_give_227 hz83 hi85 rfl (fun S86 eS86 => ?_)
    have hw := hw S86 eS86
    refine zg_aload_n (q := 229) C0 1 dX7_give_228 rfl rfl ?_
    refine zg_get (q := 232) (T := TX7) (k := 14) C0 dX7_give_229 hz75 (zF_7 cy hz75) rfl (by decide) hX_X7_give_7 (zwm (i := 9) rfl) rfl rfl rfl ?_
    obtain ⟨b87, hb88, hw⟩ := hw
    refine zg_nn hb88 ?_
    refine zg_iload (q := 234) C0 0 dX7_give_232 rfl rfl ?_
    refine zg_aload_n (q := 235) C0 1 dX7_give_234 rfl rfl ?_
    refine zg_get (q := 238) (T := TX7) (k := 14) C0 dX7_give_235 hz75 (zF_7 cy hz75) rfl (by decide) hX_X7_give_7 (zwm (i := 9) rfl) rfl rfl rfl ?_
    refine zg_nn hb88 ?_
    refine zg_iload (q := 240) C0 0 dX7_give_238 rfl rfl ?_
    refine zg_iload (q := 242) C0 3 dX7_give_240 rfl rfl ?_
    refine zg_iadd (q := 243) C0 dX7_give_242 rfl ?_
    obtain ⟨hz89, hw⟩ := hw
    obtain ⟨hi90, hw⟩ := hw
    refine zg_lald (q := 244) C0 dX7_give_243 hz89 hi90 rfl ?_
    obtain ⟨hi91, hw⟩ := hw
    refine zg_last (q := 245) C0 dX7_give_244 hz89 hi91 rfl (fun S92 eS92 => ?_)
    have hw := hw S92 eS92
    refine zg_aload_n (q := 246) C0 1 dX7_give_245 rfl rfl ?_
    refine zg_get (q := 249) (T := TX7) (k := 15) C0 dX7_give_246 hz75 (zF_7 cy hz75) rfl (by decide) hX_X7_give_7 (zwm (i := 11) rfl) rfl rfl rfl ?_
    obtain ⟨b93, hb94, hw⟩ := hw
    refine zg_nn hb94 ?_
    refine zg_iload (q := 251) C0 0 dX7_give_249 rfl rfl ?_
    refine zg_aload_n (q := 252) C0 1 dX7_give_251 rfl rfl ?_
    refine zg_get (q := 255) (T := TX7) (k := 15) C0 dX7_give_252 hz75 (zF_7 cy hz75) rfl (by decide) hX_X7_give_7 (zwm (i := 11) rfl) rfl rfl rfl ?_
    refine zg_nn hb94 ?_
    refine zg_iload (q := 257) C0 0 dX7_give_255 rfl rfl ?_
    refine zg_iload (q := 259) C0 3 dX7_give_257 rfl rfl ?_
    refine zg_iadd (q := 260) C0 dX7_give_259 rfl ?_
    obtain ⟨hz95, hw⟩ := hw
    obtain ⟨hi96, hw⟩ := hw
    refine zg_zald (q := 261) C0 dX7_give_260 hz95 hi96 rfl ?_
    obtain ⟨hi97, hw⟩ := hw
    obtain ⟨hb99, hw⟩ := hw
    refine zg_zast (q := 262) C0 dX7_give_261 hz95 hi97 (zb_v hb99) rfl (fun S98 eS98 => ?_)
    have hw := hw S98 eS98
    refine zg_iinc (q := 265) C0 4 dX7_give_262 rfl (by decide) zc_iconst_1 rfl (fun y100 ey100 => ?_)
    have hw := hw y100 ey100
    refine zg_lv (lv' := [(5, .int y100), (6, .int y80), (0, .ref x0), (1, .int x1), (4, .int x4)]) rfl ?_
    refine zg_goto (tgt := 191) C0 dX7_give_265 rfl ?_
    refine zg_sub [2, 3, 4, 0] rfl ?_
    exact hrec _ _ hw
theorem aL_X7_give_191 {p : Program} {l : Launch} {e : Env} {s : State} {m : MethodId} {args : Array Value} {below : List Frame} {meth : Method} {c : Code} {D : va_G} {cy : Nat → ClassId} {A : Nat → Prop} {Q : State → Prop} {Z : zZ} (C0 : zC p s m args meth c cX7_give 7 wsX7_give RX7 D cy A none) {x0 : Nat} {x1 : Int32} {x4 : Int32} {Qp : zS → Prop} {K : zS → Prop} (hK : ∀  S, K  S → zG p l e rm_X7_give s m args below meth c D cy A 7 0 0 Q Z S 268 [] []) : ∀ x5 S, wL_X7_give_191 Z x0 x1 x4 Qp K x5 S → zG p l e rm_X7_give s m args below meth c D cy A 7 0 0 Q Z S 191 [(0, .ref x0), (1, .int x1), (4, .int x4), (5, .int x5)] [] := by
  intro x5 S hw
  obtain ⟨n, hw⟩ := hw
  induction n generalizing x5 S with
  | zero => exact hw.elim
  | succ n ih => exact ab_X7_give_191 C0 hK (fun x5 S hw => ih x5 S hw) hw
def w_X7_give (Z : zZ) (h0 : Nat) (p0 : Int32) (p1 : Int32) (S : zS) (Qp : zS → Prop) : Prop :=
  zk Z h0 7 ∧ ∃ b2, zQ Z h0 5 = some b2 ∧ zk Z b2 8 ∧ vp_in p0 (zN Z b2) ∧ ∀ y6 : Int32, y6 = zI S b2 p0.toNatClampNeg → wL_X7_give_10 Z h0 p0 p1 y6 Qp (fun (v69 : Int32) (S68 : zS) => ∃ b70, zQ Z h0 12 = some b70 ∧ zk Z b70 8 ∧ vp_in p0 (zN Z b70) ∧ ∀ S74 : zS, S74 = zsI S68 b70 p0.toNatClampNeg ((zI S68 b70 p0.toNatClampNeg) - v69) → wL_X7_give_191 Z h0 p0 v69 Qp (fun  (S102 : zS) => Qp S102) 0 S74) 0 S
set_option maxHeartbeats 4000000 in
set_option maxRecDepth 100000 in
theorem a_X7_give (l : Launch) (D : va_G) (cy : Nat → ClassId) (Z : zZ) (S : zS) (sz : Nat) (h0 : Nat) (p0 : Int32) (p1 : Int32) (Qp : zS → Prop) (hw : w_X7_give Z h0 p0 p1 S Qp) : zMv l yX7_give wsX7_give rm_X7_give D cy Z S sz [.ref h0, .int p0, .int p1] Qp := by
  unfold w_X7_give at hw
  refine zMv_of (cc := cX7_give) (maxL := 7) (rt := none) (by decide +kernel) rfl (Nat.le_of_ble_eq_true rfl) ?_
  intro p e s m args below meth c A C0 _
  refine zg_lv (lv' := [(0, .ref h0), (1, .int p0), (2, .int p1)]) rfl ?_
  refine zg_aload_n (q := 1) C0 0 dX7_give_0 rfl rfl ?_
  obtain ⟨hz1, hw⟩ := hw
  refine zg_get (q := 4) (T := TX7) (k := 5) C0 dX7_give_1 hz1 (zF_7 cy hz1) rfl (by decide) hX_X7_give_7 (zwm (i := 1) rfl) rfl rfl rfl ?_
  obtain ⟨b2, hb3, hw⟩ := hw
  refine zg_nn hb3 ?_
  refine zg_iload_n (q := 5) C0 1 dX7_give_4 rfl rfl ?_
  obtain ⟨hz4, hw⟩ := hw
  obtain ⟨hi5, hw⟩ := hw
  refine zg_iald (q := 6) C0 dX7_give_5 hz4 hi5 rfl ?_
  refine zg_ni (fun y6 ey6 => ?_)
  have hw := hw y6 ey6
  refine zg_istore_n (q := 7) (lv' := [(3, .int y6), (0, .ref h0), (1, .int p0), (2, .int p1)]) C0 dX7_give_6 (by decide) rfl rfl ?_
  refine zg_iconst (q := 8) C0 dX7_give_7 zc_iconst_0 rfl ?_
  refine zg_istore (q := 10) (lv' := [(4, .int 0), (3, .int y6), (0, .ref h0), (1, .int p0), (2, .int p1)]) C0 dX7_give_8 (by decide) rfl rfl ?_
  refine zg_sub [2, 3, 4, 1, 0] rfl ?_
  refine aL_X7_give_10 C0 (fun v69 S68 hw => ?_) _ _ hw
  refine zg_aload_n (q := 174) C0 0 dX7_give_173 rfl rfl ?_
  refine zg_get (q := 177) (T := TX7) (k := 12) C0 dX7_give_174 hz1 (zF_7 cy hz1) rfl (by decide) hX_X7_give_7 (zwm (i := 3) rfl) rfl rfl rfl ?_
  obtain ⟨b70, hb71, hw⟩ := hw
  refine zg_nn hb71 ?_
  refine zg_iload_n (q := 178) C0 1 dX7_give_177 rfl rfl ?_
  refine zg_aload_n (q := 179) C0 0 dX7_give_178 rfl rfl ?_
  refine zg_get (q := 182) (T := TX7) (k := 12) C0 dX7_give_179 hz1 (zF_7 cy hz1) rfl (by decide) hX_X7_give_7 (zwm (i := 3) rfl) rfl rfl rfl ?_
  refine zg_nn hb71 ?_
  refine zg_iload_n (q := 183) C0 1 dX7_give_182 rfl rfl ?_
  obtain ⟨hz72, hw⟩ := hw
  obtain ⟨hi73, hw⟩ := hw
  refine zg_iald (q := 184) C0 dX7_give_183 hz72 hi73 rfl ?_
  refine zg_iload (q := 186) C0 2 dX7_give_184 rfl rfl ?_
  refine zg_isub (q := 187) C0 dX7_give_186 rfl ?_
  refine zg_iast (q := 188) C0 dX7_give_187 hz72 hi73 rfl (fun S74 eS74 => ?_)
  have hw := hw S74 eS74
  refine zg_iconst (q := 189) C0 dX7_give_188 zc_iconst_0 rfl ?_
  refine zg_istore (q := 191) (lv' := [(5, .int 0), (0, .ref h0), (1, .int p0), (4, .int v69)]) C0 dX7_give_189 (by decide) rfl rfl ?_
  refine zg_sub [1, 2, 3, 0] rfl ?_
  refine aL_X7_give_191 C0 (fun  S102 hw => ?_) _ _ hw
  exact zg_vret C0 dX7_give_268 rfl (Nat.le_refl 0) (Nat.le_refl 0) hw
-- X7_goesOn
abbrev rm_X7_goesOn : Room := { frames := 1, cells := 0, slots := 0, locals := 21 }
theorem hX_X7_goesOn_7 : ∀ w ∈ u_ws RX7 TX7 36, w ∈ wsX7_goesOn := by decide +kernel
theorem hdV_X7_goesOn : yX7_goesOn.cls = RX7 ∧ yX7_goesOn.cls ≠ "java/lang/invoke/MethodHandle" ∧ yX7_goesOn.cls ≠ "java/lang/invoke/VarHandle" ∧ (parseMethodDescriptor yX7_goesOn.desc).map (fun d => d.parameters.length) = some 1 := by decide +kernel
def wb_X7_goesOn_9 (Z : zZ) (x0 : Nat) (x1 : Int32) (x2 : Int32) (Qp : zS → Prop) (K : Int32 → zS → Prop) (rec : Int32 → zS → Prop) (x3 : Int32) (S : zS) : Prop :=
  ∀ y7 : Int32, y7 = (x3 + 1) - (x3 + 1) / 8 * 8 → zk Z x0 7 ∧ ∃ b9, zQ Z x0 25 = some b9 ∧ zk Z b9 8 ∧ vp_in x2 (zN Z b9) ∧ w_X7_isIn Z (zI S b9 x2.toNatClampNeg) y7 S (fun (v14 : Int32) (S13 : zS) => ((v14 = 0 → rec y7 S13) ∧ (¬ v14 = 0 → K y7 S13)))
def wL_X7_goesOn_9 (Z : zZ) (x0 : Nat) (x1 : Int32) (x2 : Int32) (Qp : zS → Prop) (K : Int32 → zS → Prop) (x3 : Int32) (S : zS) : Prop := ∃ n, zit2 (wb_X7_goesOn_9 Z x0 x1 x2 Qp K) n x3 S
set_option maxHeartbeats 4000000 in
set_option maxRecDepth 100000 in
theorem ab_X7_goesOn_9 {p : Program} {l : Launch} {e : Env} {s : State} {m : MethodId} {args : Array Value} {below : List Frame} {meth : Method} {c : Code} {D : va_G} {cy : Nat → ClassId} {A : Nat → Prop} {Q : State → Prop} {Z : zZ} (C0 : zC p s m args meth c cX7_goesOn 5 wsX7_goesOn RX7 D cy A none) {x0 : Nat} {x1 : Int32} {x2 : Int32} {Qp : zS → Prop} {K : Int32 → zS → Prop} (hK : ∀ x3 S, K x3 S → zG p l e rm_X7_goesOn s m args below meth c D cy A 5 0 0 Q Z S 29 [(0, .ref x0), (1, .int x1), (2, .int x2), (3, .int x3)] []) {rec : Int32 → zS → Prop} (hrec : ∀ x3 S, rec x3 S → zG p l e rm_X7_goesOn s m args below meth c D cy A 5 0 0 Q Z S 9 [(0, .ref x0), (1, .int x1), (2, .int x2), (3, .int x3)] []) {x3 : Int32} {S : zS} (hw : wb_X7_goesOn_9 Z x0 x1 x2 Qp K rec x3 S) : zG p l e rm_X7_goesOn s m args below meth c D cy A 5 0 0 Q Z S 9 [(0, .ref x0), (1, .int x1), (2, .int x2), (3, .int x3)] [] := by
  unfold wb_X7_goesOn_9 at hw
  refine zg_iload_n (q := 10) C0 3 dX7_goesOn_9 rfl rfl ?_
  refine zg_iconst (q := 11) C0 dX7_goesOn_10 zc_iconst_1 rfl ?_
  refine zg_iadd (q := 12) C0 dX7_goesOn_11 rfl ?_
  refine zg_bipush (q := 14) C0 dX7_goesOn_12 zc_bipush_8 rfl ?_
  refine zg_irem (q := 15) C0 dX7_goesOn_14 (by decide) rfl ?_
  refine zg_ni (fun y7 ey7 => ?_)
  have hw := hw y7 ey7
  refine zg_istore_n (q := 16) (lv' := [(3, .int y7), (0, .ref x0), (1, .int x1), (2, .int x2)]) C0 dX7_goesOn_15 (by decide) rfl rfl ?_
  refine zg_aload_n (q := 17) C0 1 dX7_goesOn_16 rfl rfl ?_
  obtain ⟨hz8, hw⟩ := hw
  refine zg_get (q := 20) (T := TX7) (k := 25) C0 dX7_goesOn_17 hz8 (zF_7 cy hz8) rfl (by decide) hX_X7_goesOn_7 (zwm (i := 2) rfl) rfl rfl rfl ?_
  obtain ⟨b9, hb10, hw⟩ := hw
  refine zg_nn hb10 ?_
  refine zg_iload_n (q := 21) C0 3 dX7_goesOn_20 rfl rfl ?_
  obtain ⟨hz11, hw⟩ := hw
  obtain ⟨hi12, hw⟩ := hw
  refine zg_iald (q := 22) C0 dX7_goesOn_21 hz11 hi12 rfl ?_
  refine zg_iload_n (q := 23) C0 0 dX7_goesOn_22 rfl rfl ?_
  refine zg_callSi (q := 26) C0 [.int (zI S b9 x2.toNatClampNeg), .int y7] [] dX7_goesOn_23 (fun sz => a_X7_isIn l D cy Z S sz (zI S b9 x2.toNatClampNeg) y7 _ hw) rfl gX7_goesOn_X7_isIn hdS_X7_isIn rfl ⟨Nat.le_of_ble_eq_true rfl, Nat.le_of_ble_eq_true rfl⟩ (Nat.le_of_ble_eq_true rfl) ⟨Nat.zero_le _, Nat.zero_le _⟩ ⟨rfl, rfl⟩ rfl (fun v14 S13 hw => ?_)
  refine zg_if_eq (q := 29) (tgt := 9) C0 dX7_goesOn_26 rfl rfl (fun c15 => ?_) (fun c15 => ?_)
  · have hw := hw.1 c15
    refine zg_sub [1, 2, 3, 0] rfl ?_
    exact hrec _ _ hw
  · have hw := hw.2 c15
    refine zg_sub [1, 2, 3, 0] rfl ?_
    exact hK _ _ hw
theorem aL_X7_goesOn_9 {p : Program} {l : Launch} {e : Env} {s : State} {m : MethodId} {args : Array Value} {below : List Frame} {meth : Method} {c : Code} {D : va_G} {cy : Nat → ClassId} {A : Nat → Prop} {Q : State → Prop} {Z : zZ} (C0 : zC p s m args meth c cX7_goesOn 5 wsX7_goesOn RX7 D cy A none) {x0 : Nat} {x1 : Int32} {x2 : Int32} {Qp : zS → Prop} {K : Int32 → zS → Prop} (hK : ∀ x3 S, K x3 S → zG p l e rm_X7_goesOn s m args below meth c D cy A 5 0 0 Q Z S 29 [(0, .ref x0), (1, .int x1), (2, .int x2), (3, .int x3)] []) : ∀ x3 S, wL_X7_goesOn_9 Z x0 x1 x2 Qp K x3 S → zG p l e rm_X7_goesOn s m args below meth c D cy A 5 0 0 Q Z S 9 [(0, .ref x0), (1, .int x1), (2, .int x2), (3, .int x3)] [] := by
  intro x3 S hw
  obtain ⟨n, hw⟩ := hw
  induction n generalizing x3 S with
  | zero => exact hw.elim
  | succ n ih => exact ab_X7_goesOn_9 C0 hK (fun x3 S hw => ih x3 S hw) hw
def wJ_X7_goesOn_68 (Z : zZ) (Qp : zS → Prop)  (x0 : Nat) (x2 : Int32) (x3 : Int32) (t0 : Int32) (S : zS) : Prop :=
  zk Z x0 7 ∧ ∃ b23, zQ Z x0 26 = some b23 ∧ ((¬ t0 = 0 → zk Z b23 10 ∧ vp_in x2 (zN Z b23) ∧ ∀ S27 : zS, S27 = zsI S b23 x2.toNatClampNeg 0 → ∃ b28, zQ Z x0 27 = some b28 ∧ zk Z b28 8 ∧ vp_in x2 (zN Z b28) ∧ ∀ S32 : zS, S32 = zsI S27 b28 x2.toNatClampNeg x3 → Qp S32) ∧ (t0 = 0 → zk Z b23 10 ∧ vp_in x2 (zN Z b23) ∧ ∀ S35 : zS, S35 = zsI S b23 x2.toNatClampNeg 1 → ∃ b36, zQ Z x0 27 = some b36 ∧ zk Z b36 8 ∧ vp_in x2 (zN Z b36) ∧ ∀ S40 : zS, S40 = zsI S35 b36 x2.toNatClampNeg x3 → Qp S40))
set_option maxHeartbeats 4000000 in
set_option maxRecDepth 100000 in
theorem aJ_X7_goesOn_68 {p : Program} {l : Launch} {e : Env} {s : State} {m : MethodId} {args : Array Value} {below : List Frame} {meth : Method} {c : Code} {D : va_G} {cy : Nat → ClassId} {A : Nat → Prop} {Z : zZ} (C0 : zC p s m args meth c cX7_goesOn 5 wsX7_goesOn RX7 D cy A none) {Qp : zS → Prop} {x0 : Nat} {x2 : Int32} {x3 : Int32} {t0 : Int32}    {S : zS} (hw : wJ_X7_goesOn_68 Z Qp  x0 x2 x3 t0 S) : zG p l e rm_X7_goesOn s m args below meth c D cy A 5 0 0 (zQv below D cy A Z Qp args s 0 0) Z S 68 [(0, .ref x0), (2, .int x2), (3, .int x3)] [.int t0] := by
  unfold wJ_X7_goesOn_68 at hw
  refine zg_istore (q := 70) (lv' := [(4, .int t0), (0, .ref x0), (2, .int x2), (3, .int x3)]) C0 dX7_goesOn_68 (by decide) rfl rfl ?_
  refine zg_aload_n (q := 71) C0 1 dX7_goesOn_70 rfl rfl ?_
  obtain ⟨hz22, hw⟩ := hw
  refine zg_get (q := 74) (T := TX7) (k := 26) C0 dX7_goesOn_71 hz22 (zF_7 cy hz22) rfl (by decide) hX_X7_goesOn_7 (zwm (i := 5) rfl) rfl rfl rfl ?_
  obtain ⟨b23, hb24, hw⟩ := hw
  refine zg_nn hb24 ?_
  refine zg_iload_n (q := 75) C0 2 dX7_goesOn_74 rfl rfl ?_
  refine zg_iload (q := 77) C0 0 dX7_goesOn_75 rfl rfl ?_
  refine zg_if_ne (q := 80) (tgt := 84) C0 dX7_goesOn_77 rfl rfl (fun c41 => ?_) (fun c41 => ?_)
  · have hw := hw.1 c41
    refine zg_iconst (q := 85) C0 dX7_goesOn_84 zc_iconst_0 rfl ?_
    obtain ⟨hz25, hw⟩ := hw
    obtain ⟨hi26, hw⟩ := hw
    refine zg_zast (q := 86) C0 dX7_goesOn_85 hz25 hi26 (by decide) rfl (fun S27 eS27 => ?_)
    have hw := hw S27 eS27
    refine zg_aload_n (q := 87) C0 1 dX7_goesOn_86 rfl rfl ?_
    refine zg_get (q := 90) (T := TX7) (k := 27) C0 dX7_goesOn_87 hz22 (zF_7 cy hz22) rfl (by decide) hX_X7_goesOn_7 (zwm (i := 6) rfl) rfl rfl rfl ?_
    obtain ⟨b28, hb29, hw⟩ := hw
    refine zg_nn hb29 ?_
    refine zg_iload_n (q := 91) C0 2 dX7_goesOn_90 rfl rfl ?_
    refine zg_iload_n (q := 92) C0 3 dX7_goesOn_91 rfl rfl ?_
    obtain ⟨hz30, hw⟩ := hw
    obtain ⟨hi31, hw⟩ := hw
    refine zg_iast (q := 93) C0 dX7_goesOn_92 hz30 hi31 rfl (fun S32 eS32 => ?_)
    have hw := hw S32 eS32
    exact zg_vret C0 dX7_goesOn_93 rfl (Nat.le_refl 0) (Nat.le_refl 0) hw
  · have hw := hw.2 c41
    refine zg_iconst (q := 81) C0 dX7_goesOn_80 zc_iconst_1 rfl ?_
    refine zg_goto (tgt := 85) C0 dX7_goesOn_81 rfl ?_
    obtain ⟨hz33, hw⟩ := hw
    obtain ⟨hi34, hw⟩ := hw
    refine zg_zast (q := 86) C0 dX7_goesOn_85 hz33 hi34 (by decide) rfl (fun S35 eS35 => ?_)
    have hw := hw S35 eS35
    refine zg_aload_n (q := 87) C0 1 dX7_goesOn_86 rfl rfl ?_
    refine zg_get (q := 90) (T := TX7) (k := 27) C0 dX7_goesOn_87 hz22 (zF_7 cy hz22) rfl (by decide) hX_X7_goesOn_7 (zwm (i := 6) rfl) rfl rfl rfl ?_
    obtain ⟨b36, hb37, hw⟩ := hw
    refine zg_nn hb37 ?_
    refine zg_iload_n (q := 91) C0 2 dX7_goesOn_90 rfl rfl ?_
    refine zg_iload_n (q := 92) C0 3 dX7_goesOn_91 rfl rfl ?_
    obtain ⟨hz38, hw⟩ := hw
    obtain ⟨hi39, hw⟩ := hw
    refine zg_iast (q := 93) C0 dX7_goesOn_92 hz38 hi39 rfl (fun S40 eS40 => ?_)
    have hw := hw S40 eS40
    exact zg_vret C0 dX7_goesOn_93 rfl (Nat.le_refl 0) (Nat.le_refl 0) hw
def wJ_X7_goesOn_67 (Z : zZ) (Qp : zS → Prop)  (x0 : Nat) (x2 : Int32) (x3 : Int32) (S : zS) : Prop :=
  wJ_X7_goesOn_68 Z Qp  x0 x2 x3 0 S
set_option maxHeartbeats 4000000 in
set_option maxRecDepth 100000 in
theorem aJ_X7_goesOn_67 {p : Program} {l : Launch} {e : Env} {s : State} {m : MethodId} {args : Array Value} {below : List Frame} {meth : Method} {c : Code} {D : va_G} {cy : Nat → ClassId} {A : Nat → Prop} {Z : zZ} (C0 : zC p s m args meth c cX7_goesOn 5 wsX7_goesOn RX7 D cy A none) {Qp : zS → Prop} {x0 : Nat} {x2 : Int32} {x3 : Int32}    {S : zS} (hw : wJ_X7_goesOn_67 Z Qp  x0 x2 x3 S) : zG p l e rm_X7_goesOn s m args below meth c D cy A 5 0 0 (zQv below D cy A Z Qp args s 0 0) Z S 67 [(0, .ref x0), (2, .int x2), (3, .int x3)] [] := by
  unfold wJ_X7_goesOn_67 at hw
  refine zg_iconst (q := 68) C0 dX7_goesOn_67 zc_iconst_0 rfl ?_
  refine zg_sub [0, 1, 2] rfl ?_
  exact aJ_X7_goesOn_68 C0  hw
def w_X7_goesOn (Z : zZ) (h0 : Nat) (p0 : Int32) (S : zS) (Qp : zS → Prop) : Prop :=
  zk Z h0 7 ∧ ∃ b2, zQ Z h0 5 = some b2 ∧ zk Z b2 8 ∧ vp_in p0 (zN Z b2) ∧ ∀ y6 : Int32, y6 = zI S b2 p0.toNatClampNeg → wL_X7_goesOn_9 Z h0 p0 y6 Qp (fun (v17 : Int32) (S16 : zS) => ∃ b18, zQ Z h0 3 = some b18 ∧ zk Z b18 10 ∧ vp_in v17 (zN Z b18) ∧ (((zI S16 b18 v17.toNatClampNeg) = 0 → wJ_X7_goesOn_67 Z Qp  h0 y6 v17 S16) ∧ (¬ (zI S16 b18 v17.toNatClampNeg) = 0 → ∃ b42, zQ Z h0 4 = some b42 ∧ zk Z b42 8 ∧ vp_in v17 (zN Z b42) ∧ vp_in p0 (zN Z b42) ∧ ((¬ (zI S16 b42 v17.toNatClampNeg) = (zI S16 b42 p0.toNatClampNeg) → wJ_X7_goesOn_67 Z Qp  h0 y6 v17 S16) ∧ ((zI S16 b42 v17.toNatClampNeg) = (zI S16 b42 p0.toNatClampNeg) → vp_in v17 (zN Z b2) ∧ ((¬ (zI S16 b2 v17.toNatClampNeg) = y6 → wJ_X7_goesOn_67 Z Qp  h0 y6 v17 S16) ∧ ((zI S16 b2 v17.toNatClampNeg) = y6 → wJ_X7_goesOn_68 Z Qp  h0 y6 v17 1 S16))))))) p0 S
set_option maxHeartbeats 4000000 in
set_option maxRecDepth 100000 in
theorem a_X7_goesOn (l : Launch) (D : va_G) (cy : Nat → ClassId) (Z : zZ) (S : zS) (sz : Nat) (h0 : Nat) (p0 : Int32) (Qp : zS → Prop) (hw : w_X7_goesOn Z h0 p0 S Qp) : zMv l yX7_goesOn wsX7_goesOn rm_X7_goesOn D cy Z S sz [.ref h0, .int p0] Qp := by
  unfold w_X7_goesOn at hw
  refine zMv_of (cc := cX7_goesOn) (maxL := 5) (rt := none) (by decide +kernel) rfl (Nat.le_of_ble_eq_true rfl) ?_
  intro p e s m args below meth c A C0 _
  refine zg_lv (lv' := [(0, .ref h0), (1, .int p0)]) rfl ?_
  refine zg_aload_n (q := 1) C0 0 dX7_goesOn_0 rfl rfl ?_
  obtain ⟨hz1, hw⟩ := hw
  refine zg_get (q := 4) (T := TX7) (k := 5) C0 dX7_goesOn_1 hz1 (zF_7 cy hz1) rfl (by decide) hX_X7_goesOn_7 (zwm (i := 1) rfl) rfl rfl rfl ?_
  obtain ⟨b2, hb3, hw⟩ := hw
  refine zg_nn hb3 ?_
  refine zg_iload_n (q := 5) C0 1 dX7_goesOn_4 rfl rfl ?_
  obtain ⟨hz4, hw⟩ := hw
  obtain ⟨hi5, hw⟩ := hw
  refine zg_iald (q := 6) C0 dX7_goesOn_5 hz4 hi5 rfl ?_
  refine zg_ni (fun y6 ey6 => ?_)
  have hw := hw y6 ey6
  refine zg_istore_n (q := 7) (lv' := [(2, .int y6), (0, .ref h0), (1, .int p0)]) C0 dX7_goesOn_6 (by decide) rfl rfl ?_
  refine zg_iload_n (q := 8) C0 2 dX7_goesOn_7 rfl rfl ?_
  refine zg_istore_n (q := 9) (lv' := [(3, .int p0), (2, .int y6), (0, .ref h0), (1, .int p0)]) C0 dX7_goesOn_8 (by decide) rfl rfl ?_
  refine zg_sub [2, 3, 1, 0] rfl ?_
  refine aL_X7_goesOn_9 C0 (fun v17 S16 hw => ?_) _ _ hw
  refine zg_aload_n (q := 30) C0 0 dX7_goesOn_29 rfl rfl ?_
  refine zg_get (q := 33) (T := TX7) (k := 3) C0 dX7_goesOn_30 hz1 (zF_7 cy hz1) rfl (by decide) hX_X7_goesOn_7 (zwm (i := 3) rfl) rfl rfl rfl ?_
  obtain ⟨b18, hb19, hw⟩ := hw
  refine zg_nn hb19 ?_
  refine zg_iload_n (q := 34) C0 3 dX7_goesOn_33 rfl rfl ?_
  obtain ⟨hz20, hw⟩ := hw
  obtain ⟨hi21, hw⟩ := hw
  refine zg_zald (q := 35) C0 dX7_goesOn_34 hz20 hi21 rfl ?_
  refine zg_if_eq (q := 38) (tgt := 67) C0 dX7_goesOn_35 rfl rfl (fun c50 => ?_) (fun c50 => ?_)
  · have hw := hw.1 c50
    refine zg_sub [0, 2, 3] rfl ?_
    exact aJ_X7_goesOn_67 C0  hw
  · have hw := hw.2 c50
    refine zg_aload_n (q := 39) C0 0 dX7_goesOn_38 rfl rfl ?_
    refine zg_get (q := 42) (T := TX7) (k := 4) C0 dX7_goesOn_39 hz1 (zF_7 cy hz1) rfl (by decide) hX_X7_goesOn_7 (zwm (i := 4) rfl) rfl rfl rfl ?_
    obtain ⟨b42, hb43, hw⟩ := hw
    refine zg_nn hb43 ?_
    refine zg_iload_n (q := 43) C0 3 dX7_goesOn_42 rfl rfl ?_
    obtain ⟨hz44, hw⟩ := hw
    obtain ⟨hi45, hw⟩ := hw
    refine zg_iald (q := 44) C0 dX7_goesOn_43 hz44 hi45 rfl ?_
    refine zg_aload_n (q := 45) C0 0 dX7_goesOn_44 rfl rfl ?_
    refine zg_get (q := 48) (T := TX7) (k := 4) C0 dX7_goesOn_45 hz1 (zF_7 cy hz1) rfl (by decide) hX_X7_goesOn_7 (zwm (i := 4) rfl) rfl rfl rfl ?_
    refine zg_nn hb43 ?_
    refine zg_iload_n (q := 49) C0 1 dX7_goesOn_48 rfl rfl ?_
    obtain ⟨hi46, hw⟩ := hw
    refine zg_iald (q := 50) C0 dX7_goesOn_49 hz44 hi46 rfl ?_
    refine zg_icmp_ne (q := 53) (tgt := 67) C0 dX7_goesOn_50 rfl rfl (fun c49 => ?_) (fun c49 => ?_)
    · have hw := hw.1 c49
      refine zg_sub [0, 2, 3] rfl ?_
      exact aJ_X7_goesOn_67 C0  hw
    · have hw := hw.2 c49
      refine zg_aload_n (q := 54) C0 0 dX7_goesOn_53 rfl rfl ?_
      refine zg_get (q := 57) (T := TX7) (k := 5) C0 dX7_goesOn_54 hz1 (zF_7 cy hz1) rfl (by decide) hX_X7_goesOn_7 (zwm (i := 1) rfl) rfl rfl rfl ?_
      refine zg_nn hb3 ?_
      refine zg_iload_n (q := 58) C0 3 dX7_goesOn_57 rfl rfl ?_
      obtain ⟨hi47, hw⟩ := hw
      refine zg_iald (q := 59) C0 dX7_goesOn_58 hz4 hi47 rfl ?_
      refine zg_iload_n (q := 60) C0 2 dX7_goesOn_59 rfl rfl ?_
      refine zg_icmp_ne (q := 63) (tgt := 67) C0 dX7_goesOn_60 rfl rfl (fun c48 => ?_) (fun c48 => ?_)
      · have hw := hw.1 c48
        refine zg_sub [0, 2, 3] rfl ?_
        exact aJ_X7_goesOn_67 C0  hw
      · have hw := hw.2 c48
        refine zg_iconst (q := 64) C0 dX7_goesOn_63 zc_iconst_1 rfl ?_
        refine zg_goto (tgt := 68) C0 dX7_goesOn_64 rfl ?_
        refine zg_sub [0, 2, 3] rfl ?_
        exact aJ_X7_goesOn_68 C0  hw
-- X7_pass
abbrev rm_X7_pass : Room := { frames := 4, cells := 0, slots := 0, locals := 94 }
theorem hX_X7_pass_7 : ∀ w ∈ u_ws RX7 TX7 36, w ∈ wsX7_pass := by decide +kernel
theorem hdV_X7_pass : yX7_pass.cls = RX7 ∧ yX7_pass.cls ≠ "java/lang/invoke/MethodHandle" ∧ yX7_pass.cls ≠ "java/lang/invoke/VarHandle" ∧ (parseMethodDescriptor yX7_pass.desc).map (fun d => d.parameters.length) = some 2 := by decide +kernel
def wb_X7_pass_64 (Z : zZ) (x0 : Nat) (x1 : Int32) (x2 : Int32) (x3 : Int32) (Qp : Int32 → zS → Prop) (K : zS → Prop) (rec : Int32 → zS → Prop) (x4 : Int32) (S : zS) : Prop :=
  zk Z x0 7 ∧ ∃ b22, zQ Z x0 28 = some b22 ∧ zk Z b22 8 ∧ vp_in x3 (zN Z b22) ∧ (((zI S b22 x3.toNatClampNeg) < x4 → K S) ∧ (¬ (zI S b22 x3.toNatClampNeg) < x4 → w_X7_place Z x3 x4 S (fun (v27 : Int32) (S26 : zS) => ∃ b28, zQ Z x0 34 = some b28 ∧ zk Z b28 10 ∧ vp_in v27 (zN Z b28) ∧ (((zI S26 b28 v27.toNatClampNeg) = 0 → ∀ y32 : Int32, y32 = x4 + 1 → rec y32 S26) ∧ (¬ (zI S26 b28 v27.toNatClampNeg) = 0 → w_X7_hasPlace Z x0 x1 x4 S26 (fun (v34 : Int32) (S33 : zS) => ((v34 = 0 → ∀ y35 : Int32, y35 = x4 + 1 → rec y35 S33) ∧ (¬ v34 = 0 → ∀ S36 : zS, S36 = zsI S33 b28 v27.toNatClampNeg 0 → w_X7_comes Z x0 x1 x4 x2 S36 (fun (S37 : zS) => ∀ y38 : Int32, y38 = x4 + 1 → rec y38 S37)))))))))
def wL_X7_pass_64 (Z : zZ) (x0 : Nat) (x1 : Int32) (x2 : Int32) (x3 : Int32) (Qp : Int32 → zS → Prop) (K : zS → Prop) (x4 : Int32) (S : zS) : Prop := ∃ n, zit2 (wb_X7_pass_64 Z x0 x1 x2 x3 Qp K) n x4 S
set_option maxHeartbeats 4000000 in
set_option maxRecDepth 100000 in
theorem ab_X7_pass_64 {p : Program} {l : Launch} {e : Env} {s : State} {m : MethodId} {args : Array Value} {below : List Frame} {meth : Method} {c : Code} {D : va_G} {cy : Nat → ClassId} {A : Nat → Prop} {Q : State → Prop} {Z : zZ} (C0 : zC p s m args meth c cX7_pass 7 wsX7_pass RX7 D cy A (some .int)) {x0 : Nat} {x1 : Int32} {x2 : Int32} {x3 : Int32} {Qp : Int32 → zS → Prop} {K : zS → Prop} (hK : ∀  S, K  S → zG p l e rm_X7_pass s m args below meth c D cy A 7 0 0 Q Z S 125 [(0, .ref x0), (1, .int x1), (2, .int x2), (3, .int x3)] []) {rec : Int32 → zS → Prop} (hrec : ∀ x4 S, rec x4 S → zG p l e rm_X7_pass s m args below meth c D cy A 7 0 0 Q Z S 64 [(0, .ref x0), (1, .int x1), (2, .int x2), (3, .int x3), (4, .int x4)] []) {x4 : Int32} {S : zS} (hw : wb_X7_pass_64 Z x0 x1 x2 x3 Qp K rec x4 S) : zG p l e rm_X7_pass s m args below meth c D cy A 7 0 0 Q Z S 64 [(0, .ref x0), (1, .int x1), (2, .int x2), (3, .int x3), (4, .int x4)] [] := by
  unfold wb_X7_pass_64 at hw
  refine zg_iload (q := 66) C0 4 dX7_pass_64 rfl rfl ?_
  refine zg_aload_n (q := 67) C0 0 dX7_pass_66 rfl rfl ?_
  obtain ⟨hz21, hw⟩ := hw
  refine zg_get (q := 70) (T := TX7) (k := 28) C0 dX7_pass_67 hz21 (zF_7 cy hz21) rfl (by decide) hX_X7_pass_7 (zwm (i := 4) rfl) rfl rfl rfl ?_
  obtain ⟨b22, hb23, hw⟩ := hw
  refine zg_nn hb23 ?_
  refine zg_iload_n (q := 71) C0 3 dX7_pass_70 rfl rfl ?_
  obtain ⟨hz24, hw⟩ := hw
  obtain ⟨hi25, hw⟩ := hw
  refine zg_iald (q := 72) C0 dX7_pass_71 hz24 hi25 rfl ?_
  refine zg_icmp_gt (q := 75) (tgt := 125) C0 dX7_pass_72 rfl rfl (fun c41 => ?_) (fun c41 => ?_)
  · have hw := hw.1 c41
    refine zg_sub [0, 1, 2, 3] rfl ?_
    exact hK  _ hw
  · have hw := hw.2 c41
    refine zg_iload_n (q := 76) C0 3 dX7_pass_75 rfl rfl ?_
    refine zg_iload (q := 78) C0 4 dX7_pass_76 rfl rfl ?_
    refine zg_callSi (q := 81) C0 [.int x3, .int x4] [] dX7_pass_78 (fun sz => a_X7_place l D cy Z S sz x3 x4 _ hw) rfl gX7_pass_X7_place hdS_X7_place rfl ⟨Nat.le_of_ble_eq_true rfl, Nat.le_of_ble_eq_true rfl⟩ (Nat.le_of_ble_eq_true rfl) ⟨Nat.zero_le _, Nat.zero_le _⟩ ⟨rfl, rfl⟩ rfl (fun v27 S26 hw => ?_)
    refine zg_istore (q := 83) (lv' := [(5, .int v27), (0, .ref x0), (1, .int x1), (2, .int x2), (3, .int x3), (4, .int x4)]) C0 dX7_pass_81 (by decide) rfl rfl ?_
    refine zg_aload_n (q := 84) C0 1 dX7_pass_83 rfl rfl ?_
    refine zg_get (q := 87) (T := TX7) (k := 34) C0 dX7_pass_84 hz21 (zF_7 cy hz21) rfl (by decide) hX_X7_pass_7 (zwm (i := 5) rfl) rfl rfl rfl ?_
    obtain ⟨b28, hb29, hw⟩ := hw
    refine zg_nn hb29 ?_
    refine zg_iload (q := 89) C0 0 dX7_pass_87 rfl rfl ?_
    obtain ⟨hz30, hw⟩ := hw
    obtain ⟨hi31, hw⟩ := hw
    refine zg_zald (q := 90) C0 dX7_pass_89 hz30 hi31 rfl ?_
    refine zg_if_eq (q := 93) (tgt := 119) C0 dX7_pass_90 rfl rfl (fun c40 => ?_) (fun c40 => ?_)
    · have hw := hw.1 c40
      refine zg_iinc (q := 122) C0 5 dX7_pass_119 rfl (by decide) zc_iconst_1 rfl (fun y32 ey32 => ?_)
      have hw := hw y32 ey32
      refine zg_lv (lv' := [(4, .int y32), (5, .int v27), (0, .ref x0), (1, .int x1), (2, .int x2), (3, .int x3)]) rfl ?_
      refine zg_goto (tgt := 64) C0 dX7_pass_122 rfl ?_
      refine zg_sub [2, 3, 4, 5, 0] rfl ?_
      exact hrec _ _ hw
    · have hw := hw.2 c40
      refine zg_aload_n (q := 94) C0 1 dX7_pass_93 rfl rfl ?_
      refine zg_iload_n (q := 95) C0 2 dX7_pass_94 rfl rfl ?_
      refine zg_iload (q := 97) C0 5 dX7_pass_95 rfl rfl ?_
      refine zg_callVi (q := 100) C0 [.int x1, .int x4] [] dX7_pass_97 (fun sz => a_X7_hasPlace l D cy Z S26 sz x0 x1 x4 _ hw) rfl gX7_pass_X7_hasPlace hdV_X7_hasPlace hz21 (zF_7 cy hz21) rfl rfl ⟨Nat.le_of_ble_eq_true rfl, Nat.le_of_ble_eq_true rfl⟩ (Nat.le_of_ble_eq_true rfl) ⟨Nat.zero_le _, Nat.zero_le _⟩ ⟨rfl, rfl⟩ rfl (fun v34 S33 hw => ?_)
      refine zg_if_eq (q := 103) (tgt := 119) C0 dX7_pass_100 rfl rfl (fun c39 => ?_) (fun c39 => ?_)
      · have hw := hw.1 c39
        refine zg_iinc (q := 122) C0 5 dX7_pass_119 rfl (by decide) zc_iconst_1 rfl (fun y35 ey35 => ?_)
        have hw := hw y35 ey35
        refine zg_lv (lv' := [(4, .int y35), (5, .int v27), (0, .ref x0), (1, .int x1), (2, .int x2), (3, .int x3)]) rfl ?_
        refine zg_goto (tgt := 64) C0 dX7_pass_122 rfl ?_
        refine zg_sub [2, 3, 4, 5, 0] rfl ?_
        exact hrec _ _ hw
      · have hw := hw.2 c39
        refine zg_aload_n (q := 104) C0 1 dX7_pass_103 rfl rfl ?_
        refine zg_get (q := 107) (T := TX7) (k := 34) C0 dX7_pass_104 hz21 (zF_7 cy hz21) rfl (by decide) hX_X7_pass_7 (zwm (i := 5) rfl) rfl rfl rfl ?_
        refine zg_nn hb29 ?_
        refine zg_iload (q := 109) C0 0 dX7_pass_107 rfl rfl ?_
        refine zg_iconst (q := 110) C0 dX7_pass_109 zc_iconst_0 rfl ?_
        refine zg_zast (q := 111) C0 dX7_pass_110 hz30 hi31 (by decide) rfl (fun S36 eS36 => ?_)
        have hw := hw S36 eS36
        refine zg_aload_n (q := 112) C0 1 dX7_pass_111 rfl rfl ?_
        refine zg_iload_n (q := 113) C0 2 dX7_pass_112 rfl rfl ?_
        refine zg_iload (q := 115) C0 5 dX7_pass_113 rfl rfl ?_
        refine zg_iload_n (q := 116) C0 3 dX7_pass_115 rfl rfl ?_
        refine zg_callVv (q := 119) C0 [.int x1, .int x4, .int x2] [] dX7_pass_116 (fun sz => a_X7_comes l D cy Z S36 sz x0 x1 x4 x2 _ hw) rfl gX7_pass_X7_comes hdV_X7_comes hz21 (zF_7 cy hz21) rfl rfl ⟨Nat.le_of_ble_eq_true rfl, Nat.le_of_ble_eq_true rfl⟩ (Nat.le_of_ble_eq_true rfl) ⟨Nat.zero_le _, Nat.zero_le _⟩ ⟨rfl, rfl⟩ rfl (fun S37 hw => ?_)
        refine zg_iinc (q := 122) C0 5 dX7_pass_119 rfl (by decide) zc_iconst_1 rfl (fun y38 ey38 => ?_)
        have hw := hw y38 ey38
        refine zg_lv (lv' := [(4, .int y38), (5, .int v27), (0, .ref x0), (1, .int x1), (2, .int x2), (3, .int x3)]) rfl ?_
        refine zg_goto (tgt := 64) C0 dX7_pass_122 rfl ?_
        refine zg_sub [2, 3, 4, 5, 0] rfl ?_
        exact hrec _ _ hw
theorem aL_X7_pass_64 {p : Program} {l : Launch} {e : Env} {s : State} {m : MethodId} {args : Array Value} {below : List Frame} {meth : Method} {c : Code} {D : va_G} {cy : Nat → ClassId} {A : Nat → Prop} {Q : State → Prop} {Z : zZ} (C0 : zC p s m args meth c cX7_pass 7 wsX7_pass RX7 D cy A (some .int)) {x0 : Nat} {x1 : Int32} {x2 : Int32} {x3 : Int32} {Qp : Int32 → zS → Prop} {K : zS → Prop} (hK : ∀  S, K  S → zG p l e rm_X7_pass s m args below meth c D cy A 7 0 0 Q Z S 125 [(0, .ref x0), (1, .int x1), (2, .int x2), (3, .int x3)] []) : ∀ x4 S, wL_X7_pass_64 Z x0 x1 x2 x3 Qp K x4 S → zG p l e rm_X7_pass s m args below meth c D cy A 7 0 0 Q Z S 64 [(0, .ref x0), (1, .int x1), (2, .int x2), (3, .int x3), (4, .int x4)] [] := by
  intro x4 S hw
  obtain ⟨n, hw⟩ := hw
  induction n generalizing x4 S with
  | zero => exact hw.elim
  | succ n ih => exact ab_X7_pass_64 C0 hK (fun x4 S hw => ih x4 S hw) hw
def wb_X7_pass_154 (Z : zZ) (x0 : Nat) (x1 : Int32) (x3 : Int32) (Qp : Int32 → zS → Prop) (K : Int32 → zS → Prop) (rec : Int32 → Int32 → zS → Prop) (x4 : Int32) (x5 : Int32) (S : zS) : Prop :=
  zk Z x0 7 ∧ (((zI S x0 1) ≤ x5 → K x4 S) ∧ (¬ (zI S x0 1) ≤ x5 → ∃ b48, zQ Z x0 35 = some b48 ∧ zk Z b48 8 ∧ vp_in ((8 * x3) + x5) (zN Z b48) ∧ ∀ y52 : Int32, y52 = zI S b48 ((8 * x3) + x5).toNatClampNeg → ∃ b53, zQ Z x0 25 = some b53 ∧ zk Z b53 8 ∧ vp_in x3 (zN Z b53) ∧ w_X7_isIn Z (zI S b53 x3.toNatClampNeg) x5 S (fun (v58 : Int32) (S57 : zS) => ((v58 = 0 → ∀ y59 : Int32, y59 = x5 + 1 → rec x4 y59 S57) ∧ (¬ v58 = 0 → ((x4 ≤ y52 → ∀ y60 : Int32, y60 = x5 + 1 → rec x4 y60 S57) ∧ (¬ x4 ≤ y52 → ∀ y61 : Int32, y61 = x5 + 1 → rec y52 y61 S57)))))))
def wL_X7_pass_154 (Z : zZ) (x0 : Nat) (x1 : Int32) (x3 : Int32) (Qp : Int32 → zS → Prop) (K : Int32 → zS → Prop) (x4 : Int32) (x5 : Int32) (S : zS) : Prop := ∃ n, zit3 (wb_X7_pass_154 Z x0 x1 x3 Qp K) n x4 x5 S
set_option maxHeartbeats 4000000 in
set_option maxRecDepth 100000 in
theorem ab_X7_pass_154 {p : Program} {l : Launch} {e : Env} {s : State} {m : MethodId} {args : Array Value} {below : List Frame} {meth : Method} {c : Code} {D : va_G} {cy : Nat → ClassId} {A : Nat → Prop} {Q : State → Prop} {Z : zZ} (C0 : zC p s m args meth c cX7_pass 7 wsX7_pass RX7 D cy A (some .int)) {x0 : Nat} {x1 : Int32} {x3 : Int32} {Qp : Int32 → zS → Prop} {K : Int32 → zS → Prop} (hK : ∀ x4 S, K x4 S → zG p l e rm_X7_pass s m args below meth c D cy A 7 0 0 Q Z S 213 [(0, .ref x0), (1, .int x1), (3, .int x3), (4, .int x4)] []) {rec : Int32 → Int32 → zS → Prop} (hrec : ∀ x4 x5 S, rec x4 x5 S → zG p l e rm_X7_pass s m args below meth c D cy A 7 0 0 Q Z S 154 [(0, .ref x0), (1, .int x1), (3, .int x3), (4, .int x4), (5, .int x5)] []) {x4 : Int32} {x5 : Int32} {S : zS} (hw : wb_X7_pass_154 Z x0 x1 x3 Qp K rec x4 x5 S) : zG p l e rm_X7_pass s m args below meth c D cy A 7 0 0 Q Z S 154 [(0, .ref x0), (1, .int x1), (3, .int x3), (4, .int x4), (5, .int x5)] [] := by
  unfold wb_X7_pass_154 at hw
  refine zg_iload (q := 156) C0 4 dX7_pass_154 rfl rfl ?_
  refine zg_aload_n (q := 157) C0 0 dX7_pass_156 rfl rfl ?_
  obtain ⟨hz47, hw⟩ := hw
  refine zg_get (q := 160) (T := TX7) (k := 1) C0 dX7_pass_157 hz47 (zF_7 cy hz47) rfl (by decide) hX_X7_pass_7 (zwm (i := 6) rfl) rfl rfl rfl ?_
  refine zg_icmp_ge (q := 163) (tgt := 213) C0 dX7_pass_160 rfl rfl (fun c64 => ?_) (fun c64 => ?_)
  · have hw := hw.1 c64
    refine zg_sub [0, 1, 2, 3] rfl ?_
    exact hK _ _ hw
  · have hw := hw.2 c64
    refine zg_aload_n (q := 164) C0 0 dX7_pass_163 rfl rfl ?_
    refine zg_get (q := 167) (T := TX7) (k := 35) C0 dX7_pass_164 hz47 (zF_7 cy hz47) rfl (by decide) hX_X7_pass_7 (zwm (i := 3) rfl) rfl rfl rfl ?_
    obtain ⟨b48, hb49, hw⟩ := hw
    refine zg_nn hb49 ?_
    refine zg_bipush (q := 169) C0 dX7_pass_167 zc_bipush_8 rfl ?_
    refine zg_iload_n (q := 170) C0 2 dX7_pass_169 rfl rfl ?_
    refine zg_imul (q := 171) C0 dX7_pass_170 rfl ?_
    refine zg_iload (q := 173) C0 4 dX7_pass_171 rfl rfl ?_
    refine zg_iadd (q := 174) C0 dX7_pass_173 rfl ?_
    obtain ⟨hz50, hw⟩ := hw
    obtain ⟨hi51, hw⟩ := hw
    refine zg_iald (q := 175) C0 dX7_pass_174 hz50 hi51 rfl ?_
    refine zg_ni (fun y52 ey52 => ?_)
    have hw := hw y52 ey52
    refine zg_istore (q := 177) (lv' := [(6, .int y52), (0, .ref x0), (1, .int x1), (3, .int x3), (4, .int x4), (5, .int x5)]) C0 dX7_pass_175 (by decide) rfl rfl ?_
    refine zg_aload_n (q := 178) C0 1 dX7_pass_177 rfl rfl ?_
    refine zg_get (q := 181) (T := TX7) (k := 25) C0 dX7_pass_178 hz47 (zF_7 cy hz47) rfl (by decide) hX_X7_pass_7 (zwm (i := 7) rfl) rfl rfl rfl ?_
    obtain ⟨b53, hb54, hw⟩ := hw
    refine zg_nn hb54 ?_
    refine zg_iload_n (q := 182) C0 3 dX7_pass_181 rfl rfl ?_
    obtain ⟨hz55, hw⟩ := hw
    obtain ⟨hi56, hw⟩ := hw
    refine zg_iald (q := 183) C0 dX7_pass_182 hz55 hi56 rfl ?_
    refine zg_iload (q := 185) C0 5 dX7_pass_183 rfl rfl ?_
    refine zg_callSi (q := 188) C0 [.int (zI S b53 x3.toNatClampNeg), .int x5] [] dX7_pass_185 (fun sz => a_X7_isIn l D cy Z S sz (zI S b53 x3.toNatClampNeg) x5 _ hw) rfl gX7_pass_X7_isIn hdS_X7_isIn rfl ⟨Nat.le_of_ble_eq_true rfl, Nat.le_of_ble_eq_true rfl⟩ (Nat.le_of_ble_eq_true rfl) ⟨Nat.zero_le _, Nat.zero_le _⟩ ⟨rfl, rfl⟩ rfl (fun v58 S57 hw => ?_)
    refine zg_if_eq (q := 191) (tgt := 203) C0 dX7_pass_188 rfl rfl (fun c63 => ?_) (fun c63 => ?_)
    · have hw := hw.1 c63
      refine zg_iload (q := 205) C0 4 dX7_pass_203 rfl rfl ?_
      refine zg_istore (q := 207) (lv' := [(4, .int x4), (6, .int y52), (0, .ref x0), (1, .int x1), (3, .int x3), (5, .int x5)]) C0 dX7_pass_205 (by decide) rfl rfl ?_
      refine zg_iinc (q := 210) C0 5 dX7_pass_207 rfl (by decide) zc_iconst_1 rfl (fun y59 ey59 => ?_)
      have hw := hw y59 ey59
      refine zg_lv (lv' := [(5, .int y59), (4, .int x4), (6, .int y52), (0, .ref x0), (1, .int x1), (3, .int x3)]) rfl ?_
      refine zg_goto (tgt := 154) C0 dX7_pass_210 rfl ?_
      refine zg_sub [3, 4, 5, 1, 0] rfl ?_
      exact hrec _ _ _ hw
    · have hw := hw.2 c63
      refine zg_iload (q := 193) C0 0 dX7_pass_191 rfl rfl ?_
      refine zg_iload (q := 195) C0 4 dX7_pass_193 rfl rfl ?_
      refine zg_icmp_ge (q := 198) (tgt := 203) C0 dX7_pass_195 rfl rfl (fun c62 => ?_) (fun c62 => ?_)
      · have hw := hw.1 c62
        refine zg_iload (q := 205) C0 4 dX7_pass_203 rfl rfl ?_
        refine zg_istore (q := 207) (lv' := [(4, .int x4), (6, .int y52), (0, .ref x0), (1, .int x1), (3, .int x3), (5, .int x5)]) C0 dX7_pass_205 (by decide) rfl rfl ?_
        refine zg_iinc (q := 210) C0 5 dX7_pass_207 rfl (by decide) zc_iconst_1 rfl (fun y60 ey60 => ?_)
        have hw := hw y60 ey60
        refine zg_lv (lv' := [(5, .int y60), (4, .int x4), (6, .int y52), (0, .ref x0), (1, .int x1), (3, .int x3)]) rfl ?_
        refine zg_goto (tgt := 154) C0 dX7_pass_210 rfl ?_
        refine zg_sub [3, 4, 5, 1, 0] rfl ?_
        exact hrec _ _ _ hw
      · have hw := hw.2 c62
        refine zg_iload (q := 200) C0 0 dX7_pass_198 rfl rfl ?_
        refine zg_goto (tgt := 205) C0 dX7_pass_200 rfl ?_
        refine zg_istore (q := 207) (lv' := [(4, .int y52), (6, .int y52), (0, .ref x0), (1, .int x1), (3, .int x3), (5, .int x5)]) C0 dX7_pass_205 (by decide) rfl rfl ?_
        refine zg_iinc (q := 210) C0 5 dX7_pass_207 rfl (by decide) zc_iconst_1 rfl (fun y61 ey61 => ?_)
        have hw := hw y61 ey61
        refine zg_lv (lv' := [(5, .int y61), (4, .int y52), (6, .int y52), (0, .ref x0), (1, .int x1), (3, .int x3)]) rfl ?_
        refine zg_goto (tgt := 154) C0 dX7_pass_210 rfl ?_
        refine zg_sub [3, 4, 5, 1, 0] rfl ?_
        exact hrec _ _ _ hw
theorem aL_X7_pass_154 {p : Program} {l : Launch} {e : Env} {s : State} {m : MethodId} {args : Array Value} {below : List Frame} {meth : Method} {c : Code} {D : va_G} {cy : Nat → ClassId} {A : Nat → Prop} {Q : State → Prop} {Z : zZ} (C0 : zC p s m args meth c cX7_pass 7 wsX7_pass RX7 D cy A (some .int)) {x0 : Nat} {x1 : Int32} {x3 : Int32} {Qp : Int32 → zS → Prop} {K : Int32 → zS → Prop} (hK : ∀ x4 S, K x4 S → zG p l e rm_X7_pass s m args below meth c D cy A 7 0 0 Q Z S 213 [(0, .ref x0), (1, .int x1), (3, .int x3), (4, .int x4)] []) : ∀ x4 x5 S, wL_X7_pass_154 Z x0 x1 x3 Qp K x4 x5 S → zG p l e rm_X7_pass s m args below meth c D cy A 7 0 0 Q Z S 154 [(0, .ref x0), (1, .int x1), (3, .int x3), (4, .int x4), (5, .int x5)] [] := by
  intro x4 x5 S hw
  obtain ⟨n, hw⟩ := hw
  induction n generalizing x4 x5 S with
  | zero => exact hw.elim
  | succ n ih => exact ab_X7_pass_154 C0 hK (fun x4 x5 S hw => ih x4 x5 S hw) hw
def wb_X7_pass_244 (Z : zZ) (x0 : Nat) (x1 : Int32) (x3 : Int32) (Qp : Int32 → zS → Prop) (K : zS → Prop) (rec : Int32 → zS → Prop) (x5 : Int32) (S : zS) : Prop :=
  zk Z x0 7 ∧ ∃ b73, zQ Z x0 28 = some b73 ∧ zk Z b73 8 ∧ vp_in x3 (zN Z b73) ∧ (((zI S b73 x3.toNatClampNeg) < x5 → K S) ∧ (¬ (zI S b73 x3.toNatClampNeg) < x5 → ∃ b77, zQ Z x0 34 = some b77 ∧ w_X7_place Z x3 x5 S (fun (v80 : Int32) (S79 : zS) => zk Z b77 10 ∧ vp_in v80 (zN Z b77) ∧ w_X7_hasPlace Z x0 x1 x5 S79 (fun (v84 : Int32) (S83 : zS) => ((¬ v84 = 0 → zb ((zI S79 b77 v80.toNatClampNeg) ||| 0) ∧ ∀ S85 : zS, S85 = zsI S83 b77 v80.toNatClampNeg ((zI S79 b77 v80.toNatClampNeg) ||| 0) → ∀ y87 : Int32, y87 = x5 + 1 → rec y87 S85) ∧ (v84 = 0 → zb ((zI S79 b77 v80.toNatClampNeg) ||| 1) ∧ ∀ S88 : zS, S88 = zsI S83 b77 v80.toNatClampNeg ((zI S79 b77 v80.toNatClampNeg) ||| 1) → ∀ y90 : Int32, y90 = x5 + 1 → rec y90 S88))))))
def wL_X7_pass_244 (Z : zZ) (x0 : Nat) (x1 : Int32) (x3 : Int32) (Qp : Int32 → zS → Prop) (K : zS → Prop) (x5 : Int32) (S : zS) : Prop := ∃ n, zit2 (wb_X7_pass_244 Z x0 x1 x3 Qp K) n x5 S
set_option maxHeartbeats 4000000 in
set_option maxRecDepth 100000 in
theorem ab_X7_pass_244 {p : Program} {l : Launch} {e : Env} {s : State} {m : MethodId} {args : Array Value} {below : List Frame} {meth : Method} {c : Code} {D : va_G} {cy : Nat → ClassId} {A : Nat → Prop} {Q : State → Prop} {Z : zZ} (C0 : zC p s m args meth c cX7_pass 7 wsX7_pass RX7 D cy A (some .int)) {x0 : Nat} {x1 : Int32} {x3 : Int32} {Qp : Int32 → zS → Prop} {K : zS → Prop} (hK : ∀  S, K  S → zG p l e rm_X7_pass s m args below meth c D cy A 7 0 0 Q Z S 290 [(0, .ref x0), (1, .int x1)] []) {rec : Int32 → zS → Prop} (hrec : ∀ x5 S, rec x5 S → zG p l e rm_X7_pass s m args below meth c D cy A 7 0 0 Q Z S 244 [(0, .ref x0), (1, .int x1), (3, .int x3), (5, .int x5)] []) {x5 : Int32} {S : zS} (hw : wb_X7_pass_244 Z x0 x1 x3 Qp K rec x5 S) : zG p l e rm_X7_pass s m args below meth c D cy A 7 0 0 Q Z S 244 [(0, .ref x0), (1, .int x1), (3, .int x3), (5, .int x5)] [] := by
  unfold wb_X7_pass_244 at hw
  refine zg_iload (q := 246) C0 3 dX7_pass_244 rfl rfl ?_
  refine zg_aload_n (q := 247) C0 0 dX7_pass_246 rfl rfl ?_
  obtain ⟨hz72, hw⟩ := hw
  refine zg_get (q := 250) (T := TX7) (k := 28) C0 dX7_pass_247 hz72 (zF_7 cy hz72) rfl (by decide) hX_X7_pass_7 (zwm (i := 4) rfl) rfl rfl rfl ?_
  obtain ⟨b73, hb74, hw⟩ := hw
  refine zg_nn hb74 ?_
  refine zg_iload_n (q := 251) C0 2 dX7_pass_250 rfl rfl ?_
  obtain ⟨hz75, hw⟩ := hw
  obtain ⟨hi76, hw⟩ := hw
  refine zg_iald (q := 252) C0 dX7_pass_251 hz75 hi76 rfl ?_
  refine zg_icmp_gt (q := 255) (tgt := 290) C0 dX7_pass_252 rfl rfl (fun c92 => ?_) (fun c92 => ?_)
  · have hw := hw.1 c92
    refine zg_sub [0, 1] rfl ?_
    exact hK  _ hw
  · have hw := hw.2 c92
    refine zg_aload_n (q := 256) C0 0 dX7_pass_255 rfl rfl ?_
    refine zg_get (q := 259) (T := TX7) (k := 34) C0 dX7_pass_256 hz72 (zF_7 cy hz72) rfl (by decide) hX_X7_pass_7 (zwm (i := 5) rfl) rfl rfl rfl ?_
    obtain ⟨b77, hb78, hw⟩ := hw
    refine zg_nn hb78 ?_
    refine zg_iload_n (q := 260) C0 2 dX7_pass_259 rfl rfl ?_
    refine zg_iload (q := 262) C0 3 dX7_pass_260 rfl rfl ?_
    refine zg_callSi (q := 265) C0 [.int x3, .int x5] [.ref b77] dX7_pass_262 (fun sz => a_X7_place l D cy Z S sz x3 x5 _ hw) rfl gX7_pass_X7_place hdS_X7_place rfl ⟨Nat.le_of_ble_eq_true rfl, Nat.le_of_ble_eq_true rfl⟩ (Nat.le_of_ble_eq_true rfl) ⟨Nat.zero_le _, Nat.zero_le _⟩ ⟨rfl, rfl⟩ rfl (fun v80 S79 hw => ?_)
    refine zg_dup2 (q := 266) C0 dX7_pass_265 rfl rfl rfl ?_
    obtain ⟨hz81, hw⟩ := hw
    obtain ⟨hi82, hw⟩ := hw
    refine zg_zald (q := 267) C0 dX7_pass_266 hz81 hi82 rfl ?_
    refine zg_aload_n (q := 268) C0 0 dX7_pass_267 rfl rfl ?_
    refine zg_iload_n (q := 269) C0 1 dX7_pass_268 rfl rfl ?_
    refine zg_iload (q := 271) C0 3 dX7_pass_269 rfl rfl ?_
    refine zg_callVi (q := 274) C0 [.int x1, .int x5] [.int (zI S79 b77 v80.toNatClampNeg), .int v80, .ref b77] dX7_pass_271 (fun sz => a_X7_hasPlace l D cy Z S79 sz x0 x1 x5 _ hw) rfl gX7_pass_X7_hasPlace hdV_X7_hasPlace hz72 (zF_7 cy hz72) rfl rfl ⟨Nat.le_of_ble_eq_true rfl, Nat.le_of_ble_eq_true rfl⟩ (Nat.le_of_ble_eq_true rfl) ⟨Nat.zero_le _, Nat.zero_le _⟩ ⟨rfl, rfl⟩ rfl (fun v84 S83 hw => ?_)
    refine zg_if_ne (q := 277) (tgt := 281) C0 dX7_pass_274 rfl rfl (fun c91 => ?_) (fun c91 => ?_)
    · have hw := hw.1 c91
      refine zg_iconst (q := 282) C0 dX7_pass_281 zc_iconst_0 rfl ?_
      refine zg_ior (q := 283) C0 dX7_pass_282 rfl ?_
      obtain ⟨hb86, hw⟩ := hw
      refine zg_zast (q := 284) C0 dX7_pass_283 hz81 hi82 (zb_v hb86) rfl (fun S85 eS85 => ?_)
      have hw := hw S85 eS85
      refine zg_iinc (q := 287) C0 3 dX7_pass_284 rfl (by decide) zc_iconst_1 rfl (fun y87 ey87 => ?_)
      have hw := hw y87 ey87
      refine zg_lv (lv' := [(5, .int y87), (0, .ref x0), (1, .int x1), (3, .int x3)]) rfl ?_
      refine zg_goto (tgt := 244) C0 dX7_pass_287 rfl ?_
      refine zg_sub [1, 2, 3, 0] rfl ?_
      exact hrec _ _ hw
    · have hw := hw.2 c91
      refine zg_iconst (q := 278) C0 dX7_pass_277 zc_iconst_1 rfl ?_
      refine zg_goto (tgt := 282) C0 dX7_pass_278 rfl ?_
      refine zg_ior (q := 283) C0 dX7_pass_282 rfl ?_
      obtain ⟨hb89, hw⟩ := hw
      refine zg_zast (q := 284) C0 dX7_pass_283 hz81 hi82 (zb_v hb89) rfl (fun S88 eS88 => ?_)
      have hw := hw S88 eS88
      refine zg_iinc (q := 287) C0 3 dX7_pass_284 rfl (by decide) zc_iconst_1 rfl (fun y90 ey90 => ?_)
      have hw := hw y90 ey90
      refine zg_lv (lv' := [(5, .int y90), (0, .ref x0), (1, .int x1), (3, .int x3)]) rfl ?_
      refine zg_goto (tgt := 244) C0 dX7_pass_287 rfl ?_
      refine zg_sub [1, 2, 3, 0] rfl ?_
      exact hrec _ _ hw
theorem aL_X7_pass_244 {p : Program} {l : Launch} {e : Env} {s : State} {m : MethodId} {args : Array Value} {below : List Frame} {meth : Method} {c : Code} {D : va_G} {cy : Nat → ClassId} {A : Nat → Prop} {Q : State → Prop} {Z : zZ} (C0 : zC p s m args meth c cX7_pass 7 wsX7_pass RX7 D cy A (some .int)) {x0 : Nat} {x1 : Int32} {x3 : Int32} {Qp : Int32 → zS → Prop} {K : zS → Prop} (hK : ∀  S, K  S → zG p l e rm_X7_pass s m args below meth c D cy A 7 0 0 Q Z S 290 [(0, .ref x0), (1, .int x1)] []) : ∀ x5 S, wL_X7_pass_244 Z x0 x1 x3 Qp K x5 S → zG p l e rm_X7_pass s m args below meth c D cy A 7 0 0 Q Z S 244 [(0, .ref x0), (1, .int x1), (3, .int x3), (5, .int x5)] [] := by
  intro x5 S hw
  obtain ⟨n, hw⟩ := hw
  induction n generalizing x5 S with
  | zero => exact hw.elim
  | succ n ih => exact ab_X7_pass_244 C0 hK (fun x5 S hw => ih x5 S hw) hw
def wJ_X7_pass_26 (Z : zZ) (Qp : Int32 → zS → Prop)  (x0 : Nat) (x1 : Int32) (x2 : Int32) (t0 : Int32) (t1 : Nat) (S : zS) : Prop :=
  zk Z t1 7 ∧ ∀ S7 : zS, S7 = zsI S t1 0 t0 → zk Z x0 7 ∧ (((zI S7 x0 0) ≤ 0 → ∃ b9, zQ Z x0 5 = some b9 ∧ zk Z b9 8 ∧ vp_in x1 (zN Z b9) ∧ ∀ y13 : Int32, y13 = zI S7 b9 x1.toNatClampNeg → ∃ b14, zQ Z x0 35 = some b14 ∧ w_X7_full Z x0 x1 S7 (fun (v17 : Int32) (S16 : zS) => zk Z b14 8 ∧ vp_in ((8 * y13) + x1) (zN Z b14) ∧ ∀ S20 : zS, S20 = zsI S16 b14 ((8 * y13) + x1).toNatClampNeg v17 → wL_X7_pass_64 Z x0 x1 x2 y13 Qp (fun  (S42 : zS) => w_X7_give Z x0 x1 x2 S42 (fun (S43 : zS) => w_X7_full Z x0 x1 S43 (fun (v45 : Int32) (S44 : zS) => ∀ S46 : zS, S46 = zsI S44 b14 ((8 * y13) + x1).toNatClampNeg v45 → wL_X7_pass_154 Z x0 x1 y13 Qp (fun (v66 : Int32) (S65 : zS) => ∃ b67, zQ Z x0 17 = some b67 ∧ zk Z b67 8 ∧ vp_in x1 (zN Z b67) ∧ ((v66 ≤ (zI S65 b67 x1.toNatClampNeg) → ∀ S71 : zS, S71 = zsI S65 b67 x1.toNatClampNeg (zI S65 b67 x1.toNatClampNeg) → wL_X7_pass_244 Z x0 x1 y13 Qp (fun  (S93 : zS) => w_X7_deliverAll Z x0 x1 S93 (fun (v95 : Int32) (S94 : zS) => w_X7_goesOn Z x0 x1 S94 (fun (S96 : zS) => Qp v95 S96))) 1 S71) ∧ (¬ v66 ≤ (zI S65 b67 x1.toNatClampNeg) → ∀ S97 : zS, S97 = zsI S65 b67 x1.toNatClampNeg v66 → wL_X7_pass_244 Z x0 x1 y13 Qp (fun  (S98 : zS) => w_X7_deliverAll Z x0 x1 S98 (fun (v100 : Int32) (S99 : zS) => w_X7_goesOn Z x0 x1 S99 (fun (S101 : zS) => Qp v100 S101))) 1 S97))) 100 0 S46))) 1 S20)) ∧ (¬ (zI S7 x0 0) ≤ 0 → Qp 0 S7))
set_option maxHeartbeats 4000000 in
set_option maxRecDepth 100000 in
theorem aJ_X7_pass_26 {p : Program} {l : Launch} {e : Env} {s : State} {m : MethodId} {args : Array Value} {below : List Frame} {meth : Method} {c : Code} {D : va_G} {cy : Nat → ClassId} {A : Nat → Prop} {Z : zZ} (C0 : zC p s m args meth c cX7_pass 7 wsX7_pass RX7 D cy A (some .int)) {Qp : Int32 → zS → Prop} {x0 : Nat} {x1 : Int32} {x2 : Int32} {t0 : Int32} {t1 : Nat}    {S : zS} (hw : wJ_X7_pass_26 Z Qp  x0 x1 x2 t0 t1 S) : zG p l e rm_X7_pass s m args below meth c D cy A 7 0 0 (zQi below D cy A Z Qp args s 0 0) Z S 26 [(0, .ref x0), (1, .int x1), (2, .int x2)] [.int t0, .ref t1] := by
  unfold wJ_X7_pass_26 at hw
  obtain ⟨hz6, hw⟩ := hw
  refine zg_putI (q := 29) (T := TX7) (k := 0) (ty0 := tyX7) C0 dX7_pass_26 hz6 (zF_7 cy hz6) rfl (by decide) hX_X7_pass_7 tyX7_ok nmX7 (zwm (i := 1) rfl) rfl rfl rfl rfl (Nat.le_of_ble_eq_true rfl) (zF_7 cy hz6) (zP_7_0 Z S _ _) rfl (fun S7 eS7 => ?_)
  have hw := hw S7 eS7
  refine zg_aload_n (q := 30) C0 0 dX7_pass_29 rfl rfl ?_
  obtain ⟨hz8, hw⟩ := hw
  refine zg_get (q := 33) (T := TX7) (k := 0) C0 dX7_pass_30 hz8 (zF_7 cy hz8) rfl (by decide) hX_X7_pass_7 (zwm (i := 1) rfl) rfl rfl rfl ?_
  refine zg_if_le (q := 36) (tgt := 38) C0 dX7_pass_33 rfl rfl (fun c103 => ?_) (fun c103 => ?_)
  · have hw := hw.1 c103
    refine zg_aload_n (q := 39) C0 0 dX7_pass_38 rfl rfl ?_
    refine zg_get (q := 42) (T := TX7) (k := 5) C0 dX7_pass_39 hz8 (zF_7 cy hz8) rfl (by decide) hX_X7_pass_7 (zwm (i := 2) rfl) rfl rfl rfl ?_
    obtain ⟨b9, hb10, hw⟩ := hw
    refine zg_nn hb10 ?_
    refine zg_iload_n (q := 43) C0 1 dX7_pass_42 rfl rfl ?_
    obtain ⟨hz11, hw⟩ := hw
    obtain ⟨hi12, hw⟩ := hw
    refine zg_iald (q := 44) C0 dX7_pass_43 hz11 hi12 rfl ?_
    refine zg_ni (fun y13 ey13 => ?_)
    have hw := hw y13 ey13
    refine zg_istore_n (q := 45) (lv' := [(3, .int y13), (0, .ref x0), (1, .int x1), (2, .int x2)]) C0 dX7_pass_44 (by decide) rfl rfl ?_
    refine zg_aload_n (q := 46) C0 1 dX7_pass_45 rfl rfl ?_
    refine zg_get (q := 49) (T := TX7) (k := 35) C0 dX7_pass_46 hz8 (zF_7 cy hz8) rfl (by decide) hX_X7_pass_7 (zwm (i := 3) rfl) rfl rfl rfl ?_
    obtain ⟨b14, hb15, hw⟩ := hw
    refine zg_nn hb15 ?_
    refine zg_bipush (q := 51) C0 dX7_pass_49 zc_bipush_8 rfl ?_
    refine zg_iload_n (q := 52) C0 0 dX7_pass_51 rfl rfl ?_
    refine zg_imul (q := 53) C0 dX7_pass_52 rfl ?_
    refine zg_iload_n (q := 54) C0 2 dX7_pass_53 rfl rfl ?_
    refine zg_iadd (q := 55) C0 dX7_pass_54 rfl ?_
    refine zg_aload_n (q := 56) C0 1 dX7_pass_55 rfl rfl ?_
    refine zg_iload_n (q := 57) C0 2 dX7_pass_56 rfl rfl ?_
    refine zg_callVi (q := 60) C0 [.int x1] [.int ((8 * y13) + x1), .ref b14] dX7_pass_57 (fun sz => a_X7_full l D cy Z S7 sz x0 x1 _ hw) rfl gX7_pass_X7_full hdV_X7_full hz8 (zF_7 cy hz8) rfl rfl ⟨Nat.le_of_ble_eq_true rfl, Nat.le_of_ble_eq_true rfl⟩ (Nat.le_of_ble_eq_true rfl) ⟨Nat.zero_le _, Nat.zero_le _⟩ ⟨rfl, rfl⟩ rfl (fun v17 S16 hw => ?_)
    obtain ⟨hz18, hw⟩ := hw
    obtain ⟨hi19, hw⟩ := hw
    refine zg_iast (q := 61) C0 dX7_pass_60 hz18 hi19 rfl (fun S20 eS20 => ?_)
    have hw := hw S20 eS20
    refine zg_iconst (q := 62) C0 dX7_pass_61 zc_iconst_1 rfl ?_
    refine zg_istore (q := 64) (lv' := [(4, .int 1), (3, .int y13), (0, .ref x0), (1, .int x1), (2, .int x2)]) C0 dX7_pass_62 (by decide) rfl rfl ?_
    refine zg_sub [2, 3, 4, 1, 0] rfl ?_
    refine aL_X7_pass_64 C0 (fun  S42 hw => ?_) _ _ hw
    refine zg_aload_n (q := 126) C0 0 dX7_pass_125 rfl rfl ?_
    refine zg_iload_n (q := 127) C0 1 dX7_pass_126 rfl rfl ?_
    refine zg_iload_n (q := 128) C0 2 dX7_pass_127 rfl rfl ?_
    refine zg_callVv (q := 131) C0 [.int x1, .int x2] [] dX7_pass_128 (fun sz => a_X7_give l D cy Z S42 sz x0 x1 x2 _ hw) rfl gX7_pass_X7_give hdV_X7_give hz8 (zF_7 cy hz8) rfl rfl ⟨Nat.le_of_ble_eq_true rfl, Nat.le_of_ble_eq_true rfl⟩ (Nat.le_of_ble_eq_true rfl) ⟨Nat.zero_le _, Nat.zero_le _⟩ ⟨rfl, rfl⟩ rfl (fun S43 hw => ?_)
    refine zg_aload_n (q := 132) C0 0 dX7_pass_131 rfl rfl ?_
    refine zg_get (q := 135) (T := TX7) (k := 35) C0 dX7_pass_132 hz8 (zF_7 cy hz8) rfl (by decide) hX_X7_pass_7 (zwm (i := 3) rfl) rfl rfl rfl ?_
    refine zg_nn hb15 ?_
    refine zg_bipush (q := 137) C0 dX7_pass_135 zc_bipush_8 rfl ?_
    refine zg_iload_n (q := 138) C0 3 dX7_pass_137 rfl rfl ?_
    refine zg_imul (q := 139) C0 dX7_pass_138 rfl ?_
    refine zg_iload_n (q := 140) C0 1 dX7_pass_139 rfl rfl ?_
    refine zg_iadd (q := 141) C0 dX7_pass_140 rfl ?_
    refine zg_aload_n (q := 142) C0 0 dX7_pass_141 rfl rfl ?_
    refine zg_iload_n (q := 143) C0 1 dX7_pass_142 rfl rfl ?_
    refine zg_callVi (q := 146) C0 [.int x1] [.int ((8 * y13) + x1), .ref b14] dX7_pass_143 (fun sz => a_X7_full l D cy Z S43 sz x0 x1 _ hw) rfl gX7_pass_X7_full hdV_X7_full hz8 (zF_7 cy hz8) rfl rfl ⟨Nat.le_of_ble_eq_true rfl, Nat.le_of_ble_eq_true rfl⟩ (Nat.le_of_ble_eq_true rfl) ⟨Nat.zero_le _, Nat.zero_le _⟩ ⟨rfl, rfl⟩ rfl (fun v45 S44 hw => ?_)
    refine zg_iast (q := 147) C0 dX7_pass_146 hz18 hi19 rfl (fun S46 eS46 => ?_)
    have hw := hw S46 eS46
    refine zg_bipush (q := 149) C0 dX7_pass_147 zc_bipush_100 rfl ?_
    refine zg_istore (q := 151) (lv' := [(4, .int 100), (0, .ref x0), (1, .int x1), (2, .int x2), (3, .int y13)]) C0 dX7_pass_149 (by decide) rfl rfl ?_
    refine zg_iconst (q := 152) C0 dX7_pass_151 zc_iconst_0 rfl ?_
    refine zg_istore (q := 154) (lv' := [(5, .int 0), (4, .int 100), (0, .ref x0), (1, .int x1), (2, .int x2), (3, .int y13)]) C0 dX7_pass_152 (by decide) rfl rfl ?_
    refine zg_sub [2, 3, 5, 1, 0] rfl ?_
    refine aL_X7_pass_154 C0 (fun v66 S65 hw => ?_) _ _ _ hw
    refine zg_aload_n (q := 214) C0 0 dX7_pass_213 rfl rfl ?_
    refine zg_get (q := 217) (T := TX7) (k := 17) C0 dX7_pass_214 hz8 (zF_7 cy hz8) rfl (by decide) hX_X7_pass_7 (zwm (i := 8) rfl) rfl rfl rfl ?_
    obtain ⟨b67, hb68, hw⟩ := hw
    refine zg_nn hb68 ?_
    refine zg_iload_n (q := 218) C0 1 dX7_pass_217 rfl rfl ?_
    refine zg_iload (q := 220) C0 3 dX7_pass_218 rfl rfl ?_
    refine zg_aload_n (q := 221) C0 0 dX7_pass_220 rfl rfl ?_
    refine zg_get (q := 224) (T := TX7) (k := 17) C0 dX7_pass_221 hz8 (zF_7 cy hz8) rfl (by decide) hX_X7_pass_7 (zwm (i := 8) rfl) rfl rfl rfl ?_
    refine zg_nn hb68 ?_
    refine zg_iload_n (q := 225) C0 1 dX7_pass_224 rfl rfl ?_
    obtain ⟨hz69, hw⟩ := hw
    obtain ⟨hi70, hw⟩ := hw
    refine zg_iald (q := 226) C0 dX7_pass_225 hz69 hi70 rfl ?_
    refine zg_icmp_le (q := 229) (tgt := 234) C0 dX7_pass_226 rfl rfl (fun c102 => ?_) (fun c102 => ?_)
    · have hw := hw.1 c102
      refine zg_aload_n (q := 235) C0 0 dX7_pass_234 rfl rfl ?_
      refine zg_get (q := 238) (T := TX7) (k := 17) C0 dX7_pass_235 hz8 (zF_7 cy hz8) rfl (by decide) hX_X7_pass_7 (zwm (i := 8) rfl) rfl rfl rfl ?_
      refine zg_nn hb68 ?_
      refine zg_iload_n (q := 239) C0 1 dX7_pass_238 rfl rfl ?_
      refine zg_iald (q := 240) C0 dX7_pass_239 hz69 hi70 rfl ?_
      refine zg_iast (q := 241) C0 dX7_pass_240 hz69 hi70 rfl (fun S71 eS71 => ?_)
      have hw := hw S71 eS71
      refine zg_iconst (q := 242) C0 dX7_pass_241 zc_iconst_1 rfl ?_
      refine zg_istore (q := 244) (lv' := [(5, .int 1), (0, .ref x0), (1, .int x1), (3, .int y13), (4, .int v66)]) C0 dX7_pass_242 (by decide) rfl rfl ?_
      refine zg_sub [1, 2, 3, 0] rfl ?_
      refine aL_X7_pass_244 C0 (fun  S93 hw => ?_) _ _ hw
      refine zg_aload_n (q := 291) C0 0 dX7_pass_290 rfl rfl ?_
      refine zg_iload_n (q := 292) C0 1 dX7_pass_291 rfl rfl ?_
      refine zg_callVi (q := 295) C0 [.int x1] [] dX7_pass_292 (fun sz => a_X7_deliverAll l D cy Z S93 sz x0 x1 _ hw) rfl gX7_pass_X7_deliverAll hdV_X7_deliverAll hz8 (zF_7 cy hz8) rfl rfl ⟨Nat.le_of_ble_eq_true rfl, Nat.le_of_ble_eq_true rfl⟩ (Nat.le_of_ble_eq_true rfl) ⟨Nat.zero_le _, Nat.zero_le _⟩ ⟨rfl, rfl⟩ rfl (fun v95 S94 hw => ?_)
      refine zg_istore (q := 297) (lv' := [(5, .int v95), (0, .ref x0), (1, .int x1)]) C0 dX7_pass_295 (by decide) rfl rfl ?_
      refine zg_aload_n (q := 298) C0 1 dX7_pass_297 rfl rfl ?_
      refine zg_iload_n (q := 299) C0 2 dX7_pass_298 rfl rfl ?_
      refine zg_callVv (q := 302) C0 [.int x1] [] dX7_pass_299 (fun sz => a_X7_goesOn l D cy Z S94 sz x0 x1 _ hw) rfl gX7_pass_X7_goesOn hdV_X7_goesOn hz8 (zF_7 cy hz8) rfl rfl ⟨Nat.le_of_ble_eq_true rfl, Nat.le_of_ble_eq_true rfl⟩ (Nat.le_of_ble_eq_true rfl) ⟨Nat.zero_le _, Nat.zero_le _⟩ ⟨rfl, rfl⟩ rfl (fun S96 hw => ?_)
      refine zg_iload (q := 304) C0 0 dX7_pass_302 rfl rfl ?_
      exact zg_iret C0 dX7_pass_304 rfl rfl (Nat.le_refl 0) (Nat.le_refl 0) hw
    · have hw := hw.2 c102
      refine zg_iload (q := 231) C0 3 dX7_pass_229 rfl rfl ?_
      refine zg_goto (tgt := 240) C0 dX7_pass_231 rfl ?_
      refine zg_iast (q := 241) C0 dX7_pass_240 hz69 hi70 rfl (fun S97 eS97 => ?_)
      have hw := hw S97 eS97
      refine zg_iconst (q := 242) C0 dX7_pass_241 zc_iconst_1 rfl ?_
      refine zg_istore (q := 244) (lv' := [(5, .int 1), (0, .ref x0), (1, .int x1), (3, .int y13), (4, .int v66)]) C0 dX7_pass_242 (by decide) rfl rfl ?_
      refine zg_sub [1, 2, 3, 0] rfl ?_
      refine aL_X7_pass_244 C0 (fun  S98 hw => ?_) _ _ hw
      refine zg_aload_n (q := 291) C0 0 dX7_pass_290 rfl rfl ?_
      refine zg_iload_n (q := 292) C0 1 dX7_pass_291 rfl rfl ?_
      refine zg_callVi (q := 295) C0 [.int x1] [] dX7_pass_292 (fun sz => a_X7_deliverAll l D cy Z S98 sz x0 x1 _ hw) rfl gX7_pass_X7_deliverAll hdV_X7_deliverAll hz8 (zF_7 cy hz8) rfl rfl ⟨Nat.le_of_ble_eq_true rfl, Nat.le_of_ble_eq_true rfl⟩ (Nat.le_of_ble_eq_true rfl) ⟨Nat.zero_le _, Nat.zero_le _⟩ ⟨rfl, rfl⟩ rfl (fun v100 S99 hw => ?_)
      refine zg_istore (q := 297) (lv' := [(5, .int v100), (0, .ref x0), (1, .int x1)]) C0 dX7_pass_295 (by decide) rfl rfl ?_
      refine zg_aload_n (q := 298) C0 1 dX7_pass_297 rfl rfl ?_
      refine zg_iload_n (q := 299) C0 2 dX7_pass_298 rfl rfl ?_
      refine zg_callVv (q := 302) C0 [.int x1] [] dX7_pass_299 (fun sz => a_X7_goesOn l D cy Z S99 sz x0 x1 _ hw) rfl gX7_pass_X7_goesOn hdV_X7_goesOn hz8 (zF_7 cy hz8) rfl rfl ⟨Nat.le_of_ble_eq_true rfl, Nat.le_of_ble_eq_true rfl⟩ (Nat.le_of_ble_eq_true rfl) ⟨Nat.zero_le _, Nat.zero_le _⟩ ⟨rfl, rfl⟩ rfl (fun S101 hw => ?_)
      refine zg_iload (q := 304) C0 0 dX7_pass_302 rfl rfl ?_
      exact zg_iret C0 dX7_pass_304 rfl rfl (Nat.le_refl 0) (Nat.le_refl 0) hw
  · have hw := hw.2 c103
    refine zg_iconst (q := 37) C0 dX7_pass_36 zc_iconst_0 rfl ?_
    exact zg_iret C0 dX7_pass_37 rfl rfl (Nat.le_refl 0) (Nat.le_refl 0) hw
def w_X7_pass (Z : zZ) (h0 : Nat) (p0 : Int32) (p1 : Int32) (S : zS) (Qp : Int32 → zS → Prop) : Prop :=
  zk Z h0 7 ∧ w_X7_noNode Z h0 p0 S (fun (v3 : Int32) (S2 : zS) => ((v3 = 0 → w_X7_holds Z h0 p0 S2 (fun (v5 : Int32) (S4 : zS) => ((v5 = 0 → wJ_X7_pass_26 Z Qp  h0 p0 p1 2 h0 S4) ∧ (¬ v5 = 0 → wJ_X7_pass_26 Z Qp  h0 p0 p1 0 h0 S4)))) ∧ (¬ v3 = 0 → wJ_X7_pass_26 Z Qp  h0 p0 p1 1 h0 S2)))
set_option maxHeartbeats 4000000 in
set_option maxRecDepth 100000 in
theorem a_X7_pass (l : Launch) (D : va_G) (cy : Nat → ClassId) (Z : zZ) (S : zS) (sz : Nat) (h0 : Nat) (p0 : Int32) (p1 : Int32) (Qp : Int32 → zS → Prop) (hw : w_X7_pass Z h0 p0 p1 S Qp) : zMi l yX7_pass wsX7_pass rm_X7_pass D cy Z S sz [.ref h0, .int p0, .int p1] Qp := by
  unfold w_X7_pass at hw
  refine zMi_of (cc := cX7_pass) (maxL := 7) (rt := (some .int)) (by decide +kernel) rfl (Nat.le_of_ble_eq_true rfl) ?_
  intro p e s m args below meth c A C0 _
  refine zg_lv (lv' := [(0, .ref h0), (1, .int p0), (2, .int p1)]) rfl ?_
  refine zg_aload_n (q := 1) C0 0 dX7_pass_0 rfl rfl ?_
  refine zg_aload_n (q := 2) C0 0 dX7_pass_1 rfl rfl ?_
  refine zg_iload_n (q := 3) C0 1 dX7_pass_2 rfl rfl ?_
  obtain ⟨hz1, hw⟩ := hw
  refine zg_callVi (q := 6) C0 [.int p0] [.ref h0] dX7_pass_3 (fun sz => a_X7_noNode l D cy Z S sz h0 p0 _ hw) rfl gX7_pass_X7_noNode hdV_X7_noNode hz1 (zF_7 cy hz1) rfl rfl ⟨Nat.le_of_ble_eq_true rfl, Nat.le_of_ble_eq_true rfl⟩ (Nat.le_of_ble_eq_true rfl) ⟨Nat.zero_le _, Nat.zero_le _⟩ ⟨rfl, rfl⟩ rfl (fun v3 S2 hw => ?_)
  refine zg_if_eq (q := 9) (tgt := 13) C0 dX7_pass_6 rfl rfl (fun c105 => ?_) (fun c105 => ?_)
  · have hw := hw.1 c105
    refine zg_aload_n (q := 14) C0 0 dX7_pass_13 rfl rfl ?_
    refine zg_iload_n (q := 15) C0 1 dX7_pass_14 rfl rfl ?_
    refine zg_callVi (q := 18) C0 [.int p0] [.ref h0] dX7_pass_15 (fun sz => a_X7_holds l D cy Z S2 sz h0 p0 _ hw) rfl gX7_pass_X7_holds hdV_X7_holds hz1 (zF_7 cy hz1) rfl rfl ⟨Nat.le_of_ble_eq_true rfl, Nat.le_of_ble_eq_true rfl⟩ (Nat.le_of_ble_eq_true rfl) ⟨Nat.zero_le _, Nat.zero_le _⟩ ⟨rfl, rfl⟩ rfl (fun v5 S4 hw => ?_)
    refine zg_if_eq (q := 21) (tgt := 25) C0 dX7_pass_18 rfl rfl (fun c104 => ?_) (fun c104 => ?_)
    · have hw := hw.1 c104
      refine zg_iconst (q := 26) C0 dX7_pass_25 zc_iconst_2 rfl ?_
      refine zg_sub [0, 1, 2] rfl ?_
      exact aJ_X7_pass_26 C0  hw
    · have hw := hw.2 c104
      refine zg_iconst (q := 22) C0 dX7_pass_21 zc_iconst_0 rfl ?_
      refine zg_goto (tgt := 26) C0 dX7_pass_22 rfl ?_
      refine zg_sub [0, 1, 2] rfl ?_
      exact aJ_X7_pass_26 C0  hw
  · have hw := hw.2 c105
    refine zg_iconst (q := 10) C0 dX7_pass_9 zc_iconst_1 rfl ?_
    refine zg_goto (tgt := 26) C0 dX7_pass_10 rfl ?_
    refine zg_sub [0, 1, 2] rfl ?_
    exact aJ_X7_pass_26 C0  hw
-- X7_together
abbrev rm_X7_together : Room := { frames := 0, cells := 0, slots := 0, locals := 0 }
theorem hX_X7_together_7 : ∀ w ∈ u_ws RX7 TX7 36, w ∈ wsX7_together := by decide +kernel
theorem hdV_X7_together : yX7_together.cls = RX7 ∧ yX7_together.cls ≠ "java/lang/invoke/MethodHandle" ∧ yX7_together.cls ≠ "java/lang/invoke/VarHandle" ∧ (parseMethodDescriptor yX7_together.desc).map (fun d => d.parameters.length) = some 1 := by decide +kernel
def wb_X7_together_4 (Z : zZ) (x0 : Nat) (x1 : Int32) (Qp : Int32 → zS → Prop) (K : Int32 → zS → Prop) (rec : Int32 → Int32 → zS → Prop) (x2 : Int32) (x3 : Int32) (S : zS) : Prop :=
  zk Z x0 7 ∧ (((zI S x0 1) ≤ x3 → K x2 S) ∧ (¬ (zI S x0 1) ≤ x3 → ∃ b2, zQ Z x0 3 = some b2 ∧ zk Z b2 10 ∧ vp_in x3 (zN Z b2) ∧ (((zI S b2 x3.toNatClampNeg) = 0 → ∀ y6 : Int32, y6 = x3 + 1 → rec x2 y6 S) ∧ (¬ (zI S b2 x3.toNatClampNeg) = 0 → ∃ b7, zQ Z x0 4 = some b7 ∧ zk Z b7 8 ∧ vp_in x3 (zN Z b7) ∧ vp_in x1 (zN Z b7) ∧ ((¬ (zI S b7 x3.toNatClampNeg) = (zI S b7 x1.toNatClampNeg) → ∀ y12 : Int32, y12 = x3 + 1 → rec x2 y12 S) ∧ ((zI S b7 x3.toNatClampNeg) = (zI S b7 x1.toNatClampNeg) → ∀ y13 : Int32, y13 = x2 ||| (1 <<< (x3 &&& 31)) → ∀ y14 : Int32, y14 = x3 + 1 → rec y13 y14 S))))))
def wL_X7_together_4 (Z : zZ) (x0 : Nat) (x1 : Int32) (Qp : Int32 → zS → Prop) (K : Int32 → zS → Prop) (x2 : Int32) (x3 : Int32) (S : zS) : Prop := ∃ n, zit3 (wb_X7_together_4 Z x0 x1 Qp K) n x2 x3 S
set_option maxHeartbeats 4000000 in
set_option maxRecDepth 100000 in
theorem ab_X7_together_4 {p : Program} {l : Launch} {e : Env} {s : State} {m : MethodId} {args : Array Value} {below : List Frame} {meth : Method} {c : Code} {D : va_G} {cy : Nat → ClassId} {A : Nat → Prop} {Q : State → Prop} {Z : zZ} (C0 : zC p s m args meth c cX7_together 4 wsX7_together RX7 D cy A (some .int)) {x0 : Nat} {x1 : Int32} {Qp : Int32 → zS → Prop} {K : Int32 → zS → Prop} (hK : ∀ x2 S, K x2 S → zG p l e rm_X7_together s m args below meth c D cy A 4 0 0 Q Z S 52 [(2, .int x2)] []) {rec : Int32 → Int32 → zS → Prop} (hrec : ∀ x2 x3 S, rec x2 x3 S → zG p l e rm_X7_together s m args below meth c D cy A 4 0 0 Q Z S 4 [(0, .ref x0), (1, .int x1), (2, .int x2), (3, .int x3)] []) {x2 : Int32} {x3 : Int32} {S : zS} (hw : wb_X7_together_4 Z x0 x1 Qp K rec x2 x3 S) : zG p l e rm_X7_together s m args below meth c D cy A 4 0 0 Q Z S 4 [(0, .ref x0), (1, .int x1), (2, .int x2), (3, .int x3)] [] := by
  unfold wb_X7_together_4 at hw
  refine zg_iload_n (q := 5) C0 3 dX7_together_4 rfl rfl ?_
  refine zg_aload_n (q := 6) C0 0 dX7_together_5 rfl rfl ?_
  obtain ⟨hz1, hw⟩ := hw
  refine zg_get (q := 9) (T := TX7) (k := 1) C0 dX7_together_6 hz1 (zF_7 cy hz1) rfl (by decide) hX_X7_together_7 (zwm (i := 1) rfl) rfl rfl rfl ?_
  refine zg_icmp_ge (q := 12) (tgt := 52) C0 dX7_together_9 rfl rfl (fun c17 => ?_) (fun c17 => ?_)
  · have hw := hw.1 c17
    refine zg_sub [2] rfl ?_
    exact hK _ _ hw
  · have hw := hw.2 c17
    refine zg_aload_n (q := 13) C0 0 dX7_together_12 rfl rfl ?_
    refine zg_get (q := 16) (T := TX7) (k := 3) C0 dX7_together_13 hz1 (zF_7 cy hz1) rfl (by decide) hX_X7_together_7 (zwm (i := 2) rfl) rfl rfl rfl ?_
    obtain ⟨b2, hb3, hw⟩ := hw
    refine zg_nn hb3 ?_
    refine zg_iload_n (q := 17) C0 3 dX7_together_16 rfl rfl ?_
    obtain ⟨hz4, hw⟩ := hw
    obtain ⟨hi5, hw⟩ := hw
    refine zg_zald (q := 18) C0 dX7_together_17 hz4 hi5 rfl ?_
    refine zg_if_eq (q := 21) (tgt := 44) C0 dX7_together_18 rfl rfl (fun c16 => ?_) (fun c16 => ?_)
    · have hw := hw.1 c16
      refine zg_iload_n (q := 45) C0 2 dX7_together_44 rfl rfl ?_
      refine zg_istore_n (q := 46) (lv' := [(2, .int x2), (0, .ref x0), (1, .int x1), (3, .int x3)]) C0 dX7_together_45 (by decide) rfl rfl ?_
      refine zg_iinc (q := 49) C0 3 dX7_together_46 rfl (by decide) zc_iconst_1 rfl (fun y6 ey6 => ?_)
      have hw := hw y6 ey6
      refine zg_lv (lv' := [(3, .int y6), (2, .int x2), (0, .ref x0), (1, .int x1)]) rfl ?_
      refine zg_goto (tgt := 4) C0 dX7_together_49 rfl ?_
      refine zg_sub [2, 3, 1, 0] rfl ?_
      exact hrec _ _ _ hw
    · have hw := hw.2 c16
      refine zg_aload_n (q := 22) C0 0 dX7_together_21 rfl rfl ?_
      refine zg_get (q := 25) (T := TX7) (k := 4) C0 dX7_together_22 hz1 (zF_7 cy hz1) rfl (by decide) hX_X7_together_7 (zwm (i := 3) rfl) rfl rfl rfl ?_
      obtain ⟨b7, hb8, hw⟩ := hw
      refine zg_nn hb8 ?_
      refine zg_iload_n (q := 26) C0 3 dX7_together_25 rfl rfl ?_
      obtain ⟨hz9, hw⟩ := hw
      obtain ⟨hi10, hw⟩ := hw
      refine zg_iald (q := 27) C0 dX7_together_26 hz9 hi10 rfl ?_
      refine zg_aload_n (q := 28) C0 0 dX7_together_27 rfl rfl ?_
      refine zg_get (q := 31) (T := TX7) (k := 4) C0 dX7_together_28 hz1 (zF_7 cy hz1) rfl (by decide) hX_X7_together_7 (zwm (i := 3) rfl) rfl rfl rfl ?_
      refine zg_nn hb8 ?_
      refine zg_iload_n (q := 32) C0 1 dX7_together_31 rfl rfl ?_
      obtain ⟨hi11, hw⟩ := hw
      refine zg_iald (q := 33) C0 dX7_together_32 hz9 hi11 rfl ?_
      refine zg_icmp_ne (q := 36) (tgt := 44) C0 dX7_together_33 rfl rfl (fun c15 => ?_) (fun c15 => ?_)
      · have hw := hw.1 c15
        refine zg_iload_n (q := 45) C0 2 dX7_together_44 rfl rfl ?_
        refine zg_istore_n (q := 46) (lv' := [(2, .int x2), (0, .ref x0), (1, .int x1), (3, .int x3)]) C0 dX7_together_45 (by decide) rfl rfl ?_
        refine zg_iinc (q := 49) C0 3 dX7_together_46 rfl (by decide) zc_iconst_1 rfl (fun y12 ey12 => ?_)
        have hw := hw y12 ey12
        refine zg_lv (lv' := [(3, .int y12), (2, .int x2), (0, .ref x0), (1, .int x1)]) rfl ?_
        refine zg_goto (tgt := 4) C0 dX7_together_49 rfl ?_
        refine zg_sub [2, 3, 1, 0] rfl ?_
        exact hrec _ _ _ hw
      · have hw := hw.2 c15
        refine zg_iload_n (q := 37) C0 2 dX7_together_36 rfl rfl ?_
        refine zg_iconst (q := 38) C0 dX7_together_37 zc_iconst_1 rfl ?_
        refine zg_iload_n (q := 39) C0 3 dX7_together_38 rfl rfl ?_
        refine zg_ishl (q := 40) C0 dX7_together_39 rfl ?_
        refine zg_ior (q := 41) C0 dX7_together_40 rfl ?_
        refine zg_goto (tgt := 45) C0 dX7_together_41 rfl ?_
        refine zg_ni (fun y13 ey13 => ?_)
        have hw := hw y13 ey13
        refine zg_istore_n (q := 46) (lv' := [(2, .int y13), (0, .ref x0), (1, .int x1), (3, .int x3)]) C0 dX7_together_45 (by decide) rfl rfl ?_
        refine zg_iinc (q := 49) C0 3 dX7_together_46 rfl (by decide) zc_iconst_1 rfl (fun y14 ey14 => ?_)
        have hw := hw y14 ey14
        refine zg_lv (lv' := [(3, .int y14), (2, .int y13), (0, .ref x0), (1, .int x1)]) rfl ?_
        refine zg_goto (tgt := 4) C0 dX7_together_49 rfl ?_
        refine zg_sub [2, 3, 1, 0] rfl ?_
        exact hrec _ _ _ hw
theorem aL_X7_together_4 {p : Program} {l : Launch} {e : Env} {s : State} {m : MethodId} {args : Array Value} {below : List Frame} {meth : Method} {c : Code} {D : va_G} {cy : Nat → ClassId} {A : Nat → Prop} {Q : State → Prop} {Z : zZ} (C0 : zC p s m args meth c cX7_together 4 wsX7_together RX7 D cy A (some .int)) {x0 : Nat} {x1 : Int32} {Qp : Int32 → zS → Prop} {K : Int32 → zS → Prop} (hK : ∀ x2 S, K x2 S → zG p l e rm_X7_together s m args below meth c D cy A 4 0 0 Q Z S 52 [(2, .int x2)] []) : ∀ x2 x3 S, wL_X7_together_4 Z x0 x1 Qp K x2 x3 S → zG p l e rm_X7_together s m args below meth c D cy A 4 0 0 Q Z S 4 [(0, .ref x0), (1, .int x1), (2, .int x2), (3, .int x3)] [] := by
  intro x2 x3 S hw
  obtain ⟨n, hw⟩ := hw
  induction n generalizing x2 x3 S with
  | zero => exact hw.elim
  | succ n ih => exact ab_X7_together_4 C0 hK (fun x2 x3 S hw => ih x2 x3 S hw) hw
def w_X7_together (Z : zZ) (h0 : Nat) (p0 : Int32) (S : zS) (Qp : Int32 → zS → Prop) : Prop :=
  wL_X7_together_4 Z h0 p0 Qp (fun (v19 : Int32) (S18 : zS) => Qp v19 S18) 0 0 S
set_option maxHeartbeats 4000000 in
set_option maxRecDepth 100000 in
theorem a_X7_together (l : Launch) (D : va_G) (cy : Nat → ClassId) (Z : zZ) (S : zS) (sz : Nat) (h0 : Nat) (p0 : Int32) (Qp : Int32 → zS → Prop) (hw : w_X7_together Z h0 p0 S Qp) : zMi l yX7_together wsX7_together rm_X7_together D cy Z S sz [.ref h0, .int p0] Qp := by
  unfold w_X7_together at hw
  refine zMi_of (cc := cX7_together) (maxL := 4) (rt := (some .int)) (by decide +kernel) rfl (Nat.le_of_ble_eq_true rfl) ?_
  intro p e s m args below meth c A C0 _
  refine zg_lv (lv' := [(0, .ref h0), (1, .int p0)]) rfl ?_
  refine zg_iconst (q := 1) C0 dX7_together_0 zc_iconst_0 rfl ?_
  refine zg_istore_n (q := 2) (lv' := [(2, .int 0), (0, .ref h0), (1, .int p0)]) C0 dX7_together_1 (by decide) rfl rfl ?_
  refine zg_iconst (q := 3) C0 dX7_together_2 zc_iconst_0 rfl ?_
  refine zg_istore_n (q := 4) (lv' := [(3, .int 0), (2, .int 0), (0, .ref h0), (1, .int p0)]) C0 dX7_together_3 (by decide) rfl rfl ?_
  refine zg_sub [2, 3, 1, 0] rfl ?_
  refine aL_X7_together_4 C0 (fun v19 S18 hw => ?_) _ _ _ hw
  refine zg_iload_n (q := 53) C0 0 dX7_together_52 rfl rfl ?_
  exact zg_iret C0 dX7_together_53 rfl rfl (Nat.le_refl 0) (Nat.le_refl 0) hw
-- X7_count
abbrev rm_X7_count : Room := { frames := 0, cells := 0, slots := 0, locals := 0 }
theorem hdS_X7_count : yX7_count.cls ≠ "java/lang/invoke/MethodHandle" ∧ yX7_count.cls ≠ "java/lang/invoke/VarHandle" ∧ (parseMethodDescriptor yX7_count.desc).map (fun d => d.parameters.length) = some 1 := by decide +kernel
def wb_X7_count_4 (Z : zZ) (x0 : Int32) (Qp : Int32 → zS → Prop) (K : Int32 → zS → Prop) (rec : Int32 → Int32 → zS → Prop) (x1 : Int32) (x2 : Int32) (S : zS) : Prop :=
  ((8 ≤ x2 → K x1 S) ∧ (¬ 8 ≤ x2 → ∀ y1 : Int32, y1 = x1 + ((x0 >>> (x2 &&& 31)) &&& 1) → ∀ y2 : Int32, y2 = x2 + 1 → rec y1 y2 S))
def wL_X7_count_4 (Z : zZ) (x0 : Int32) (Qp : Int32 → zS → Prop) (K : Int32 → zS → Prop) (x1 : Int32) (x2 : Int32) (S : zS) : Prop := ∃ n, zit3 (wb_X7_count_4 Z x0 Qp K) n x1 x2 S
set_option maxHeartbeats 4000000 in
set_option maxRecDepth 100000 in
theorem ab_X7_count_4 {p : Program} {l : Launch} {e : Env} {s : State} {m : MethodId} {args : Array Value} {below : List Frame} {meth : Method} {c : Code} {D : va_G} {cy : Nat → ClassId} {A : Nat → Prop} {Q : State → Prop} {Z : zZ} (C0 : zC p s m args meth c cX7_count 3 wsX7_count RX7 D cy A (some .int)) {x0 : Int32} {Qp : Int32 → zS → Prop} {K : Int32 → zS → Prop} (hK : ∀ x1 S, K x1 S → zG p l e rm_X7_count s m args below meth c D cy A 3 0 0 Q Z S 24 [(1, .int x1)] []) {rec : Int32 → Int32 → zS → Prop} (hrec : ∀ x1 x2 S, rec x1 x2 S → zG p l e rm_X7_count s m args below meth c D cy A 3 0 0 Q Z S 4 [(0, .int x0), (1, .int x1), (2, .int x2)] []) {x1 : Int32} {x2 : Int32} {S : zS} (hw : wb_X7_count_4 Z x0 Qp K rec x1 x2 S) : zG p l e rm_X7_count s m args below meth c D cy A 3 0 0 Q Z S 4 [(0, .int x0), (1, .int x1), (2, .int x2)] [] := by
  unfold wb_X7_count_4 at hw
  refine zg_iload_n (q := 5) C0 2 dX7_count_4 rfl rfl ?_
  refine zg_bipush (q := 7) C0 dX7_count_5 zc_bipush_8 rfl ?_
  refine zg_icmp_ge (q := 10) (tgt := 24) C0 dX7_count_7 rfl rfl (fun c3 => ?_) (fun c3 => ?_)
  · have hw := hw.1 c3
    refine zg_sub [1] rfl ?_
    exact hK _ _ hw
  · have hw := hw.2 c3
    refine zg_iload_n (q := 11) C0 1 dX7_count_10 rfl rfl ?_
    refine zg_iload_n (q := 12) C0 0 dX7_count_11 rfl rfl ?_
    refine zg_iload_n (q := 13) C0 2 dX7_count_12 rfl rfl ?_
    refine zg_ishr (q := 14) C0 dX7_count_13 rfl ?_
    refine zg_iconst (q := 15) C0 dX7_count_14 zc_iconst_1 rfl ?_
    refine zg_iand (q := 16) C0 dX7_count_15 rfl ?_
    refine zg_iadd (q := 17) C0 dX7_count_16 rfl ?_
    refine zg_ni (fun y1 ey1 => ?_)
    have hw := hw y1 ey1
    refine zg_istore_n (q := 18) (lv' := [(1, .int y1), (0, .int x0), (2, .int x2)]) C0 dX7_count_17 (by decide) rfl rfl ?_
    refine zg_iinc (q := 21) C0 2 dX7_count_18 rfl (by decide) zc_iconst_1 rfl (fun y2 ey2 => ?_)
    have hw := hw y2 ey2
    refine zg_lv (lv' := [(2, .int y2), (1, .int y1), (0, .int x0)]) rfl ?_
    refine zg_goto (tgt := 4) C0 dX7_count_21 rfl ?_
    refine zg_sub [2, 1, 0] rfl ?_
    exact hrec _ _ _ hw
theorem aL_X7_count_4 {p : Program} {l : Launch} {e : Env} {s : State} {m : MethodId} {args : Array Value} {below : List Frame} {meth : Method} {c : Code} {D : va_G} {cy : Nat → ClassId} {A : Nat → Prop} {Q : State → Prop} {Z : zZ} (C0 : zC p s m args meth c cX7_count 3 wsX7_count RX7 D cy A (some .int)) {x0 : Int32} {Qp : Int32 → zS → Prop} {K : Int32 → zS → Prop} (hK : ∀ x1 S, K x1 S → zG p l e rm_X7_count s m args below meth c D cy A 3 0 0 Q Z S 24 [(1, .int x1)] []) : ∀ x1 x2 S, wL_X7_count_4 Z x0 Qp K x1 x2 S → zG p l e rm_X7_count s m args below meth c D cy A 3 0 0 Q Z S 4 [(0, .int x0), (1, .int x1), (2, .int x2)] [] := by
  intro x1 x2 S hw
  obtain ⟨n, hw⟩ := hw
  induction n generalizing x1 x2 S with
  | zero => exact hw.elim
  | succ n ih => exact ab_X7_count_4 C0 hK (fun x1 x2 S hw => ih x1 x2 S hw) hw
def w_X7_count (Z : zZ) (p0 : Int32) (S : zS) (Qp : Int32 → zS → Prop) : Prop :=
  wL_X7_count_4 Z p0 Qp (fun (v5 : Int32) (S4 : zS) => Qp v5 S4) 0 0 S
set_option maxHeartbeats 4000000 in
set_option maxRecDepth 100000 in
theorem a_X7_count (l : Launch) (D : va_G) (cy : Nat → ClassId) (Z : zZ) (S : zS) (sz : Nat) (p0 : Int32) (Qp : Int32 → zS → Prop) (hw : w_X7_count Z p0 S Qp) : zMi l yX7_count wsX7_count rm_X7_count D cy Z S sz [.int p0] Qp := by
  unfold w_X7_count at hw
  refine zMi_of (cc := cX7_count) (maxL := 3) (rt := (some .int)) (by decide +kernel) rfl (Nat.le_of_ble_eq_true rfl) ?_
  intro p e s m args below meth c A C0 _
  refine zg_lv (lv' := [(0, .int p0)]) rfl ?_
  refine zg_iconst (q := 1) C0 dX7_count_0 zc_iconst_0 rfl ?_
  refine zg_istore_n (q := 2) (lv' := [(1, .int 0), (0, .int p0)]) C0 dX7_count_1 (by decide) rfl rfl ?_
  refine zg_iconst (q := 3) C0 dX7_count_2 zc_iconst_0 rfl ?_
  refine zg_istore_n (q := 4) (lv' := [(2, .int 0), (1, .int 0), (0, .int p0)]) C0 dX7_count_3 (by decide) rfl rfl ?_
  refine zg_sub [2, 1, 0] rfl ?_
  refine aL_X7_count_4 C0 (fun v5 S4 hw => ?_) _ _ _ hw
  refine zg_iload_n (q := 25) C0 0 dX7_count_24 rfl rfl ?_
  exact zg_iret C0 dX7_count_25 rfl rfl (Nat.le_refl 0) (Nat.le_refl 0) hw
-- X7_least
abbrev rm_X7_least : Room := { frames := 1, cells := 0, slots := 0, locals := 21 }
theorem hdS_X7_least : yX7_least.cls ≠ "java/lang/invoke/MethodHandle" ∧ yX7_least.cls ≠ "java/lang/invoke/VarHandle" ∧ (parseMethodDescriptor yX7_least.desc).map (fun d => d.parameters.length) = some 1 := by decide +kernel
def wb_X7_least_2 (Z : zZ) (x0 : Int32) (Qp : Int32 → zS → Prop) (K : Int32 → zS → Prop) (rec : Int32 → zS → Prop) (x1 : Int32) (S : zS) : Prop :=
  w_X7_isIn Z x0 x1 S (fun (v2 : Int32) (S1 : zS) => ((¬ v2 = 0 → K x1 S1) ∧ (v2 = 0 → ∀ y3 : Int32, y3 = x1 + 1 → rec y3 S1)))
def wL_X7_least_2 (Z : zZ) (x0 : Int32) (Qp : Int32 → zS → Prop) (K : Int32 → zS → Prop) (x1 : Int32) (S : zS) : Prop := ∃ n, zit2 (wb_X7_least_2 Z x0 Qp K) n x1 S
set_option maxHeartbeats 4000000 in
set_option maxRecDepth 100000 in
theorem ab_X7_least_2 {p : Program} {l : Launch} {e : Env} {s : State} {m : MethodId} {args : Array Value} {below : List Frame} {meth : Method} {c : Code} {D : va_G} {cy : Nat → ClassId} {A : Nat → Prop} {Q : State → Prop} {Z : zZ} (C0 : zC p s m args meth c cX7_least 2 wsX7_least RX7 D cy A (some .int)) {x0 : Int32} {Qp : Int32 → zS → Prop} {K : Int32 → zS → Prop} (hK : ∀ x1 S, K x1 S → zG p l e rm_X7_least s m args below meth c D cy A 2 0 0 Q Z S 16 [(1, .int x1)] []) {rec : Int32 → zS → Prop} (hrec : ∀ x1 S, rec x1 S → zG p l e rm_X7_least s m args below meth c D cy A 2 0 0 Q Z S 2 [(0, .int x0), (1, .int x1)] []) {x1 : Int32} {S : zS} (hw : wb_X7_least_2 Z x0 Qp K rec x1 S) : zG p l e rm_X7_least s m args below meth c D cy A 2 0 0 Q Z S 2 [(0, .int x0), (1, .int x1)] [] := by
  unfold wb_X7_least_2 at hw
  refine zg_iload_n (q := 3) C0 0 dX7_least_2 rfl rfl ?_
  refine zg_iload_n (q := 4) C0 1 dX7_least_3 rfl rfl ?_
  refine zg_callSi (q := 7) C0 [.int x0, .int x1] [] dX7_least_4 (fun sz => a_X7_isIn l D cy Z S sz x0 x1 _ hw) rfl gX7_least_X7_isIn hdS_X7_isIn rfl ⟨Nat.le_of_ble_eq_true rfl, Nat.le_of_ble_eq_true rfl⟩ (Nat.le_of_ble_eq_true rfl) ⟨Nat.zero_le _, Nat.zero_le _⟩ ⟨rfl, rfl⟩ rfl (fun v2 S1 hw => ?_)
  refine zg_if_ne (q := 10) (tgt := 16) C0 dX7_least_7 rfl rfl (fun c4 => ?_) (fun c4 => ?_)
  · have hw := hw.1 c4
    refine zg_sub [1] rfl ?_
    exact hK _ _ hw
  · have hw := hw.2 c4
    refine zg_iinc (q := 13) C0 1 dX7_least_10 rfl (by decide) zc_iconst_1 rfl (fun y3 ey3 => ?_)
    have hw := hw y3 ey3
    refine zg_lv (lv' := [(1, .int y3), (0, .int x0)]) rfl ?_
    refine zg_goto (tgt := 2) C0 dX7_least_13 rfl ?_
    refine zg_sub [1, 0] rfl ?_
    exact hrec _ _ hw
theorem aL_X7_least_2 {p : Program} {l : Launch} {e : Env} {s : State} {m : MethodId} {args : Array Value} {below : List Frame} {meth : Method} {c : Code} {D : va_G} {cy : Nat → ClassId} {A : Nat → Prop} {Q : State → Prop} {Z : zZ} (C0 : zC p s m args meth c cX7_least 2 wsX7_least RX7 D cy A (some .int)) {x0 : Int32} {Qp : Int32 → zS → Prop} {K : Int32 → zS → Prop} (hK : ∀ x1 S, K x1 S → zG p l e rm_X7_least s m args below meth c D cy A 2 0 0 Q Z S 16 [(1, .int x1)] []) : ∀ x1 S, wL_X7_least_2 Z x0 Qp K x1 S → zG p l e rm_X7_least s m args below meth c D cy A 2 0 0 Q Z S 2 [(0, .int x0), (1, .int x1)] [] := by
  intro x1 S hw
  obtain ⟨n, hw⟩ := hw
  induction n generalizing x1 S with
  | zero => exact hw.elim
  | succ n ih => exact ab_X7_least_2 C0 hK (fun x1 S hw => ih x1 S hw) hw
def w_X7_least (Z : zZ) (p0 : Int32) (S : zS) (Qp : Int32 → zS → Prop) : Prop :=
  wL_X7_least_2 Z p0 Qp (fun (v6 : Int32) (S5 : zS) => Qp v6 S5) 0 S
set_option maxHeartbeats 4000000 in
set_option maxRecDepth 100000 in
theorem a_X7_least (l : Launch) (D : va_G) (cy : Nat → ClassId) (Z : zZ) (S : zS) (sz : Nat) (p0 : Int32) (Qp : Int32 → zS → Prop) (hw : w_X7_least Z p0 S Qp) : zMi l yX7_least wsX7_least rm_X7_least D cy Z S sz [.int p0] Qp := by
  unfold w_X7_least at hw
  refine zMi_of (cc := cX7_least) (maxL := 2) (rt := (some .int)) (by decide +kernel) rfl (Nat.le_of_ble_eq_true rfl) ?_
  intro p e s m args below meth c A C0 _
  refine zg_lv (lv' := [(0, .int p0)]) rfl ?_
  refine zg_iconst (q := 1) C0 dX7_least_0 zc_iconst_0 rfl ?_
  refine zg_istore_n (q := 2) (lv' := [(1, .int 0), (0, .int p0)]) C0 dX7_least_1 (by decide) rfl rfl ?_
  refine zg_sub [1, 0] rfl ?_
  refine aL_X7_least_2 C0 (fun v6 S5 hw => ?_) _ _ hw
  refine zg_iload_n (q := 17) C0 0 dX7_least_16 rfl rfl ?_
  exact zg_iret C0 dX7_least_17 rfl rfl (Nat.le_refl 0) (Nat.le_refl 0) hw
-- X7_isWhole
abbrev rm_X7_isWhole : Room := { frames := 2, cells := 0, slots := 0, locals := 42 }
theorem hX_X7_isWhole_7 : ∀ w ∈ u_ws RX7 TX7 36, w ∈ wsX7_isWhole := by decide +kernel
theorem hdV_X7_isWhole : yX7_isWhole.cls = RX7 ∧ yX7_isWhole.cls ≠ "java/lang/invoke/MethodHandle" ∧ yX7_isWhole.cls ≠ "java/lang/invoke/VarHandle" ∧ (parseMethodDescriptor yX7_isWhole.desc).map (fun d => d.parameters.length) = some 1 := by decide +kernel
def wb_X7_isWhole_43 (Z : zZ) (x0 : Nat) (x1 : Int32) (x2 : Int32) (Qp : Int32 → zS → Prop) (K : Int32 → zS → Prop) (rec : Int32 → Int32 → zS → Prop) (x3 : Int32) (x4 : Int32) (S : zS) : Prop :=
  zk Z x0 7 ∧ (((zI S x0 1) ≤ x4 → K x3 S) ∧ (¬ (zI S x0 1) ≤ x4 → ((x3 = 0 → K x3 S) ∧ (¬ x3 = 0 → w_X7_isIn Z x1 x4 S (fun (v11 : Int32) (S10 : zS) => ((v11 = 0 → ∀ y12 : Int32, y12 = x4 + 1 → rec 1 y12 S10) ∧ (¬ v11 = 0 → ∃ b13, zQ Z x0 5 = some b13 ∧ zk Z b13 8 ∧ vp_in x4 (zN Z b13) ∧ ((¬ (zI S10 b13 x4.toNatClampNeg) = x2 → ∀ y17 : Int32, y17 = x4 + 1 → rec 0 y17 S10) ∧ ((zI S10 b13 x4.toNatClampNeg) = x2 → ∀ y18 : Int32, y18 = x4 + 1 → rec 1 y18 S10)))))))))
def wL_X7_isWhole_43 (Z : zZ) (x0 : Nat) (x1 : Int32) (x2 : Int32) (Qp : Int32 → zS → Prop) (K : Int32 → zS → Prop) (x3 : Int32) (x4 : Int32) (S : zS) : Prop := ∃ n, zit3 (wb_X7_isWhole_43 Z x0 x1 x2 Qp K) n x3 x4 S
set_option maxHeartbeats 4000000 in
set_option maxRecDepth 100000 in
theorem ab_X7_isWhole_43 {p : Program} {l : Launch} {e : Env} {s : State} {m : MethodId} {args : Array Value} {below : List Frame} {meth : Method} {c : Code} {D : va_G} {cy : Nat → ClassId} {A : Nat → Prop} {Q : State → Prop} {Z : zZ} (C0 : zC p s m args meth c cX7_isWhole 5 wsX7_isWhole RX7 D cy A (some .boolean)) {x0 : Nat} {x1 : Int32} {x2 : Int32} {Qp : Int32 → zS → Prop} {K : Int32 → zS → Prop} (hK : ∀ x3 S, K x3 S → zG p l e rm_X7_isWhole s m args below meth c D cy A 5 0 0 Q Z S 88 [(3, .int x3)] []) {rec : Int32 → Int32 → zS → Prop} (hrec : ∀ x3 x4 S, rec x3 x4 S → zG p l e rm_X7_isWhole s m args below meth c D cy A 5 0 0 Q Z S 43 [(0, .ref x0), (1, .int x1), (2, .int x2), (3, .int x3), (4, .int x4)] []) {x3 : Int32} {x4 : Int32} {S : zS} (hw : wb_X7_isWhole_43 Z x0 x1 x2 Qp K rec x3 x4 S) : zG p l e rm_X7_isWhole s m args below meth c D cy A 5 0 0 Q Z S 43 [(0, .ref x0), (1, .int x1), (2, .int x2), (3, .int x3), (4, .int x4)] [] := by
  unfold wb_X7_isWhole_43 at hw
  refine zg_iload (q := 45) C0 4 dX7_isWhole_43 rfl rfl ?_
  refine zg_aload_n (q := 46) C0 0 dX7_isWhole_45 rfl rfl ?_
  obtain ⟨hz9, hw⟩ := hw
  refine zg_get (q := 49) (T := TX7) (k := 1) C0 dX7_isWhole_46 hz9 (zF_7 cy hz9) rfl (by decide) hX_X7_isWhole_7 (zwm (i := 4) rfl) rfl rfl rfl ?_
  refine zg_icmp_ge (q := 52) (tgt := 88) C0 dX7_isWhole_49 rfl rfl (fun c22 => ?_) (fun c22 => ?_)
  · have hw := hw.1 c22
    refine zg_sub [3] rfl ?_
    exact hK _ _ hw
  · have hw := hw.2 c22
    refine zg_iload_n (q := 53) C0 3 dX7_isWhole_52 rfl rfl ?_
    refine zg_if_eq (q := 56) (tgt := 88) C0 dX7_isWhole_53 rfl rfl (fun c21 => ?_) (fun c21 => ?_)
    · have hw := hw.1 c21
      refine zg_sub [3] rfl ?_
      exact hK _ _ hw
    · have hw := hw.2 c21
      refine zg_iload_n (q := 57) C0 1 dX7_isWhole_56 rfl rfl ?_
      refine zg_iload (q := 59) C0 4 dX7_isWhole_57 rfl rfl ?_
      refine zg_callSi (q := 62) C0 [.int x1, .int x4] [] dX7_isWhole_59 (fun sz => a_X7_isIn l D cy Z S sz x1 x4 _ hw) rfl gX7_isWhole_X7_isIn hdS_X7_isIn rfl ⟨Nat.le_of_ble_eq_true rfl, Nat.le_of_ble_eq_true rfl⟩ (Nat.le_of_ble_eq_true rfl) ⟨Nat.zero_le _, Nat.zero_le _⟩ ⟨rfl, rfl⟩ rfl (fun v11 S10 hw => ?_)
      refine zg_if_eq (q := 65) (tgt := 76) C0 dX7_isWhole_62 rfl rfl (fun c20 => ?_) (fun c20 => ?_)
      · have hw := hw.1 c20
        refine zg_iconst (q := 77) C0 dX7_isWhole_76 zc_iconst_1 rfl ?_
        refine zg_goto (tgt := 81) C0 dX7_isWhole_77 rfl ?_
        refine zg_istore_n (q := 82) (lv' := [(3, .int 1), (0, .ref x0), (1, .int x1), (2, .int x2), (4, .int x4)]) C0 dX7_isWhole_81 (by decide) rfl rfl ?_
        refine zg_iinc (q := 85) C0 4 dX7_isWhole_82 rfl (by decide) zc_iconst_1 rfl (fun y12 ey12 => ?_)
        have hw := hw y12 ey12
        refine zg_lv (lv' := [(4, .int y12), (3, .int 1), (0, .ref x0), (1, .int x1), (2, .int x2)]) rfl ?_
        refine zg_goto (tgt := 43) C0 dX7_isWhole_85 rfl ?_
        refine zg_sub [2, 3, 4, 1, 0] rfl ?_
        exact hrec _ _ _ hw
      · have hw := hw.2 c20
        refine zg_aload_n (q := 66) C0 0 dX7_isWhole_65 rfl rfl ?_
        refine zg_get (q := 69) (T := TX7) (k := 5) C0 dX7_isWhole_66 hz9 (zF_7 cy hz9) rfl (by decide) hX_X7_isWhole_7 (zwm (i := 1) rfl) rfl rfl rfl ?_
        obtain ⟨b13, hb14, hw⟩ := hw
        refine zg_nn hb14 ?_
        refine zg_iload (q := 71) C0 4 dX7_isWhole_69 rfl rfl ?_
        obtain ⟨hz15, hw⟩ := hw
        obtain ⟨hi16, hw⟩ := hw
        refine zg_iald (q := 72) C0 dX7_isWhole_71 hz15 hi16 rfl ?_
        refine zg_iload_n (q := 73) C0 2 dX7_isWhole_72 rfl rfl ?_
        refine zg_icmp_ne (q := 76) (tgt := 80) C0 dX7_isWhole_73 rfl rfl (fun c19 => ?_) (fun c19 => ?_)
        · have hw := hw.1 c19
          refine zg_iconst (q := 81) C0 dX7_isWhole_80 zc_iconst_0 rfl ?_
          refine zg_istore_n (q := 82) (lv' := [(3, .int 0), (0, .ref x0), (1, .int x1), (2, .int x2), (4, .int x4)]) C0 dX7_isWhole_81 (by decide) rfl rfl ?_
          refine zg_iinc (q := 85) C0 4 dX7_isWhole_82 rfl (by decide) zc_iconst_1 rfl (fun y17 ey17 => ?_)
          have hw := hw y17 ey17
          refine zg_lv (lv' := [(4, .int y17), (3, .int 0), (0, .ref x0), (1, .int x1), (2, .int x2)]) rfl ?_
          refine zg_goto (tgt := 43) C0 dX7_isWhole_85 rfl ?_
          refine zg_sub [2, 3, 4, 1, 0] rfl ?_
          exact hrec _ _ _ hw
        · have hw := hw.2 c19
          refine zg_iconst (q := 77) C0 dX7_isWhole_76 zc_iconst_1 rfl ?_
          refine zg_goto (tgt := 81) C0 dX7_isWhole_77 rfl ?_
          refine zg_istore_n (q := 82) (lv' := [(3, .int 1), (0, .ref x0), (1, .int x1), (2, .int x2), (4, .int x4)]) C0 dX7_isWhole_81 (by decide) rfl rfl ?_
          refine zg_iinc (q := 85) C0 4 dX7_isWhole_82 rfl (by decide) zc_iconst_1 rfl (fun y18 ey18 => ?_)
          have hw := hw y18 ey18
          refine zg_lv (lv' := [(4, .int y18), (3, .int 1), (0, .ref x0), (1, .int x1), (2, .int x2)]) rfl ?_
          refine zg_goto (tgt := 43) C0 dX7_isWhole_85 rfl ?_
          refine zg_sub [2, 3, 4, 1, 0] rfl ?_
          exact hrec _ _ _ hw
theorem aL_X7_isWhole_43 {p : Program} {l : Launch} {e : Env} {s : State} {m : MethodId} {args : Array Value} {below : List Frame} {meth : Method} {c : Code} {D : va_G} {cy : Nat → ClassId} {A : Nat → Prop} {Q : State → Prop} {Z : zZ} (C0 : zC p s m args meth c cX7_isWhole 5 wsX7_isWhole RX7 D cy A (some .boolean)) {x0 : Nat} {x1 : Int32} {x2 : Int32} {Qp : Int32 → zS → Prop} {K : Int32 → zS → Prop} (hK : ∀ x3 S, K x3 S → zG p l e rm_X7_isWhole s m args below meth c D cy A 5 0 0 Q Z S 88 [(3, .int x3)] []) : ∀ x3 x4 S, wL_X7_isWhole_43 Z x0 x1 x2 Qp K x3 x4 S → zG p l e rm_X7_isWhole s m args below meth c D cy A 5 0 0 Q Z S 43 [(0, .ref x0), (1, .int x1), (2, .int x2), (3, .int x3), (4, .int x4)] [] := by
  intro x3 x4 S hw
  obtain ⟨n, hw⟩ := hw
  induction n generalizing x3 x4 S with
  | zero => exact hw.elim
  | succ n ih => exact ab_X7_isWhole_43 C0 hK (fun x3 x4 S hw => ih x3 x4 S hw) hw
def w_X7_isWhole (Z : zZ) (h0 : Nat) (p0 : Int32) (S : zS) (Qp : Int32 → zS → Prop) : Prop :=
  zk Z h0 7 ∧ ∃ b2, zQ Z h0 5 = some b2 ∧ w_X7_least Z p0 S (fun (v5 : Int32) (S4 : zS) => zk Z b2 8 ∧ vp_in v5 (zN Z b2) ∧ ∀ y8 : Int32, y8 = zI S4 b2 v5.toNatClampNeg → ((y8 = (-1) → wL_X7_isWhole_43 Z h0 p0 y8 Qp (fun (v24 : Int32) (S23 : zS) => zb v24 ∧ Qp v24 S23) 0 0 S4) ∧ (¬ y8 = (-1) → ∃ b26, zQ Z h0 25 = some b26 ∧ zk Z b26 8 ∧ vp_in y8 (zN Z b26) ∧ ((¬ (zI S4 b26 y8.toNatClampNeg) = p0 → wL_X7_isWhole_43 Z h0 p0 y8 Qp (fun (v31 : Int32) (S30 : zS) => zb v31 ∧ Qp v31 S30) 0 0 S4) ∧ ((zI S4 b26 y8.toNatClampNeg) = p0 → ∃ b33, zQ Z h0 26 = some b33 ∧ zk Z b33 10 ∧ vp_in y8 (zN Z b33) ∧ ((¬ (zI S4 b33 y8.toNatClampNeg) = 0 → wL_X7_isWhole_43 Z h0 p0 y8 Qp (fun (v38 : Int32) (S37 : zS) => zb v38 ∧ Qp v38 S37) 0 0 S4) ∧ ((zI S4 b33 y8.toNatClampNeg) = 0 → wL_X7_isWhole_43 Z h0 p0 y8 Qp (fun (v41 : Int32) (S40 : zS) => zb v41 ∧ Qp v41 S40) 1 0 S4)))))))
set_option maxHeartbeats 4000000 in
set_option maxRecDepth 100000 in
theorem a_X7_isWhole (l : Launch) (D : va_G) (cy : Nat → ClassId) (Z : zZ) (S : zS) (sz : Nat) (h0 : Nat) (p0 : Int32) (Qp : Int32 → zS → Prop) (hw : w_X7_isWhole Z h0 p0 S Qp) : zMi l yX7_isWhole wsX7_isWhole rm_X7_isWhole D cy Z S sz [.ref h0, .int p0] Qp := by
  unfold w_X7_isWhole at hw
  refine zMi_of (cc := cX7_isWhole) (maxL := 5) (rt := (some .boolean)) (by decide +kernel) rfl (Nat.le_of_ble_eq_true rfl) ?_
  intro p e s m args below meth c A C0 _
  refine zg_lv (lv' := [(0, .ref h0), (1, .int p0)]) rfl ?_
  refine zg_aload_n (q := 1) C0 0 dX7_isWhole_0 rfl rfl ?_
  obtain ⟨hz1, hw⟩ := hw
  refine zg_get (q := 4) (T := TX7) (k := 5) C0 dX7_isWhole_1 hz1 (zF_7 cy hz1) rfl (by decide) hX_X7_isWhole_7 (zwm (i := 1) rfl) rfl rfl rfl ?_
  obtain ⟨b2, hb3, hw⟩ := hw
  refine zg_nn hb3 ?_
  refine zg_iload_n (q := 5) C0 1 dX7_isWhole_4 rfl rfl ?_
  refine zg_callSi (q := 8) C0 [.int p0] [.ref b2] dX7_isWhole_5 (fun sz => a_X7_least l D cy Z S sz p0 _ hw) rfl gX7_isWhole_X7_least hdS_X7_least rfl ⟨Nat.le_of_ble_eq_true rfl, Nat.le_of_ble_eq_true rfl⟩ (Nat.le_of_ble_eq_true rfl) ⟨Nat.zero_le _, Nat.zero_le _⟩ ⟨rfl, rfl⟩ rfl (fun v5 S4 hw => ?_)
  obtain ⟨hz6, hw⟩ := hw
  obtain ⟨hi7, hw⟩ := hw
  refine zg_iald (q := 9) C0 dX7_isWhole_8 hz6 hi7 rfl ?_
  refine zg_ni (fun y8 ey8 => ?_)
  have hw := hw y8 ey8
  refine zg_istore_n (q := 10) (lv' := [(2, .int y8), (0, .ref h0), (1, .int p0)]) C0 dX7_isWhole_9 (by decide) rfl rfl ?_
  refine zg_iload_n (q := 11) C0 0 dX7_isWhole_10 rfl rfl ?_
  refine zg_iconst (q := 12) C0 dX7_isWhole_11 zc_iconst_m1 rfl ?_
  refine zg_icmp_eq (q := 15) (tgt := 38) C0 dX7_isWhole_12 rfl rfl (fun c45 => ?_) (fun c45 => ?_)
  · have hw := hw.1 c45
    refine zg_iconst (q := 39) C0 dX7_isWhole_38 zc_iconst_0 rfl ?_
    refine zg_istore_n (q := 40) (lv' := [(3, .int 0), (2, .int y8), (0, .ref h0), (1, .int p0)]) C0 dX7_isWhole_39 (by decide) rfl rfl ?_
    refine zg_iconst (q := 41) C0 dX7_isWhole_40 zc_iconst_0 rfl ?_
    refine zg_istore (q := 43) (lv' := [(4, .int 0), (3, .int 0), (2, .int y8), (0, .ref h0), (1, .int p0)]) C0 dX7_isWhole_41 (by decide) rfl rfl ?_
    refine zg_sub [3, 4, 2, 1, 0] rfl ?_
    refine aL_X7_isWhole_43 C0 (fun v24 S23 hw => ?_) _ _ _ hw
    refine zg_iload_n (q := 89) C0 0 dX7_isWhole_88 rfl rfl ?_
    obtain ⟨hb25, hw⟩ := hw
    exact zg_iret C0 dX7_isWhole_89 rfl (zb_n hb25) (Nat.le_refl 0) (Nat.le_refl 0) hw
  · have hw := hw.2 c45
    refine zg_aload_n (q := 16) C0 1 dX7_isWhole_15 rfl rfl ?_
    refine zg_get (q := 19) (T := TX7) (k := 25) C0 dX7_isWhole_16 hz1 (zF_7 cy hz1) rfl (by decide) hX_X7_isWhole_7 (zwm (i := 2) rfl) rfl rfl rfl ?_
    obtain ⟨b26, hb27, hw⟩ := hw
    refine zg_nn hb27 ?_
    refine zg_iload_n (q := 20) C0 0 dX7_isWhole_19 rfl rfl ?_
    obtain ⟨hz28, hw⟩ := hw
    obtain ⟨hi29, hw⟩ := hw
    refine zg_iald (q := 21) C0 dX7_isWhole_20 hz28 hi29 rfl ?_
    refine zg_iload_n (q := 22) C0 2 dX7_isWhole_21 rfl rfl ?_
    refine zg_icmp_ne (q := 25) (tgt := 38) C0 dX7_isWhole_22 rfl rfl (fun c44 => ?_) (fun c44 => ?_)
    · have hw := hw.1 c44
      refine zg_iconst (q := 39) C0 dX7_isWhole_38 zc_iconst_0 rfl ?_
      refine zg_istore_n (q := 40) (lv' := [(3, .int 0), (2, .int y8), (0, .ref h0), (1, .int p0)]) C0 dX7_isWhole_39 (by decide) rfl rfl ?_
      refine zg_iconst (q := 41) C0 dX7_isWhole_40 zc_iconst_0 rfl ?_
      refine zg_istore (q := 43) (lv' := [(4, .int 0), (3, .int 0), (2, .int y8), (0, .ref h0), (1, .int p0)]) C0 dX7_isWhole_41 (by decide) rfl rfl ?_
      refine zg_sub [3, 4, 2, 1, 0] rfl ?_
      refine aL_X7_isWhole_43 C0 (fun v31 S30 hw => ?_) _ _ _ hw
      refine zg_iload_n (q := 89) C0 0 dX7_isWhole_88 rfl rfl ?_
      obtain ⟨hb32, hw⟩ := hw
      exact zg_iret C0 dX7_isWhole_89 rfl (zb_n hb32) (Nat.le_refl 0) (Nat.le_refl 0) hw
    · have hw := hw.2 c44
      refine zg_aload_n (q := 26) C0 1 dX7_isWhole_25 rfl rfl ?_
      refine zg_get (q := 29) (T := TX7) (k := 26) C0 dX7_isWhole_26 hz1 (zF_7 cy hz1) rfl (by decide) hX_X7_isWhole_7 (zwm (i := 3) rfl) rfl rfl rfl ?_
      obtain ⟨b33, hb34, hw⟩ := hw
      refine zg_nn hb34 ?_
      refine zg_iload_n (q := 30) C0 0 dX7_isWhole_29 rfl rfl ?_
      obtain ⟨hz35, hw⟩ := hw
      obtain ⟨hi36, hw⟩ := hw
      refine zg_zald (q := 31) C0 dX7_isWhole_30 hz35 hi36 rfl ?_
      refine zg_if_ne (q := 34) (tgt := 38) C0 dX7_isWhole_31 rfl rfl (fun c43 => ?_) (fun c43 => ?_)
      · have hw := hw.1 c43
        refine zg_iconst (q := 39) C0 dX7_isWhole_38 zc_iconst_0 rfl ?_
        refine zg_istore_n (q := 40) (lv' := [(3, .int 0), (2, .int y8), (0, .ref h0), (1, .int p0)]) C0 dX7_isWhole_39 (by decide) rfl rfl ?_
        refine zg_iconst (q := 41) C0 dX7_isWhole_40 zc_iconst_0 rfl ?_
        refine zg_istore (q := 43) (lv' := [(4, .int 0), (3, .int 0), (2, .int y8), (0, .ref h0), (1, .int p0)]) C0 dX7_isWhole_41 (by decide) rfl rfl ?_
        refine zg_sub [3, 4, 2, 1, 0] rfl ?_
        refine aL_X7_isWhole_43 C0 (fun v38 S37 hw => ?_) _ _ _ hw
        refine zg_iload_n (q := 89) C0 0 dX7_isWhole_88 rfl rfl ?_
        obtain ⟨hb39, hw⟩ := hw
        exact zg_iret C0 dX7_isWhole_89 rfl (zb_n hb39) (Nat.le_refl 0) (Nat.le_refl 0) hw
      · have hw := hw.2 c43
        refine zg_iconst (q := 35) C0 dX7_isWhole_34 zc_iconst_1 rfl ?_
        refine zg_goto (tgt := 39) C0 dX7_isWhole_35 rfl ?_
        refine zg_istore_n (q := 40) (lv' := [(3, .int 1), (2, .int y8), (0, .ref h0), (1, .int p0)]) C0 dX7_isWhole_39 (by decide) rfl rfl ?_
        refine zg_iconst (q := 41) C0 dX7_isWhole_40 zc_iconst_0 rfl ?_
        refine zg_istore (q := 43) (lv' := [(4, .int 0), (3, .int 1), (2, .int y8), (0, .ref h0), (1, .int p0)]) C0 dX7_isWhole_41 (by decide) rfl rfl ?_
        refine zg_sub [3, 4, 2, 1, 0] rfl ?_
        refine aL_X7_isWhole_43 C0 (fun v41 S40 hw => ?_) _ _ _ hw
        refine zg_iload_n (q := 89) C0 0 dX7_isWhole_88 rfl rfl ?_
        obtain ⟨hb42, hw⟩ := hw
        exact zg_iret C0 dX7_isWhole_89 rfl (zb_n hb42) (Nat.le_refl 0) (Nat.le_refl 0) hw
-- X7_voter
abbrev rm_X7_voter : Room := { frames := 2, cells := 0, slots := 0, locals := 42 }
theorem hX_X7_voter_7 : ∀ w ∈ u_ws RX7 TX7 36, w ∈ wsX7_voter := by decide +kernel
theorem hdV_X7_voter : yX7_voter.cls = RX7 ∧ yX7_voter.cls ≠ "java/lang/invoke/MethodHandle" ∧ yX7_voter.cls ≠ "java/lang/invoke/VarHandle" ∧ (parseMethodDescriptor yX7_voter.desc).map (fun d => d.parameters.length) = some 1 := by decide +kernel
def wb_X7_voter_7 (Z : zZ) (x0 : Nat) (x1 : Int32) (Qp : Int32 → zS → Prop) (K : Int32 → zS → Prop) (rec : Int32 → Int32 → zS → Prop) (x2 : Int32) (x3 : Int32) (S : zS) : Prop :=
  zk Z x0 7 ∧ (((zI S x0 1) ≤ x3 → K x2 S) ∧ (¬ (zI S x0 1) ≤ x3 → w_X7_isIn Z x1 x3 S (fun (v5 : Int32) (S4 : zS) => ((v5 = 0 → ∀ y6 : Int32, y6 = x3 + 1 → rec x2 y6 S4) ∧ (¬ v5 = 0 → ∃ b7, zQ Z x0 10 = some b7 ∧ zk Z b7 8 ∧ vp_in x3 (zN Z b7) ∧ vp_in x2 (zN Z b7) ∧ (((zI S4 b7 x3.toNatClampNeg) ≤ (zI S4 b7 x2.toNatClampNeg) → ∀ y12 : Int32, y12 = x3 + 1 → rec x2 y12 S4) ∧ (¬ (zI S4 b7 x3.toNatClampNeg) ≤ (zI S4 b7 x2.toNatClampNeg) → ∀ y13 : Int32, y13 = x3 + 1 → rec x3 y13 S4)))))))
def wL_X7_voter_7 (Z : zZ) (x0 : Nat) (x1 : Int32) (Qp : Int32 → zS → Prop) (K : Int32 → zS → Prop) (x2 : Int32) (x3 : Int32) (S : zS) : Prop := ∃ n, zit3 (wb_X7_voter_7 Z x0 x1 Qp K) n x2 x3 S
set_option maxHeartbeats 4000000 in
set_option maxRecDepth 100000 in
theorem ab_X7_voter_7 {p : Program} {l : Launch} {e : Env} {s : State} {m : MethodId} {args : Array Value} {below : List Frame} {meth : Method} {c : Code} {D : va_G} {cy : Nat → ClassId} {A : Nat → Prop} {Q : State → Prop} {Z : zZ} (C0 : zC p s m args meth c cX7_voter 4 wsX7_voter RX7 D cy A (some .int)) {x0 : Nat} {x1 : Int32} {Qp : Int32 → zS → Prop} {K : Int32 → zS → Prop} (hK : ∀ x2 S, K x2 S → zG p l e rm_X7_voter s m args below meth c D cy A 4 0 0 Q Z S 50 [(2, .int x2)] []) {rec : Int32 → Int32 → zS → Prop} (hrec : ∀ x2 x3 S, rec x2 x3 S → zG p l e rm_X7_voter s m args below meth c D cy A 4 0 0 Q Z S 7 [(0, .ref x0), (1, .int x1), (2, .int x2), (3, .int x3)] []) {x2 : Int32} {x3 : Int32} {S : zS} (hw : wb_X7_voter_7 Z x0 x1 Qp K rec x2 x3 S) : zG p l e rm_X7_voter s m args below meth c D cy A 4 0 0 Q Z S 7 [(0, .ref x0), (1, .int x1), (2, .int x2), (3, .int x3)] [] := by
  unfold wb_X7_voter_7 at hw
  refine zg_iload_n (q := 8) C0 3 dX7_voter_7 rfl rfl ?_
  refine zg_aload_n (q := 9) C0 0 dX7_voter_8 rfl rfl ?_
  obtain ⟨hz3, hw⟩ := hw
  refine zg_get (q := 12) (T := TX7) (k := 1) C0 dX7_voter_9 hz3 (zF_7 cy hz3) rfl (by decide) hX_X7_voter_7 (zwm (i := 1) rfl) rfl rfl rfl ?_
  refine zg_icmp_ge (q := 15) (tgt := 50) C0 dX7_voter_12 rfl rfl (fun c16 => ?_) (fun c16 => ?_)
  · have hw := hw.1 c16
    refine zg_sub [2] rfl ?_
    exact hK _ _ hw
  · have hw := hw.2 c16
    refine zg_iload_n (q := 16) C0 1 dX7_voter_15 rfl rfl ?_
    refine zg_iload_n (q := 17) C0 3 dX7_voter_16 rfl rfl ?_
    refine zg_callSi (q := 20) C0 [.int x1, .int x3] [] dX7_voter_17 (fun sz => a_X7_isIn l D cy Z S sz x1 x3 _ hw) rfl gX7_voter_X7_isIn hdS_X7_isIn rfl ⟨Nat.le_of_ble_eq_true rfl, Nat.le_of_ble_eq_true rfl⟩ (Nat.le_of_ble_eq_true rfl) ⟨Nat.zero_le _, Nat.zero_le _⟩ ⟨rfl, rfl⟩ rfl (fun v5 S4 hw => ?_)
    refine zg_if_eq (q := 23) (tgt := 42) C0 dX7_voter_20 rfl rfl (fun c15 => ?_) (fun c15 => ?_)
    · have hw := hw.1 c15
      refine zg_iload_n (q := 43) C0 2 dX7_voter_42 rfl rfl ?_
      refine zg_istore_n (q := 44) (lv' := [(2, .int x2), (0, .ref x0), (1, .int x1), (3, .int x3)]) C0 dX7_voter_43 (by decide) rfl rfl ?_
      refine zg_iinc (q := 47) C0 3 dX7_voter_44 rfl (by decide) zc_iconst_1 rfl (fun y6 ey6 => ?_)
      have hw := hw y6 ey6
      refine zg_lv (lv' := [(3, .int y6), (2, .int x2), (0, .ref x0), (1, .int x1)]) rfl ?_
      refine zg_goto (tgt := 7) C0 dX7_voter_47 rfl ?_
      refine zg_sub [2, 3, 1, 0] rfl ?_
      exact hrec _ _ _ hw
    · have hw := hw.2 c15
      refine zg_aload_n (q := 24) C0 0 dX7_voter_23 rfl rfl ?_
      refine zg_get (q := 27) (T := TX7) (k := 10) C0 dX7_voter_24 hz3 (zF_7 cy hz3) rfl (by decide) hX_X7_voter_7 (zwm (i := 2) rfl) rfl rfl rfl ?_
      obtain ⟨b7, hb8, hw⟩ := hw
      refine zg_nn hb8 ?_
      refine zg_iload_n (q := 28) C0 3 dX7_voter_27 rfl rfl ?_
      obtain ⟨hz9, hw⟩ := hw
      obtain ⟨hi10, hw⟩ := hw
      refine zg_iald (q := 29) C0 dX7_voter_28 hz9 hi10 rfl ?_
      refine zg_aload_n (q := 30) C0 0 dX7_voter_29 rfl rfl ?_
      refine zg_get (q := 33) (T := TX7) (k := 10) C0 dX7_voter_30 hz3 (zF_7 cy hz3) rfl (by decide) hX_X7_voter_7 (zwm (i := 2) rfl) rfl rfl rfl ?_
      refine zg_nn hb8 ?_
      refine zg_iload_n (q := 34) C0 2 dX7_voter_33 rfl rfl ?_
      obtain ⟨hi11, hw⟩ := hw
      refine zg_iald (q := 35) C0 dX7_voter_34 hz9 hi11 rfl ?_
      refine zg_icmp_le (q := 38) (tgt := 42) C0 dX7_voter_35 rfl rfl (fun c14 => ?_) (fun c14 => ?_)
      · have hw := hw.1 c14
        refine zg_iload_n (q := 43) C0 2 dX7_voter_42 rfl rfl ?_
        refine zg_istore_n (q := 44) (lv' := [(2, .int x2), (0, .ref x0), (1, .int x1), (3, .int x3)]) C0 dX7_voter_43 (by decide) rfl rfl ?_
        refine zg_iinc (q := 47) C0 3 dX7_voter_44 rfl (by decide) zc_iconst_1 rfl (fun y12 ey12 => ?_)
        have hw := hw y12 ey12
        refine zg_lv (lv' := [(3, .int y12), (2, .int x2), (0, .ref x0), (1, .int x1)]) rfl ?_
        refine zg_goto (tgt := 7) C0 dX7_voter_47 rfl ?_
        refine zg_sub [2, 3, 1, 0] rfl ?_
        exact hrec _ _ _ hw
      · have hw := hw.2 c14
        refine zg_iload_n (q := 39) C0 3 dX7_voter_38 rfl rfl ?_
        refine zg_goto (tgt := 43) C0 dX7_voter_39 rfl ?_
        refine zg_istore_n (q := 44) (lv' := [(2, .int x3), (0, .ref x0), (1, .int x1), (3, .int x3)]) C0 dX7_voter_43 (by decide) rfl rfl ?_
        refine zg_iinc (q := 47) C0 3 dX7_voter_44 rfl (by decide) zc_iconst_1 rfl (fun y13 ey13 => ?_)
        have hw := hw y13 ey13
        refine zg_lv (lv' := [(3, .int y13), (2, .int x3), (0, .ref x0), (1, .int x1)]) rfl ?_
        refine zg_goto (tgt := 7) C0 dX7_voter_47 rfl ?_
        refine zg_sub [2, 3, 1, 0] rfl ?_
        exact hrec _ _ _ hw
theorem aL_X7_voter_7 {p : Program} {l : Launch} {e : Env} {s : State} {m : MethodId} {args : Array Value} {below : List Frame} {meth : Method} {c : Code} {D : va_G} {cy : Nat → ClassId} {A : Nat → Prop} {Q : State → Prop} {Z : zZ} (C0 : zC p s m args meth c cX7_voter 4 wsX7_voter RX7 D cy A (some .int)) {x0 : Nat} {x1 : Int32} {Qp : Int32 → zS → Prop} {K : Int32 → zS → Prop} (hK : ∀ x2 S, K x2 S → zG p l e rm_X7_voter s m args below meth c D cy A 4 0 0 Q Z S 50 [(2, .int x2)] []) : ∀ x2 x3 S, wL_X7_voter_7 Z x0 x1 Qp K x2 x3 S → zG p l e rm_X7_voter s m args below meth c D cy A 4 0 0 Q Z S 7 [(0, .ref x0), (1, .int x1), (2, .int x2), (3, .int x3)] [] := by
  intro x2 x3 S hw
  obtain ⟨n, hw⟩ := hw
  induction n generalizing x2 x3 S with
  | zero => exact hw.elim
  | succ n ih => exact ab_X7_voter_7 C0 hK (fun x2 x3 S hw => ih x2 x3 S hw) hw
def w_X7_voter (Z : zZ) (h0 : Nat) (p0 : Int32) (S : zS) (Qp : Int32 → zS → Prop) : Prop :=
  w_X7_least Z p0 S (fun (v2 : Int32) (S1 : zS) => wL_X7_voter_7 Z h0 p0 Qp (fun (v18 : Int32) (S17 : zS) => Qp v18 S17) v2 0 S1)
set_option maxHeartbeats 4000000 in
set_option maxRecDepth 100000 in
theorem a_X7_voter (l : Launch) (D : va_G) (cy : Nat → ClassId) (Z : zZ) (S : zS) (sz : Nat) (h0 : Nat) (p0 : Int32) (Qp : Int32 → zS → Prop) (hw : w_X7_voter Z h0 p0 S Qp) : zMi l yX7_voter wsX7_voter rm_X7_voter D cy Z S sz [.ref h0, .int p0] Qp := by
  unfold w_X7_voter at hw
  refine zMi_of (cc := cX7_voter) (maxL := 4) (rt := (some .int)) (by decide +kernel) rfl (Nat.le_of_ble_eq_true rfl) ?_
  intro p e s m args below meth c A C0 _
  refine zg_lv (lv' := [(0, .ref h0), (1, .int p0)]) rfl ?_
  refine zg_iload_n (q := 1) C0 1 dX7_voter_0 rfl rfl ?_
  refine zg_callSi (q := 4) C0 [.int p0] [] dX7_voter_1 (fun sz => a_X7_least l D cy Z S sz p0 _ hw) rfl gX7_voter_X7_least hdS_X7_least rfl ⟨Nat.le_of_ble_eq_true rfl, Nat.le_of_ble_eq_true rfl⟩ (Nat.le_of_ble_eq_true rfl) ⟨Nat.zero_le _, Nat.zero_le _⟩ ⟨rfl, rfl⟩ rfl (fun v2 S1 hw => ?_)
  refine zg_istore_n (q := 5) (lv' := [(2, .int v2), (0, .ref h0), (1, .int p0)]) C0 dX7_voter_4 (by decide) rfl rfl ?_
  refine zg_iconst (q := 6) C0 dX7_voter_5 zc_iconst_0 rfl ?_
  refine zg_istore_n (q := 7) (lv' := [(3, .int 0), (2, .int v2), (0, .ref h0), (1, .int p0)]) C0 dX7_voter_6 (by decide) rfl rfl ?_
  refine zg_sub [2, 3, 1, 0] rfl ?_
  refine aL_X7_voter_7 C0 (fun v18 S17 hw => ?_) _ _ _ hw
  refine zg_iload_n (q := 51) C0 0 dX7_voter_50 rfl rfl ?_
  exact zg_iret C0 dX7_voter_51 rfl rfl (Nat.le_refl 0) (Nat.le_refl 0) hw
-- X7_isPrimary
abbrev rm_X7_isPrimary : Room := { frames := 3, cells := 0, slots := 0, locals := 65 }
theorem hX_X7_isPrimary_7 : ∀ w ∈ u_ws RX7 TX7 36, w ∈ wsX7_isPrimary := by decide +kernel
theorem hdV_X7_isPrimary : yX7_isPrimary.cls = RX7 ∧ yX7_isPrimary.cls ≠ "java/lang/invoke/MethodHandle" ∧ yX7_isPrimary.cls ≠ "java/lang/invoke/VarHandle" ∧ (parseMethodDescriptor yX7_isPrimary.desc).map (fun d => d.parameters.length) = some 1 := by decide +kernel
def w_X7_isPrimary (Z : zZ) (h0 : Nat) (p0 : Int32) (S : zS) (Qp : Int32 → zS → Prop) : Prop :=
  zk Z h0 7 ∧ ∃ b2, zQ Z h0 11 = some b2 ∧ w_X7_voter Z h0 p0 S (fun (v5 : Int32) (S4 : zS) => zk Z b2 8 ∧ vp_in v5 (zN Z b2) ∧ ∀ y8 : Int32, y8 = zI S4 b2 v5.toNatClampNeg → w_X7_count Z (y8 &&& p0) S4 (fun (v10 : Int32) (S9 : zS) => ∀ y11 : Int32, y11 = 2 * v10 → w_X7_count Z y8 S9 (fun (v13 : Int32) (S12 : zS) => ((v13 < y11 → Qp 1 S12) ∧ (¬ v13 < y11 → w_X7_count Z y8 S12 (fun (v15 : Int32) (S14 : zS) => ((¬ y11 = v15 → Qp 0 S14) ∧ (y11 = v15 → w_X7_least Z y8 S14 (fun (v17 : Int32) (S16 : zS) => w_X7_isIn Z p0 v17 S16 (fun (v19 : Int32) (S18 : zS) => ((v19 = 0 → Qp 0 S18) ∧ (¬ v19 = 0 → Qp 1 S18))))))))))))
set_option maxHeartbeats 4000000 in
set_option maxRecDepth 100000 in
theorem a_X7_isPrimary (l : Launch) (D : va_G) (cy : Nat → ClassId) (Z : zZ) (S : zS) (sz : Nat) (h0 : Nat) (p0 : Int32) (Qp : Int32 → zS → Prop) (hw : w_X7_isPrimary Z h0 p0 S Qp) : zMi l yX7_isPrimary wsX7_isPrimary rm_X7_isPrimary D cy Z S sz [.ref h0, .int p0] Qp := by
  unfold w_X7_isPrimary at hw
  refine zMi_of (cc := cX7_isPrimary) (maxL := 4) (rt := (some .boolean)) (by decide +kernel) rfl (Nat.le_of_ble_eq_true rfl) ?_
  intro p e s m args below meth c A C0 _
  refine zg_lv (lv' := [(0, .ref h0), (1, .int p0)]) rfl ?_
  refine zg_aload_n (q := 1) C0 0 dX7_isPrimary_0 rfl rfl ?_
  obtain ⟨hz1, hw⟩ := hw
  refine zg_get (q := 4) (T := TX7) (k := 11) C0 dX7_isPrimary_1 hz1 (zF_7 cy hz1) rfl (by decide) hX_X7_isPrimary_7 (zwm (i := 1) rfl) rfl rfl rfl ?_
  obtain ⟨b2, hb3, hw⟩ := hw
  refine zg_nn hb3 ?_
  refine zg_aload_n (q := 5) C0 0 dX7_isPrimary_4 rfl rfl ?_
  refine zg_iload_n (q := 6) C0 1 dX7_isPrimary_5 rfl rfl ?_
  refine zg_callVi (q := 9) C0 [.int p0] [.ref b2] dX7_isPrimary_6 (fun sz => a_X7_voter l D cy Z S sz h0 p0 _ hw) rfl gX7_isPrimary_X7_voter hdV_X7_voter hz1 (zF_7 cy hz1) rfl rfl ⟨Nat.le_of_ble_eq_true rfl, Nat.le_of_ble_eq_true rfl⟩ (Nat.le_of_ble_eq_true rfl) ⟨Nat.zero_le _, Nat.zero_le _⟩ ⟨rfl, rfl⟩ rfl (fun v5 S4 hw => ?_)
  obtain ⟨hz6, hw⟩ := hw
  obtain ⟨hi7, hw⟩ := hw
  refine zg_iald (q := 10) C0 dX7_isPrimary_9 hz6 hi7 rfl ?_
  refine zg_ni (fun y8 ey8 => ?_)
  have hw := hw y8 ey8
  refine zg_istore_n (q := 11) (lv' := [(2, .int y8), (0, .ref h0), (1, .int p0)]) C0 dX7_isPrimary_10 (by decide) rfl rfl ?_
  refine zg_iconst (q := 12) C0 dX7_isPrimary_11 zc_iconst_2 rfl ?_
  refine zg_iload_n (q := 13) C0 0 dX7_isPrimary_12 rfl rfl ?_
  refine zg_iload_n (q := 14) C0 2 dX7_isPrimary_13 rfl rfl ?_
  refine zg_iand (q := 15) C0 dX7_isPrimary_14 rfl ?_
  refine zg_callSi (q := 18) C0 [.int (y8 &&& p0)] [.int 2] dX7_isPrimary_15 (fun sz => a_X7_count l D cy Z S4 sz (y8 &&& p0) _ hw) rfl gX7_isPrimary_X7_count hdS_X7_count rfl ⟨Nat.le_of_ble_eq_true rfl, Nat.le_of_ble_eq_true rfl⟩ (Nat.le_of_ble_eq_true rfl) ⟨Nat.zero_le _, Nat.zero_le _⟩ ⟨rfl, rfl⟩ rfl (fun v10 S9 hw => ?_)
  refine zg_imul (q := 19) C0 dX7_isPrimary_18 rfl ?_
  refine zg_ni (fun y11 ey11 => ?_)
  have hw := hw y11 ey11
  refine zg_istore_n (q := 20) (lv' := [(3, .int y11), (2, .int y8), (0, .ref h0), (1, .int p0)]) C0 dX7_isPrimary_19 (by decide) rfl rfl ?_
  refine zg_iload_n (q := 21) C0 0 dX7_isPrimary_20 rfl rfl ?_
  refine zg_iload_n (q := 22) C0 1 dX7_isPrimary_21 rfl rfl ?_
  refine zg_callSi (q := 25) C0 [.int y8] [.int y11] dX7_isPrimary_22 (fun sz => a_X7_count l D cy Z S9 sz y8 _ hw) rfl gX7_isPrimary_X7_count hdS_X7_count rfl ⟨Nat.le_of_ble_eq_true rfl, Nat.le_of_ble_eq_true rfl⟩ (Nat.le_of_ble_eq_true rfl) ⟨Nat.zero_le _, Nat.zero_le _⟩ ⟨rfl, rfl⟩ rfl (fun v13 S12 hw => ?_)
  refine zg_icmp_gt (q := 28) (tgt := 47) C0 dX7_isPrimary_25 rfl rfl (fun c22 => ?_) (fun c22 => ?_)
  · have hw := hw.1 c22
    refine zg_iconst (q := 48) C0 dX7_isPrimary_47 zc_iconst_1 rfl ?_
    refine zg_goto (tgt := 52) C0 dX7_isPrimary_48 rfl ?_
    exact zg_iret C0 dX7_isPrimary_52 rfl (by decide) (Nat.le_refl 0) (Nat.le_refl 0) hw
  · have hw := hw.2 c22
    refine zg_iload_n (q := 29) C0 0 dX7_isPrimary_28 rfl rfl ?_
    refine zg_iload_n (q := 30) C0 1 dX7_isPrimary_29 rfl rfl ?_
    refine zg_callSi (q := 33) C0 [.int y8] [.int y11] dX7_isPrimary_30 (fun sz => a_X7_count l D cy Z S12 sz y8 _ hw) rfl gX7_isPrimary_X7_count hdS_X7_count rfl ⟨Nat.le_of_ble_eq_true rfl, Nat.le_of_ble_eq_true rfl⟩ (Nat.le_of_ble_eq_true rfl) ⟨Nat.zero_le _, Nat.zero_le _⟩ ⟨rfl, rfl⟩ rfl (fun v15 S14 hw => ?_)
    refine zg_icmp_ne (q := 36) (tgt := 51) C0 dX7_isPrimary_33 rfl rfl (fun c21 => ?_) (fun c21 => ?_)
    · have hw := hw.1 c21
      refine zg_iconst (q := 52) C0 dX7_isPrimary_51 zc_iconst_0 rfl ?_
      exact zg_iret C0 dX7_isPrimary_52 rfl (by decide) (Nat.le_refl 0) (Nat.le_refl 0) hw
    · have hw := hw.2 c21
      refine zg_iload_n (q := 37) C0 3 dX7_isPrimary_36 rfl rfl ?_
      refine zg_iload_n (q := 38) C0 1 dX7_isPrimary_37 rfl rfl ?_
      refine zg_callSi (q := 41) C0 [.int y8] [.int p0] dX7_isPrimary_38 (fun sz => a_X7_least l D cy Z S14 sz y8 _ hw) rfl gX7_isPrimary_X7_least hdS_X7_least rfl ⟨Nat.le_of_ble_eq_true rfl, Nat.le_of_ble_eq_true rfl⟩ (Nat.le_of_ble_eq_true rfl) ⟨Nat.zero_le _, Nat.zero_le _⟩ ⟨rfl, rfl⟩ rfl (fun v17 S16 hw => ?_)
      refine zg_callSi (q := 44) C0 [.int p0, .int v17] [] dX7_isPrimary_41 (fun sz => a_X7_isIn l D cy Z S16 sz p0 v17 _ hw) rfl gX7_isPrimary_X7_isIn hdS_X7_isIn rfl ⟨Nat.le_of_ble_eq_true rfl, Nat.le_of_ble_eq_true rfl⟩ (Nat.le_of_ble_eq_true rfl) ⟨Nat.zero_le _, Nat.zero_le _⟩ ⟨rfl, rfl⟩ rfl (fun v19 S18 hw => ?_)
      refine zg_if_eq (q := 47) (tgt := 51) C0 dX7_isPrimary_44 rfl rfl (fun c20 => ?_) (fun c20 => ?_)
      · have hw := hw.1 c20
        refine zg_iconst (q := 52) C0 dX7_isPrimary_51 zc_iconst_0 rfl ?_
        exact zg_iret C0 dX7_isPrimary_52 rfl (by decide) (Nat.le_refl 0) (Nat.le_refl 0) hw
      · have hw := hw.2 c20
        refine zg_iconst (q := 48) C0 dX7_isPrimary_47 zc_iconst_1 rfl ?_
        refine zg_goto (tgt := 52) C0 dX7_isPrimary_48 rfl ?_
        exact zg_iret C0 dX7_isPrimary_52 rfl (by decide) (Nat.le_refl 0) (Nat.le_refl 0) hw
-- X7_of
abbrev rm_X7_of : Room := { frames := 1, cells := 0, slots := 0, locals := 21 }
theorem hX_X7_of_7 : ∀ w ∈ u_ws RX7 TX7 36, w ∈ wsX7_of := by decide +kernel
theorem hdV_X7_of : yX7_of.cls = RX7 ∧ yX7_of.cls ≠ "java/lang/invoke/MethodHandle" ∧ yX7_of.cls ≠ "java/lang/invoke/VarHandle" ∧ (parseMethodDescriptor yX7_of.desc).map (fun d => d.parameters.length) = some 2 := by decide +kernel
def wb_X7_of_5 (Z : zZ) (x0 : Nat) (x1 : Int32) (x2 : Int32) (Qp : Int32 → zS → Prop) (K : Int32 → zS → Prop) (rec : Int32 → Int32 → zS → Prop) (x3 : Int32) (x4 : Int32) (S : zS) : Prop :=
  zk Z x0 7 ∧ (((zI S x0 1) ≤ x4 → K x3 S) ∧ (¬ (zI S x0 1) ≤ x4 → w_X7_isIn Z x1 x4 S (fun (v3 : Int32) (S2 : zS) => ((v3 = 0 → ∀ y4 : Int32, y4 = x4 + 1 → rec x3 y4 S2) ∧ (¬ v3 = 0 → ∃ b5, zQ Z x0 5 = some b5 ∧ zk Z b5 8 ∧ vp_in x4 (zN Z b5) ∧ ((¬ (zI S2 b5 x4.toNatClampNeg) = x2 → ∀ y9 : Int32, y9 = x4 + 1 → rec x3 y9 S2) ∧ ((zI S2 b5 x4.toNatClampNeg) = x2 → ∀ y10 : Int32, y10 = x3 ||| (1 <<< (x4 &&& 31)) → ∀ y11 : Int32, y11 = x4 + 1 → rec y10 y11 S2)))))))
def wL_X7_of_5 (Z : zZ) (x0 : Nat) (x1 : Int32) (x2 : Int32) (Qp : Int32 → zS → Prop) (K : Int32 → zS → Prop) (x3 : Int32) (x4 : Int32) (S : zS) : Prop := ∃ n, zit3 (wb_X7_of_5 Z x0 x1 x2 Qp K) n x3 x4 S
set_option maxHeartbeats 4000000 in
set_option maxRecDepth 100000 in
theorem ab_X7_of_5 {p : Program} {l : Launch} {e : Env} {s : State} {m : MethodId} {args : Array Value} {below : List Frame} {meth : Method} {c : Code} {D : va_G} {cy : Nat → ClassId} {A : Nat → Prop} {Q : State → Prop} {Z : zZ} (C0 : zC p s m args meth c cX7_of 5 wsX7_of RX7 D cy A (some .int)) {x0 : Nat} {x1 : Int32} {x2 : Int32} {Qp : Int32 → zS → Prop} {K : Int32 → zS → Prop} (hK : ∀ x3 S, K x3 S → zG p l e rm_X7_of s m args below meth c D cy A 5 0 0 Q Z S 51 [(3, .int x3)] []) {rec : Int32 → Int32 → zS → Prop} (hrec : ∀ x3 x4 S, rec x3 x4 S → zG p l e rm_X7_of s m args below meth c D cy A 5 0 0 Q Z S 5 [(0, .ref x0), (1, .int x1), (2, .int x2), (3, .int x3), (4, .int x4)] []) {x3 : Int32} {x4 : Int32} {S : zS} (hw : wb_X7_of_5 Z x0 x1 x2 Qp K rec x3 x4 S) : zG p l e rm_X7_of s m args below meth c D cy A 5 0 0 Q Z S 5 [(0, .ref x0), (1, .int x1), (2, .int x2), (3, .int x3), (4, .int x4)] [] := by
  unfold wb_X7_of_5 at hw
  refine zg_iload (q := 7) C0 4 dX7_of_5 rfl rfl ?_
  refine zg_aload_n (q := 8) C0 0 dX7_of_7 rfl rfl ?_
  obtain ⟨hz1, hw⟩ := hw
  refine zg_get (q := 11) (T := TX7) (k := 1) C0 dX7_of_8 hz1 (zF_7 cy hz1) rfl (by decide) hX_X7_of_7 (zwm (i := 1) rfl) rfl rfl rfl ?_
  refine zg_icmp_ge (q := 14) (tgt := 51) C0 dX7_of_11 rfl rfl (fun c14 => ?_) (fun c14 => ?_)
  · have hw := hw.1 c14
    refine zg_sub [3] rfl ?_
    exact hK _ _ hw
  · have hw := hw.2 c14
    refine zg_iload_n (q := 15) C0 1 dX7_of_14 rfl rfl ?_
    refine zg_iload (q := 17) C0 4 dX7_of_15 rfl rfl ?_
    refine zg_callSi (q := 20) C0 [.int x1, .int x4] [] dX7_of_17 (fun sz => a_X7_isIn l D cy Z S sz x1 x4 _ hw) rfl gX7_of_X7_isIn hdS_X7_isIn rfl ⟨Nat.le_of_ble_eq_true rfl, Nat.le_of_ble_eq_true rfl⟩ (Nat.le_of_ble_eq_true rfl) ⟨Nat.zero_le _, Nat.zero_le _⟩ ⟨rfl, rfl⟩ rfl (fun v3 S2 hw => ?_)
    refine zg_if_eq (q := 23) (tgt := 43) C0 dX7_of_20 rfl rfl (fun c13 => ?_) (fun c13 => ?_)
    · have hw := hw.1 c13
      refine zg_iload_n (q := 44) C0 3 dX7_of_43 rfl rfl ?_
      refine zg_istore_n (q := 45) (lv' := [(3, .int x3), (0, .ref x0), (1, .int x1), (2, .int x2), (4, .int x4)]) C0 dX7_of_44 (by decide) rfl rfl ?_
      refine zg_iinc (q := 48) C0 4 dX7_of_45 rfl (by decide) zc_iconst_1 rfl (fun y4 ey4 => ?_)
      have hw := hw y4 ey4
      refine zg_lv (lv' := [(4, .int y4), (3, .int x3), (0, .ref x0), (1, .int x1), (2, .int x2)]) rfl ?_
      refine zg_goto (tgt := 5) C0 dX7_of_48 rfl ?_
      refine zg_sub [2, 3, 4, 1, 0] rfl ?_
      exact hrec _ _ _ hw
    · have hw := hw.2 c13
      refine zg_aload_n (q := 24) C0 0 dX7_of_23 rfl rfl ?_
      refine zg_get (q := 27) (T := TX7) (k := 5) C0 dX7_of_24 hz1 (zF_7 cy hz1) rfl (by decide) hX_X7_of_7 (zwm (i := 2) rfl) rfl rfl rfl ?_
      obtain ⟨b5, hb6, hw⟩ := hw
      refine zg_nn hb6 ?_
      refine zg_iload (q := 29) C0 4 dX7_of_27 rfl rfl ?_
      obtain ⟨hz7, hw⟩ := hw
      obtain ⟨hi8, hw⟩ := hw
      refine zg_iald (q := 30) C0 dX7_of_29 hz7 hi8 rfl ?_
      refine zg_iload_n (q := 31) C0 2 dX7_of_30 rfl rfl ?_
      refine zg_icmp_ne (q := 34) (tgt := 43) C0 dX7_of_31 rfl rfl (fun c12 => ?_) (fun c12 => ?_)
      · have hw := hw.1 c12
        refine zg_iload_n (q := 44) C0 3 dX7_of_43 rfl rfl ?_
        refine zg_istore_n (q := 45) (lv' := [(3, .int x3), (0, .ref x0), (1, .int x1), (2, .int x2), (4, .int x4)]) C0 dX7_of_44 (by decide) rfl rfl ?_
        refine zg_iinc (q := 48) C0 4 dX7_of_45 rfl (by decide) zc_iconst_1 rfl (fun y9 ey9 => ?_)
        have hw := hw y9 ey9
        refine zg_lv (lv' := [(4, .int y9), (3, .int x3), (0, .ref x0), (1, .int x1), (2, .int x2)]) rfl ?_
        refine zg_goto (tgt := 5) C0 dX7_of_48 rfl ?_
        refine zg_sub [2, 3, 4, 1, 0] rfl ?_
        exact hrec _ _ _ hw
      · have hw := hw.2 c12
        refine zg_iload_n (q := 35) C0 3 dX7_of_34 rfl rfl ?_
        refine zg_iconst (q := 36) C0 dX7_of_35 zc_iconst_1 rfl ?_
        refine zg_iload (q := 38) C0 4 dX7_of_36 rfl rfl ?_
        refine zg_ishl (q := 39) C0 dX7_of_38 rfl ?_
        refine zg_ior (q := 40) C0 dX7_of_39 rfl ?_
        refine zg_goto (tgt := 44) C0 dX7_of_40 rfl ?_
        refine zg_ni (fun y10 ey10 => ?_)
        have hw := hw y10 ey10
        refine zg_istore_n (q := 45) (lv' := [(3, .int y10), (0, .ref x0), (1, .int x1), (2, .int x2), (4, .int x4)]) C0 dX7_of_44 (by decide) rfl rfl ?_
        refine zg_iinc (q := 48) C0 4 dX7_of_45 rfl (by decide) zc_iconst_1 rfl (fun y11 ey11 => ?_)
        have hw := hw y11 ey11
        refine zg_lv (lv' := [(4, .int y11), (3, .int y10), (0, .ref x0), (1, .int x1), (2, .int x2)]) rfl ?_
        refine zg_goto (tgt := 5) C0 dX7_of_48 rfl ?_
        refine zg_sub [2, 3, 4, 1, 0] rfl ?_
        exact hrec _ _ _ hw
theorem aL_X7_of_5 {p : Program} {l : Launch} {e : Env} {s : State} {m : MethodId} {args : Array Value} {below : List Frame} {meth : Method} {c : Code} {D : va_G} {cy : Nat → ClassId} {A : Nat → Prop} {Q : State → Prop} {Z : zZ} (C0 : zC p s m args meth c cX7_of 5 wsX7_of RX7 D cy A (some .int)) {x0 : Nat} {x1 : Int32} {x2 : Int32} {Qp : Int32 → zS → Prop} {K : Int32 → zS → Prop} (hK : ∀ x3 S, K x3 S → zG p l e rm_X7_of s m args below meth c D cy A 5 0 0 Q Z S 51 [(3, .int x3)] []) : ∀ x3 x4 S, wL_X7_of_5 Z x0 x1 x2 Qp K x3 x4 S → zG p l e rm_X7_of s m args below meth c D cy A 5 0 0 Q Z S 5 [(0, .ref x0), (1, .int x1), (2, .int x2), (3, .int x3), (4, .int x4)] [] := by
  intro x3 x4 S hw
  obtain ⟨n, hw⟩ := hw
  induction n generalizing x3 x4 S with
  | zero => exact hw.elim
  | succ n ih => exact ab_X7_of_5 C0 hK (fun x3 x4 S hw => ih x3 x4 S hw) hw
def w_X7_of (Z : zZ) (h0 : Nat) (p0 : Int32) (p1 : Int32) (S : zS) (Qp : Int32 → zS → Prop) : Prop :=
  wL_X7_of_5 Z h0 p0 p1 Qp (fun (v16 : Int32) (S15 : zS) => Qp v16 S15) 0 0 S
set_option maxHeartbeats 4000000 in
set_option maxRecDepth 100000 in
theorem a_X7_of (l : Launch) (D : va_G) (cy : Nat → ClassId) (Z : zZ) (S : zS) (sz : Nat) (h0 : Nat) (p0 : Int32) (p1 : Int32) (Qp : Int32 → zS → Prop) (hw : w_X7_of Z h0 p0 p1 S Qp) : zMi l yX7_of wsX7_of rm_X7_of D cy Z S sz [.ref h0, .int p0, .int p1] Qp := by
  unfold w_X7_of at hw
  refine zMi_of (cc := cX7_of) (maxL := 5) (rt := (some .int)) (by decide +kernel) rfl (Nat.le_of_ble_eq_true rfl) ?_
  intro p e s m args below meth c A C0 _
  refine zg_lv (lv' := [(0, .ref h0), (1, .int p0), (2, .int p1)]) rfl ?_
  refine zg_iconst (q := 1) C0 dX7_of_0 zc_iconst_0 rfl ?_
  refine zg_istore_n (q := 2) (lv' := [(3, .int 0), (0, .ref h0), (1, .int p0), (2, .int p1)]) C0 dX7_of_1 (by decide) rfl rfl ?_
  refine zg_iconst (q := 3) C0 dX7_of_2 zc_iconst_0 rfl ?_
  refine zg_istore (q := 5) (lv' := [(4, .int 0), (3, .int 0), (0, .ref h0), (1, .int p0), (2, .int p1)]) C0 dX7_of_3 (by decide) rfl rfl ?_
  refine zg_sub [2, 3, 4, 1, 0] rfl ?_
  refine aL_X7_of_5 C0 (fun v16 S15 hw => ?_) _ _ _ hw
  refine zg_iload_n (q := 52) C0 0 dX7_of_51 rfl rfl ?_
  exact zg_iret C0 dX7_of_52 rfl rfl (Nat.le_refl 0) (Nat.le_refl 0) hw
-- X7_isBefore
abbrev rm_X7_isBefore : Room := { frames := 2, cells := 0, slots := 0, locals := 42 }
theorem hX_X7_isBefore_7 : ∀ w ∈ u_ws RX7 TX7 36, w ∈ wsX7_isBefore := by decide +kernel
theorem hdV_X7_isBefore : yX7_isBefore.cls = RX7 ∧ yX7_isBefore.cls ≠ "java/lang/invoke/MethodHandle" ∧ yX7_isBefore.cls ≠ "java/lang/invoke/VarHandle" ∧ (parseMethodDescriptor yX7_isBefore.desc).map (fun d => d.parameters.length) = some 2 := by decide +kernel
def w_X7_isBefore (Z : zZ) (h0 : Nat) (p0 : Int32) (p1 : Int32) (S : zS) (Qp : Int32 → zS → Prop) : Prop :=
  zk Z h0 7 ∧ ∃ b2, zQ Z h0 24 = some b2 ∧ zk Z b2 8 ∧ vp_in p0 (zN Z b2) ∧ vp_in p1 (zN Z b2) ∧ (((zI S b2 p0.toNatClampNeg) < (zI S b2 p1.toNatClampNeg) → Qp 1 S) ∧ (¬ (zI S b2 p0.toNatClampNeg) < (zI S b2 p1.toNatClampNeg) → ((¬ (zI S b2 p0.toNatClampNeg) = (zI S b2 p1.toNatClampNeg) → Qp 0 S) ∧ ((zI S b2 p0.toNatClampNeg) = (zI S b2 p1.toNatClampNeg) → ∃ b7, zQ Z h0 25 = some b7 ∧ zk Z b7 8 ∧ vp_in p0 (zN Z b7) ∧ w_X7_least Z (zI S b7 p0.toNatClampNeg) S (fun (v12 : Int32) (S11 : zS) => vp_in p1 (zN Z b7) ∧ w_X7_least Z (zI S11 b7 p1.toNatClampNeg) S11 (fun (v15 : Int32) (S14 : zS) => ((v15 ≤ v12 → Qp 0 S14) ∧ (¬ v15 ≤ v12 → Qp 1 S14))))))))
set_option maxHeartbeats 4000000 in
set_option maxRecDepth 100000 in
theorem a_X7_isBefore (l : Launch) (D : va_G) (cy : Nat → ClassId) (Z : zZ) (S : zS) (sz : Nat) (h0 : Nat) (p0 : Int32) (p1 : Int32) (Qp : Int32 → zS → Prop) (hw : w_X7_isBefore Z h0 p0 p1 S Qp) : zMi l yX7_isBefore wsX7_isBefore rm_X7_isBefore D cy Z S sz [.ref h0, .int p0, .int p1] Qp := by
  unfold w_X7_isBefore at hw
  refine zMi_of (cc := cX7_isBefore) (maxL := 3) (rt := (some .boolean)) (by decide +kernel) rfl (Nat.le_of_ble_eq_true rfl) ?_
  intro p e s m args below meth c A C0 _
  refine zg_lv (lv' := [(0, .ref h0), (1, .int p0), (2, .int p1)]) rfl ?_
  refine zg_aload_n (q := 1) C0 0 dX7_isBefore_0 rfl rfl ?_
  obtain ⟨hz1, hw⟩ := hw
  refine zg_get (q := 4) (T := TX7) (k := 24) C0 dX7_isBefore_1 hz1 (zF_7 cy hz1) rfl (by decide) hX_X7_isBefore_7 (zwm (i := 1) rfl) rfl rfl rfl ?_
  obtain ⟨b2, hb3, hw⟩ := hw
  refine zg_nn hb3 ?_
  refine zg_iload_n (q := 5) C0 1 dX7_isBefore_4 rfl rfl ?_
  obtain ⟨hz4, hw⟩ := hw
  obtain ⟨hi5, hw⟩ := hw
  refine zg_iald (q := 6) C0 dX7_isBefore_5 hz4 hi5 rfl ?_
  refine zg_aload_n (q := 7) C0 0 dX7_isBefore_6 rfl rfl ?_
  refine zg_get (q := 10) (T := TX7) (k := 24) C0 dX7_isBefore_7 hz1 (zF_7 cy hz1) rfl (by decide) hX_X7_isBefore_7 (zwm (i := 1) rfl) rfl rfl rfl ?_
  refine zg_nn hb3 ?_
  refine zg_iload_n (q := 11) C0 2 dX7_isBefore_10 rfl rfl ?_
  obtain ⟨hi6, hw⟩ := hw
  refine zg_iald (q := 12) C0 dX7_isBefore_11 hz4 hi6 rfl ?_
  refine zg_icmp_lt (q := 15) (tgt := 51) C0 dX7_isBefore_12 rfl rfl (fun c18 => ?_) (fun c18 => ?_)
  · have hw := hw.1 c18
    refine zg_iconst (q := 52) C0 dX7_isBefore_51 zc_iconst_1 rfl ?_
    refine zg_goto (tgt := 56) C0 dX7_isBefore_52 rfl ?_
    exact zg_iret C0 dX7_isBefore_56 rfl (by decide) (Nat.le_refl 0) (Nat.le_refl 0) hw
  · have hw := hw.2 c18
    refine zg_aload_n (q := 16) C0 0 dX7_isBefore_15 rfl rfl ?_
    refine zg_get (q := 19) (T := TX7) (k := 24) C0 dX7_isBefore_16 hz1 (zF_7 cy hz1) rfl (by decide) hX_X7_isBefore_7 (zwm (i := 1) rfl) rfl rfl rfl ?_
    refine zg_nn hb3 ?_
    refine zg_iload_n (q := 20) C0 1 dX7_isBefore_19 rfl rfl ?_
    refine zg_iald (q := 21) C0 dX7_isBefore_20 hz4 hi5 rfl ?_
    refine zg_aload_n (q := 22) C0 0 dX7_isBefore_21 rfl rfl ?_
    refine zg_get (q := 25) (T := TX7) (k := 24) C0 dX7_isBefore_22 hz1 (zF_7 cy hz1) rfl (by decide) hX_X7_isBefore_7 (zwm (i := 1) rfl) rfl rfl rfl ?_
    refine zg_nn hb3 ?_
    refine zg_iload_n (q := 26) C0 2 dX7_isBefore_25 rfl rfl ?_
    refine zg_iald (q := 27) C0 dX7_isBefore_26 hz4 hi6 rfl ?_
    refine zg_icmp_ne (q := 30) (tgt := 55) C0 dX7_isBefore_27 rfl rfl (fun c17 => ?_) (fun c17 => ?_)
    · have hw := hw.1 c17
      refine zg_iconst (q := 56) C0 dX7_isBefore_55 zc_iconst_0 rfl ?_
      exact zg_iret C0 dX7_isBefore_56 rfl (by decide) (Nat.le_refl 0) (Nat.le_refl 0) hw
    · have hw := hw.2 c17
      refine zg_aload_n (q := 31) C0 0 dX7_isBefore_30 rfl rfl ?_
      refine zg_get (q := 34) (T := TX7) (k := 25) C0 dX7_isBefore_31 hz1 (zF_7 cy hz1) rfl (by decide) hX_X7_isBefore_7 (zwm (i := 2) rfl) rfl rfl rfl ?_
      obtain ⟨b7, hb8, hw⟩ := hw
      refine zg_nn hb8 ?_
      refine zg_iload_n (q := 35) C0 1 dX7_isBefore_34 rfl rfl ?_
      obtain ⟨hz9, hw⟩ := hw
      obtain ⟨hi10, hw⟩ := hw
      refine zg_iald (q := 36) C0 dX7_isBefore_35 hz9 hi10 rfl ?_
      refine zg_callSi (q := 39) C0 [.int (zI S b7 p0.toNatClampNeg)] [] dX7_isBefore_36 (fun sz => a_X7_least l D cy Z S sz (zI S b7 p0.toNatClampNeg) _ hw) rfl gX7_isBefore_X7_least hdS_X7_least rfl ⟨Nat.le_of_ble_eq_true rfl, Nat.le_of_ble_eq_true rfl⟩ (Nat.le_of_ble_eq_true rfl) ⟨Nat.zero_le _, Nat.zero_le _⟩ ⟨rfl, rfl⟩ rfl (fun v12 S11 hw => ?_)
      refine zg_aload_n (q := 40) C0 0 dX7_isBefore_39 rfl rfl ?_
      refine zg_get (q := 43) (T := TX7) (k := 25) C0 dX7_isBefore_40 hz1 (zF_7 cy hz1) rfl (by decide) hX_X7_isBefore_7 (zwm (i := 2) rfl) rfl rfl rfl ?_
      refine zg_nn hb8 ?_
      refine zg_iload_n (q := 44) C0 2 dX7_isBefore_43 rfl rfl ?_
      obtain ⟨hi13, hw⟩ := hw
      refine zg_iald (q := 45) C0 dX7_isBefore_44 hz9 hi13 rfl ?_
      refine zg_callSi (q := 48) C0 [.int (zI S11 b7 p1.toNatClampNeg)] [.int v12] dX7_isBefore_45 (fun sz => a_X7_least l D cy Z S11 sz (zI S11 b7 p1.toNatClampNeg) _ hw) rfl gX7_isBefore_X7_least hdS_X7_least rfl ⟨Nat.le_of_ble_eq_true rfl, Nat.le_of_ble_eq_true rfl⟩ (Nat.le_of_ble_eq_true rfl) ⟨Nat.zero_le _, Nat.zero_le _⟩ ⟨rfl, rfl⟩ rfl (fun v15 S14 hw => ?_)
      refine zg_icmp_ge (q := 51) (tgt := 55) C0 dX7_isBefore_48 rfl rfl (fun c16 => ?_) (fun c16 => ?_)
      · have hw := hw.1 c16
        refine zg_iconst (q := 56) C0 dX7_isBefore_55 zc_iconst_0 rfl ?_
        exact zg_iret C0 dX7_isBefore_56 rfl (by decide) (Nat.le_refl 0) (Nat.le_refl 0) hw
      · have hw := hw.2 c16
        refine zg_iconst (q := 52) C0 dX7_isBefore_51 zc_iconst_1 rfl ?_
        refine zg_goto (tgt := 56) C0 dX7_isBefore_52 rfl ?_
        exact zg_iret C0 dX7_isBefore_56 rfl (by decide) (Nat.le_refl 0) (Nat.le_refl 0) hw
-- X7_nextRing
abbrev rm_X7_nextRing : Room := { frames := 3, cells := 0, slots := 0, locals := 64 }
theorem hdV_X7_nextRing : yX7_nextRing.cls = RX7 ∧ yX7_nextRing.cls ≠ "java/lang/invoke/MethodHandle" ∧ yX7_nextRing.cls ≠ "java/lang/invoke/VarHandle" ∧ (parseMethodDescriptor yX7_nextRing.desc).map (fun d => d.parameters.length) = some 2 := by decide +kernel
def wJ_X7_nextRing_37 (Z : zZ) (Qp : Int32 → zS → Prop) (K : Int32 → zS → Prop) (rec : Int32 → Int32 → zS → Prop) (x0 : Nat) (x1 : Int32) (x2 : Int32) (x3 : Int32) (x4 : Int32) (S : zS) : Prop :=
  ((x3 = (-1) → ∀ y5 : Int32, y5 = x4 + 1 → rec x4 y5 S) ∧ (¬ x3 = (-1) → zk Z x0 7 ∧ w_X7_isBefore Z x0 x4 x3 S (fun (v8 : Int32) (S7 : zS) => ((v8 = 0 → ∀ y9 : Int32, y9 = x4 + 1 → rec x3 y9 S7) ∧ (¬ v8 = 0 → ∀ y10 : Int32, y10 = x4 + 1 → rec x4 y10 S7)))))
set_option maxHeartbeats 4000000 in
set_option maxRecDepth 100000 in
theorem aJ_X7_nextRing_37 {p : Program} {l : Launch} {e : Env} {s : State} {m : MethodId} {args : Array Value} {below : List Frame} {meth : Method} {c : Code} {D : va_G} {cy : Nat → ClassId} {A : Nat → Prop} {Q : State → Prop} {Z : zZ} (C0 : zC p s m args meth c cX7_nextRing 5 wsX7_nextRing RX7 D cy A (some .int)) {Qp : Int32 → zS → Prop} {x0 : Nat} {x1 : Int32} {x2 : Int32} {x3 : Int32} {x4 : Int32}  {K : Int32 → zS → Prop} {rec : Int32 → Int32 → zS → Prop} (hK : ∀ x3 S, K x3 S → zG p l e rm_X7_nextRing s m args below meth c D cy A 5 0 0 Q Z S 61 [(3, .int x3)] []) (hrec : ∀ x3 x4 S, rec x3 x4 S → zG p l e rm_X7_nextRing s m args below meth c D cy A 5 0 0 Q Z S 5 [(0, .ref x0), (1, .int x1), (2, .int x2), (3, .int x3), (4, .int x4)] []) {S : zS} (hw : wJ_X7_nextRing_37 Z Qp K rec x0 x1 x2 x3 x4 S) : zG p l e rm_X7_nextRing s m args below meth c D cy A 5 0 0 Q Z S 37 [(0, .ref x0), (1, .int x1), (2, .int x2), (3, .int x3), (4, .int x4)] [] := by
  unfold wJ_X7_nextRing_37 at hw
  refine zg_iload_n (q := 38) C0 3 dX7_nextRing_37 rfl rfl ?_
  refine zg_iconst (q := 39) C0 dX7_nextRing_38 zc_iconst_m1 rfl ?_
  refine zg_icmp_eq (q := 42) (tgt := 52) C0 dX7_nextRing_39 rfl rfl (fun c12 => ?_) (fun c12 => ?_)
  · have hw := hw.1 c12
    refine zg_iload (q := 54) C0 4 dX7_nextRing_52 rfl rfl ?_
    refine zg_istore_n (q := 55) (lv' := [(3, .int x4), (0, .ref x0), (1, .int x1), (2, .int x2), (4, .int x4)]) C0 dX7_nextRing_54 (by decide) rfl rfl ?_
    refine zg_iinc (q := 58) C0 4 dX7_nextRing_55 rfl (by decide) zc_iconst_1 rfl (fun y5 ey5 => ?_)
    have hw := hw y5 ey5
    refine zg_lv (lv' := [(4, .int y5), (3, .int x4), (0, .ref x0), (1, .int x1), (2, .int x2)]) rfl ?_
    refine zg_goto (tgt := 5) C0 dX7_nextRing_58 rfl ?_
    refine zg_sub [2, 3, 4, 1, 0] rfl ?_
    exact hrec _ _ _ hw
  · have hw := hw.2 c12
    refine zg_aload_n (q := 43) C0 0 dX7_nextRing_42 rfl rfl ?_
    refine zg_iload (q := 45) C0 4 dX7_nextRing_43 rfl rfl ?_
    refine zg_iload_n (q := 46) C0 3 dX7_nextRing_45 rfl rfl ?_
    obtain ⟨hz6, hw⟩ := hw
    refine zg_callVi (q := 49) C0 [.int x4, .int x3] [] dX7_nextRing_46 (fun sz => a_X7_isBefore l D cy Z S sz x0 x4 x3 _ hw) rfl gX7_nextRing_X7_isBefore hdV_X7_isBefore hz6 (zF_7 cy hz6) rfl rfl ⟨Nat.le_of_ble_eq_true rfl, Nat.le_of_ble_eq_true rfl⟩ (Nat.le_of_ble_eq_true rfl) ⟨Nat.zero_le _, Nat.zero_le _⟩ ⟨rfl, rfl⟩ rfl (fun v8 S7 hw => ?_)
    refine zg_if_eq (q := 52) (tgt := 55) C0 dX7_nextRing_49 rfl rfl (fun c11 => ?_) (fun c11 => ?_)
    · have hw := hw.1 c11
      refine zg_iinc (q := 58) C0 4 dX7_nextRing_55 rfl (by decide) zc_iconst_1 rfl (fun y9 ey9 => ?_)
      have hw := hw y9 ey9
      refine zg_lv (lv' := [(4, .int y9), (0, .ref x0), (1, .int x1), (2, .int x2), (3, .int x3)]) rfl ?_
      refine zg_goto (tgt := 5) C0 dX7_nextRing_58 rfl ?_
      refine zg_sub [1, 2, 3, 4, 0] rfl ?_
      exact hrec _ _ _ hw
    · have hw := hw.2 c11
      refine zg_iload (q := 54) C0 4 dX7_nextRing_52 rfl rfl ?_
      refine zg_istore_n (q := 55) (lv' := [(3, .int x4), (0, .ref x0), (1, .int x1), (2, .int x2), (4, .int x4)]) C0 dX7_nextRing_54 (by decide) rfl rfl ?_
      refine zg_iinc (q := 58) C0 4 dX7_nextRing_55 rfl (by decide) zc_iconst_1 rfl (fun y10 ey10 => ?_)
      have hw := hw y10 ey10
      refine zg_lv (lv' := [(4, .int y10), (3, .int x4), (0, .ref x0), (1, .int x1), (2, .int x2)]) rfl ?_
      refine zg_goto (tgt := 5) C0 dX7_nextRing_58 rfl ?_
      refine zg_sub [2, 3, 4, 1, 0] rfl ?_
      exact hrec _ _ _ hw
def wb_X7_nextRing_5 (Z : zZ) (x0 : Nat) (x1 : Int32) (x2 : Int32) (Qp : Int32 → zS → Prop) (K : Int32 → zS → Prop) (rec : Int32 → Int32 → zS → Prop) (x3 : Int32) (x4 : Int32) (S : zS) : Prop :=
  ((16 ≤ x4 → K x3 S) ∧ (¬ 16 ≤ x4 → zk Z x0 7 ∧ w_X7_of Z x0 x1 x4 S (fun (v3 : Int32) (S2 : zS) => ((v3 = 0 → ∀ y4 : Int32, y4 = x4 + 1 → rec x3 y4 S2) ∧ (¬ v3 = 0 → ((x2 = (-1) → wJ_X7_nextRing_37 Z Qp K rec x0 x1 x2 x3 x4 S2) ∧ (¬ x2 = (-1) → w_X7_isBefore Z x0 x2 x4 S2 (fun (v14 : Int32) (S13 : zS) => ((v14 = 0 → ∀ y15 : Int32, y15 = x4 + 1 → rec x3 y15 S13) ∧ (¬ v14 = 0 → wJ_X7_nextRing_37 Z Qp K rec x0 x1 x2 x3 x4 S13))))))))))
def wL_X7_nextRing_5 (Z : zZ) (x0 : Nat) (x1 : Int32) (x2 : Int32) (Qp : Int32 → zS → Prop) (K : Int32 → zS → Prop) (x3 : Int32) (x4 : Int32) (S : zS) : Prop := ∃ n, zit3 (wb_X7_nextRing_5 Z x0 x1 x2 Qp K) n x3 x4 S
set_option maxHeartbeats 4000000 in
set_option maxRecDepth 100000 in
theorem ab_X7_nextRing_5 {p : Program} {l : Launch} {e : Env} {s : State} {m : MethodId} {args : Array Value} {below : List Frame} {meth : Method} {c : Code} {D : va_G} {cy : Nat → ClassId} {A : Nat → Prop} {Q : State → Prop} {Z : zZ} (C0 : zC p s m args meth c cX7_nextRing 5 wsX7_nextRing RX7 D cy A (some .int)) {x0 : Nat} {x1 : Int32} {x2 : Int32} {Qp : Int32 → zS → Prop} {K : Int32 → zS → Prop} (hK : ∀ x3 S, K x3 S → zG p l e rm_X7_nextRing s m args below meth c D cy A 5 0 0 Q Z S 61 [(3, .int x3)] []) {rec : Int32 → Int32 → zS → Prop} (hrec : ∀ x3 x4 S, rec x3 x4 S → zG p l e rm_X7_nextRing s m args below meth c D cy A 5 0 0 Q Z S 5 [(0, .ref x0), (1, .int x1), (2, .int x2), (3, .int x3), (4, .int x4)] []) {x3 : Int32} {x4 : Int32} {S : zS} (hw : wb_X7_nextRing_5 Z x0 x1 x2 Qp K rec x3 x4 S) : zG p l e rm_X7_nextRing s m args below meth c D cy A 5 0 0 Q Z S 5 [(0, .ref x0), (1, .int x1), (2, .int x2), (3, .int x3), (4, .int x4)] [] := by
  unfold wb_X7_nextRing_5 at hw
  refine zg_iload (q := 7) C0 4 dX7_nextRing_5 rfl rfl ?_
  refine zg_bipush (q := 9) C0 dX7_nextRing_7 zc_bipush_16 rfl ?_
  refine zg_icmp_ge (q := 12) (tgt := 61) C0 dX7_nextRing_9 rfl rfl (fun c19 => ?_) (fun c19 => ?_)
  · have hw := hw.1 c19
    refine zg_sub [3] rfl ?_
    exact hK _ _ hw
  · have hw := hw.2 c19
    refine zg_aload_n (q := 13) C0 0 dX7_nextRing_12 rfl rfl ?_
    refine zg_iload_n (q := 14) C0 1 dX7_nextRing_13 rfl rfl ?_
    refine zg_iload (q := 16) C0 4 dX7_nextRing_14 rfl rfl ?_
    obtain ⟨hz1, hw⟩ := hw
    refine zg_callVi (q := 19) C0 [.int x1, .int x4] [] dX7_nextRing_16 (fun sz => a_X7_of l D cy Z S sz x0 x1 x4 _ hw) rfl gX7_nextRing_X7_of hdV_X7_of hz1 (zF_7 cy hz1) rfl rfl ⟨Nat.le_of_ble_eq_true rfl, Nat.le_of_ble_eq_true rfl⟩ (Nat.le_of_ble_eq_true rfl) ⟨Nat.zero_le _, Nat.zero_le _⟩ ⟨rfl, rfl⟩ rfl (fun v3 S2 hw => ?_)
    refine zg_if_eq (q := 22) (tgt := 55) C0 dX7_nextRing_19 rfl rfl (fun c18 => ?_) (fun c18 => ?_)
    · have hw := hw.1 c18
      refine zg_iinc (q := 58) C0 4 dX7_nextRing_55 rfl (by decide) zc_iconst_1 rfl (fun y4 ey4 => ?_)
      have hw := hw y4 ey4
      refine zg_lv (lv' := [(4, .int y4), (0, .ref x0), (1, .int x1), (2, .int x2), (3, .int x3)]) rfl ?_
      refine zg_goto (tgt := 5) C0 dX7_nextRing_58 rfl ?_
      refine zg_sub [1, 2, 3, 4, 0] rfl ?_
      exact hrec _ _ _ hw
    · have hw := hw.2 c18
      refine zg_iload_n (q := 23) C0 2 dX7_nextRing_22 rfl rfl ?_
      refine zg_iconst (q := 24) C0 dX7_nextRing_23 zc_iconst_m1 rfl ?_
      refine zg_icmp_eq (q := 27) (tgt := 37) C0 dX7_nextRing_24 rfl rfl (fun c17 => ?_) (fun c17 => ?_)
      · have hw := hw.1 c17
        refine zg_sub [0, 1, 2, 3, 4] rfl ?_
        exact aJ_X7_nextRing_37 C0 hK hrec hw
      · have hw := hw.2 c17
        refine zg_aload_n (q := 28) C0 0 dX7_nextRing_27 rfl rfl ?_
        refine zg_iload_n (q := 29) C0 2 dX7_nextRing_28 rfl rfl ?_
        refine zg_iload (q := 31) C0 4 dX7_nextRing_29 rfl rfl ?_
        refine zg_callVi (q := 34) C0 [.int x2, .int x4] [] dX7_nextRing_31 (fun sz => a_X7_isBefore l D cy Z S2 sz x0 x2 x4 _ hw) rfl gX7_nextRing_X7_isBefore hdV_X7_isBefore hz1 (zF_7 cy hz1) rfl rfl ⟨Nat.le_of_ble_eq_true rfl, Nat.le_of_ble_eq_true rfl⟩ (Nat.le_of_ble_eq_true rfl) ⟨Nat.zero_le _, Nat.zero_le _⟩ ⟨rfl, rfl⟩ rfl (fun v14 S13 hw => ?_)
        refine zg_if_eq (q := 37) (tgt := 55) C0 dX7_nextRing_34 rfl rfl (fun c16 => ?_) (fun c16 => ?_)
        · have hw := hw.1 c16
          refine zg_iinc (q := 58) C0 4 dX7_nextRing_55 rfl (by decide) zc_iconst_1 rfl (fun y15 ey15 => ?_)
          have hw := hw y15 ey15
          refine zg_lv (lv' := [(4, .int y15), (0, .ref x0), (1, .int x1), (2, .int x2), (3, .int x3)]) rfl ?_
          refine zg_goto (tgt := 5) C0 dX7_nextRing_58 rfl ?_
          refine zg_sub [1, 2, 3, 4, 0] rfl ?_
          exact hrec _ _ _ hw
        · have hw := hw.2 c16
          refine zg_sub [0, 1, 2, 3, 4] rfl ?_
          exact aJ_X7_nextRing_37 C0 hK hrec hw
theorem aL_X7_nextRing_5 {p : Program} {l : Launch} {e : Env} {s : State} {m : MethodId} {args : Array Value} {below : List Frame} {meth : Method} {c : Code} {D : va_G} {cy : Nat → ClassId} {A : Nat → Prop} {Q : State → Prop} {Z : zZ} (C0 : zC p s m args meth c cX7_nextRing 5 wsX7_nextRing RX7 D cy A (some .int)) {x0 : Nat} {x1 : Int32} {x2 : Int32} {Qp : Int32 → zS → Prop} {K : Int32 → zS → Prop} (hK : ∀ x3 S, K x3 S → zG p l e rm_X7_nextRing s m args below meth c D cy A 5 0 0 Q Z S 61 [(3, .int x3)] []) : ∀ x3 x4 S, wL_X7_nextRing_5 Z x0 x1 x2 Qp K x3 x4 S → zG p l e rm_X7_nextRing s m args below meth c D cy A 5 0 0 Q Z S 5 [(0, .ref x0), (1, .int x1), (2, .int x2), (3, .int x3), (4, .int x4)] [] := by
  intro x3 x4 S hw
  obtain ⟨n, hw⟩ := hw
  induction n generalizing x3 x4 S with
  | zero => exact hw.elim
  | succ n ih => exact ab_X7_nextRing_5 C0 hK (fun x3 x4 S hw => ih x3 x4 S hw) hw
def w_X7_nextRing (Z : zZ) (h0 : Nat) (p0 : Int32) (p1 : Int32) (S : zS) (Qp : Int32 → zS → Prop) : Prop :=
  wL_X7_nextRing_5 Z h0 p0 p1 Qp (fun (v21 : Int32) (S20 : zS) => Qp v21 S20) (-1) 0 S
set_option maxHeartbeats 4000000 in
set_option maxRecDepth 100000 in
theorem a_X7_nextRing (l : Launch) (D : va_G) (cy : Nat → ClassId) (Z : zZ) (S : zS) (sz : Nat) (h0 : Nat) (p0 : Int32) (p1 : Int32) (Qp : Int32 → zS → Prop) (hw : w_X7_nextRing Z h0 p0 p1 S Qp) : zMi l yX7_nextRing wsX7_nextRing rm_X7_nextRing D cy Z S sz [.ref h0, .int p0, .int p1] Qp := by
  unfold w_X7_nextRing at hw
  refine zMi_of (cc := cX7_nextRing) (maxL := 5) (rt := (some .int)) (by decide +kernel) rfl (Nat.le_of_ble_eq_true rfl) ?_
  intro p e s m args below meth c A C0 _
  refine zg_lv (lv' := [(0, .ref h0), (1, .int p0), (2, .int p1)]) rfl ?_
  refine zg_iconst (q := 1) C0 dX7_nextRing_0 zc_iconst_m1 rfl ?_
  refine zg_istore_n (q := 2) (lv' := [(3, .int (-1)), (0, .ref h0), (1, .int p0), (2, .int p1)]) C0 dX7_nextRing_1 (by decide) rfl rfl ?_
  refine zg_iconst (q := 3) C0 dX7_nextRing_2 zc_iconst_0 rfl ?_
  refine zg_istore (q := 5) (lv' := [(4, .int 0), (3, .int (-1)), (0, .ref h0), (1, .int p0), (2, .int p1)]) C0 dX7_nextRing_3 (by decide) rfl rfl ?_
  refine zg_sub [2, 3, 4, 1, 0] rfl ?_
  refine aL_X7_nextRing_5 C0 (fun v21 S20 hw => ?_) _ _ _ hw
  refine zg_iload_n (q := 62) C0 0 dX7_nextRing_61 rfl rfl ?_
  exact zg_iret C0 dX7_nextRing_62 rfl rfl (Nat.le_refl 0) (Nat.le_refl 0) hw
