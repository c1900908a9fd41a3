-- X7_end
abbrev rm_X7_end : Room := { frames := 3, cells := 0, slots := 0, locals := 81 }
theorem hX_X7_end_7 : ∀ w ∈ u_ws RX7 TX7 36, w ∈ wsX7_end := by decide +kernel
theorem hdV_X7_end : yX7_end.cls = RX7 ∧ yX7_end.cls ≠ "java/lang/invoke/MethodHandle" ∧ yX7_end.cls ≠ "java/lang/invoke/VarHandle" ∧ (parseMethodDescriptor yX7_end.desc).map (fun d => d.parameters.length) = some 2 := by decide +kernel
def wb_X7_end_5 (Z : zZ) (x0 : Nat) (x1 : Int32) (x2 : Int32) (Qp : zS → Prop) (K : Int32 → zS → Prop) (rec : Int32 → Int32 → zS → Prop) (x3 : Int32) (x4 : Int32) (S : zS) : Prop :=
  zk Z x0 7 ∧ (((zI S x0 1) ≤ x4 → K x3 S) ∧ (¬ (zI S x0 1) ≤ x4 → w_X7_isIn Z x2 x4 S (fun (v3 : Int32) (S2 : zS) => ((v3 = 0 → ∀ y4 : Int32, y4 = x4 + 1 → rec x3 y4 S2) ∧ (¬ v3 = 0 → ∃ b5, zQ Z x0 17 = some b5 ∧ zk Z b5 8 ∧ vp_in x4 (zN Z b5) ∧ (((zI S2 b5 x4.toNatClampNeg) ≤ x3 → ∀ y9 : Int32, y9 = x4 + 1 → rec x3 y9 S2) ∧ (¬ (zI S2 b5 x4.toNatClampNeg) ≤ x3 → ∀ y10 : Int32, y10 = zI S2 b5 x4.toNatClampNeg → ∀ y11 : Int32, y11 = x4 + 1 → rec y10 y11 S2)))))))
def wL_X7_end_5 (Z : zZ) (x0 : Nat) (x1 : Int32) (x2 : Int32) (Qp : zS → Prop) (K : Int32 → zS → Prop) (x3 : Int32) (x4 : Int32) (S : zS) : Prop := ∃ n, zit3 (wb_X7_end_5 Z x0 x1 x2 Qp K) n x3 x4 S
set_option maxHeartbeats 4000000 in
set_option maxRecDepth 100000 in
theorem ab_X7_end_5 {p : Program} {l : Launch} {e : Env} {s : State} {m : MethodId} {args : Array Value} {below : List Frame} {meth : Method} {c : Code} {D : va_G} {cy : Nat → ClassId} {A : Nat → Prop} {Q : State → Prop} {Z : zZ} (C0 : zC p s m args meth c cX7_end 9 wsX7_end RX7 D cy A none) {x0 : Nat} {x1 : Int32} {x2 : Int32} {Qp : zS → Prop} {K : Int32 → zS → Prop} (hK : ∀ x3 S, K x3 S → zG p l e rm_X7_end s m args below meth c D cy A 9 0 0 Q Z S 52 [(0, .ref x0), (1, .int x1), (2, .int x2), (3, .int x3)] []) {rec : Int32 → Int32 → zS → Prop} (hrec : ∀ x3 x4 S, rec x3 x4 S → zG p l e rm_X7_end s m args below meth c D cy A 9 0 0 Q Z S 5 [(0, .ref x0), (1, .int x1), (2, .int x2), (3, .int x3), (4, .int x4)] []) {x3 : Int32} {x4 : Int32} {S : zS} (hw : wb_X7_end_5 Z x0 x1 x2 Qp K rec x3 x4 S) : zG p l e rm_X7_end s m args below meth c D cy A 9 0 0 Q Z S 5 [(0, .ref x0), (1, .int x1), (2, .int x2), (3, .int x3), (4, .int x4)] [] := by
  unfold wb_X7_end_5 at hw
  refine zg_iload (q := 7) C0 4 dX7_end_5 rfl rfl ?_
  refine zg_aload_n (q := 8) C0 0 dX7_end_7 rfl rfl ?_
  obtain ⟨hz1, hw⟩ := hw
  refine zg_get (q := 11) (T := TX7) (k := 1) C0 dX7_end_8 hz1 (zF_7 cy hz1) rfl (by decide) hX_X7_end_7 (zwm (i := 1) rfl) rfl rfl rfl ?_
  refine zg_icmp_ge (q := 14) (tgt := 52) C0 dX7_end_11 rfl rfl (fun c14 => ?_) (fun c14 => ?_)
  · have hw := hw.1 c14
    refine zg_sub [0, 1, 2, 3] rfl ?_
    exact hK _ _ hw
  · have hw := hw.2 c14
    refine zg_iload_n (q := 15) C0 2 dX7_end_14 rfl rfl ?_
    refine zg_iload (q := 17) C0 4 dX7_end_15 rfl rfl ?_
    refine zg_callSi (q := 20) C0 [.int x2, .int x4] [] dX7_end_17 (fun sz => a_X7_isIn l D cy Z S sz x2 x4 _ hw) rfl gX7_end_X7_isIn hdS_X7_isIn rfl ⟨Nat.le_of_ble_eq_true rfl, Nat.le_of_ble_eq_true rfl⟩ (Nat.le_of_ble_eq_true rfl) ⟨Nat.zero_le _, Nat.zero_le _⟩ ⟨rfl, rfl⟩ rfl (fun v3 S2 hw => ?_)
    refine zg_if_eq (q := 23) (tgt := 44) C0 dX7_end_20 rfl rfl (fun c13 => ?_) (fun c13 => ?_)
    · have hw := hw.1 c13
      refine zg_iload_n (q := 45) C0 3 dX7_end_44 rfl rfl ?_
      refine zg_istore_n (q := 46) (lv' := [(3, .int x3), (0, .ref x0), (1, .int x1), (2, .int x2), (4, .int x4)]) C0 dX7_end_45 (by decide) rfl rfl ?_
      refine zg_iinc (q := 49) C0 4 dX7_end_46 rfl (by decide) zc_iconst_1 rfl (fun y4 ey4 => ?_)
      have hw := hw y4 ey4
      refine zg_lv (lv' := [(4, .int y4), (3, .int x3), (0, .ref x0), (1, .int x1), (2, .int x2)]) rfl ?_
      refine zg_goto (tgt := 5) C0 dX7_end_49 rfl ?_
      refine zg_sub [2, 3, 4, 1, 0] rfl ?_
      exact hrec _ _ _ hw
    · have hw := hw.2 c13
      refine zg_aload_n (q := 24) C0 0 dX7_end_23 rfl rfl ?_
      refine zg_get (q := 27) (T := TX7) (k := 17) C0 dX7_end_24 hz1 (zF_7 cy hz1) rfl (by decide) hX_X7_end_7 (zwm (i := 2) rfl) rfl rfl rfl ?_
      obtain ⟨b5, hb6, hw⟩ := hw
      refine zg_nn hb6 ?_
      refine zg_iload (q := 29) C0 4 dX7_end_27 rfl rfl ?_
      obtain ⟨hz7, hw⟩ := hw
      obtain ⟨hi8, hw⟩ := hw
      refine zg_iald (q := 30) C0 dX7_end_29 hz7 hi8 rfl ?_
      refine zg_iload_n (q := 31) C0 3 dX7_end_30 rfl rfl ?_
      refine zg_icmp_le (q := 34) (tgt := 44) C0 dX7_end_31 rfl rfl (fun c12 => ?_) (fun c12 => ?_)
      · have hw := hw.1 c12
        refine zg_iload_n (q := 45) C0 3 dX7_end_44 rfl rfl ?_
        refine zg_istore_n (q := 46) (lv' := [(3, .int x3), (0, .ref x0), (1, .int x1), (2, .int x2), (4, .int x4)]) C0 dX7_end_45 (by decide) rfl rfl ?_
        refine zg_iinc (q := 49) C0 4 dX7_end_46 rfl (by decide) zc_iconst_1 rfl (fun y9 ey9 => ?_)
        have hw := hw y9 ey9
        refine zg_lv (lv' := [(4, .int y9), (3, .int x3), (0, .ref x0), (1, .int x1), (2, .int x2)]) rfl ?_
        refine zg_goto (tgt := 5) C0 dX7_end_49 rfl ?_
        refine zg_sub [2, 3, 4, 1, 0] rfl ?_
        exact hrec _ _ _ hw
      · have hw := hw.2 c12
        refine zg_aload_n (q := 35) C0 0 dX7_end_34 rfl rfl ?_
        refine zg_get (q := 38) (T := TX7) (k := 17) C0 dX7_end_35 hz1 (zF_7 cy hz1) rfl (by decide) hX_X7_end_7 (zwm (i := 2) rfl) rfl rfl rfl ?_
        refine zg_nn hb6 ?_
        refine zg_iload (q := 40) C0 4 dX7_end_38 rfl rfl ?_
        refine zg_iald (q := 41) C0 dX7_end_40 hz7 hi8 rfl ?_
        refine zg_goto (tgt := 45) C0 dX7_end_41 rfl ?_
        refine zg_ni (fun y10 ey10 => ?_)
        have hw := hw y10 ey10
        refine zg_istore_n (q := 46) (lv' := [(3, .int y10), (0, .ref x0), (1, .int x1), (2, .int x2), (4, .int x4)]) C0 dX7_end_45 (by decide) rfl rfl ?_
        refine zg_iinc (q := 49) C0 4 dX7_end_46 rfl (by decide) zc_iconst_1 rfl (fun y11 ey11 => ?_)
        have hw := hw y11 ey11
        refine zg_lv (lv' := [(4, .int y11), (3, .int y10), (0, .ref x0), (1, .int x1), (2, .int x2)]) rfl ?_
        refine zg_goto (tgt := 5) C0 dX7_end_49 rfl ?_
        refine zg_sub [2, 3, 4, 1, 0] rfl ?_
        exact hrec _ _ _ hw
theorem aL_X7_end_5 {p : Program} {l : Launch} {e : Env} {s : State} {m : MethodId} {args : Array Value} {below : List Frame} {meth : Method} {c : Code} {D : va_G} {cy : Nat → ClassId} {A : Nat → Prop} {Q : State → Prop} {Z : zZ} (C0 : zC p s m args meth c cX7_end 9 wsX7_end RX7 D cy A none) {x0 : Nat} {x1 : Int32} {x2 : Int32} {Qp : zS → Prop} {K : Int32 → zS → Prop} (hK : ∀ x3 S, K x3 S → zG p l e rm_X7_end s m args below meth c D cy A 9 0 0 Q Z S 52 [(0, .ref x0), (1, .int x1), (2, .int x2), (3, .int x3)] []) : ∀ x3 x4 S, wL_X7_end_5 Z x0 x1 x2 Qp K x3 x4 S → zG p l e rm_X7_end s m args below meth c D cy A 9 0 0 Q Z S 5 [(0, .ref x0), (1, .int x1), (2, .int x2), (3, .int x3), (4, .int x4)] [] := by
  intro x3 x4 S hw
  obtain ⟨n, hw⟩ := hw
  induction n generalizing x3 x4 S with
  | zero => exact hw.elim
  | succ n ih => exact ab_X7_end_5 C0 hK (fun x3 x4 S hw => ih x3 x4 S hw) hw
def wb_X7_end_92 (Z : zZ) (x0 : Nat) (x1 : Int32) (x2 : Int32) (x3 : Int32) (x4 : Int32) (x5 : Int32) (Qp : zS → Prop) (K : zS → Prop) (rec : Int32 → zS → Prop) (x6 : Int32) (S : zS) : Prop :=
  zk Z x0 7 ∧ (((zI S x0 1) ≤ x6 → K S) ∧ (¬ (zI S x0 1) ≤ x6 → ((x5 = 0 → K S) ∧ (¬ x5 = 0 → w_X7_isIn Z x2 x6 S (fun (v30 : Int32) (S29 : zS) => ((v30 = 0 → ∀ y31 : Int32, y31 = x6 + 1 → rec y31 S29) ∧ (¬ v30 = 0 → w_X7_gets Z x0 x6 x4 S29 (fun (S32 : zS) => ∀ y33 : Int32, y33 = x6 + 1 → rec y33 S32))))))))
def wL_X7_end_92 (Z : zZ) (x0 : Nat) (x1 : Int32) (x2 : Int32) (x3 : Int32) (x4 : Int32) (x5 : Int32) (Qp : zS → Prop) (K : zS → Prop) (x6 : Int32) (S : zS) : Prop := ∃ n, zit2 (wb_X7_end_92 Z x0 x1 x2 x3 x4 x5 Qp K) n x6 S
set_option maxHeartbeats 4000000 in
set_option maxRecDepth 100000 in
theorem ab_X7_end_92 {p : Program} {l : Launch} {e : Env} {s : State} {m : MethodId} {args : Array Value} {below : List Frame} {meth : Method} {c : Code} {D : va_G} {cy : Nat → ClassId} {A : Nat → Prop} {Q : State → Prop} {Z : zZ} (C0 : zC p s m args meth c cX7_end 9 wsX7_end RX7 D cy A none) {x0 : Nat} {x1 : Int32} {x2 : Int32} {x3 : Int32} {x4 : Int32} {x5 : Int32} {Qp : zS → Prop} {K : zS → Prop} (hK : ∀  S, K  S → zG p l e rm_X7_end s m args below meth c D cy A 9 0 0 Q Z S 129 [(0, .ref x0), (1, .int x1), (2, .int x2), (3, .int x3), (4, .int x4)] []) {rec : Int32 → zS → Prop} (hrec : ∀ x6 S, rec x6 S → zG p l e rm_X7_end s m args below meth c D cy A 9 0 0 Q Z S 92 [(0, .ref x0), (1, .int x1), (2, .int x2), (3, .int x3), (4, .int x4), (5, .int x5), (6, .int x6)] []) {x6 : Int32} {S : zS} (hw : wb_X7_end_92 Z x0 x1 x2 x3 x4 x5 Qp K rec x6 S) : zG p l e rm_X7_end s m args below meth c D cy A 9 0 0 Q Z S 92 [(0, .ref x0), (1, .int x1), (2, .int x2), (3, .int x3), (4, .int x4), (5, .int x5), (6, .int x6)] [] := by
  unfold wb_X7_end_92 at hw
  refine zg_iload (q := 94) C0 6 dX7_end_92 rfl rfl ?_
  refine zg_aload_n (q := 95) C0 0 dX7_end_94 rfl rfl ?_
  obtain ⟨hz28, hw⟩ := hw
  refine zg_get (q := 98) (T := TX7) (k := 1) C0 dX7_end_95 hz28 (zF_7 cy hz28) rfl (by decide) hX_X7_end_7 (zwm (i := 1) rfl) rfl rfl rfl ?_
  refine zg_icmp_ge (q := 101) (tgt := 129) C0 dX7_end_98 rfl rfl (fun c36 => ?_) (fun c36 => ?_)
  · have hw := hw.1 c36
    refine zg_sub [0, 1, 2, 3, 4] rfl ?_
    exact hK  _ hw
  · have hw := hw.2 c36
    refine zg_iload (q := 103) C0 5 dX7_end_101 rfl rfl ?_
    refine zg_if_eq (q := 106) (tgt := 129) C0 dX7_end_103 rfl rfl (fun c35 => ?_) (fun c35 => ?_)
    · have hw := hw.1 c35
      refine zg_sub [0, 1, 2, 3, 4] rfl ?_
      exact hK  _ hw
    · have hw := hw.2 c35
      refine zg_iload_n (q := 107) C0 2 dX7_end_106 rfl rfl ?_
      refine zg_iload (q := 109) C0 6 dX7_end_107 rfl rfl ?_
      refine zg_callSi (q := 112) C0 [.int x2, .int x6] [] dX7_end_109 (fun sz => a_X7_isIn l D cy Z S sz x2 x6 _ hw) rfl gX7_end_X7_isIn hdS_X7_isIn rfl ⟨Nat.le_of_ble_eq_true rfl, Nat.le_of_ble_eq_true rfl⟩ (Nat.le_of_ble_eq_true rfl) ⟨Nat.zero_le _, Nat.zero_le _⟩ ⟨rfl, rfl⟩ rfl (fun v30 S29 hw => ?_)
      refine zg_if_eq (q := 115) (tgt := 123) C0 dX7_end_112 rfl rfl (fun c34 => ?_) (fun c34 => ?_)
      · have hw := hw.1 c34
        refine zg_iinc (q := 126) C0 6 dX7_end_123 rfl (by decide) zc_iconst_1 rfl (fun y31 ey31 => ?_)
        have hw := hw y31 ey31
        refine zg_lv (lv' := [(6, .int y31), (0, .ref x0), (1, .int x1), (2, .int x2), (3, .int x3), (4, .int x4), (5, .int x5)]) rfl ?_
        refine zg_goto (tgt := 92) C0 dX7_end_126 rfl ?_
        refine zg_sub [1, 2, 3, 4, 5, 6, 0] rfl ?_
        exact hrec _ _ hw
      · have hw := hw.2 c34
        refine zg_aload_n (q := 116) C0 0 dX7_end_115 rfl rfl ?_
        refine zg_iload (q := 118) C0 6 dX7_end_116 rfl rfl ?_
        refine zg_iload (q := 120) C0 4 dX7_end_118 rfl rfl ?_
        refine zg_callVv (q := 123) C0 [.int x6, .int x4] [] dX7_end_120 (fun sz => a_X7_gets l D cy Z S29 sz x0 x6 x4 _ hw) rfl gX7_end_X7_gets hdV_X7_gets hz28 (zF_7 cy hz28) rfl rfl ⟨Nat.le_of_ble_eq_true rfl, Nat.le_of_ble_eq_true rfl⟩ (Nat.le_of_ble_eq_true rfl) ⟨Nat.zero_le _, Nat.zero_le _⟩ ⟨rfl, rfl⟩ rfl (fun S32 hw => ?_)
        refine zg_iinc (q := 126) C0 6 dX7_end_123 rfl (by decide) zc_iconst_1 rfl (fun y33 ey33 => ?_)
        have hw := hw y33 ey33
        refine zg_lv (lv' := [(6, .int y33), (0, .ref x0), (1, .int x1), (2, .int x2), (3, .int x3), (4, .int x4), (5, .int x5)]) rfl ?_
        refine zg_goto (tgt := 92) C0 dX7_end_126 rfl ?_
        refine zg_sub [1, 2, 3, 4, 5, 6, 0] rfl ?_
        exact hrec _ _ hw
theorem aL_X7_end_92 {p : Program} {l : Launch} {e : Env} {s : State} {m : MethodId} {args : Array Value} {below : List Frame} {meth : Method} {c : Code} {D : va_G} {cy : Nat → ClassId} {A : Nat → Prop} {Q : State → Prop} {Z : zZ} (C0 : zC p s m args meth c cX7_end 9 wsX7_end RX7 D cy A none) {x0 : Nat} {x1 : Int32} {x2 : Int32} {x3 : Int32} {x4 : Int32} {x5 : Int32} {Qp : zS → Prop} {K : zS → Prop} (hK : ∀  S, K  S → zG p l e rm_X7_end s m args below meth c D cy A 9 0 0 Q Z S 129 [(0, .ref x0), (1, .int x1), (2, .int x2), (3, .int x3), (4, .int x4)] []) : ∀ x6 S, wL_X7_end_92 Z x0 x1 x2 x3 x4 x5 Qp K x6 S → zG p l e rm_X7_end s m args below meth c D cy A 9 0 0 Q Z S 92 [(0, .ref x0), (1, .int x1), (2, .int x2), (3, .int x3), (4, .int x4), (5, .int x5), (6, .int x6)] [] := by
  intro x6 S hw
  obtain ⟨n, hw⟩ := hw
  induction n generalizing x6 S with
  | zero => exact hw.elim
  | succ n ih => exact ab_X7_end_92 C0 hK (fun x6 S hw => ih x6 S hw) hw
def wb_X7_end_55 (Z : zZ) (x0 : Nat) (x1 : Int32) (x2 : Int32) (x3 : Int32) (Qp : zS → Prop) (K : zS → Prop) (rec : Int32 → zS → Prop) (x4 : Int32) (S : zS) : Prop :=
  zk Z x0 7 ∧ ∃ b18, zQ Z x0 28 = some b18 ∧ zk Z b18 8 ∧ vp_in x1 (zN Z b18) ∧ (((zI S b18 x1.toNatClampNeg) < x4 → K S) ∧ (¬ (zI S b18 x1.toNatClampNeg) < x4 → ∃ b22, zQ Z x0 33 = some b22 ∧ w_X7_place Z x1 x4 S (fun (v25 : Int32) (S24 : zS) => zk Z b22 8 ∧ vp_in v25 (zN Z b22) ∧ ((((zI S24 b22 v25.toNatClampNeg) &&& x2) = 0 → wL_X7_end_92 Z x0 x1 x2 x3 x4 0 Qp (fun  (S37 : zS) => ∀ y38 : Int32, y38 = x4 + 1 → rec y38 S37) 0 S24) ∧ (¬ ((zI S24 b22 v25.toNatClampNeg) &&& x2) = 0 → wL_X7_end_92 Z x0 x1 x2 x3 x4 1 Qp (fun  (S39 : zS) => ∀ y40 : Int32, y40 = x4 + 1 → rec y40 S39) 0 S24)))))
def wL_X7_end_55 (Z : zZ) (x0 : Nat) (x1 : Int32) (x2 : Int32) (x3 : Int32) (Qp : zS → Prop) (K : zS → Prop) (x4 : Int32) (S : zS) : Prop := ∃ n, zit2 (wb_X7_end_55 Z x0 x1 x2 x3 Qp K) n x4 S
set_option maxHeartbeats 4000000 in
set_option maxRecDepth 100000 in
theorem ab_X7_end_55 {p : Program} {l : Launch} {e : Env} {s : State} {m : MethodId} {args : Array Value} {below : List Frame} {meth : Method} {c : Code} {D : va_G} {cy : Nat → ClassId} {A : Nat → Prop} {Q : State → Prop} {Z : zZ} (C0 : zC p s m args meth c cX7_end 9 wsX7_end RX7 D cy A none) {x0 : Nat} {x1 : Int32} {x2 : Int32} {x3 : Int32} {Qp : zS → Prop} {K : zS → Prop} (hK : ∀  S, K  S → zG p l e rm_X7_end s m args below meth c D cy A 9 0 0 Q Z S 135 [(0, .ref x0), (1, .int x1), (2, .int x2), (3, .int x3)] []) {rec : Int32 → zS → Prop} (hrec : ∀ x4 S, rec x4 S → zG p l e rm_X7_end s m args below meth c D cy A 9 0 0 Q Z S 55 [(0, .ref x0), (1, .int x1), (2, .int x2), (3, .int x3), (4, .int x4)] []) {x4 : Int32} {S : zS} (hw : wb_X7_end_55 Z x0 x1 x2 x3 Qp K rec x4 S) : zG p l e rm_X7_end s m args below meth c D cy A 9 0 0 Q Z S 55 [(0, .ref x0), (1, .int x1), (2, .int x2), (3, .int x3), (4, .int x4)] [] := by
  unfold wb_X7_end_55 at hw
  refine zg_iload (q := 57) C0 4 dX7_end_55 rfl rfl ?_
  refine zg_aload_n (q := 58) C0 0 dX7_end_57 rfl rfl ?_
  obtain ⟨hz17, hw⟩ := hw
  refine zg_get (q := 61) (T := TX7) (k := 28) C0 dX7_end_58 hz17 (zF_7 cy hz17) rfl (by decide) hX_X7_end_7 (zwm (i := 3) rfl) rfl rfl rfl ?_
  obtain ⟨b18, hb19, hw⟩ := hw
  refine zg_nn hb19 ?_
  refine zg_iload_n (q := 62) C0 1 dX7_end_61 rfl rfl ?_
  obtain ⟨hz20, hw⟩ := hw
  obtain ⟨hi21, hw⟩ := hw
  refine zg_iald (q := 63) C0 dX7_end_62 hz20 hi21 rfl ?_
  refine zg_icmp_gt (q := 66) (tgt := 135) C0 dX7_end_63 rfl rfl (fun c42 => ?_) (fun c42 => ?_)
  · have hw := hw.1 c42
    refine zg_sub [0, 1, 2, 3] rfl ?_
    exact hK  _ hw
  · have hw := hw.2 c42
    refine zg_aload_n (q := 67) C0 0 dX7_end_66 rfl rfl ?_
    refine zg_get (q := 70) (T := TX7) (k := 33) C0 dX7_end_67 hz17 (zF_7 cy hz17) rfl (by decide) hX_X7_end_7 (zwm (i := 4) rfl) rfl rfl rfl ?_
    obtain ⟨b22, hb23, hw⟩ := hw
    refine zg_nn hb23 ?_
    refine zg_iload_n (q := 71) C0 1 dX7_end_70 rfl rfl ?_
    refine zg_iload (q := 73) C0 4 dX7_end_71 rfl rfl ?_
    refine zg_callSi (q := 76) C0 [.int x1, .int x4] [.ref b22] dX7_end_73 (fun sz => a_X7_place l D cy Z S sz x1 x4 _ hw) rfl gX7_end_X7_place hdS_X7_place rfl ⟨Nat.le_of_ble_eq_true rfl, Nat.le_of_ble_eq_true rfl⟩ (Nat.le_of_ble_eq_true rfl) ⟨Nat.zero_le _, Nat.zero_le _⟩ ⟨rfl, rfl⟩ rfl (fun v25 S24 hw => ?_)
    obtain ⟨hz26, hw⟩ := hw
    obtain ⟨hi27, hw⟩ := hw
    refine zg_iald (q := 77) C0 dX7_end_76 hz26 hi27 rfl ?_
    refine zg_iload_n (q := 78) C0 2 dX7_end_77 rfl rfl ?_
    refine zg_iand (q := 79) C0 dX7_end_78 rfl ?_
    refine zg_if_eq (q := 82) (tgt := 86) C0 dX7_end_79 rfl rfl (fun c41 => ?_) (fun c41 => ?_)
    · have hw := hw.1 c41
      refine zg_iconst (q := 87) C0 dX7_end_86 zc_iconst_0 rfl ?_
      refine zg_istore (q := 89) (lv' := [(5, .int 0), (0, .ref x0), (1, .int x1), (2, .int x2), (3, .int x3), (4, .int x4)]) C0 dX7_end_87 (by decide) rfl rfl ?_
      refine zg_iconst (q := 90) C0 dX7_end_89 zc_iconst_0 rfl ?_
      refine zg_istore (q := 92) (lv' := [(6, .int 0), (5, .int 0), (0, .ref x0), (1, .int x1), (2, .int x2), (3, .int x3), (4, .int x4)]) C0 dX7_end_90 (by decide) rfl rfl ?_
      refine zg_sub [2, 3, 4, 5, 6, 1, 0] rfl ?_
      refine aL_X7_end_92 C0 (fun  S37 hw => ?_) _ _ hw
      refine zg_iinc (q := 132) C0 4 dX7_end_129 rfl (by decide) zc_iconst_1 rfl (fun y38 ey38 => ?_)
      have hw := hw y38 ey38
      refine zg_lv (lv' := [(4, .int y38), (0, .ref x0), (1, .int x1), (2, .int x2), (3, .int x3)]) rfl ?_
      refine zg_goto (tgt := 55) C0 dX7_end_132 rfl ?_
      refine zg_sub [1, 2, 3, 4, 0] rfl ?_
      exact hrec _ _ hw
    · have hw := hw.2 c41
      refine zg_iconst (q := 83) C0 dX7_end_82 zc_iconst_1 rfl ?_
      refine zg_goto (tgt := 87) C0 dX7_end_83 rfl ?_
      refine zg_istore (q := 89) (lv' := [(5, .int 1), (0, .ref x0), (1, .int x1), (2, .int x2), (3, .int x3), (4, .int x4)]) C0 dX7_end_87 (by decide) rfl rfl ?_
      refine zg_iconst (q := 90) C0 dX7_end_89 zc_iconst_0 rfl ?_
      refine zg_istore (q := 92) (lv' := [(6, .int 0), (5, .int 1), (0, .ref x0), (1, .int x1), (2, .int x2), (3, .int x3), (4, .int x4)]) C0 dX7_end_90 (by decide) rfl rfl ?_
      refine zg_sub [2, 3, 4, 5, 6, 1, 0] rfl ?_
      refine aL_X7_end_92 C0 (fun  S39 hw => ?_) _ _ hw
      refine zg_iinc (q := 132) C0 4 dX7_end_129 rfl (by decide) zc_iconst_1 rfl (fun y40 ey40 => ?_)
      have hw := hw y40 ey40
      refine zg_lv (lv' := [(4, .int y40), (0, .ref x0), (1, .int x1), (2, .int x2), (3, .int x3)]) rfl ?_
      refine zg_goto (tgt := 55) C0 dX7_end_132 rfl ?_
      refine zg_sub [1, 2, 3, 4, 0] rfl ?_
      exact hrec _ _ hw
theorem aL_X7_end_55 {p : Program} {l : Launch} {e : Env} {s : State} {m : MethodId} {args : Array Value} {below : List Frame} {meth : Method} {c : Code} {D : va_G} {cy : Nat → ClassId} {A : Nat → Prop} {Q : State → Prop} {Z : zZ} (C0 : zC p s m args meth c cX7_end 9 wsX7_end RX7 D cy A none) {x0 : Nat} {x1 : Int32} {x2 : Int32} {x3 : Int32} {Qp : zS → Prop} {K : zS → Prop} (hK : ∀  S, K  S → zG p l e rm_X7_end s m args below meth c D cy A 9 0 0 Q Z S 135 [(0, .ref x0), (1, .int x1), (2, .int x2), (3, .int x3)] []) : ∀ x4 S, wL_X7_end_55 Z x0 x1 x2 x3 Qp K x4 S → zG p l e rm_X7_end s m args below meth c D cy A 9 0 0 Q Z S 55 [(0, .ref x0), (1, .int x1), (2, .int x2), (3, .int x3), (4, .int x4)] [] := by
  intro x4 S hw
  obtain ⟨n, hw⟩ := hw
  induction n generalizing x4 S with
  | zero => exact hw.elim
  | succ n ih => exact ab_X7_end_55 C0 hK (fun x4 S hw => ih x4 S hw) hw
def wJ_X7_end_273 (Z : zZ) (Qp : zS → Prop) (K : zS → Prop) (rec : Int32 → Int32 → zS → Prop) (x0 : Nat) (x1 : Int32) (x2 : Int32) (x3 : Int32) (x4 : Int32) (x6 : Int32) (x7 : Int32) (S : zS) : Prop :=
  zk Z x0 7 ∧ w_X7_deliver Z x0 x4 x7 0 S (fun (S74 : zS) => ∀ y75 : Int32, y75 = x7 + 1 → rec x6 y75 S74)
set_option maxHeartbeats 4000000 in
set_option maxRecDepth 100000 in
theorem aJ_X7_end_273 {p : Program} {l : Launch} {e : Env} {s : State} {m : MethodId} {args : Array Value} {below : List Frame} {meth : Method} {c : Code} {D : va_G} {cy : Nat → ClassId} {A : Nat → Prop} {Q : State → Prop} {Z : zZ} (C0 : zC p s m args meth c cX7_end 9 wsX7_end RX7 D cy A none) {Qp : zS → Prop} {x0 : Nat} {x1 : Int32} {x2 : Int32} {x3 : Int32} {x4 : Int32} {x6 : Int32} {x7 : Int32}  {K : zS → Prop} {rec : Int32 → Int32 → zS → Prop} (hK : ∀  S, K  S → zG p l e rm_X7_end s m args below meth c D cy A 9 0 0 Q Z S 288 [(0, .ref x0), (1, .int x1), (2, .int x2), (3, .int x3), (4, .int x4)] []) (hrec : ∀ x6 x7 S, rec x6 x7 S → zG p l e rm_X7_end s m args below meth c D cy A 9 0 0 Q Z S 207 [(0, .ref x0), (1, .int x1), (2, .int x2), (3, .int x3), (4, .int x4), (6, .int x6), (7, .int x7)] []) {S : zS} (hw : wJ_X7_end_273 Z Qp K rec x0 x1 x2 x3 x4 x6 x7 S) : zG p l e rm_X7_end s m args below meth c D cy A 9 0 0 Q Z S 273 [(0, .ref x0), (1, .int x1), (2, .int x2), (3, .int x3), (4, .int x4), (6, .int x6), (7, .int x7)] [] := by
  unfold wJ_X7_end_273 at hw
  refine zg_aload_n (q := 274) C0 0 dX7_end_273 rfl rfl ?_
  refine zg_iload (q := 276) C0 4 dX7_end_274 rfl rfl ?_
  refine zg_iload (q := 278) C0 6 dX7_end_276 rfl rfl ?_
  refine zg_iconst (q := 279) C0 dX7_end_278 zc_iconst_0 rfl ?_
  obtain ⟨hz73, hw⟩ := hw
  refine zg_callVv (q := 282) C0 [.int x4, .int x7, .int 0] [] dX7_end_279 (fun sz => a_X7_deliver l D cy Z S sz x0 x4 x7 0 _ hw) rfl gX7_end_X7_deliver hdV_X7_deliver hz73 (zF_7 cy hz73) rfl rfl ⟨Nat.le_of_ble_eq_true rfl, Nat.le_of_ble_eq_true rfl⟩ (Nat.le_of_ble_eq_true rfl) ⟨Nat.zero_le _, Nat.zero_le _⟩ ⟨rfl, rfl⟩ rfl (fun S74 hw => ?_)
  refine zg_iinc (q := 285) C0 6 dX7_end_282 rfl (by decide) zc_iconst_1 rfl (fun y75 ey75 => ?_)
  have hw := hw y75 ey75
  refine zg_lv (lv' := [(7, .int y75), (0, .ref x0), (1, .int x1), (2, .int x2), (3, .int x3), (4, .int x4), (6, .int x6)]) rfl ?_
  refine zg_goto (tgt := 207) C0 dX7_end_285 rfl ?_
  refine zg_sub [1, 2, 3, 4, 5, 6, 0] rfl ?_
  exact hrec _ _ _ hw
def wJ_X7_end_243 (Z : zZ) (Qp : zS → Prop) (K : zS → Prop) (rec : Int32 → Int32 → zS → Prop) (x0 : Nat) (x1 : Int32) (x2 : Int32) (x3 : Int32) (x4 : Int32) (x7 : Int32) (x8 : Int32) (t0 : Int32) (S : zS) : Prop :=
  ((x8 = 0 → ∀ y72 : Int32, y72 = x7 + 1 → rec t0 y72 S) ∧ (¬ x8 = 0 → ((t0 = 0 → wJ_X7_end_273 Z Qp K rec x0 x1 x2 x3 x4 t0 x7 S) ∧ (¬ t0 = 0 → zk Z x0 7 ∧ ∃ b77, zQ Z x0 29 = some b77 ∧ w_X7_place Z x1 x7 S (fun (v80 : Int32) (S79 : zS) => zk Z b77 8 ∧ vp_in v80 (zN Z b77) ∧ w_X7_isIn Z x2 (zI S79 b77 v80.toNatClampNeg) S79 (fun (v84 : Int32) (S83 : zS) => ((v84 = 0 → ∀ y85 : Int32, y85 = x7 + 1 → rec t0 y85 S83) ∧ (¬ v84 = 0 → wJ_X7_end_273 Z Qp K rec x0 x1 x2 x3 x4 t0 x7 S83))))))))
set_option maxHeartbeats 4000000 in
set_option maxRecDepth 100000 in
theorem aJ_X7_end_243 {p : Program} {l : Launch} {e : Env} {s : State} {m : MethodId} {args : Array Value} {below : List Frame} {meth : Method} {c : Code} {D : va_G} {cy : Nat → ClassId} {A : Nat → Prop} {Q : State → Prop} {Z : zZ} (C0 : zC p s m args meth c cX7_end 9 wsX7_end RX7 D cy A none) {Qp : zS → Prop} {x0 : Nat} {x1 : Int32} {x2 : Int32} {x3 : Int32} {x4 : Int32} {x7 : Int32} {x8 : Int32} {t0 : Int32}  {K : zS → Prop} {rec : Int32 → Int32 → zS → Prop} (hK : ∀  S, K  S → zG p l e rm_X7_end s m args below meth c D cy A 9 0 0 Q Z S 288 [(0, .ref x0), (1, .int x1), (2, .int x2), (3, .int x3), (4, .int x4)] []) (hrec : ∀ x6 x7 S, rec x6 x7 S → zG p l e rm_X7_end s m args below meth c D cy A 9 0 0 Q Z S 207 [(0, .ref x0), (1, .int x1), (2, .int x2), (3, .int x3), (4, .int x4), (6, .int x6), (7, .int x7)] []) {S : zS} (hw : wJ_X7_end_243 Z Qp K rec x0 x1 x2 x3 x4 x7 x8 t0 S) : zG p l e rm_X7_end s m args below meth c D cy A 9 0 0 Q Z S 243 [(0, .ref x0), (1, .int x1), (2, .int x2), (3, .int x3), (4, .int x4), (7, .int x7), (8, .int x8)] [.int t0] := by
  unfold wJ_X7_end_243 at hw
  refine zg_istore (q := 245) (lv' := [(6, .int t0), (0, .ref x0), (1, .int x1), (2, .int x2), (3, .int x3), (4, .int x4), (7, .int x7), (8, .int x8)]) C0 dX7_end_243 (by decide) rfl rfl ?_
  refine zg_iload (q := 247) C0 7 dX7_end_245 rfl rfl ?_
  refine zg_if_eq (q := 250) (tgt := 282) C0 dX7_end_247 rfl rfl (fun c88 => ?_) (fun c88 => ?_)
  · have hw := hw.1 c88
    refine zg_iinc (q := 285) C0 6 dX7_end_282 rfl (by decide) zc_iconst_1 rfl (fun y72 ey72 => ?_)
    have hw := hw y72 ey72
    refine zg_lv (lv' := [(7, .int y72), (6, .int t0), (0, .ref x0), (1, .int x1), (2, .int x2), (3, .int x3), (4, .int x4), (8, .int x8)]) rfl ?_
    refine zg_goto (tgt := 207) C0 dX7_end_285 rfl ?_
    refine zg_sub [2, 3, 4, 5, 6, 1, 0] rfl ?_
    exact hrec _ _ _ hw
  · have hw := hw.2 c88
    refine zg_iload (q := 252) C0 0 dX7_end_250 rfl rfl ?_
    refine zg_if_eq (q := 255) (tgt := 273) C0 dX7_end_252 rfl rfl (fun c87 => ?_) (fun c87 => ?_)
    · have hw := hw.1 c87
      refine zg_sub [1, 2, 3, 4, 5, 0, 6] rfl ?_
      exact aJ_X7_end_273 C0 hK hrec hw
    · have hw := hw.2 c87
      refine zg_iload_n (q := 256) C0 3 dX7_end_255 rfl rfl ?_
      refine zg_aload_n (q := 257) C0 1 dX7_end_256 rfl rfl ?_
      obtain ⟨hz76, hw⟩ := hw
      refine zg_get (q := 260) (T := TX7) (k := 29) C0 dX7_end_257 hz76 (zF_7 cy hz76) rfl (by decide) hX_X7_end_7 (zwm (i := 8) rfl) rfl rfl rfl ?_
      obtain ⟨b77, hb78, hw⟩ := hw
      refine zg_nn hb78 ?_
      refine zg_iload_n (q := 261) C0 2 dX7_end_260 rfl rfl ?_
      refine zg_iload (q := 263) C0 6 dX7_end_261 rfl rfl ?_
      refine zg_callSi (q := 266) C0 [.int x1, .int x7] [.ref b77, .int x2] dX7_end_263 (fun sz => a_X7_place l D cy Z S sz x1 x7 _ hw) rfl gX7_end_X7_place hdS_X7_place rfl ⟨Nat.le_of_ble_eq_true rfl, Nat.le_of_ble_eq_true rfl⟩ (Nat.le_of_ble_eq_true rfl) ⟨Nat.zero_le _, Nat.zero_le _⟩ ⟨rfl, rfl⟩ rfl (fun v80 S79 hw => ?_)
      obtain ⟨hz81, hw⟩ := hw
      obtain ⟨hi82, hw⟩ := hw
      refine zg_iald (q := 267) C0 dX7_end_266 hz81 hi82 rfl ?_
      refine zg_callSi (q := 270) C0 [.int x2, .int (zI S79 b77 v80.toNatClampNeg)] [] dX7_end_267 (fun sz => a_X7_isIn l D cy Z S79 sz x2 (zI S79 b77 v80.toNatClampNeg) _ hw) rfl gX7_end_X7_isIn hdS_X7_isIn rfl ⟨Nat.le_of_ble_eq_true rfl, Nat.le_of_ble_eq_true rfl⟩ (Nat.le_of_ble_eq_true rfl) ⟨Nat.zero_le _, Nat.zero_le _⟩ ⟨rfl, rfl⟩ rfl (fun v84 S83 hw => ?_)
      refine zg_if_eq (q := 273) (tgt := 282) C0 dX7_end_270 rfl rfl (fun c86 => ?_) (fun c86 => ?_)
      · have hw := hw.1 c86
        refine zg_iinc (q := 285) C0 6 dX7_end_282 rfl (by decide) zc_iconst_1 rfl (fun y85 ey85 => ?_)
        have hw := hw y85 ey85
        refine zg_lv (lv' := [(7, .int y85), (6, .int t0), (0, .ref x0), (1, .int x1), (2, .int x2), (3, .int x3), (4, .int x4), (8, .int x8)]) rfl ?_
        refine zg_goto (tgt := 207) C0 dX7_end_285 rfl ?_
        refine zg_sub [2, 3, 4, 5, 6, 1, 0] rfl ?_
        exact hrec _ _ _ hw
      · have hw := hw.2 c86
        refine zg_sub [1, 2, 3, 4, 5, 0, 6] rfl ?_
        exact aJ_X7_end_273 C0 hK hrec hw
def wJ_X7_end_238 (Z : zZ) (Qp : zS → Prop) (K : zS → Prop) (rec : Int32 → Int32 → zS → Prop) (x0 : Nat) (x1 : Int32) (x2 : Int32) (x3 : Int32) (x4 : Int32) (x7 : Int32) (x8 : Int32) (S : zS) : Prop :=
  wJ_X7_end_243 Z Qp K rec x0 x1 x2 x3 x4 x7 x8 1 S
set_option maxHeartbeats 4000000 in
set_option maxRecDepth 100000 in
theorem aJ_X7_end_238 {p : Program} {l : Launch} {e : Env} {s : State} {m : MethodId} {args : Array Value} {below : List Frame} {meth : Method} {c : Code} {D : va_G} {cy : Nat → ClassId} {A : Nat → Prop} {Q : State → Prop} {Z : zZ} (C0 : zC p s m args meth c cX7_end 9 wsX7_end RX7 D cy A none) {Qp : zS → Prop} {x0 : Nat} {x1 : Int32} {x2 : Int32} {x3 : Int32} {x4 : Int32} {x7 : Int32} {x8 : Int32}  {K : zS → Prop} {rec : Int32 → Int32 → zS → Prop} (hK : ∀  S, K  S → zG p l e rm_X7_end s m args below meth c D cy A 9 0 0 Q Z S 288 [(0, .ref x0), (1, .int x1), (2, .int x2), (3, .int x3), (4, .int x4)] []) (hrec : ∀ x6 x7 S, rec x6 x7 S → zG p l e rm_X7_end s m args below meth c D cy A 9 0 0 Q Z S 207 [(0, .ref x0), (1, .int x1), (2, .int x2), (3, .int x3), (4, .int x4), (6, .int x6), (7, .int x7)] []) {S : zS} (hw : wJ_X7_end_238 Z Qp K rec x0 x1 x2 x3 x4 x7 x8 S) : zG p l e rm_X7_end s m args below meth c D cy A 9 0 0 Q Z S 238 [(0, .ref x0), (1, .int x1), (2, .int x2), (3, .int x3), (4, .int x4), (7, .int x7), (8, .int x8)] [] := by
  unfold wJ_X7_end_238 at hw
  refine zg_iconst (q := 239) C0 dX7_end_238 zc_iconst_1 rfl ?_
  refine zg_goto (tgt := 243) C0 dX7_end_239 rfl ?_
  refine zg_sub [0, 1, 2, 3, 4, 5, 6] rfl ?_
  exact aJ_X7_end_243 C0 hK hrec hw
def wb_X7_end_207 (Z : zZ) (x0 : Nat) (x1 : Int32) (x2 : Int32) (x3 : Int32) (x4 : Int32) (Qp : zS → Prop) (K : zS → Prop) (rec : Int32 → Int32 → zS → Prop) (x6 : Int32) (x7 : Int32) (S : zS) : Prop :=
  zk Z x0 7 ∧ ∃ b66, zQ Z x0 28 = some b66 ∧ zk Z b66 8 ∧ vp_in x1 (zN Z b66) ∧ (((zI S b66 x1.toNatClampNeg) < x7 → K S) ∧ (¬ (zI S b66 x1.toNatClampNeg) < x7 → w_X7_hasPlace Z x0 x4 x7 S (fun (v71 : Int32) (S70 : zS) => ((¬ x6 = 0 → wJ_X7_end_238 Z Qp K rec x0 x1 x2 x3 x4 x7 v71 S70) ∧ (x6 = 0 → ((¬ v71 = 0 → wJ_X7_end_243 Z Qp K rec x0 x1 x2 x3 x4 x7 v71 0 S70) ∧ (v71 = 0 → wJ_X7_end_238 Z Qp K rec x0 x1 x2 x3 x4 x7 v71 S70)))))))
def wL_X7_end_207 (Z : zZ) (x0 : Nat) (x1 : Int32) (x2 : Int32) (x3 : Int32) (x4 : Int32) (Qp : zS → Prop) (K : zS → Prop) (x6 : Int32) (x7 : Int32) (S : zS) : Prop := ∃ n, zit3 (wb_X7_end_207 Z x0 x1 x2 x3 x4 Qp K) n x6 x7 S
set_option maxHeartbeats 4000000 in
set_option maxRecDepth 100000 in
theorem ab_X7_end_207 {p : Program} {l : Launch} {e : Env} {s : State} {m : MethodId} {args : Array Value} {below : List Frame} {meth : Method} {c : Code} {D : va_G} {cy : Nat → ClassId} {A : Nat → Prop} {Q : State → Prop} {Z : zZ} (C0 : zC p s m args meth c cX7_end 9 wsX7_end RX7 D cy A none) {x0 : Nat} {x1 : Int32} {x2 : Int32} {x3 : Int32} {x4 : Int32} {Qp : zS → Prop} {K : zS → Prop} (hK : ∀  S, K  S → zG p l e rm_X7_end s m args below meth c D cy A 9 0 0 Q Z S 288 [(0, .ref x0), (1, .int x1), (2, .int x2), (3, .int x3), (4, .int x4)] []) {rec : Int32 → Int32 → zS → Prop} (hrec : ∀ x6 x7 S, rec x6 x7 S → zG p l e rm_X7_end s m args below meth c D cy A 9 0 0 Q Z S 207 [(0, .ref x0), (1, .int x1), (2, .int x2), (3, .int x3), (4, .int x4), (6, .int x6), (7, .int x7)] []) {x6 : Int32} {x7 : Int32} {S : zS} (hw : wb_X7_end_207 Z x0 x1 x2 x3 x4 Qp K rec x6 x7 S) : zG p l e rm_X7_end s m args below meth c D cy A 9 0 0 Q Z S 207 [(0, .ref x0), (1, .int x1), (2, .int x2), (3, .int x3), (4, .int x4), (6, .int x6), (7, .int x7)] [] := by
  unfold wb_X7_end_207 at hw
  refine zg_iload (q := 209) C0 6 dX7_end_207 rfl rfl ?_
  refine zg_aload_n (q := 210) C0 0 dX7_end_209 rfl rfl ?_
  obtain ⟨hz65, hw⟩ := hw
  refine zg_get (q := 213) (T := TX7) (k := 28) C0 dX7_end_210 hz65 (zF_7 cy hz65) rfl (by decide) hX_X7_end_7 (zwm (i := 3) rfl) rfl rfl rfl ?_
  obtain ⟨b66, hb67, hw⟩ := hw
  refine zg_nn hb67 ?_
  refine zg_iload_n (q := 214) C0 1 dX7_end_213 rfl rfl ?_
  obtain ⟨hz68, hw⟩ := hw
  obtain ⟨hi69, hw⟩ := hw
  refine zg_iald (q := 215) C0 dX7_end_214 hz68 hi69 rfl ?_
  refine zg_icmp_gt (q := 218) (tgt := 288) C0 dX7_end_215 rfl rfl (fun c91 => ?_) (fun c91 => ?_)
  · have hw := hw.1 c91
    refine zg_sub [0, 1, 2, 3, 4] rfl ?_
    exact hK  _ hw
  · have hw := hw.2 c91
    refine zg_aload_n (q := 219) C0 0 dX7_end_218 rfl rfl ?_
    refine zg_iload (q := 221) C0 4 dX7_end_219 rfl rfl ?_
    refine zg_iload (q := 223) C0 6 dX7_end_221 rfl rfl ?_
    refine zg_callVi (q := 226) C0 [.int x4, .int x7] [] dX7_end_223 (fun sz => a_X7_hasPlace l D cy Z S sz x0 x4 x7 _ hw) rfl gX7_end_X7_hasPlace hdV_X7_hasPlace hz65 (zF_7 cy hz65) rfl rfl ⟨Nat.le_of_ble_eq_true rfl, Nat.le_of_ble_eq_true rfl⟩ (Nat.le_of_ble_eq_true rfl) ⟨Nat.zero_le _, Nat.zero_le _⟩ ⟨rfl, rfl⟩ rfl (fun v71 S70 hw => ?_)
    refine zg_istore (q := 228) (lv' := [(8, .int v71), (0, .ref x0), (1, .int x1), (2, .int x2), (3, .int x3), (4, .int x4), (6, .int x6), (7, .int x7)]) C0 dX7_end_226 (by decide) rfl rfl ?_
    refine zg_iload (q := 230) C0 6 dX7_end_228 rfl rfl ?_
    refine zg_if_ne (q := 233) (tgt := 238) C0 dX7_end_230 rfl rfl (fun c90 => ?_) (fun c90 => ?_)
    · have hw := hw.1 c90
      refine zg_sub [1, 2, 3, 4, 5, 7, 0] rfl ?_
      exact aJ_X7_end_238 C0 hK hrec hw
    · have hw := hw.2 c90
      refine zg_iload (q := 235) C0 0 dX7_end_233 rfl rfl ?_
      refine zg_if_ne (q := 238) (tgt := 242) C0 dX7_end_235 rfl rfl (fun c89 => ?_) (fun c89 => ?_)
      · have hw := hw.1 c89
        refine zg_iconst (q := 243) C0 dX7_end_242 zc_iconst_0 rfl ?_
        refine zg_sub [1, 2, 3, 4, 5, 7, 0] rfl ?_
        exact aJ_X7_end_243 C0 hK hrec hw
      · have hw := hw.2 c89
        refine zg_sub [1, 2, 3, 4, 5, 7, 0] rfl ?_
        exact aJ_X7_end_238 C0 hK hrec hw
theorem aL_X7_end_207 {p : Program} {l : Launch} {e : Env} {s : State} {m : MethodId} {args : Array Value} {below : List Frame} {meth : Method} {c : Code} {D : va_G} {cy : Nat → ClassId} {A : Nat → Prop} {Q : State → Prop} {Z : zZ} (C0 : zC p s m args meth c cX7_end 9 wsX7_end RX7 D cy A none) {x0 : Nat} {x1 : Int32} {x2 : Int32} {x3 : Int32} {x4 : Int32} {Qp : zS → Prop} {K : zS → Prop} (hK : ∀  S, K  S → zG p l e rm_X7_end s m args below meth c D cy A 9 0 0 Q Z S 288 [(0, .ref x0), (1, .int x1), (2, .int x2), (3, .int x3), (4, .int x4)] []) : ∀ x6 x7 S, wL_X7_end_207 Z x0 x1 x2 x3 x4 Qp K x6 x7 S → zG p l e rm_X7_end s m args below meth c D cy A 9 0 0 Q Z S 207 [(0, .ref x0), (1, .int x1), (2, .int x2), (3, .int x3), (4, .int x4), (6, .int x6), (7, .int x7)] [] := by
  intro x6 x7 S hw
  obtain ⟨n, hw⟩ := hw
  induction n generalizing x6 x7 S with
  | zero => exact hw.elim
  | succ n ih => exact ab_X7_end_207 C0 hK (fun x6 x7 S hw => ih x6 x7 S hw) hw
def wb_X7_end_138 (Z : zZ) (x0 : Nat) (x1 : Int32) (x2 : Int32) (x3 : Int32) (Qp : zS → Prop) (K : zS → Prop) (rec : Int32 → zS → Prop) (x4 : Int32) (S : zS) : Prop :=
  zk Z x0 7 ∧ (((zI S x0 1) ≤ x4 → K S) ∧ (¬ (zI S x0 1) ≤ x4 → w_X7_isIn Z x2 x4 S (fun (v46 : Int32) (S45 : zS) => ((v46 = 0 → ∀ y47 : Int32, y47 = x4 + 1 → rec y47 S45) ∧ (¬ v46 = 0 → ∃ b48, zQ Z x0 17 = some b48 ∧ zk Z b48 8 ∧ vp_in x4 (zN Z b48) ∧ ∀ S52 : zS, S52 = zsI S45 b48 x4.toNatClampNeg x3 → w_X7_deliverAll Z x0 x4 S52 (fun (v54 : Int32) (S53 : zS) => ∃ b55, zQ Z x0 24 = some b55 ∧ zk Z b55 8 ∧ vp_in x1 (zN Z b55) ∧ w_X7_tell Z x0 x4 2 ((x2 : Int32).toInt64) 0 0 0 ((zI S53 b55 x1.toNatClampNeg : Int32).toInt64) S53 (fun (S59 : zS) => ∃ b60, zQ Z x0 16 = some b60 ∧ zk Z b60 8 ∧ vp_in x4 (zN Z b60) ∧ ∀ y64 : Int32, y64 = (zI S59 b60 x4.toNatClampNeg) + 1 → wL_X7_end_207 Z x0 x1 x2 x3 x4 Qp (fun  (S92 : zS) => ∀ y93 : Int32, y93 = x4 + 1 → rec y93 S92) 0 y64 S59)))))))
def wL_X7_end_138 (Z : zZ) (x0 : Nat) (x1 : Int32) (x2 : Int32) (x3 : Int32) (Qp : zS → Prop) (K : zS → Prop) (x4 : Int32) (S : zS) : Prop := ∃ n, zit2 (wb_X7_end_138 Z x0 x1 x2 x3 Qp K) n x4 S
set_option maxHeartbeats 4000000 in
set_option maxRecDepth 100000 in
theorem ab_X7_end_138 {p : Program} {l : Launch} {e : Env} {s : State} {m : MethodId} {args : Array Value} {below : List Frame} {meth : Method} {c : Code} {D : va_G} {cy : Nat → ClassId} {A : Nat → Prop} {Q : State → Prop} {Z : zZ} (C0 : zC p s m args meth c cX7_end 9 wsX7_end RX7 D cy A none) {x0 : Nat} {x1 : Int32} {x2 : Int32} {x3 : Int32} {Qp : zS → Prop} {K : zS → Prop} (hK : ∀  S, K  S → zG p l e rm_X7_end s m args below meth c D cy A 9 0 0 Q Z S 294 [] []) {rec : Int32 → zS → Prop} (hrec : ∀ x4 S, rec x4 S → zG p l e rm_X7_end s m args below meth c D cy A 9 0 0 Q Z S 138 [(0, .ref x0), (1, .int x1), (2, .int x2), (3, .int x3), (4, .int x4)] []) {x4 : Int32} {S : zS} (hw : wb_X7_end_138 Z x0 x1 x2 x3 Qp K rec x4 S) : zG p l e rm_X7_end s m args below meth c D cy A 9 0 0 Q Z S 138 [(0, .ref x0), (1, .int x1), (2, .int x2), (3, .int x3), (4, .int x4)] [] := by
  unfold wb_X7_end_138 at hw
  refine zg_iload (q := 140) C0 4 dX7_end_138 rfl rfl ?_
  refine zg_aload_n (q := 141) C0 0 dX7_end_140 rfl rfl ?_
  obtain ⟨hz44, hw⟩ := hw
  refine zg_get (q := 144) (T := TX7) (k := 1) C0 dX7_end_141 hz44 (zF_7 cy hz44) rfl (by decide) hX_X7_end_7 (zwm (i := 1) rfl) rfl rfl rfl ?_
  refine zg_icmp_ge (q := 147) (tgt := 294) C0 dX7_end_144 rfl rfl (fun c95 => ?_) (fun c95 => ?_)
  · have hw := hw.1 c95
    refine zg_sub [] rfl ?_
    exact hK  _ hw
  · have hw := hw.2 c95
    refine zg_iload_n (q := 148) C0 2 dX7_end_147 rfl rfl ?_
    refine zg_iload (q := 150) C0 4 dX7_end_148 rfl rfl ?_
    refine zg_callSi (q := 153) C0 [.int x2, .int x4] [] dX7_end_150 (fun sz => a_X7_isIn l D cy Z S sz x2 x4 _ hw) rfl gX7_end_X7_isIn hdS_X7_isIn rfl ⟨Nat.le_of_ble_eq_true rfl, Nat.le_of_ble_eq_true rfl⟩ (Nat.le_of_ble_eq_true rfl) ⟨Nat.zero_le _, Nat.zero_le _⟩ ⟨rfl, rfl⟩ rfl (fun v46 S45 hw => ?_)
    refine zg_if_eq (q := 156) (tgt := 288) C0 dX7_end_153 rfl rfl (fun c94 => ?_) (fun c94 => ?_)
    · have hw := hw.1 c94
      refine zg_iinc (q := 291) C0 4 dX7_end_288 rfl (by decide) zc_iconst_1 rfl (fun y47 ey47 => ?_)
      have hw := hw y47 ey47
      refine zg_lv (lv' := [(4, .int y47), (0, .ref x0), (1, .int x1), (2, .int x2), (3, .int x3)]) rfl ?_
      refine zg_goto (tgt := 138) C0 dX7_end_291 rfl ?_
      refine zg_sub [1, 2, 3, 4, 0] rfl ?_
      exact hrec _ _ hw
    · have hw := hw.2 c94
      refine zg_aload_n (q := 157) C0 0 dX7_end_156 rfl rfl ?_
      refine zg_get (q := 160) (T := TX7) (k := 17) C0 dX7_end_157 hz44 (zF_7 cy hz44) rfl (by decide) hX_X7_end_7 (zwm (i := 2) rfl) rfl rfl rfl ?_
      obtain ⟨b48, hb49, hw⟩ := hw
      refine zg_nn hb49 ?_
      refine zg_iload (q := 162) C0 4 dX7_end_160 rfl rfl ?_
      refine zg_iload_n (q := 163) C0 3 dX7_end_162 rfl rfl ?_
      obtain ⟨hz50, hw⟩ := hw
      obtain ⟨hi51, hw⟩ := hw
      refine zg_iast (q := 164) C0 dX7_end_163 hz50 hi51 rfl (fun S52 eS52 => ?_)
      have hw := hw S52 eS52
      refine zg_aload_n (q := 165) C0 0 dX7_end_164 rfl rfl ?_
      refine zg_iload (q := 167) C0 4 dX7_end_165 rfl rfl ?_
      refine zg_callVi (q := 170) C0 [.int x4] [] dX7_end_167 (fun sz => a_X7_deliverAll l D cy Z S52 sz x0 x4 _ hw) rfl gX7_end_X7_deliverAll hdV_X7_deliverAll hz44 (zF_7 cy hz44) rfl rfl ⟨Nat.le_of_ble_eq_true rfl, Nat.le_of_ble_eq_true rfl⟩ (Nat.le_of_ble_eq_true rfl) ⟨Nat.zero_le _, Nat.zero_le _⟩ ⟨rfl, rfl⟩ rfl (fun v54 S53 hw => ?_)
      refine zg_istore (q := 172) (lv' := [(5, .int v54), (0, .ref x0), (1, .int x1), (2, .int x2), (3, .int x3), (4, .int x4)]) C0 dX7_end_170 (by decide) rfl rfl ?_
      refine zg_aload_n (q := 173) C0 1 dX7_end_172 rfl rfl ?_
      refine zg_iload (q := 175) C0 5 dX7_end_173 rfl rfl ?_
      refine zg_ldc2 (q := 178) (v := 2) C0 dX7_end_175 (zwm (i := 5) rfl) rfl ?_
      refine zg_iload_n (q := 179) C0 3 dX7_end_178 rfl rfl ?_
      refine zg_i2l (q := 180) C0 dX7_end_179 rfl ?_
      refine zg_lconst (q := 181) (v := 0) C0 dX7_end_180 (by decide) rfl ?_
      refine zg_lconst (q := 182) (v := 0) C0 dX7_end_181 (by decide) rfl ?_
      refine zg_lconst (q := 183) (v := 0) C0 dX7_end_182 (by decide) rfl ?_
      refine zg_aload_n (q := 184) C0 1 dX7_end_183 rfl rfl ?_
      refine zg_get (q := 187) (T := TX7) (k := 24) C0 dX7_end_184 hz44 (zF_7 cy hz44) rfl (by decide) hX_X7_end_7 (zwm (i := 6) rfl) rfl rfl rfl ?_
      obtain ⟨b55, hb56, hw⟩ := hw
      refine zg_nn hb56 ?_
      refine zg_iload_n (q := 188) C0 2 dX7_end_187 rfl rfl ?_
      obtain ⟨hz57, hw⟩ := hw
      obtain ⟨hi58, hw⟩ := hw
      refine zg_iald (q := 189) C0 dX7_end_188 hz57 hi58 rfl ?_
      refine zg_i2l (q := 190) C0 dX7_end_189 rfl ?_
      refine zg_callVv (q := 193) C0 [.int x4, .long 2, .long ((x2 : Int32).toInt64), .long 0, .long 0, .long 0, .long ((zI S53 b55 x1.toNatClampNeg : Int32).toInt64)] [] dX7_end_190 (fun sz => a_X7_tell l D cy Z S53 sz x0 x4 2 ((x2 : Int32).toInt64) 0 0 0 ((zI S53 b55 x1.toNatClampNeg : Int32).toInt64) _ hw) rfl gX7_end_X7_tell hdV_X7_tell hz44 (zF_7 cy hz44) rfl rfl ⟨Nat.le_of_ble_eq_true rfl, Nat.le_of_ble_eq_true rfl⟩ (Nat.le_of_ble_eq_true rfl) ⟨Nat.zero_le _, Nat.zero_le _⟩ ⟨rfl, rfl⟩ rfl (fun S59 hw => ?_)
      refine zg_iconst (q := 194) C0 dX7_end_193 zc_iconst_0 rfl ?_
      refine zg_istore (q := 196) (lv' := [(6, .int 0), (5, .int v54), (0, .ref x0), (1, .int x1), (2, .int x2), (3, .int x3), (4, .int x4)]) C0 dX7_end_194 (by decide) rfl rfl ?_
      refine zg_aload_n (q := 197) C0 2 dX7_end_196 rfl rfl ?_
      refine zg_get (q := 200) (T := TX7) (k := 16) C0 dX7_end_197 hz44 (zF_7 cy hz44) rfl (by decide) hX_X7_end_7 (zwm (i := 7) rfl) rfl rfl rfl ?_
      obtain ⟨b60, hb61, hw⟩ := hw
      refine zg_nn hb61 ?_
      refine zg_iload (q := 202) C0 6 dX7_end_200 rfl rfl ?_
      obtain ⟨hz62, hw⟩ := hw
      obtain ⟨hi63, hw⟩ := hw
      refine zg_iald (q := 203) C0 dX7_end_202 hz62 hi63 rfl ?_
      refine zg_iconst (q := 204) C0 dX7_end_203 zc_iconst_1 rfl ?_
      refine zg_iadd (q := 205) C0 dX7_end_204 rfl ?_
      refine zg_ni (fun y64 ey64 => ?_)
      have hw := hw y64 ey64
      refine zg_istore (q := 207) (lv' := [(7, .int y64), (6, .int 0), (5, .int v54), (0, .ref x0), (1, .int x1), (2, .int x2), (3, .int x3), (4, .int x4)]) C0 dX7_end_205 (by decide) rfl rfl ?_
      refine zg_sub [3, 4, 5, 6, 7, 1, 0] rfl ?_
      refine aL_X7_end_207 C0 (fun  S92 hw => ?_) _ _ _ hw
      refine zg_iinc (q := 291) C0 4 dX7_end_288 rfl (by decide) zc_iconst_1 rfl (fun y93 ey93 => ?_)
      have hw := hw y93 ey93
      refine zg_lv (lv' := [(4, .int y93), (0, .ref x0), (1, .int x1), (2, .int x2), (3, .int x3)]) rfl ?_
      refine zg_goto (tgt := 138) C0 dX7_end_291 rfl ?_
      refine zg_sub [1, 2, 3, 4, 0] rfl ?_
      exact hrec _ _ hw
theorem aL_X7_end_138 {p : Program} {l : Launch} {e : Env} {s : State} {m : MethodId} {args : Array Value} {below : List Frame} {meth : Method} {c : Code} {D : va_G} {cy : Nat → ClassId} {A : Nat → Prop} {Q : State → Prop} {Z : zZ} (C0 : zC p s m args meth c cX7_end 9 wsX7_end RX7 D cy A none) {x0 : Nat} {x1 : Int32} {x2 : Int32} {x3 : Int32} {Qp : zS → Prop} {K : zS → Prop} (hK : ∀  S, K  S → zG p l e rm_X7_end s m args below meth c D cy A 9 0 0 Q Z S 294 [] []) : ∀ x4 S, wL_X7_end_138 Z x0 x1 x2 x3 Qp K x4 S → zG p l e rm_X7_end s m args below meth c D cy A 9 0 0 Q Z S 138 [(0, .ref x0), (1, .int x1), (2, .int x2), (3, .int x3), (4, .int x4)] [] := by
  intro x4 S hw
  obtain ⟨n, hw⟩ := hw
  induction n generalizing x4 S with
  | zero => exact hw.elim
  | succ n ih => exact ab_X7_end_138 C0 hK (fun x4 S hw => ih x4 S hw) hw
def w_X7_end (Z : zZ) (h0 : Nat) (p0 : Int32) (p1 : Int32) (S : zS) (Qp : zS → Prop) : Prop :=
  wL_X7_end_5 Z h0 p0 p1 Qp (fun (v16 : Int32) (S15 : zS) => wL_X7_end_55 Z h0 p0 p1 v16 Qp (fun  (S43 : zS) => wL_X7_end_138 Z h0 p0 p1 v16 Qp (fun  (S96 : zS) => Qp S96) 0 S43) 1 S15) 0 0 S
set_option maxHeartbeats 4000000 in
set_option maxRecDepth 100000 in
theorem a_X7_end (l : Launch) (D : va_G) (cy : Nat → ClassId) (Z : zZ) (S : zS) (sz : Nat) (h0 : Nat) (p0 : Int32) (p1 : Int32) (Qp : zS → Prop) (hw : w_X7_end Z h0 p0 p1 S Qp) : zMv l yX7_end wsX7_end rm_X7_end D cy Z S sz [.ref h0, .int p0, .int p1] Qp := by
  unfold w_X7_end at hw
  refine zMv_of (cc := cX7_end) (maxL := 9) (rt := none) (by decide +kernel) rfl (Nat.le_of_ble_eq_true rfl) ?_
  intro p e s m args below meth c A C0 _
  refine zg_lv (lv' := [(0, .ref h0), (1, .int p0), (2, .int p1)]) rfl ?_
  refine zg_iconst (q := 1) C0 dX7_end_0 zc_iconst_0 rfl ?_
  refine zg_istore_n (q := 2) (lv' := [(3, .int 0), (0, .ref h0), (1, .int p0), (2, .int p1)]) C0 dX7_end_1 (by decide) rfl rfl ?_
  refine zg_iconst (q := 3) C0 dX7_end_2 zc_iconst_0 rfl ?_
  refine zg_istore (q := 5) (lv' := [(4, .int 0), (3, .int 0), (0, .ref h0), (1, .int p0), (2, .int p1)]) C0 dX7_end_3 (by decide) rfl rfl ?_
  refine zg_sub [2, 3, 4, 1, 0] rfl ?_
  refine aL_X7_end_5 C0 (fun v16 S15 hw => ?_) _ _ _ hw
  refine zg_iconst (q := 53) C0 dX7_end_52 zc_iconst_1 rfl ?_
  refine zg_istore (q := 55) (lv' := [(4, .int 1), (0, .ref h0), (1, .int p0), (2, .int p1), (3, .int v16)]) C0 dX7_end_53 (by decide) rfl rfl ?_
  refine zg_sub [1, 2, 3, 4, 0] rfl ?_
  refine aL_X7_end_55 C0 (fun  S43 hw => ?_) _ _ hw
  refine zg_iconst (q := 136) C0 dX7_end_135 zc_iconst_0 rfl ?_
  refine zg_istore (q := 138) (lv' := [(4, .int 0), (0, .ref h0), (1, .int p0), (2, .int p1), (3, .int v16)]) C0 dX7_end_136 (by decide) rfl rfl ?_
  refine zg_sub [1, 2, 3, 4, 0] rfl ?_
  refine aL_X7_end_138 C0 (fun  S96 hw => ?_) _ _ hw
  exact zg_vret C0 dX7_end_294 rfl (Nat.le_refl 0) (Nat.le_refl 0) hw
-- X7_share
abbrev rm_X7_share : Room := { frames := 3, cells := 0, slots := 0, locals := 65 }
theorem hX_X7_share_7 : ∀ w ∈ u_ws RX7 TX7 36, w ∈ wsX7_share := by decide +kernel
theorem hdV_X7_share : yX7_share.cls = RX7 ∧ yX7_share.cls ≠ "java/lang/invoke/MethodHandle" ∧ yX7_share.cls ≠ "java/lang/invoke/VarHandle" ∧ (parseMethodDescriptor yX7_share.desc).map (fun d => d.parameters.length) = some 1 := by decide +kernel
def wb_X7_share_25 (Z : zZ) (x0 : Nat) (x1 : Int32) (x2 : Int32) (Qp : zS → Prop) (K : Int32 → zS → Prop) (rec : Int32 → Int32 → zS → Prop) (x3 : Int32) (x4 : Int32) (S : zS) : Prop :=
  ((x4 < 0 → K x3 S) ∧ (¬ x4 < 0 → w_X7_isIn Z x1 x4 S (fun (v13 : Int32) (S12 : zS) => ((v13 = 0 → ∀ y14 : Int32, y14 = x4 + (-1) → rec x3 y14 S12) ∧ (¬ v13 = 0 → zk Z x0 7 ∧ ∃ b16, zQ Z x0 10 = some b16 ∧ zk Z b16 8 ∧ vp_in x4 (zN Z b16) ∧ ((¬ (zI S12 b16 x4.toNatClampNeg) = x2 → ∀ y20 : Int32, y20 = x4 + (-1) → rec x3 y20 S12) ∧ ((zI S12 b16 x4.toNatClampNeg) = x2 → ∃ b21, zQ Z x0 8 = some b21 ∧ zk Z b21 8 ∧ vp_in x4 (zN Z b21) ∧ vp_in x3 (zN Z b21) ∧ (((zI S12 b21 x4.toNatClampNeg) < (zI S12 b21 x3.toNatClampNeg) → ∀ y26 : Int32, y26 = x4 + (-1) → rec x3 y26 S12) ∧ (¬ (zI S12 b21 x4.toNatClampNeg) < (zI S12 b21 x3.toNatClampNeg) → ∀ y27 : Int32, y27 = x4 + (-1) → rec x4 y27 S12)))))))))
def wL_X7_share_25 (Z : zZ) (x0 : Nat) (x1 : Int32) (x2 : Int32) (Qp : zS → Prop) (K : Int32 → zS → Prop) (x3 : Int32) (x4 : Int32) (S : zS) : Prop := ∃ n, zit3 (wb_X7_share_25 Z x0 x1 x2 Qp K) n x3 x4 S
set_option maxHeartbeats 4000000 in
set_option maxRecDepth 100000 in
theorem ab_X7_share_25 {p : Program} {l : Launch} {e : Env} {s : State} {m : MethodId} {args : Array Value} {below : List Frame} {meth : Method} {c : Code} {D : va_G} {cy : Nat → ClassId} {A : Nat → Prop} {Q : State → Prop} {Z : zZ} (C0 : zC p s m args meth c cX7_share 7 wsX7_share RX7 D cy A none) {x0 : Nat} {x1 : Int32} {x2 : Int32} {Qp : zS → Prop} {K : Int32 → zS → Prop} (hK : ∀ x3 S, K x3 S → zG p l e rm_X7_share s m args below meth c D cy A 7 0 0 Q Z S 79 [(0, .ref x0), (1, .int x1), (2, .int x2), (3, .int x3)] []) {rec : Int32 → Int32 → zS → Prop} (hrec : ∀ x3 x4 S, rec x3 x4 S → zG p l e rm_X7_share s m args below meth c D cy A 7 0 0 Q Z S 25 [(0, .ref x0), (1, .int x1), (2, .int x2), (3, .int x3), (4, .int x4)] []) {x3 : Int32} {x4 : Int32} {S : zS} (hw : wb_X7_share_25 Z x0 x1 x2 Qp K rec x3 x4 S) : zG p l e rm_X7_share s m args below meth c D cy A 7 0 0 Q Z S 25 [(0, .ref x0), (1, .int x1), (2, .int x2), (3, .int x3), (4, .int x4)] [] := by
  unfold wb_X7_share_25 at hw
  refine zg_iload (q := 27) C0 4 dX7_share_25 rfl rfl ?_
  refine zg_if_lt (q := 30) (tgt := 79) C0 dX7_share_27 rfl rfl (fun c31 => ?_) (fun c31 => ?_)
  · have hw := hw.1 c31
    refine zg_sub [0, 1, 2, 3] rfl ?_
    exact hK _ _ hw
  · have hw := hw.2 c31
    refine zg_iload_n (q := 31) C0 1 dX7_share_30 rfl rfl ?_
    refine zg_iload (q := 33) C0 4 dX7_share_31 rfl rfl ?_
    refine zg_callSi (q := 36) C0 [.int x1, .int x4] [] dX7_share_33 (fun sz => a_X7_isIn l D cy Z S sz x1 x4 _ hw) rfl gX7_share_X7_isIn hdS_X7_isIn rfl ⟨Nat.le_of_ble_eq_true rfl, Nat.le_of_ble_eq_true rfl⟩ (Nat.le_of_ble_eq_true rfl) ⟨Nat.zero_le _, Nat.zero_le _⟩ ⟨rfl, rfl⟩ rfl (fun v13 S12 hw => ?_)
    refine zg_if_eq (q := 39) (tgt := 71) C0 dX7_share_36 rfl rfl (fun c30 => ?_) (fun c30 => ?_)
    · have hw := hw.1 c30
      refine zg_iload_n (q := 72) C0 3 dX7_share_71 rfl rfl ?_
      refine zg_istore_n (q := 73) (lv' := [(3, .int x3), (0, .ref x0), (1, .int x1), (2, .int x2), (4, .int x4)]) C0 dX7_share_72 (by decide) rfl rfl ?_
      refine zg_iinc (q := 76) C0 4 dX7_share_73 rfl (by decide) zc_iconst_m1 rfl (fun y14 ey14 => ?_)
      have hw := hw y14 ey14
      refine zg_lv (lv' := [(4, .int y14), (3, .int x3), (0, .ref x0), (1, .int x1), (2, .int x2)]) rfl ?_
      refine zg_goto (tgt := 25) C0 dX7_share_76 rfl ?_
      refine zg_sub [2, 3, 4, 1, 0] rfl ?_
      exact hrec _ _ _ hw
    · have hw := hw.2 c30
      refine zg_aload_n (q := 40) C0 0 dX7_share_39 rfl rfl ?_
      obtain ⟨hz15, hw⟩ := hw
      refine zg_get (q := 43) (T := TX7) (k := 10) C0 dX7_share_40 hz15 (zF_7 cy hz15) rfl (by decide) hX_X7_share_7 (zwm (i := 1) rfl) rfl rfl rfl ?_
      obtain ⟨b16, hb17, hw⟩ := hw
      refine zg_nn hb17 ?_
      refine zg_iload (q := 45) C0 4 dX7_share_43 rfl rfl ?_
      obtain ⟨hz18, hw⟩ := hw
      obtain ⟨hi19, hw⟩ := hw
      refine zg_iald (q := 46) C0 dX7_share_45 hz18 hi19 rfl ?_
      refine zg_iload_n (q := 47) C0 2 dX7_share_46 rfl rfl ?_
      refine zg_icmp_ne (q := 50) (tgt := 71) C0 dX7_share_47 rfl rfl (fun c29 => ?_) (fun c29 => ?_)
      · have hw := hw.1 c29
        refine zg_iload_n (q := 72) C0 3 dX7_share_71 rfl rfl ?_
        refine zg_istore_n (q := 73) (lv' := [(3, .int x3), (0, .ref x0), (1, .int x1), (2, .int x2), (4, .int x4)]) C0 dX7_share_72 (by decide) rfl rfl ?_
        refine zg_iinc (q := 76) C0 4 dX7_share_73 rfl (by decide) zc_iconst_m1 rfl (fun y20 ey20 => ?_)
        have hw := hw y20 ey20
        refine zg_lv (lv' := [(4, .int y20), (3, .int x3), (0, .ref x0), (1, .int x1), (2, .int x2)]) rfl ?_
        refine zg_goto (tgt := 25) C0 dX7_share_76 rfl ?_
        refine zg_sub [2, 3, 4, 1, 0] rfl ?_
        exact hrec _ _ _ hw
      · have hw := hw.2 c29
        refine zg_aload_n (q := 51) C0 0 dX7_share_50 rfl rfl ?_
        refine zg_get (q := 54) (T := TX7) (k := 8) C0 dX7_share_51 hz15 (zF_7 cy hz15) rfl (by decide) hX_X7_share_7 (zwm (i := 3) rfl) rfl rfl rfl ?_
        obtain ⟨b21, hb22, hw⟩ := hw
        refine zg_nn hb22 ?_
        refine zg_iload (q := 56) C0 4 dX7_share_54 rfl rfl ?_
        obtain ⟨hz23, hw⟩ := hw
        obtain ⟨hi24, hw⟩ := hw
        refine zg_iald (q := 57) C0 dX7_share_56 hz23 hi24 rfl ?_
        refine zg_aload_n (q := 58) C0 0 dX7_share_57 rfl rfl ?_
        refine zg_get (q := 61) (T := TX7) (k := 8) C0 dX7_share_58 hz15 (zF_7 cy hz15) rfl (by decide) hX_X7_share_7 (zwm (i := 3) rfl) rfl rfl rfl ?_
        refine zg_nn hb22 ?_
        refine zg_iload_n (q := 62) C0 3 dX7_share_61 rfl rfl ?_
        obtain ⟨hi25, hw⟩ := hw
        refine zg_iald (q := 63) C0 dX7_share_62 hz23 hi25 rfl ?_
        refine zg_icmp_lt (q := 66) (tgt := 71) C0 dX7_share_63 rfl rfl (fun c28 => ?_) (fun c28 => ?_)
        · have hw := hw.1 c28
          refine zg_iload_n (q := 72) C0 3 dX7_share_71 rfl rfl ?_
          refine zg_istore_n (q := 73) (lv' := [(3, .int x3), (0, .ref x0), (1, .int x1), (2, .int x2), (4, .int x4)]) C0 dX7_share_72 (by decide) rfl rfl ?_
          refine zg_iinc (q := 76) C0 4 dX7_share_73 rfl (by decide) zc_iconst_m1 rfl (fun y26 ey26 => ?_)
          have hw := hw y26 ey26
          refine zg_lv (lv' := [(4, .int y26), (3, .int x3), (0, .ref x0), (1, .int x1), (2, .int x2)]) rfl ?_
          refine zg_goto (tgt := 25) C0 dX7_share_76 rfl ?_
          refine zg_sub [2, 3, 4, 1, 0] rfl ?_
          exact hrec _ _ _ hw
        · have hw := hw.2 c28
          refine zg_iload (q := 68) C0 4 dX7_share_66 rfl rfl ?_
          refine zg_goto (tgt := 72) C0 dX7_share_68 rfl ?_
          refine zg_istore_n (q := 73) (lv' := [(3, .int x4), (0, .ref x0), (1, .int x1), (2, .int x2), (4, .int x4)]) C0 dX7_share_72 (by decide) rfl rfl ?_
          refine zg_iinc (q := 76) C0 4 dX7_share_73 rfl (by decide) zc_iconst_m1 rfl (fun y27 ey27 => ?_)
          have hw := hw y27 ey27
          refine zg_lv (lv' := [(4, .int y27), (3, .int x4), (0, .ref x0), (1, .int x1), (2, .int x2)]) rfl ?_
          refine zg_goto (tgt := 25) C0 dX7_share_76 rfl ?_
          refine zg_sub [2, 3, 4, 1, 0] rfl ?_
          exact hrec _ _ _ hw
theorem aL_X7_share_25 {p : Program} {l : Launch} {e : Env} {s : State} {m : MethodId} {args : Array Value} {below : List Frame} {meth : Method} {c : Code} {D : va_G} {cy : Nat → ClassId} {A : Nat → Prop} {Q : State → Prop} {Z : zZ} (C0 : zC p s m args meth c cX7_share 7 wsX7_share RX7 D cy A none) {x0 : Nat} {x1 : Int32} {x2 : Int32} {Qp : zS → Prop} {K : Int32 → zS → Prop} (hK : ∀ x3 S, K x3 S → zG p l e rm_X7_share s m args below meth c D cy A 7 0 0 Q Z S 79 [(0, .ref x0), (1, .int x1), (2, .int x2), (3, .int x3)] []) : ∀ x3 x4 S, wL_X7_share_25 Z x0 x1 x2 Qp K x3 x4 S → zG p l e rm_X7_share s m args below meth c D cy A 7 0 0 Q Z S 25 [(0, .ref x0), (1, .int x1), (2, .int x2), (3, .int x3), (4, .int x4)] [] := by
  intro x3 x4 S hw
  obtain ⟨n, hw⟩ := hw
  induction n generalizing x3 x4 S with
  | zero => exact hw.elim
  | succ n ih => exact ab_X7_share_25 C0 hK (fun x3 x4 S hw => ih x3 x4 S hw) hw
def wb_X7_share_102 (Z : zZ) (x0 : Nat) (x1 : Int32) (x2 : Int32) (x3 : Int32) (x4 : Int32) (Qp : zS → Prop) (K : Int32 → zS → Prop) (rec : Int32 → Int32 → zS → Prop) (x5 : Int32) (x6 : Int32) (S : zS) : Prop :=
  zk Z x0 7 ∧ (((zI S x0 1) ≤ x6 → K x5 S) ∧ (¬ (zI S x0 1) ≤ x6 → w_X7_isIn Z x1 x6 S (fun (v41 : Int32) (S40 : zS) => ((v41 = 0 → ∀ y42 : Int32, y42 = x6 + 1 → rec x5 y42 S40) ∧ (¬ v41 = 0 → ∃ b43, zQ Z x0 10 = some b43 ∧ zk Z b43 8 ∧ vp_in x6 (zN Z b43) ∧ ((¬ (zI S40 b43 x6.toNatClampNeg) = x2 → ∀ y47 : Int32, y47 = x6 + 1 → rec x5 y47 S40) ∧ ((zI S40 b43 x6.toNatClampNeg) = x2 → ∃ b48, zQ Z x0 19 = some b48 ∧ zk Z b48 10 ∧ vp_in ((101 * x6) + x4) (zN Z b48) ∧ (((zI S40 b48 ((101 * x6) + x4).toNatClampNeg) = 0 → ∀ y52 : Int32, y52 = x6 + 1 → rec x5 y52 S40) ∧ (¬ (zI S40 b48 ((101 * x6) + x4).toNatClampNeg) = 0 → ∀ y53 : Int32, y53 = x6 + 1 → rec x6 y53 S40)))))))))
def wL_X7_share_102 (Z : zZ) (x0 : Nat) (x1 : Int32) (x2 : Int32) (x3 : Int32) (x4 : Int32) (Qp : zS → Prop) (K : Int32 → zS → Prop) (x5 : Int32) (x6 : Int32) (S : zS) : Prop := ∃ n, zit3 (wb_X7_share_102 Z x0 x1 x2 x3 x4 Qp K) n x5 x6 S
set_option maxHeartbeats 4000000 in
set_option maxRecDepth 100000 in
theorem ab_X7_share_102 {p : Program} {l : Launch} {e : Env} {s : State} {m : MethodId} {args : Array Value} {below : List Frame} {meth : Method} {c : Code} {D : va_G} {cy : Nat → ClassId} {A : Nat → Prop} {Q : State → Prop} {Z : zZ} (C0 : zC p s m args meth c cX7_share 7 wsX7_share RX7 D cy A none) {x0 : Nat} {x1 : Int32} {x2 : Int32} {x3 : Int32} {x4 : Int32} {Qp : zS → Prop} {K : Int32 → zS → Prop} (hK : ∀ x5 S, K x5 S → zG p l e rm_X7_share s m args below meth c D cy A 7 0 0 Q Z S 162 [(0, .ref x0), (1, .int x1), (2, .int x2), (3, .int x3), (4, .int x4), (5, .int x5)] []) {rec : Int32 → Int32 → zS → Prop} (hrec : ∀ x5 x6 S, rec x5 x6 S → zG p l e rm_X7_share s m args below meth c D cy A 7 0 0 Q Z S 102 [(0, .ref x0), (1, .int x1), (2, .int x2), (3, .int x3), (4, .int x4), (5, .int x5), (6, .int x6)] []) {x5 : Int32} {x6 : Int32} {S : zS} (hw : wb_X7_share_102 Z x0 x1 x2 x3 x4 Qp K rec x5 x6 S) : zG p l e rm_X7_share s m args below meth c D cy A 7 0 0 Q Z S 102 [(0, .ref x0), (1, .int x1), (2, .int x2), (3, .int x3), (4, .int x4), (5, .int x5), (6, .int x6)] [] := by
  unfold wb_X7_share_102 at hw
  refine zg_iload (q := 104) C0 6 dX7_share_102 rfl rfl ?_
  refine zg_aload_n (q := 105) C0 0 dX7_share_104 rfl rfl ?_
  obtain ⟨hz39, hw⟩ := hw
  refine zg_get (q := 108) (T := TX7) (k := 1) C0 dX7_share_105 hz39 (zF_7 cy hz39) rfl (by decide) hX_X7_share_7 (zwm (i := 2) rfl) rfl rfl rfl ?_
  refine zg_icmp_ge (q := 111) (tgt := 162) C0 dX7_share_108 rfl rfl (fun c57 => ?_) (fun c57 => ?_)
  · have hw := hw.1 c57
    refine zg_sub [0, 1, 2, 3, 4, 5] rfl ?_
    exact hK _ _ hw
  · have hw := hw.2 c57
    refine zg_iload_n (q := 112) C0 1 dX7_share_111 rfl rfl ?_
    refine zg_iload (q := 114) C0 6 dX7_share_112 rfl rfl ?_
    refine zg_callSi (q := 117) C0 [.int x1, .int x6] [] dX7_share_114 (fun sz => a_X7_isIn l D cy Z S sz x1 x6 _ hw) rfl gX7_share_X7_isIn hdS_X7_isIn rfl ⟨Nat.le_of_ble_eq_true rfl, Nat.le_of_ble_eq_true rfl⟩ (Nat.le_of_ble_eq_true rfl) ⟨Nat.zero_le _, Nat.zero_le _⟩ ⟨rfl, rfl⟩ rfl (fun v41 S40 hw => ?_)
    refine zg_if_eq (q := 120) (tgt := 152) C0 dX7_share_117 rfl rfl (fun c56 => ?_) (fun c56 => ?_)
    · have hw := hw.1 c56
      refine zg_iload (q := 154) C0 5 dX7_share_152 rfl rfl ?_
      refine zg_istore (q := 156) (lv' := [(5, .int x5), (0, .ref x0), (1, .int x1), (2, .int x2), (3, .int x3), (4, .int x4), (6, .int x6)]) C0 dX7_share_154 (by decide) rfl rfl ?_
      refine zg_iinc (q := 159) C0 6 dX7_share_156 rfl (by decide) zc_iconst_1 rfl (fun y42 ey42 => ?_)
      have hw := hw y42 ey42
      refine zg_lv (lv' := [(6, .int y42), (5, .int x5), (0, .ref x0), (1, .int x1), (2, .int x2), (3, .int x3), (4, .int x4)]) rfl ?_
      refine zg_goto (tgt := 102) C0 dX7_share_159 rfl ?_
      refine zg_sub [2, 3, 4, 5, 6, 1, 0] rfl ?_
      exact hrec _ _ _ hw
    · have hw := hw.2 c56
      refine zg_aload_n (q := 121) C0 0 dX7_share_120 rfl rfl ?_
      refine zg_get (q := 124) (T := TX7) (k := 10) C0 dX7_share_121 hz39 (zF_7 cy hz39) rfl (by decide) hX_X7_share_7 (zwm (i := 1) rfl) rfl rfl rfl ?_
      obtain ⟨b43, hb44, hw⟩ := hw
      refine zg_nn hb44 ?_
      refine zg_iload (q := 126) C0 6 dX7_share_124 rfl rfl ?_
      obtain ⟨hz45, hw⟩ := hw
      obtain ⟨hi46, hw⟩ := hw
      refine zg_iald (q := 127) C0 dX7_share_126 hz45 hi46 rfl ?_
      refine zg_iload_n (q := 128) C0 2 dX7_share_127 rfl rfl ?_
      refine zg_icmp_ne (q := 131) (tgt := 152) C0 dX7_share_128 rfl rfl (fun c55 => ?_) (fun c55 => ?_)
      · have hw := hw.1 c55
        refine zg_iload (q := 154) C0 5 dX7_share_152 rfl rfl ?_
        refine zg_istore (q := 156) (lv' := [(5, .int x5), (0, .ref x0), (1, .int x1), (2, .int x2), (3, .int x3), (4, .int x4), (6, .int x6)]) C0 dX7_share_154 (by decide) rfl rfl ?_
        refine zg_iinc (q := 159) C0 6 dX7_share_156 rfl (by decide) zc_iconst_1 rfl (fun y47 ey47 => ?_)
        have hw := hw y47 ey47
        refine zg_lv (lv' := [(6, .int y47), (5, .int x5), (0, .ref x0), (1, .int x1), (2, .int x2), (3, .int x3), (4, .int x4)]) rfl ?_
        refine zg_goto (tgt := 102) C0 dX7_share_159 rfl ?_
        refine zg_sub [2, 3, 4, 5, 6, 1, 0] rfl ?_
        exact hrec _ _ _ hw
      · have hw := hw.2 c55
        refine zg_aload_n (q := 132) C0 0 dX7_share_131 rfl rfl ?_
        refine zg_get (q := 135) (T := TX7) (k := 19) C0 dX7_share_132 hz39 (zF_7 cy hz39) rfl (by decide) hX_X7_share_7 (zwm (i := 5) rfl) rfl rfl rfl ?_
        obtain ⟨b48, hb49, hw⟩ := hw
        refine zg_nn hb49 ?_
        refine zg_bipush (q := 137) C0 dX7_share_135 zc_bipush_101 rfl ?_
        refine zg_iload (q := 139) C0 6 dX7_share_137 rfl rfl ?_
        refine zg_imul (q := 140) C0 dX7_share_139 rfl ?_
        refine zg_iload (q := 142) C0 4 dX7_share_140 rfl rfl ?_
        refine zg_iadd (q := 143) C0 dX7_share_142 rfl ?_
        obtain ⟨hz50, hw⟩ := hw
        obtain ⟨hi51, hw⟩ := hw
        refine zg_zald (q := 144) C0 dX7_share_143 hz50 hi51 rfl ?_
        refine zg_if_eq (q := 147) (tgt := 152) C0 dX7_share_144 rfl rfl (fun c54 => ?_) (fun c54 => ?_)
        · have hw := hw.1 c54
          refine zg_iload (q := 154) C0 5 dX7_share_152 rfl rfl ?_
          refine zg_istore (q := 156) (lv' := [(5, .int x5), (0, .ref x0), (1, .int x1), (2, .int x2), (3, .int x3), (4, .int x4), (6, .int x6)]) C0 dX7_share_154 (by decide) rfl rfl ?_
          refine zg_iinc (q := 159) C0 6 dX7_share_156 rfl (by decide) zc_iconst_1 rfl (fun y52 ey52 => ?_)
          have hw := hw y52 ey52
          refine zg_lv (lv' := [(6, .int y52), (5, .int x5), (0, .ref x0), (1, .int x1), (2, .int x2), (3, .int x3), (4, .int x4)]) rfl ?_
          refine zg_goto (tgt := 102) C0 dX7_share_159 rfl ?_
          refine zg_sub [2, 3, 4, 5, 6, 1, 0] rfl ?_
          exact hrec _ _ _ hw
        · have hw := hw.2 c54
          refine zg_iload (q := 149) C0 6 dX7_share_147 rfl rfl ?_
          refine zg_goto (tgt := 154) C0 dX7_share_149 rfl ?_
          refine zg_istore (q := 156) (lv' := [(5, .int x6), (0, .ref x0), (1, .int x1), (2, .int x2), (3, .int x3), (4, .int x4), (6, .int x6)]) C0 dX7_share_154 (by decide) rfl rfl ?_
          refine zg_iinc (q := 159) C0 6 dX7_share_156 rfl (by decide) zc_iconst_1 rfl (fun y53 ey53 => ?_)
          have hw := hw y53 ey53
          refine zg_lv (lv' := [(6, .int y53), (5, .int x6), (0, .ref x0), (1, .int x1), (2, .int x2), (3, .int x3), (4, .int x4)]) rfl ?_
          refine zg_goto (tgt := 102) C0 dX7_share_159 rfl ?_
          refine zg_sub [2, 3, 4, 5, 6, 1, 0] rfl ?_
          exact hrec _ _ _ hw
theorem aL_X7_share_102 {p : Program} {l : Launch} {e : Env} {s : State} {m : MethodId} {args : Array Value} {below : List Frame} {meth : Method} {c : Code} {D : va_G} {cy : Nat → ClassId} {A : Nat → Prop} {Q : State → Prop} {Z : zZ} (C0 : zC p s m args meth c cX7_share 7 wsX7_share RX7 D cy A none) {x0 : Nat} {x1 : Int32} {x2 : Int32} {x3 : Int32} {x4 : Int32} {Qp : zS → Prop} {K : Int32 → zS → Prop} (hK : ∀ x5 S, K x5 S → zG p l e rm_X7_share s m args below meth c D cy A 7 0 0 Q Z S 162 [(0, .ref x0), (1, .int x1), (2, .int x2), (3, .int x3), (4, .int x4), (5, .int x5)] []) : ∀ x5 x6 S, wL_X7_share_102 Z x0 x1 x2 x3 x4 Qp K x5 x6 S → zG p l e rm_X7_share s m args below meth c D cy A 7 0 0 Q Z S 102 [(0, .ref x0), (1, .int x1), (2, .int x2), (3, .int x3), (4, .int x4), (5, .int x5), (6, .int x6)] [] := by
  intro x5 x6 S hw
  obtain ⟨n, hw⟩ := hw
  induction n generalizing x5 x6 S with
  | zero => exact hw.elim
  | succ n ih => exact ab_X7_share_102 C0 hK (fun x5 x6 S hw => ih x5 x6 S hw) hw
def wb_X7_share_89 (Z : zZ) (x0 : Nat) (x1 : Int32) (x2 : Int32) (x3 : Int32) (Qp : zS → Prop) (K : zS → Prop) (rec : Int32 → zS → Prop) (x4 : Int32) (S : zS) : Prop :=
  ((100 < x4 → K S) ∧ (¬ 100 < x4 → wL_X7_share_102 Z x0 x1 x2 x3 x4 Qp (fun (v59 : Int32) (S58 : zS) => ((v59 = (-1) → ∀ y60 : Int32, y60 = x4 + 1 → rec y60 S58) ∧ (¬ v59 = (-1) → zk Z x0 7 ∧ ∃ b62, zQ Z x0 20 = some b62 ∧ zk Z b62 8 ∧ vp_in ((101 * v59) + x4) (zN Z b62) ∧ ∃ b66, zQ Z x0 21 = some b66 ∧ zk Z b66 9 ∧ vp_in ((101 * v59) + x4) (zN Z b66) ∧ w_X7_apply Z x0 x3 x4 (zI S58 b62 ((101 * v59) + x4).toNatClampNeg) (zJ S58 b66 ((101 * v59) + x4).toNatClampNeg) S58 (fun (S70 : zS) => ∀ y71 : Int32, y71 = x4 + 1 → rec y71 S70)))) (-1) 0 S))
def wL_X7_share_89 (Z : zZ) (x0 : Nat) (x1 : Int32) (x2 : Int32) (x3 : Int32) (Qp : zS → Prop) (K : zS → Prop) (x4 : Int32) (S : zS) : Prop := ∃ n, zit2 (wb_X7_share_89 Z x0 x1 x2 x3 Qp K) n x4 S
set_option maxHeartbeats 4000000 in
set_option maxRecDepth 100000 in
theorem ab_X7_share_89 {p : Program} {l : Launch} {e : Env} {s : State} {m : MethodId} {args : Array Value} {below : List Frame} {meth : Method} {c : Code} {D : va_G} {cy : Nat → ClassId} {A : Nat → Prop} {Q : State → Prop} {Z : zZ} (C0 : zC p s m args meth c cX7_share 7 wsX7_share RX7 D cy A none) {x0 : Nat} {x1 : Int32} {x2 : Int32} {x3 : Int32} {Qp : zS → Prop} {K : zS → Prop} (hK : ∀  S, K  S → zG p l e rm_X7_share s m args below meth c D cy A 7 0 0 Q Z S 207 [(0, .ref x0), (1, .int x1), (3, .int x3)] []) {rec : Int32 → zS → Prop} (hrec : ∀ x4 S, rec x4 S → zG p l e rm_X7_share s m args below meth c D cy A 7 0 0 Q Z S 89 [(0, .ref x0), (1, .int x1), (2, .int x2), (3, .int x3), (4, .int x4)] []) {x4 : Int32} {S : zS} (hw : wb_X7_share_89 Z x0 x1 x2 x3 Qp K rec x4 S) : zG p l e rm_X7_share s m args below meth c D cy A 7 0 0 Q Z S 89 [(0, .ref x0), (1, .int x1), (2, .int x2), (3, .int x3), (4, .int x4)] [] := by
  unfold wb_X7_share_89 at hw
  refine zg_iload (q := 91) C0 4 dX7_share_89 rfl rfl ?_
  refine zg_bipush (q := 93) C0 dX7_share_91 zc_bipush_100 rfl ?_
  refine zg_icmp_gt (q := 96) (tgt := 207) C0 dX7_share_93 rfl rfl (fun c73 => ?_) (fun c73 => ?_)
  · have hw := hw.1 c73
    refine zg_sub [0, 1, 3] rfl ?_
    exact hK  _ hw
  · have hw := hw.2 c73
    refine zg_iconst (q := 97) C0 dX7_share_96 zc_iconst_m1 rfl ?_
    refine zg_istore (q := 99) (lv' := [(5, .int (-1)), (0, .ref x0), (1, .int x1), (2, .int x2), (3, .int x3), (4, .int x4)]) C0 dX7_share_97 (by decide) rfl rfl ?_
    refine zg_iconst (q := 100) C0 dX7_share_99 zc_iconst_0 rfl ?_
    refine zg_istore (q := 102) (lv' := [(6, .int 0), (5, .int (-1)), (0, .ref x0), (1, .int x1), (2, .int x2), (3, .int x3), (4, .int x4)]) C0 dX7_share_100 (by decide) rfl rfl ?_
    refine zg_sub [2, 3, 4, 5, 6, 1, 0] rfl ?_
    refine aL_X7_share_102 C0 (fun v59 S58 hw => ?_) _ _ _ hw
    refine zg_iload (q := 164) C0 5 dX7_share_162 rfl rfl ?_
    refine zg_iconst (q := 165) C0 dX7_share_164 zc_iconst_m1 rfl ?_
    refine zg_icmp_eq (q := 168) (tgt := 201) C0 dX7_share_165 rfl rfl (fun c72 => ?_) (fun c72 => ?_)
    · have hw := hw.1 c72
      refine zg_iinc (q := 204) C0 4 dX7_share_201 rfl (by decide) zc_iconst_1 rfl (fun y60 ey60 => ?_)
      have hw := hw y60 ey60
      refine zg_lv (lv' := [(4, .int y60), (0, .ref x0), (1, .int x1), (2, .int x2), (3, .int x3), (5, .int v59)]) rfl ?_
      refine zg_goto (tgt := 89) C0 dX7_share_204 rfl ?_
      refine zg_sub [1, 2, 3, 4, 0] rfl ?_
      exact hrec _ _ hw
    · have hw := hw.2 c72
      refine zg_aload_n (q := 169) C0 0 dX7_share_168 rfl rfl ?_
      refine zg_iload_n (q := 170) C0 3 dX7_share_169 rfl rfl ?_
      refine zg_iload (q := 172) C0 4 dX7_share_170 rfl rfl ?_
      refine zg_aload_n (q := 173) C0 0 dX7_share_172 rfl rfl ?_
      obtain ⟨hz61, hw⟩ := hw
      refine zg_get (q := 176) (T := TX7) (k := 20) C0 dX7_share_173 hz61 (zF_7 cy hz61) rfl (by decide) hX_X7_share_7 (zwm (i := 6) rfl) rfl rfl rfl ?_
      obtain ⟨b62, hb63, hw⟩ := hw
      refine zg_nn hb63 ?_
      refine zg_bipush (q := 178) C0 dX7_share_176 zc_bipush_101 rfl ?_
      refine zg_iload (q := 180) C0 5 dX7_share_178 rfl rfl ?_
      refine zg_imul (q := 181) C0 dX7_share_180 rfl ?_
      refine zg_iload (q := 183) C0 4 dX7_share_181 rfl rfl ?_
      refine zg_iadd (q := 184) C0 dX7_share_183 rfl ?_
      obtain ⟨hz64, hw⟩ := hw
      obtain ⟨hi65, hw⟩ := hw
      refine zg_iald (q := 185) C0 dX7_share_184 hz64 hi65 rfl ?_
      refine zg_aload_n (q := 186) C0 0 dX7_share_185 rfl rfl ?_
      refine zg_get (q := 189) (T := TX7) (k := 21) C0 dX7_share_186 hz61 (zF_7 cy hz61) rfl (by decide) hX_X7_share_7 (zwm (i := 7) rfl) rfl rfl rfl ?_
      obtain ⟨b66, hb67, hw⟩ := hw
      refine zg_nn hb67 ?_
      refine zg_bipush (q := 191) C0 dX7_share_189 zc_bipush_101 rfl ?_
      refine zg_iload (q := 193) C0 5 dX7_share_191 rfl rfl ?_
      refine zg_imul (q := 194) C0 dX7_share_193 rfl ?_
      refine zg_iload (q := 196) C0 4 dX7_share_194 rfl rfl ?_
      refine zg_iadd (q := 197) C0 dX7_share_196 rfl ?_
      obtain ⟨hz68, hw⟩ := hw
      obtain ⟨hi69, hw⟩ := hw
      refine zg_lald (q := 198) C0 dX7_share_197 hz68 hi69 rfl ?_
      refine zg_callVv (q := 201) C0 [.int x3, .int x4, .int (zI S58 b62 ((101 * v59) + x4).toNatClampNeg), .long (zJ S58 b66 ((101 * v59) + x4).toNatClampNeg)] [] dX7_share_198 (fun sz => a_X7_apply l D cy Z S58 sz x0 x3 x4 (zI S58 b62 ((101 * v59) + x4).toNatClampNeg) (zJ S58 b66 ((101 * v59) + x4).toNatClampNeg) _ hw) rfl gX7_share_X7_apply hdV_X7_apply hz61 (zF_7 cy hz61) rfl rfl ⟨Nat.le_of_ble_eq_true rfl, Nat.le_of_ble_eq_true rfl⟩ (Nat.le_of_ble_eq_true rfl) ⟨Nat.zero_le _, Nat.zero_le _⟩ ⟨rfl, rfl⟩ rfl (fun S70 hw => ?_)
      refine zg_iinc (q := 204) C0 4 dX7_share_201 rfl (by decide) zc_iconst_1 rfl (fun y71 ey71 => ?_)
      have hw := hw y71 ey71
      refine zg_lv (lv' := [(4, .int y71), (0, .ref x0), (1, .int x1), (2, .int x2), (3, .int x3), (5, .int v59)]) rfl ?_
      refine zg_goto (tgt := 89) C0 dX7_share_204 rfl ?_
      refine zg_sub [1, 2, 3, 4, 0] rfl ?_
      exact hrec _ _ hw
theorem aL_X7_share_89 {p : Program} {l : Launch} {e : Env} {s : State} {m : MethodId} {args : Array Value} {below : List Frame} {meth : Method} {c : Code} {D : va_G} {cy : Nat → ClassId} {A : Nat → Prop} {Q : State → Prop} {Z : zZ} (C0 : zC p s m args meth c cX7_share 7 wsX7_share RX7 D cy A none) {x0 : Nat} {x1 : Int32} {x2 : Int32} {x3 : Int32} {Qp : zS → Prop} {K : zS → Prop} (hK : ∀  S, K  S → zG p l e rm_X7_share s m args below meth c D cy A 7 0 0 Q Z S 207 [(0, .ref x0), (1, .int x1), (3, .int x3)] []) : ∀ x4 S, wL_X7_share_89 Z x0 x1 x2 x3 Qp K x4 S → zG p l e rm_X7_share s m args below meth c D cy A 7 0 0 Q Z S 89 [(0, .ref x0), (1, .int x1), (2, .int x2), (3, .int x3), (4, .int x4)] [] := by
  intro x4 S hw
  obtain ⟨n, hw⟩ := hw
  induction n generalizing x4 S with
  | zero => exact hw.elim
  | succ n ih => exact ab_X7_share_89 C0 hK (fun x4 S hw => ih x4 S hw) hw
def wb_X7_share_263 (Z : zZ) (x0 : Nat) (x1 : Int32) (x3 : Int32) (x4 : Int32) (Qp : zS → Prop) (K : zS → Prop) (rec : Int32 → zS → Prop) (x5 : Int32) (S : zS) : Prop :=
  ((16 ≤ x5 → K S) ∧ (¬ 16 ≤ x5 → zk Z x0 7 ∧ ∃ b93, zQ Z x0 7 = some b93 ∧ zk Z b93 9 ∧ vp_in ((16 * x3) + x5) (zN Z b93) ∧ vp_in ((16 * x4) + x5) (zN Z b93) ∧ ∀ S98 : zS, S98 = zsJ S b93 ((16 * x4) + x5).toNatClampNeg (zJ S b93 ((16 * x3) + x5).toNatClampNeg) → ∀ y99 : Int32, y99 = x5 + 1 → rec y99 S98))
def wL_X7_share_263 (Z : zZ) (x0 : Nat) (x1 : Int32) (x3 : Int32) (x4 : Int32) (Qp : zS → Prop) (K : zS → Prop) (x5 : Int32) (S : zS) : Prop := ∃ n, zit2 (wb_X7_share_263 Z x0 x1 x3 x4 Qp K) n x5 S
set_option maxHeartbeats 4000000 in
set_option maxRecDepth 100000 in
theorem ab_X7_share_263 {p : Program} {l : Launch} {e : Env} {s : State} {m : MethodId} {args : Array Value} {below : List Frame} {meth : Method} {c : Code} {D : va_G} {cy : Nat → ClassId} {A : Nat → Prop} {Q : State → Prop} {Z : zZ} (C0 : zC p s m args meth c cX7_share 7 wsX7_share RX7 D cy A none) {x0 : Nat} {x1 : Int32} {x3 : Int32} {x4 : Int32} {Qp : zS → Prop} {K : zS → Prop} (hK : ∀  S, K  S → zG p l e rm_X7_share s m args below meth c D cy A 7 0 0 Q Z S 301 [(0, .ref x0), (1, .int x1), (3, .int x3), (4, .int x4)] []) {rec : Int32 → zS → Prop} (hrec : ∀ x5 S, rec x5 S → zG p l e rm_X7_share s m args below meth c D cy A 7 0 0 Q Z S 263 [(0, .ref x0), (1, .int x1), (3, .int x3), (4, .int x4), (5, .int x5)] []) {x5 : Int32} {S : zS} (hw : wb_X7_share_263 Z x0 x1 x3 x4 Qp K rec x5 S) : zG p l e rm_X7_share s m args below meth c D cy A 7 0 0 Q Z S 263 [(0, .ref x0), (1, .int x1), (3, .int x3), (4, .int x4), (5, .int x5)] [] := by
  unfold wb_X7_share_263 at hw
  refine zg_iload (q := 265) C0 4 dX7_share_263 rfl rfl ?_
  refine zg_bipush (q := 267) C0 dX7_share_265 zc_bipush_16 rfl ?_
  refine zg_icmp_ge (q := 270) (tgt := 301) C0 dX7_share_267 rfl rfl (fun c100 => ?_) (fun c100 => ?_)
  · have hw := hw.1 c100
    refine zg_sub [0, 1, 2, 3] rfl ?_
    exact hK  _ hw
  · have hw := hw.2 c100
    refine zg_aload_n (q := 271) C0 0 dX7_share_270 rfl rfl ?_
    obtain ⟨hz92, hw⟩ := hw
    refine zg_get (q := 274) (T := TX7) (k := 7) C0 dX7_share_271 hz92 (zF_7 cy hz92) rfl (by decide) hX_X7_share_7 (zwm (i := 9) rfl) rfl rfl rfl ?_
    obtain ⟨b93, hb94, hw⟩ := hw
    refine zg_nn hb94 ?_
    refine zg_bipush (q := 276) C0 dX7_share_274 zc_bipush_16 rfl ?_
    refine zg_iload (q := 278) C0 3 dX7_share_276 rfl rfl ?_
    refine zg_imul (q := 279) C0 dX7_share_278 rfl ?_
    refine zg_iload (q := 281) C0 4 dX7_share_279 rfl rfl ?_
    refine zg_iadd (q := 282) C0 dX7_share_281 rfl ?_
    refine zg_aload_n (q := 283) C0 0 dX7_share_282 rfl rfl ?_
    refine zg_get (q := 286) (T := TX7) (k := 7) C0 dX7_share_283 hz92 (zF_7 cy hz92) rfl (by decide) hX_X7_share_7 (zwm (i := 9) rfl) rfl rfl rfl ?_
    refine zg_nn hb94 ?_
    refine zg_bipush (q := 288) C0 dX7_share_286 zc_bipush_16 rfl ?_
    refine zg_iload_n (q := 289) C0 2 dX7_share_288 rfl rfl ?_
    refine zg_imul (q := 290) C0 dX7_share_289 rfl ?_
    refine zg_iload (q := 292) C0 4 dX7_share_290 rfl rfl ?_
    refine zg_iadd (q := 293) C0 dX7_share_292 rfl ?_
    obtain ⟨hz95, hw⟩ := hw
    obtain ⟨hi96, hw⟩ := hw
    refine zg_lald (q := 294) C0 dX7_share_293 hz95 hi96 rfl ?_
    obtain ⟨hi97, hw⟩ := hw
    refine zg_last (q := 295) C0 dX7_share_294 hz95 hi97 rfl (fun S98 eS98 => ?_)
    have hw := hw S98 eS98
    refine zg_iinc (q := 298) C0 4 dX7_share_295 rfl (by decide) zc_iconst_1 rfl (fun y99 ey99 => ?_)
    have hw := hw y99 ey99
    refine zg_lv (lv' := [(5, .int y99), (0, .ref x0), (1, .int x1), (3, .int x3), (4, .int x4)]) rfl ?_
    refine zg_goto (tgt := 263) C0 dX7_share_298 rfl ?_
    refine zg_sub [1, 2, 3, 4, 0] rfl ?_
    exact hrec _ _ hw
theorem aL_X7_share_263 {p : Program} {l : Launch} {e : Env} {s : State} {m : MethodId} {args : Array Value} {below : List Frame} {meth : Method} {c : Code} {D : va_G} {cy : Nat → ClassId} {A : Nat → Prop} {Q : State → Prop} {Z : zZ} (C0 : zC p s m args meth c cX7_share 7 wsX7_share RX7 D cy A none) {x0 : Nat} {x1 : Int32} {x3 : Int32} {x4 : Int32} {Qp : zS → Prop} {K : zS → Prop} (hK : ∀  S, K  S → zG p l e rm_X7_share s m args below meth c D cy A 7 0 0 Q Z S 301 [(0, .ref x0), (1, .int x1), (3, .int x3), (4, .int x4)] []) : ∀ x5 S, wL_X7_share_263 Z x0 x1 x3 x4 Qp K x5 S → zG p l e rm_X7_share s m args below meth c D cy A 7 0 0 Q Z S 263 [(0, .ref x0), (1, .int x1), (3, .int x3), (4, .int x4), (5, .int x5)] [] := by
  intro x5 S hw
  obtain ⟨n, hw⟩ := hw
  induction n generalizing x5 S with
  | zero => exact hw.elim
  | succ n ih => exact ab_X7_share_263 C0 hK (fun x5 S hw => ih x5 S hw) hw
def wb_X7_share_210 (Z : zZ) (x0 : Nat) (x1 : Int32) (x3 : Int32) (Qp : zS → Prop) (K : zS → Prop) (rec : Int32 → zS → Prop) (x4 : Int32) (S : zS) : Prop :=
  zk Z x0 7 ∧ (((zI S x0 1) ≤ x4 → K S) ∧ (¬ (zI S x0 1) ≤ x4 → w_X7_isIn Z x1 x4 S (fun (v77 : Int32) (S76 : zS) => ((v77 = 0 → ∀ y78 : Int32, y78 = x4 + 1 → rec y78 S76) ∧ (¬ v77 = 0 → ((x4 = x3 → ∀ y79 : Int32, y79 = x4 + 1 → rec y79 S76) ∧ (¬ x4 = x3 → ∃ b80, zQ Z x0 8 = some b80 ∧ zk Z b80 8 ∧ vp_in x3 (zN Z b80) ∧ vp_in x4 (zN Z b80) ∧ ∀ S85 : zS, S85 = zsI S76 b80 x4.toNatClampNeg (zI S76 b80 x3.toNatClampNeg) → ∃ b86, zQ Z x0 9 = some b86 ∧ zk Z b86 9 ∧ vp_in x3 (zN Z b86) ∧ vp_in x4 (zN Z b86) ∧ ∀ S91 : zS, S91 = zsJ S85 b86 x4.toNatClampNeg (zJ S85 b86 x3.toNatClampNeg) → wL_X7_share_263 Z x0 x1 x3 x4 Qp (fun  (S101 : zS) => ∀ y102 : Int32, y102 = x4 + 1 → rec y102 S101) 0 S91)))))))
def wL_X7_share_210 (Z : zZ) (x0 : Nat) (x1 : Int32) (x3 : Int32) (Qp : zS → Prop) (K : zS → Prop) (x4 : Int32) (S : zS) : Prop := ∃ n, zit2 (wb_X7_share_210 Z x0 x1 x3 Qp K) n x4 S
set_option maxHeartbeats 4000000 in
set_option maxRecDepth 100000 in
theorem ab_X7_share_210 {p : Program} {l : Launch} {e : Env} {s : State} {m : MethodId} {args : Array Value} {below : List Frame} {meth : Method} {c : Code} {D : va_G} {cy : Nat → ClassId} {A : Nat → Prop} {Q : State → Prop} {Z : zZ} (C0 : zC p s m args meth c cX7_share 7 wsX7_share RX7 D cy A none) {x0 : Nat} {x1 : Int32} {x3 : Int32} {Qp : zS → Prop} {K : zS → Prop} (hK : ∀  S, K  S → zG p l e rm_X7_share s m args below meth c D cy A 7 0 0 Q Z S 307 [] []) {rec : Int32 → zS → Prop} (hrec : ∀ x4 S, rec x4 S → zG p l e rm_X7_share s m args below meth c D cy A 7 0 0 Q Z S 210 [(0, .ref x0), (1, .int x1), (3, .int x3), (4, .int x4)] []) {x4 : Int32} {S : zS} (hw : wb_X7_share_210 Z x0 x1 x3 Qp K rec x4 S) : zG p l e rm_X7_share s m args below meth c D cy A 7 0 0 Q Z S 210 [(0, .ref x0), (1, .int x1), (3, .int x3), (4, .int x4)] [] := by
  unfold wb_X7_share_210 at hw
  refine zg_iload (q := 212) C0 3 dX7_share_210 rfl rfl ?_
  refine zg_aload_n (q := 213) C0 0 dX7_share_212 rfl rfl ?_
  obtain ⟨hz75, hw⟩ := hw
  refine zg_get (q := 216) (T := TX7) (k := 1) C0 dX7_share_213 hz75 (zF_7 cy hz75) rfl (by decide) hX_X7_share_7 (zwm (i := 2) rfl) rfl rfl rfl ?_
  refine zg_icmp_ge (q := 219) (tgt := 307) C0 dX7_share_216 rfl rfl (fun c105 => ?_) (fun c105 => ?_)
  · have hw := hw.1 c105
    refine zg_sub [] rfl ?_
    exact hK  _ hw
  · have hw := hw.2 c105
    refine zg_iload_n (q := 220) C0 1 dX7_share_219 rfl rfl ?_
    refine zg_iload (q := 222) C0 3 dX7_share_220 rfl rfl ?_
    refine zg_callSi (q := 225) C0 [.int x1, .int x4] [] dX7_share_222 (fun sz => a_X7_isIn l D cy Z S sz x1 x4 _ hw) rfl gX7_share_X7_isIn hdS_X7_isIn rfl ⟨Nat.le_of_ble_eq_true rfl, Nat.le_of_ble_eq_true rfl⟩ (Nat.le_of_ble_eq_true rfl) ⟨Nat.zero_le _, Nat.zero_le _⟩ ⟨rfl, rfl⟩ rfl (fun v77 S76 hw => ?_)
    refine zg_if_eq (q := 228) (tgt := 301) C0 dX7_share_225 rfl rfl (fun c104 => ?_) (fun c104 => ?_)
    · have hw := hw.1 c104
      refine zg_iinc (q := 304) C0 3 dX7_share_301 rfl (by decide) zc_iconst_1 rfl (fun y78 ey78 => ?_)
      have hw := hw y78 ey78
      refine zg_lv (lv' := [(4, .int y78), (0, .ref x0), (1, .int x1), (3, .int x3)]) rfl ?_
      refine zg_goto (tgt := 210) C0 dX7_share_304 rfl ?_
      refine zg_sub [1, 2, 3, 0] rfl ?_
      exact hrec _ _ hw
    · have hw := hw.2 c104
      refine zg_iload (q := 230) C0 3 dX7_share_228 rfl rfl ?_
      refine zg_iload_n (q := 231) C0 2 dX7_share_230 rfl rfl ?_
      refine zg_icmp_eq (q := 234) (tgt := 301) C0 dX7_share_231 rfl rfl (fun c103 => ?_) (fun c103 => ?_)
      · have hw := hw.1 c103
        refine zg_iinc (q := 304) C0 3 dX7_share_301 rfl (by decide) zc_iconst_1 rfl (fun y79 ey79 => ?_)
        have hw := hw y79 ey79
        refine zg_lv (lv' := [(4, .int y79), (0, .ref x0), (1, .int x1), (3, .int x3)]) rfl ?_
        refine zg_goto (tgt := 210) C0 dX7_share_304 rfl ?_
        refine zg_sub [1, 2, 3, 0] rfl ?_
        exact hrec _ _ hw
      · have hw := hw.2 c103
        refine zg_aload_n (q := 235) C0 0 dX7_share_234 rfl rfl ?_
        refine zg_get (q := 238) (T := TX7) (k := 8) C0 dX7_share_235 hz75 (zF_7 cy hz75) rfl (by decide) hX_X7_share_7 (zwm (i := 3) rfl) rfl rfl rfl ?_
        obtain ⟨b80, hb81, hw⟩ := hw
        refine zg_nn hb81 ?_
        refine zg_iload (q := 240) C0 3 dX7_share_238 rfl rfl ?_
        refine zg_aload_n (q := 241) C0 0 dX7_share_240 rfl rfl ?_
        refine zg_get (q := 244) (T := TX7) (k := 8) C0 dX7_share_241 hz75 (zF_7 cy hz75) rfl (by decide) hX_X7_share_7 (zwm (i := 3) rfl) rfl rfl rfl ?_
        refine zg_nn hb81 ?_
        refine zg_iload_n (q := 245) C0 2 dX7_share_244 rfl rfl ?_
        obtain ⟨hz82, hw⟩ := hw
        obtain ⟨hi83, hw⟩ := hw
        refine zg_iald (q := 246) C0 dX7_share_245 hz82 hi83 rfl ?_
        obtain ⟨hi84, hw⟩ := hw
        refine zg_iast (q := 247) C0 dX7_share_246 hz82 hi84 rfl (fun S85 eS85 => ?_)
        have hw := hw S85 eS85
        refine zg_aload_n (q := 248) C0 0 dX7_share_247 rfl rfl ?_
        refine zg_get (q := 251) (T := TX7) (k := 9) C0 dX7_share_248 hz75 (zF_7 cy hz75) rfl (by decide) hX_X7_share_7 (zwm (i := 8) rfl) rfl rfl rfl ?_
        obtain ⟨b86, hb87, hw⟩ := hw
        refine zg_nn hb87 ?_
        refine zg_iload (q := 253) C0 3 dX7_share_251 rfl rfl ?_
        refine zg_aload_n (q := 254) C0 0 dX7_share_253 rfl rfl ?_
        refine zg_get (q := 257) (T := TX7) (k := 9) C0 dX7_share_254 hz75 (zF_7 cy hz75) rfl (by decide) hX_X7_share_7 (zwm (i := 8) rfl) rfl rfl rfl ?_
        refine zg_nn hb87 ?_
        refine zg_iload_n (q := 258) C0 2 dX7_share_257 rfl rfl ?_
        obtain ⟨hz88, hw⟩ := hw
        obtain ⟨hi89, hw⟩ := hw
        refine zg_lald (q := 259) C0 dX7_share_258 hz88 hi89 rfl ?_
        obtain ⟨hi90, hw⟩ := hw
        refine zg_last (q := 260) C0 dX7_share_259 hz88 hi90 rfl (fun S91 eS91 => ?_)
        have hw := hw S91 eS91
        refine zg_iconst (q := 261) C0 dX7_share_260 zc_iconst_0 rfl ?_
        refine zg_istore (q := 263) (lv' := [(5, .int 0), (0, .ref x0), (1, .int x1), (3, .int x3), (4, .int x4)]) C0 dX7_share_261 (by decide) rfl rfl ?_
        refine zg_sub [1, 2, 3, 4, 0] rfl ?_
        refine aL_X7_share_263 C0 (fun  S101 hw => ?_) _ _ hw
        refine zg_iinc (q := 304) C0 3 dX7_share_301 rfl (by decide) zc_iconst_1 rfl (fun y102 ey102 => ?_)
        have hw := hw y102 ey102
        refine zg_lv (lv' := [(4, .int y102), (0, .ref x0), (1, .int x1), (3, .int x3)]) rfl ?_
        refine zg_goto (tgt := 210) C0 dX7_share_304 rfl ?_
        refine zg_sub [1, 2, 3, 0] rfl ?_
        exact hrec _ _ hw
theorem aL_X7_share_210 {p : Program} {l : Launch} {e : Env} {s : State} {m : MethodId} {args : Array Value} {below : List Frame} {meth : Method} {c : Code} {D : va_G} {cy : Nat → ClassId} {A : Nat → Prop} {Q : State → Prop} {Z : zZ} (C0 : zC p s m args meth c cX7_share 7 wsX7_share RX7 D cy A none) {x0 : Nat} {x1 : Int32} {x3 : Int32} {Qp : zS → Prop} {K : zS → Prop} (hK : ∀  S, K  S → zG p l e rm_X7_share s m args below meth c D cy A 7 0 0 Q Z S 307 [] []) : ∀ x4 S, wL_X7_share_210 Z x0 x1 x3 Qp K x4 S → zG p l e rm_X7_share s m args below meth c D cy A 7 0 0 Q Z S 210 [(0, .ref x0), (1, .int x1), (3, .int x3), (4, .int x4)] [] := by
  intro x4 S hw
  obtain ⟨n, hw⟩ := hw
  induction n generalizing x4 S with
  | zero => exact hw.elim
  | succ n ih => exact ab_X7_share_210 C0 hK (fun x4 S hw => ih x4 S hw) hw
def w_X7_share (Z : zZ) (h0 : Nat) (p0 : Int32) (S : zS) (Qp : zS → Prop) : Prop :=
  zk Z h0 7 ∧ ∃ b2, zQ Z h0 10 = some b2 ∧ w_X7_voter Z h0 p0 S (fun (v5 : Int32) (S4 : zS) => zk Z b2 8 ∧ vp_in v5 (zN Z b2) ∧ ∀ y8 : Int32, y8 = zI S4 b2 v5.toNatClampNeg → w_X7_voter Z h0 p0 S4 (fun (v10 : Int32) (S9 : zS) => ∀ y11 : Int32, y11 = (zI S9 h0 1) - 1 → wL_X7_share_25 Z h0 p0 y8 Qp (fun (v33 : Int32) (S32 : zS) => ∃ b34, zQ Z h0 22 = some b34 ∧ zk Z b34 8 ∧ vp_in v33 (zN Z b34) ∧ ∀ y38 : Int32, y38 = (zI S32 b34 v33.toNatClampNeg) + 1 → wL_X7_share_89 Z h0 p0 y8 v33 Qp (fun  (S74 : zS) => wL_X7_share_210 Z h0 p0 v33 Qp (fun  (S106 : zS) => Qp S106) 0 S74) y38 S32) v10 y11 S9))
set_option maxHeartbeats 4000000 in
set_option maxRecDepth 100000 in
theorem a_X7_share (l : Launch) (D : va_G) (cy : Nat → ClassId) (Z : zZ) (S : zS) (sz : Nat) (h0 : Nat) (p0 : Int32) (Qp : zS → Prop) (hw : w_X7_share Z h0 p0 S Qp) : zMv l yX7_share wsX7_share rm_X7_share D cy Z S sz [.ref h0, .int p0] Qp := by
  unfold w_X7_share at hw
  refine zMv_of (cc := cX7_share) (maxL := 7) (rt := none) (by decide +kernel) rfl (Nat.le_of_ble_eq_true rfl) ?_
  intro p e s m args below meth c A C0 _
  refine zg_lv (lv' := [(0, .ref h0), (1, .int p0)]) rfl ?_
  refine zg_aload_n (q := 1) C0 0 dX7_share_0 rfl rfl ?_
  obtain ⟨hz1, hw⟩ := hw
  refine zg_get (q := 4) (T := TX7) (k := 10) C0 dX7_share_1 hz1 (zF_7 cy hz1) rfl (by decide) hX_X7_share_7 (zwm (i := 1) rfl) rfl rfl rfl ?_
  obtain ⟨b2, hb3, hw⟩ := hw
  refine zg_nn hb3 ?_
  refine zg_aload_n (q := 5) C0 0 dX7_share_4 rfl rfl ?_
  refine zg_iload_n (q := 6) C0 1 dX7_share_5 rfl rfl ?_
  refine zg_callVi (q := 9) C0 [.int p0] [.ref b2] dX7_share_6 (fun sz => a_X7_voter l D cy Z S sz h0 p0 _ hw) rfl gX7_share_X7_voter hdV_X7_voter hz1 (zF_7 cy hz1) rfl rfl ⟨Nat.le_of_ble_eq_true rfl, Nat.le_of_ble_eq_true rfl⟩ (Nat.le_of_ble_eq_true rfl) ⟨Nat.zero_le _, Nat.zero_le _⟩ ⟨rfl, rfl⟩ rfl (fun v5 S4 hw => ?_)
  obtain ⟨hz6, hw⟩ := hw
  obtain ⟨hi7, hw⟩ := hw
  refine zg_iald (q := 10) C0 dX7_share_9 hz6 hi7 rfl ?_
  refine zg_ni (fun y8 ey8 => ?_)
  have hw := hw y8 ey8
  refine zg_istore_n (q := 11) (lv' := [(2, .int y8), (0, .ref h0), (1, .int p0)]) C0 dX7_share_10 (by decide) rfl rfl ?_
  refine zg_aload_n (q := 12) C0 1 dX7_share_11 rfl rfl ?_
  refine zg_iload_n (q := 13) C0 2 dX7_share_12 rfl rfl ?_
  refine zg_callVi (q := 16) C0 [.int p0] [] dX7_share_13 (fun sz => a_X7_voter l D cy Z S4 sz h0 p0 _ hw) rfl gX7_share_X7_voter hdV_X7_voter hz1 (zF_7 cy hz1) rfl rfl ⟨Nat.le_of_ble_eq_true rfl, Nat.le_of_ble_eq_true rfl⟩ (Nat.le_of_ble_eq_true rfl) ⟨Nat.zero_le _, Nat.zero_le _⟩ ⟨rfl, rfl⟩ rfl (fun v10 S9 hw => ?_)
  refine zg_istore_n (q := 17) (lv' := [(3, .int v10), (2, .int y8), (0, .ref h0), (1, .int p0)]) C0 dX7_share_16 (by decide) rfl rfl ?_
  refine zg_aload_n (q := 18) C0 2 dX7_share_17 rfl rfl ?_
  refine zg_get (q := 21) (T := TX7) (k := 1) C0 dX7_share_18 hz1 (zF_7 cy hz1) rfl (by decide) hX_X7_share_7 (zwm (i := 2) rfl) rfl rfl rfl ?_
  refine zg_iconst (q := 22) C0 dX7_share_21 zc_iconst_1 rfl ?_
  refine zg_isub (q := 23) C0 dX7_share_22 rfl ?_
  refine zg_ni (fun y11 ey11 => ?_)
  have hw := hw y11 ey11
  refine zg_istore (q := 25) (lv' := [(4, .int y11), (3, .int v10), (2, .int y8), (0, .ref h0), (1, .int p0)]) C0 dX7_share_23 (by decide) rfl rfl ?_
  refine zg_sub [3, 4, 2, 1, 0] rfl ?_
  refine aL_X7_share_25 C0 (fun v33 S32 hw => ?_) _ _ _ hw
  refine zg_aload_n (q := 80) C0 0 dX7_share_79 rfl rfl ?_
  refine zg_get (q := 83) (T := TX7) (k := 22) C0 dX7_share_80 hz1 (zF_7 cy hz1) rfl (by decide) hX_X7_share_7 (zwm (i := 4) rfl) rfl rfl rfl ?_
  obtain ⟨b34, hb35, hw⟩ := hw
  refine zg_nn hb35 ?_
  refine zg_iload_n (q := 84) C0 3 dX7_share_83 rfl rfl ?_
  obtain ⟨hz36, hw⟩ := hw
  obtain ⟨hi37, hw⟩ := hw
  refine zg_iald (q := 85) C0 dX7_share_84 hz36 hi37 rfl ?_
  refine zg_iconst (q := 86) C0 dX7_share_85 zc_iconst_1 rfl ?_
  refine zg_iadd (q := 87) C0 dX7_share_86 rfl ?_
  refine zg_ni (fun y38 ey38 => ?_)
  have hw := hw y38 ey38
  refine zg_istore (q := 89) (lv' := [(4, .int y38), (0, .ref h0), (1, .int p0), (2, .int y8), (3, .int v33)]) C0 dX7_share_87 (by decide) rfl rfl ?_
  refine zg_sub [1, 2, 3, 4, 0] rfl ?_
  refine aL_X7_share_89 C0 (fun  S74 hw => ?_) _ _ hw
  refine zg_iconst (q := 208) C0 dX7_share_207 zc_iconst_0 rfl ?_
  refine zg_istore (q := 210) (lv' := [(4, .int 0), (0, .ref h0), (1, .int p0), (3, .int v33)]) C0 dX7_share_208 (by decide) rfl rfl ?_
  refine zg_sub [1, 2, 3, 0] rfl ?_
  refine aL_X7_share_210 C0 (fun  S106 hw => ?_) _ _ hw
  exact zg_vret C0 dX7_share_307 rfl (Nat.le_refl 0) (Nat.le_refl 0) hw
-- X7_forget
abbrev rm_X7_forget : Room := { frames := 0, cells := 0, slots := 0, locals := 0 }
theorem hX_X7_forget_7 : ∀ w ∈ u_ws RX7 TX7 36, w ∈ wsX7_forget := by decide +kernel
theorem hdV_X7_forget : yX7_forget.cls = RX7 ∧ yX7_forget.cls ≠ "java/lang/invoke/MethodHandle" ∧ yX7_forget.cls ≠ "java/lang/invoke/VarHandle" ∧ (parseMethodDescriptor yX7_forget.desc).map (fun d => d.parameters.length) = some 1 := by decide +kernel
def wb_X7_forget_9 (Z : zZ) (x0 : Nat) (x1 : Int32) (Qp : zS → Prop) (K : zS → Prop) (rec : Int32 → zS → Prop) (x2 : Int32) (S : zS) : Prop :=
  ((100 < x2 → K S) ∧ (¬ 100 < x2 → zk Z x0 7 ∧ ∃ b8, zQ Z x0 19 = some b8 ∧ zk Z b8 10 ∧ vp_in ((101 * x1) + x2) (zN Z b8) ∧ ∀ S12 : zS, S12 = zsI S b8 ((101 * x1) + x2).toNatClampNeg 0 → ∀ y13 : Int32, y13 = x2 + 1 → rec y13 S12))
def wL_X7_forget_9 (Z : zZ) (x0 : Nat) (x1 : Int32) (Qp : zS → Prop) (K : zS → Prop) (x2 : Int32) (S : zS) : Prop := ∃ n, zit2 (wb_X7_forget_9 Z x0 x1 Qp K) n x2 S
set_option maxHeartbeats 4000000 in
set_option maxRecDepth 100000 in
theorem ab_X7_forget_9 {p : Program} {l : Launch} {e : Env} {s : State} {m : MethodId} {args : Array Value} {below : List Frame} {meth : Method} {c : Code} {D : va_G} {cy : Nat → ClassId} {A : Nat → Prop} {Q : State → Prop} {Z : zZ} (C0 : zC p s m args meth c cX7_forget 3 wsX7_forget RX7 D cy A none) {x0 : Nat} {x1 : Int32} {Qp : zS → Prop} {K : zS → Prop} (hK : ∀  S, K  S → zG p l e rm_X7_forget s m args below meth c D cy A 3 0 0 Q Z S 33 [] []) {rec : Int32 → zS → Prop} (hrec : ∀ x2 S, rec x2 S → zG p l e rm_X7_forget s m args below meth c D cy A 3 0 0 Q Z S 9 [(0, .ref x0), (1, .int x1), (2, .int x2)] []) {x2 : Int32} {S : zS} (hw : wb_X7_forget_9 Z x0 x1 Qp K rec x2 S) : zG p l e rm_X7_forget s m args below meth c D cy A 3 0 0 Q Z S 9 [(0, .ref x0), (1, .int x1), (2, .int x2)] [] := by
  unfold wb_X7_forget_9 at hw
  refine zg_iload_n (q := 10) C0 2 dX7_forget_9 rfl rfl ?_
  refine zg_bipush (q := 12) C0 dX7_forget_10 zc_bipush_100 rfl ?_
  refine zg_icmp_gt (q := 15) (tgt := 33) C0 dX7_forget_12 rfl rfl (fun c14 => ?_) (fun c14 => ?_)
  · have hw := hw.1 c14
    refine zg_sub [] rfl ?_
    exact hK  _ hw
  · have hw := hw.2 c14
    refine zg_aload_n (q := 16) C0 0 dX7_forget_15 rfl rfl ?_
    obtain ⟨hz7, hw⟩ := hw
    refine zg_get (q := 19) (T := TX7) (k := 19) C0 dX7_forget_16 hz7 (zF_7 cy hz7) rfl (by decide) hX_X7_forget_7 (zwm (i := 2) rfl) rfl rfl rfl ?_
    obtain ⟨b8, hb9, hw⟩ := hw
    refine zg_nn hb9 ?_
    refine zg_bipush (q := 21) C0 dX7_forget_19 zc_bipush_101 rfl ?_
    refine zg_iload_n (q := 22) C0 1 dX7_forget_21 rfl rfl ?_
    refine zg_imul (q := 23) C0 dX7_forget_22 rfl ?_
    refine zg_iload_n (q := 24) C0 2 dX7_forget_23 rfl rfl ?_
    refine zg_iadd (q := 25) C0 dX7_forget_24 rfl ?_
    refine zg_iconst (q := 26) C0 dX7_forget_25 zc_iconst_0 rfl ?_
    obtain ⟨hz10, hw⟩ := hw
    obtain ⟨hi11, hw⟩ := hw
    refine zg_zast (q := 27) C0 dX7_forget_26 hz10 hi11 (by decide) rfl (fun S12 eS12 => ?_)
    have hw := hw S12 eS12
    refine zg_iinc (q := 30) C0 2 dX7_forget_27 rfl (by decide) zc_iconst_1 rfl (fun y13 ey13 => ?_)
    have hw := hw y13 ey13
    refine zg_lv (lv' := [(2, .int y13), (0, .ref x0), (1, .int x1)]) rfl ?_
    refine zg_goto (tgt := 9) C0 dX7_forget_30 rfl ?_
    refine zg_sub [1, 2, 0] rfl ?_
    exact hrec _ _ hw
theorem aL_X7_forget_9 {p : Program} {l : Launch} {e : Env} {s : State} {m : MethodId} {args : Array Value} {below : List Frame} {meth : Method} {c : Code} {D : va_G} {cy : Nat → ClassId} {A : Nat → Prop} {Q : State → Prop} {Z : zZ} (C0 : zC p s m args meth c cX7_forget 3 wsX7_forget RX7 D cy A none) {x0 : Nat} {x1 : Int32} {Qp : zS → Prop} {K : zS → Prop} (hK : ∀  S, K  S → zG p l e rm_X7_forget s m args below meth c D cy A 3 0 0 Q Z S 33 [] []) : ∀ x2 S, wL_X7_forget_9 Z x0 x1 Qp K x2 S → zG p l e rm_X7_forget s m args below meth c D cy A 3 0 0 Q Z S 9 [(0, .ref x0), (1, .int x1), (2, .int x2)] [] := by
  intro x2 S hw
  obtain ⟨n, hw⟩ := hw
  induction n generalizing x2 S with
  | zero => exact hw.elim
  | succ n ih => exact ab_X7_forget_9 C0 hK (fun x2 S hw => ih x2 S hw) hw
def w_X7_forget (Z : zZ) (h0 : Nat) (p0 : Int32) (S : zS) (Qp : zS → Prop) : Prop :=
  zk Z h0 7 ∧ ∃ b2, zQ Z h0 22 = some b2 ∧ zk Z b2 8 ∧ vp_in p0 (zN Z b2) ∧ ∀ S6 : zS, S6 = zsI S b2 p0.toNatClampNeg 0 → wL_X7_forget_9 Z h0 p0 Qp (fun  (S15 : zS) => Qp S15) 0 S6
set_option maxHeartbeats 4000000 in
set_option maxRecDepth 100000 in
theorem a_X7_forget (l : Launch) (D : va_G) (cy : Nat → ClassId) (Z : zZ) (S : zS) (sz : Nat) (h0 : Nat) (p0 : Int32) (Qp : zS → Prop) (hw : w_X7_forget Z h0 p0 S Qp) : zMv l yX7_forget wsX7_forget rm_X7_forget D cy Z S sz [.ref h0, .int p0] Qp := by
  unfold w_X7_forget at hw
  refine zMv_of (cc := cX7_forget) (maxL := 3) (rt := none) (by decide +kernel) rfl (Nat.le_of_ble_eq_true rfl) ?_
  intro p e s m args below meth c A C0 _
  refine zg_lv (lv' := [(0, .ref h0), (1, .int p0)]) rfl ?_
  refine zg_aload_n (q := 1) C0 0 dX7_forget_0 rfl rfl ?_
  obtain ⟨hz1, hw⟩ := hw
  refine zg_get (q := 4) (T := TX7) (k := 22) C0 dX7_forget_1 hz1 (zF_7 cy hz1) rfl (by decide) hX_X7_forget_7 (zwm (i := 1) rfl) rfl rfl rfl ?_
  obtain ⟨b2, hb3, hw⟩ := hw
  refine zg_nn hb3 ?_
  refine zg_iload_n (q := 5) C0 1 dX7_forget_4 rfl rfl ?_
  refine zg_iconst (q := 6) C0 dX7_forget_5 zc_iconst_0 rfl ?_
  obtain ⟨hz4, hw⟩ := hw
  obtain ⟨hi5, hw⟩ := hw
  refine zg_iast (q := 7) C0 dX7_forget_6 hz4 hi5 rfl (fun S6 eS6 => ?_)
  have hw := hw S6 eS6
  refine zg_iconst (q := 8) C0 dX7_forget_7 zc_iconst_0 rfl ?_
  refine zg_istore_n (q := 9) (lv' := [(2, .int 0), (0, .ref h0), (1, .int p0)]) C0 dX7_forget_8 (by decide) rfl rfl ?_
  refine zg_sub [1, 2, 0] rfl ?_
  refine aL_X7_forget_9 C0 (fun  S15 hw => ?_) _ _ hw
  exact zg_vret C0 dX7_forget_33 rfl (Nat.le_refl 0) (Nat.le_refl 0) hw
-- X7_freeSlot
abbrev rm_X7_freeSlot : Room := { frames := 2, cells := 0, slots := 0, locals := 45 }
theorem hX_X7_freeSlot_7 : ∀ w ∈ u_ws RX7 TX7 36, w ∈ wsX7_freeSlot := by decide +kernel
theorem hdV_X7_freeSlot : yX7_freeSlot.cls = RX7 ∧ yX7_freeSlot.cls ≠ "java/lang/invoke/MethodHandle" ∧ yX7_freeSlot.cls ≠ "java/lang/invoke/VarHandle" ∧ (parseMethodDescriptor yX7_freeSlot.desc).map (fun d => d.parameters.length) = some 0 := by decide +kernel
def wb_X7_freeSlot_2 (Z : zZ) (x0 : Nat) (Qp : Int32 → zS → Prop) (K : Int32 → zS → Prop) (rec : Int32 → zS → Prop) (x1 : Int32) (S : zS) : Prop :=
  zk Z x0 7 ∧ w_X7_of Z x0 ((1 <<< ((zI S x0 1) &&& 31)) - 1) x1 S (fun (v3 : Int32) (S2 : zS) => ((v3 = 0 → K x1 S2) ∧ (¬ v3 = 0 → ∀ y4 : Int32, y4 = x1 + 1 → rec y4 S2)))
def wL_X7_freeSlot_2 (Z : zZ) (x0 : Nat) (Qp : Int32 → zS → Prop) (K : Int32 → zS → Prop) (x1 : Int32) (S : zS) : Prop := ∃ n, zit2 (wb_X7_freeSlot_2 Z x0 Qp K) n x1 S
set_option maxHeartbeats 4000000 in
set_option maxRecDepth 100000 in
theorem ab_X7_freeSlot_2 {p : Program} {l : Launch} {e : Env} {s : State} {m : MethodId} {args : Array Value} {below : List Frame} {meth : Method} {c : Code} {D : va_G} {cy : Nat → ClassId} {A : Nat → Prop} {Q : State → Prop} {Z : zZ} (C0 : zC p s m args meth c cX7_freeSlot 2 wsX7_freeSlot RX7 D cy A (some .int)) {x0 : Nat} {Qp : Int32 → zS → Prop} {K : Int32 → zS → Prop} (hK : ∀ x1 S, K x1 S → zG p l e rm_X7_freeSlot s m args below meth c D cy A 2 0 0 Q Z S 24 [(1, .int x1)] []) {rec : Int32 → zS → Prop} (hrec : ∀ x1 S, rec x1 S → zG p l e rm_X7_freeSlot s m args below meth c D cy A 2 0 0 Q Z S 2 [(0, .ref x0), (1, .int x1)] []) {x1 : Int32} {S : zS} (hw : wb_X7_freeSlot_2 Z x0 Qp K rec x1 S) : zG p l e rm_X7_freeSlot s m args below meth c D cy A 2 0 0 Q Z S 2 [(0, .ref x0), (1, .int x1)] [] := by
  unfold wb_X7_freeSlot_2 at hw
  refine zg_aload_n (q := 3) C0 0 dX7_freeSlot_2 rfl rfl ?_
  refine zg_iconst (q := 4) C0 dX7_freeSlot_3 zc_iconst_1 rfl ?_
  refine zg_aload_n (q := 5) C0 0 dX7_freeSlot_4 rfl rfl ?_
  obtain ⟨hz1, hw⟩ := hw
  refine zg_get (q := 8) (T := TX7) (k := 1) C0 dX7_freeSlot_5 hz1 (zF_7 cy hz1) rfl (by decide) hX_X7_freeSlot_7 (zwm (i := 1) rfl) rfl rfl rfl ?_
  refine zg_ishl (q := 9) C0 dX7_freeSlot_8 rfl ?_
  refine zg_iconst (q := 10) C0 dX7_freeSlot_9 zc_iconst_1 rfl ?_
  refine zg_isub (q := 11) C0 dX7_freeSlot_10 rfl ?_
  refine zg_iload_n (q := 12) C0 1 dX7_freeSlot_11 rfl rfl ?_
  refine zg_callVi (q := 15) C0 [.int ((1 <<< ((zI S x0 1) &&& 31)) - 1), .int x1] [] dX7_freeSlot_12 (fun sz => a_X7_of l D cy Z S sz x0 ((1 <<< ((zI S x0 1) &&& 31)) - 1) x1 _ hw) rfl gX7_freeSlot_X7_of hdV_X7_of hz1 (zF_7 cy hz1) rfl rfl ⟨Nat.le_of_ble_eq_true rfl, Nat.le_of_ble_eq_true rfl⟩ (Nat.le_of_ble_eq_true rfl) ⟨Nat.zero_le _, Nat.zero_le _⟩ ⟨rfl, rfl⟩ rfl (fun v3 S2 hw => ?_)
  refine zg_if_eq (q := 18) (tgt := 24) C0 dX7_freeSlot_15 rfl rfl (fun c5 => ?_) (fun c5 => ?_)
  · have hw := hw.1 c5
    refine zg_sub [1] rfl ?_
    exact hK _ _ hw
  · have hw := hw.2 c5
    refine zg_iinc (q := 21) C0 1 dX7_freeSlot_18 rfl (by decide) zc_iconst_1 rfl (fun y4 ey4 => ?_)
    have hw := hw y4 ey4
    refine zg_lv (lv' := [(1, .int y4), (0, .ref x0)]) rfl ?_
    refine zg_goto (tgt := 2) C0 dX7_freeSlot_21 rfl ?_
    refine zg_sub [1, 0] rfl ?_
    exact hrec _ _ hw
theorem aL_X7_freeSlot_2 {p : Program} {l : Launch} {e : Env} {s : State} {m : MethodId} {args : Array Value} {below : List Frame} {meth : Method} {c : Code} {D : va_G} {cy : Nat → ClassId} {A : Nat → Prop} {Q : State → Prop} {Z : zZ} (C0 : zC p s m args meth c cX7_freeSlot 2 wsX7_freeSlot RX7 D cy A (some .int)) {x0 : Nat} {Qp : Int32 → zS → Prop} {K : Int32 → zS → Prop} (hK : ∀ x1 S, K x1 S → zG p l e rm_X7_freeSlot s m args below meth c D cy A 2 0 0 Q Z S 24 [(1, .int x1)] []) : ∀ x1 S, wL_X7_freeSlot_2 Z x0 Qp K x1 S → zG p l e rm_X7_freeSlot s m args below meth c D cy A 2 0 0 Q Z S 2 [(0, .ref x0), (1, .int x1)] [] := by
  intro x1 S hw
  obtain ⟨n, hw⟩ := hw
  induction n generalizing x1 S with
  | zero => exact hw.elim
  | succ n ih => exact ab_X7_freeSlot_2 C0 hK (fun x1 S hw => ih x1 S hw) hw
def w_X7_freeSlot (Z : zZ) (h0 : Nat) (S : zS) (Qp : Int32 → zS → Prop) : Prop :=
  wL_X7_freeSlot_2 Z h0 Qp (fun (v7 : Int32) (S6 : zS) => Qp v7 S6) 0 S
set_option maxHeartbeats 4000000 in
set_option maxRecDepth 100000 in
theorem a_X7_freeSlot (l : Launch) (D : va_G) (cy : Nat → ClassId) (Z : zZ) (S : zS) (sz : Nat) (h0 : Nat) (Qp : Int32 → zS → Prop) (hw : w_X7_freeSlot Z h0 S Qp) : zMi l yX7_freeSlot wsX7_freeSlot rm_X7_freeSlot D cy Z S sz [.ref h0] Qp := by
  unfold w_X7_freeSlot at hw
  refine zMi_of (cc := cX7_freeSlot) (maxL := 2) (rt := (some .int)) (by decide +kernel) rfl (Nat.le_of_ble_eq_true rfl) ?_
  intro p e s m args below meth c A C0 _
  refine zg_lv (lv' := [(0, .ref h0)]) rfl ?_
  refine zg_iconst (q := 1) C0 dX7_freeSlot_0 zc_iconst_0 rfl ?_
  refine zg_istore_n (q := 2) (lv' := [(1, .int 0), (0, .ref h0)]) C0 dX7_freeSlot_1 (by decide) rfl rfl ?_
  refine zg_sub [1, 0] rfl ?_
  refine aL_X7_freeSlot_2 C0 (fun v7 S6 hw => ?_) _ _ hw
  refine zg_iload_n (q := 25) C0 0 dX7_freeSlot_24 rfl rfl ?_
  exact zg_iret C0 dX7_freeSlot_25 rfl rfl (Nat.le_refl 0) (Nat.le_refl 0) hw
-- X7_form
abbrev rm_X7_form : Room := { frames := 3, cells := 0, slots := 0, locals := 66 }
theorem hX_X7_form_7 : ∀ w ∈ u_ws RX7 TX7 36, w ∈ wsX7_form := by decide +kernel
theorem hdV_X7_form : yX7_form.cls = RX7 ∧ yX7_form.cls ≠ "java/lang/invoke/MethodHandle" ∧ yX7_form.cls ≠ "java/lang/invoke/VarHandle" ∧ (parseMethodDescriptor yX7_form.desc).map (fun d => d.parameters.length) = some 2 := by decide +kernel
def wb_X7_form_5 (Z : zZ) (x0 : Nat) (x1 : Int32) (x2 : Int32) (Qp : Int32 → zS → Prop) (K : Int32 → zS → Prop) (rec : Int32 → Int32 → zS → Prop) (x3 : Int32) (x4 : Int32) (S : zS) : Prop :=
  zk Z x0 7 ∧ (((zI S x0 1) ≤ x4 → K x3 S) ∧ (¬ (zI S x0 1) ≤ x4 → w_X7_isIn Z x1 x4 S (fun (v3 : Int32) (S2 : zS) => ((v3 = 0 → ∀ y4 : Int32, y4 = x4 + 1 → rec x3 y4 S2) ∧ (¬ v3 = 0 → ∃ b5, zQ Z x0 6 = some b5 ∧ zk Z b5 8 ∧ vp_in x4 (zN Z b5) ∧ (((zI S2 b5 x4.toNatClampNeg) ≤ x3 → ∀ y9 : Int32, y9 = x4 + 1 → rec x3 y9 S2) ∧ (¬ (zI S2 b5 x4.toNatClampNeg) ≤ x3 → ∀ y10 : Int32, y10 = zI S2 b5 x4.toNatClampNeg → ∀ y11 : Int32, y11 = x4 + 1 → rec y10 y11 S2)))))))
def wL_X7_form_5 (Z : zZ) (x0 : Nat) (x1 : Int32) (x2 : Int32) (Qp : Int32 → zS → Prop) (K : Int32 → zS → Prop) (x3 : Int32) (x4 : Int32) (S : zS) : Prop := ∃ n, zit3 (wb_X7_form_5 Z x0 x1 x2 Qp K) n x3 x4 S
set_option maxHeartbeats 4000000 in
set_option maxRecDepth 100000 in
theorem ab_X7_form_5 {p : Program} {l : Launch} {e : Env} {s : State} {m : MethodId} {args : Array Value} {below : List Frame} {meth : Method} {c : Code} {D : va_G} {cy : Nat → ClassId} {A : Nat → Prop} {Q : State → Prop} {Z : zZ} (C0 : zC p s m args meth c cX7_form 6 wsX7_form RX7 D cy A (some .int)) {x0 : Nat} {x1 : Int32} {x2 : Int32} {Qp : Int32 → zS → Prop} {K : Int32 → zS → Prop} (hK : ∀ x3 S, K x3 S → zG p l e rm_X7_form s m args below meth c D cy A 6 0 0 Q Z S 52 [(0, .ref x0), (1, .int x1), (2, .int x2), (3, .int x3)] []) {rec : Int32 → Int32 → zS → Prop} (hrec : ∀ x3 x4 S, rec x3 x4 S → zG p l e rm_X7_form s m args below meth c D cy A 6 0 0 Q Z S 5 [(0, .ref x0), (1, .int x1), (2, .int x2), (3, .int x3), (4, .int x4)] []) {x3 : Int32} {x4 : Int32} {S : zS} (hw : wb_X7_form_5 Z x0 x1 x2 Qp K rec x3 x4 S) : zG p l e rm_X7_form s m args below meth c D cy A 6 0 0 Q Z S 5 [(0, .ref x0), (1, .int x1), (2, .int x2), (3, .int x3), (4, .int x4)] [] := by
  unfold wb_X7_form_5 at hw
  refine zg_iload (q := 7) C0 4 dX7_form_5 rfl rfl ?_
  refine zg_aload_n (q := 8) C0 0 dX7_form_7 rfl rfl ?_
  obtain ⟨hz1, hw⟩ := hw
  refine zg_get (q := 11) (T := TX7) (k := 1) C0 dX7_form_8 hz1 (zF_7 cy hz1) rfl (by decide) hX_X7_form_7 (zwm (i := 1) rfl) rfl rfl rfl ?_
  refine zg_icmp_ge (q := 14) (tgt := 52) C0 dX7_form_11 rfl rfl (fun c14 => ?_) (fun c14 => ?_)
  · have hw := hw.1 c14
    refine zg_sub [0, 1, 2, 3] rfl ?_
    exact hK _ _ hw
  · have hw := hw.2 c14
    refine zg_iload_n (q := 15) C0 1 dX7_form_14 rfl rfl ?_
    refine zg_iload (q := 17) C0 4 dX7_form_15 rfl rfl ?_
    refine zg_callSi (q := 20) C0 [.int x1, .int x4] [] dX7_form_17 (fun sz => a_X7_isIn l D cy Z S sz x1 x4 _ hw) rfl gX7_form_X7_isIn hdS_X7_isIn rfl ⟨Nat.le_of_ble_eq_true rfl, Nat.le_of_ble_eq_true rfl⟩ (Nat.le_of_ble_eq_true rfl) ⟨Nat.zero_le _, Nat.zero_le _⟩ ⟨rfl, rfl⟩ rfl (fun v3 S2 hw => ?_)
    refine zg_if_eq (q := 23) (tgt := 44) C0 dX7_form_20 rfl rfl (fun c13 => ?_) (fun c13 => ?_)
    · have hw := hw.1 c13
      refine zg_iload_n (q := 45) C0 3 dX7_form_44 rfl rfl ?_
      refine zg_istore_n (q := 46) (lv' := [(3, .int x3), (0, .ref x0), (1, .int x1), (2, .int x2), (4, .int x4)]) C0 dX7_form_45 (by decide) rfl rfl ?_
      refine zg_iinc (q := 49) C0 4 dX7_form_46 rfl (by decide) zc_iconst_1 rfl (fun y4 ey4 => ?_)
      have hw := hw y4 ey4
      refine zg_lv (lv' := [(4, .int y4), (3, .int x3), (0, .ref x0), (1, .int x1), (2, .int x2)]) rfl ?_
      refine zg_goto (tgt := 5) C0 dX7_form_49 rfl ?_
      refine zg_sub [2, 3, 4, 1, 0] rfl ?_
      exact hrec _ _ _ hw
    · have hw := hw.2 c13
      refine zg_aload_n (q := 24) C0 0 dX7_form_23 rfl rfl ?_
      refine zg_get (q := 27) (T := TX7) (k := 6) C0 dX7_form_24 hz1 (zF_7 cy hz1) rfl (by decide) hX_X7_form_7 (zwm (i := 2) rfl) rfl rfl rfl ?_
      obtain ⟨b5, hb6, hw⟩ := hw
      refine zg_nn hb6 ?_
      refine zg_iload (q := 29) C0 4 dX7_form_27 rfl rfl ?_
      obtain ⟨hz7, hw⟩ := hw
      obtain ⟨hi8, hw⟩ := hw
      refine zg_iald (q := 30) C0 dX7_form_29 hz7 hi8 rfl ?_
      refine zg_iload_n (q := 31) C0 3 dX7_form_30 rfl rfl ?_
      refine zg_icmp_le (q := 34) (tgt := 44) C0 dX7_form_31 rfl rfl (fun c12 => ?_) (fun c12 => ?_)
      · have hw := hw.1 c12
        refine zg_iload_n (q := 45) C0 3 dX7_form_44 rfl rfl ?_
        refine zg_istore_n (q := 46) (lv' := [(3, .int x3), (0, .ref x0), (1, .int x1), (2, .int x2), (4, .int x4)]) C0 dX7_form_45 (by decide) rfl rfl ?_
        refine zg_iinc (q := 49) C0 4 dX7_form_46 rfl (by decide) zc_iconst_1 rfl (fun y9 ey9 => ?_)
        have hw := hw y9 ey9
        refine zg_lv (lv' := [(4, .int y9), (3, .int x3), (0, .ref x0), (1, .int x1), (2, .int x2)]) rfl ?_
        refine zg_goto (tgt := 5) C0 dX7_form_49 rfl ?_
        refine zg_sub [2, 3, 4, 1, 0] rfl ?_
        exact hrec _ _ _ hw
      · have hw := hw.2 c12
        refine zg_aload_n (q := 35) C0 0 dX7_form_34 rfl rfl ?_
        refine zg_get (q := 38) (T := TX7) (k := 6) C0 dX7_form_35 hz1 (zF_7 cy hz1) rfl (by decide) hX_X7_form_7 (zwm (i := 2) rfl) rfl rfl rfl ?_
        refine zg_nn hb6 ?_
        refine zg_iload (q := 40) C0 4 dX7_form_38 rfl rfl ?_
        refine zg_iald (q := 41) C0 dX7_form_40 hz7 hi8 rfl ?_
        refine zg_goto (tgt := 45) C0 dX7_form_41 rfl ?_
        refine zg_ni (fun y10 ey10 => ?_)
        have hw := hw y10 ey10
        refine zg_istore_n (q := 46) (lv' := [(3, .int y10), (0, .ref x0), (1, .int x1), (2, .int x2), (4, .int x4)]) C0 dX7_form_45 (by decide) rfl rfl ?_
        refine zg_iinc (q := 49) C0 4 dX7_form_46 rfl (by decide) zc_iconst_1 rfl (fun y11 ey11 => ?_)
        have hw := hw y11 ey11
        refine zg_lv (lv' := [(4, .int y11), (3, .int y10), (0, .ref x0), (1, .int x1), (2, .int x2)]) rfl ?_
        refine zg_goto (tgt := 5) C0 dX7_form_49 rfl ?_
        refine zg_sub [2, 3, 4, 1, 0] rfl ?_
        exact hrec _ _ _ hw
theorem aL_X7_form_5 {p : Program} {l : Launch} {e : Env} {s : State} {m : MethodId} {args : Array Value} {below : List Frame} {meth : Method} {c : Code} {D : va_G} {cy : Nat → ClassId} {A : Nat → Prop} {Q : State → Prop} {Z : zZ} (C0 : zC p s m args meth c cX7_form 6 wsX7_form RX7 D cy A (some .int)) {x0 : Nat} {x1 : Int32} {x2 : Int32} {Qp : Int32 → zS → Prop} {K : Int32 → zS → Prop} (hK : ∀ x3 S, K x3 S → zG p l e rm_X7_form s m args below meth c D cy A 6 0 0 Q Z S 52 [(0, .ref x0), (1, .int x1), (2, .int x2), (3, .int x3)] []) : ∀ x3 x4 S, wL_X7_form_5 Z x0 x1 x2 Qp K x3 x4 S → zG p l e rm_X7_form s m args below meth c D cy A 6 0 0 Q Z S 5 [(0, .ref x0), (1, .int x1), (2, .int x2), (3, .int x3), (4, .int x4)] [] := by
  intro x3 x4 S hw
  obtain ⟨n, hw⟩ := hw
  induction n generalizing x3 x4 S with
  | zero => exact hw.elim
  | succ n ih => exact ab_X7_form_5 C0 hK (fun x3 x4 S hw => ih x3 x4 S hw) hw
def wJ_X7_form_226 (Z : zZ) (Qp : Int32 → zS → Prop) (K : zS → Prop) (rec : Int32 → zS → Prop) (x0 : Nat) (x1 : Int32) (x2 : Int32) (x3 : Int32) (x4 : Int32) (x5 : Int32) (S : zS) : Prop :=
  zk Z x0 7 ∧ w_X7_tell Z x0 x5 3 ((x1 : Int32).toInt64) 0 0 0 ((x3 : Int32).toInt64) S (fun (S93 : zS) => ∀ y94 : Int32, y94 = x5 + 1 → rec y94 S93)
set_option maxHeartbeats 4000000 in
set_option maxRecDepth 100000 in
theorem aJ_X7_form_226 {p : Program} {l : Launch} {e : Env} {s : State} {m : MethodId} {args : Array Value} {below : List Frame} {meth : Method} {c : Code} {D : va_G} {cy : Nat → ClassId} {A : Nat → Prop} {Q : State → Prop} {Z : zZ} (C0 : zC p s m args meth c cX7_form 6 wsX7_form RX7 D cy A (some .int)) {Qp : Int32 → zS → Prop} {x0 : Nat} {x1 : Int32} {x2 : Int32} {x3 : Int32} {x4 : Int32} {x5 : Int32}  {K : zS → Prop} {rec : Int32 → zS → Prop} (hK : ∀  S, K  S → zG p l e rm_X7_form s m args below meth c D cy A 6 0 0 Q Z S 248 [(3, .int x3)] []) (hrec : ∀ x5 S, rec x5 S → zG p l e rm_X7_form s m args below meth c D cy A 6 0 0 Q Z S 107 [(0, .ref x0), (1, .int x1), (2, .int x2), (3, .int x3), (4, .int x4), (5, .int x5)] []) {S : zS} (hw : wJ_X7_form_226 Z Qp K rec x0 x1 x2 x3 x4 x5 S) : zG p l e rm_X7_form s m args below meth c D cy A 6 0 0 Q Z S 226 [(0, .ref x0), (1, .int x1), (2, .int x2), (3, .int x3), (4, .int x4), (5, .int x5)] [] := by
  unfold wJ_X7_form_226 at hw
  refine zg_aload_n (q := 227) C0 0 dX7_form_226 rfl rfl ?_
  refine zg_iload (q := 229) C0 5 dX7_form_227 rfl rfl ?_
  refine zg_ldc2 (q := 232) (v := 3) C0 dX7_form_229 (zwm (i := 14) rfl) rfl ?_
  refine zg_iload_n (q := 233) C0 1 dX7_form_232 rfl rfl ?_
  refine zg_i2l (q := 234) C0 dX7_form_233 rfl ?_
  refine zg_lconst (q := 235) (v := 0) C0 dX7_form_234 (by decide) rfl ?_
  refine zg_lconst (q := 236) (v := 0) C0 dX7_form_235 (by decide) rfl ?_
  refine zg_lconst (q := 237) (v := 0) C0 dX7_form_236 (by decide) rfl ?_
  refine zg_iload_n (q := 238) C0 3 dX7_form_237 rfl rfl ?_
  refine zg_i2l (q := 239) C0 dX7_form_238 rfl ?_
  obtain ⟨hz92, hw⟩ := hw
  refine zg_callVv (q := 242) C0 [.int x5, .long 3, .long ((x1 : Int32).toInt64), .long 0, .long 0, .long 0, .long ((x3 : Int32).toInt64)] [] dX7_form_239 (fun sz => a_X7_tell l D cy Z S sz x0 x5 3 ((x1 : Int32).toInt64) 0 0 0 ((x3 : Int32).toInt64) _ hw) rfl gX7_form_X7_tell hdV_X7_tell hz92 (zF_7 cy hz92) rfl rfl ⟨Nat.le_of_ble_eq_true rfl, Nat.le_of_ble_eq_true rfl⟩ (Nat.le_of_ble_eq_true rfl) ⟨Nat.zero_le _, Nat.zero_le _⟩ ⟨rfl, rfl⟩ rfl (fun S93 hw => ?_)
  refine zg_iinc (q := 245) C0 5 dX7_form_242 rfl (by decide) zc_iconst_1 rfl (fun y94 ey94 => ?_)
  have hw := hw y94 ey94
  refine zg_lv (lv' := [(5, .int y94), (0, .ref x0), (1, .int x1), (2, .int x2), (3, .int x3), (4, .int x4)]) rfl ?_
  refine zg_goto (tgt := 107) C0 dX7_form_245 rfl ?_
  refine zg_sub [1, 2, 3, 4, 5, 0] rfl ?_
  exact hrec _ _ hw
def wJ_X7_form_215 (Z : zZ) (Qp : Int32 → zS → Prop) (K : zS → Prop) (rec : Int32 → zS → Prop) (x0 : Nat) (x1 : Int32) (x2 : Int32) (x3 : Int32) (x4 : Int32) (x5 : Int32) (t0 : Int32) (t1 : Int32) (t2 : Nat) (S : zS) : Prop :=
  zk Z t2 8 ∧ vp_in t1 (zN Z t2) ∧ ∀ S91 : zS, S91 = zsI S t2 t1.toNatClampNeg t0 → ((x2 = 0 → wJ_X7_form_226 Z Qp K rec x0 x1 x2 x3 x4 x5 S91) ∧ (¬ x2 = 0 → zk Z x0 7 ∧ w_X7_forget Z x0 x5 S91 (fun (S96 : zS) => wJ_X7_form_226 Z Qp K rec x0 x1 x2 x3 x4 x5 S96)))
set_option maxHeartbeats 4000000 in
set_option maxRecDepth 100000 in
theorem aJ_X7_form_215 {p : Program} {l : Launch} {e : Env} {s : State} {m : MethodId} {args : Array Value} {below : List Frame} {meth : Method} {c : Code} {D : va_G} {cy : Nat → ClassId} {A : Nat → Prop} {Q : State → Prop} {Z : zZ} (C0 : zC p s m args meth c cX7_form 6 wsX7_form RX7 D cy A (some .int)) {Qp : Int32 → zS → Prop} {x0 : Nat} {x1 : Int32} {x2 : Int32} {x3 : Int32} {x4 : Int32} {x5 : Int32} {t0 : Int32} {t1 : Int32} {t2 : Nat}  {K : zS → Prop} {rec : Int32 → zS → Prop} (hK : ∀  S, K  S → zG p l e rm_X7_form s m args below meth c D cy A 6 0 0 Q Z S 248 [(3, .int x3)] []) (hrec : ∀ x5 S, rec x5 S → zG p l e rm_X7_form s m args below meth c D cy A 6 0 0 Q Z S 107 [(0, .ref x0), (1, .int x1), (2, .int x2), (3, .int x3), (4, .int x4), (5, .int x5)] []) {S : zS} (hw : wJ_X7_form_215 Z Qp K rec x0 x1 x2 x3 x4 x5 t0 t1 t2 S) : zG p l e rm_X7_form s m args below meth c D cy A 6 0 0 Q Z S 215 [(0, .ref x0), (1, .int x1), (2, .int x2), (3, .int x3), (4, .int x4), (5, .int x5)] [.int t0, .int t1, .ref t2] := by
  unfold wJ_X7_form_215 at hw
  obtain ⟨hz89, hw⟩ := hw
  obtain ⟨hi90, hw⟩ := hw
  refine zg_iast (q := 216) C0 dX7_form_215 hz89 hi90 rfl (fun S91 eS91 => ?_)
  have hw := hw S91 eS91
  refine zg_iload_n (q := 217) C0 2 dX7_form_216 rfl rfl ?_
  refine zg_if_eq (q := 220) (tgt := 226) C0 dX7_form_217 rfl rfl (fun c97 => ?_) (fun c97 => ?_)
  · have hw := hw.1 c97
    refine zg_sub [0, 1, 2, 3, 4, 5] rfl ?_
    exact aJ_X7_form_226 C0 hK hrec hw
  · have hw := hw.2 c97
    refine zg_aload_n (q := 221) C0 0 dX7_form_220 rfl rfl ?_
    refine zg_iload (q := 223) C0 5 dX7_form_221 rfl rfl ?_
    obtain ⟨hz95, hw⟩ := hw
    refine zg_callVv (q := 226) C0 [.int x5] [] dX7_form_223 (fun sz => a_X7_forget l D cy Z S91 sz x0 x5 _ hw) rfl gX7_form_X7_forget hdV_X7_forget hz95 (zF_7 cy hz95) rfl rfl ⟨Nat.le_of_ble_eq_true rfl, Nat.le_of_ble_eq_true rfl⟩ (Nat.le_of_ble_eq_true rfl) ⟨Nat.zero_le _, Nat.zero_le _⟩ ⟨rfl, rfl⟩ rfl (fun S96 hw => ?_)
    refine zg_sub [0, 1, 2, 3, 4, 5] rfl ?_
    exact aJ_X7_form_226 C0 hK hrec hw
def wJ_X7_form_193 (Z : zZ) (Qp : Int32 → zS → Prop) (K : zS → Prop) (rec : Int32 → zS → Prop) (x0 : Nat) (x1 : Int32) (x2 : Int32) (x3 : Int32) (x4 : Int32) (x5 : Int32) (t0 : Int32) (t1 : Int32) (t2 : Nat) (S : zS) : Prop :=
  zk Z t2 8 ∧ vp_in t1 (zN Z t2) ∧ ∀ S83 : zS, S83 = zsI S t2 t1.toNatClampNeg t0 → zk Z x0 7 ∧ ∃ b85, zQ Z x0 11 = some b85 ∧ ((x2 = 0 → zk Z b85 8 ∧ vp_in x5 (zN Z b85) ∧ wJ_X7_form_215 Z Qp K rec x0 x1 x2 x3 x4 x5 (zI S83 b85 x5.toNatClampNeg) x5 b85 S83) ∧ (¬ x2 = 0 → wJ_X7_form_215 Z Qp K rec x0 x1 x2 x3 x4 x5 x1 x5 b85 S83))
set_option maxHeartbeats 4000000 in
set_option maxRecDepth 100000 in
theorem aJ_X7_form_193 {p : Program} {l : Launch} {e : Env} {s : State} {m : MethodId} {args : Array Value} {below : List Frame} {meth : Method} {c : Code} {D : va_G} {cy : Nat → ClassId} {A : Nat → Prop} {Q : State → Prop} {Z : zZ} (C0 : zC p s m args meth c cX7_form 6 wsX7_form RX7 D cy A (some .int)) {Qp : Int32 → zS → Prop} {x0 : Nat} {x1 : Int32} {x2 : Int32} {x3 : Int32} {x4 : Int32} {x5 : Int32} {t0 : Int32} {t1 : Int32} {t2 : Nat}  {K : zS → Prop} {rec : Int32 → zS → Prop} (hK : ∀  S, K  S → zG p l e rm_X7_form s m args below meth c D cy A 6 0 0 Q Z S 248 [(3, .int x3)] []) (hrec : ∀ x5 S, rec x5 S → zG p l e rm_X7_form s m args below meth c D cy A 6 0 0 Q Z S 107 [(0, .ref x0), (1, .int x1), (2, .int x2), (3, .int x3), (4, .int x4), (5, .int x5)] []) {S : zS} (hw : wJ_X7_form_193 Z Qp K rec x0 x1 x2 x3 x4 x5 t0 t1 t2 S) : zG p l e rm_X7_form s m args below meth c D cy A 6 0 0 Q Z S 193 [(0, .ref x0), (1, .int x1), (2, .int x2), (3, .int x3), (4, .int x4), (5, .int x5)] [.int t0, .int t1, .ref t2] := by
  unfold wJ_X7_form_193 at hw
  obtain ⟨hz81, hw⟩ := hw
  obtain ⟨hi82, hw⟩ := hw
  refine zg_iast (q := 194) C0 dX7_form_193 hz81 hi82 rfl (fun S83 eS83 => ?_)
  have hw := hw S83 eS83
  refine zg_aload_n (q := 195) C0 0 dX7_form_194 rfl rfl ?_
  obtain ⟨hz84, hw⟩ := hw
  refine zg_get (q := 198) (T := TX7) (k := 11) C0 dX7_form_195 hz84 (zF_7 cy hz84) rfl (by decide) hX_X7_form_7 (zwm (i := 13) rfl) rfl rfl rfl ?_
  obtain ⟨b85, hb86, hw⟩ := hw
  refine zg_nn hb86 ?_
  refine zg_iload (q := 200) C0 5 dX7_form_198 rfl rfl ?_
  refine zg_iload_n (q := 201) C0 2 dX7_form_200 rfl rfl ?_
  refine zg_if_eq (q := 204) (tgt := 208) C0 dX7_form_201 rfl rfl (fun c98 => ?_) (fun c98 => ?_)
  · have hw := hw.1 c98
    refine zg_aload_n (q := 209) C0 0 dX7_form_208 rfl rfl ?_
    refine zg_get (q := 212) (T := TX7) (k := 11) C0 dX7_form_209 hz84 (zF_7 cy hz84) rfl (by decide) hX_X7_form_7 (zwm (i := 13) rfl) rfl rfl rfl ?_
    refine zg_nn hb86 ?_
    refine zg_iload (q := 214) C0 5 dX7_form_212 rfl rfl ?_
    obtain ⟨hz87, hw⟩ := hw
    obtain ⟨hi88, hw⟩ := hw
    refine zg_iald (q := 215) C0 dX7_form_214 hz87 hi88 rfl ?_
    refine zg_sub [0, 1, 2, 3, 4, 5] rfl ?_
    exact aJ_X7_form_215 C0 hK hrec hw
  · have hw := hw.2 c98
    refine zg_iload_n (q := 205) C0 1 dX7_form_204 rfl rfl ?_
    refine zg_goto (tgt := 215) C0 dX7_form_205 rfl ?_
    refine zg_sub [0, 1, 2, 3, 4, 5] rfl ?_
    exact aJ_X7_form_215 C0 hK hrec hw
def wb_X7_form_107 (Z : zZ) (x0 : Nat) (x1 : Int32) (x2 : Int32) (x3 : Int32) (x4 : Int32) (Qp : Int32 → zS → Prop) (K : zS → Prop) (rec : Int32 → zS → Prop) (x5 : Int32) (S : zS) : Prop :=
  zk Z x0 7 ∧ (((zI S x0 1) ≤ x5 → K S) ∧ (¬ (zI S x0 1) ≤ x5 → ∃ b49, zQ Z x0 35 = some b49 ∧ zk Z b49 8 ∧ vp_in ((8 * x4) + x5) (zN Z b49) ∧ ∀ S53 : zS, S53 = zsI S b49 ((8 * x4) + x5).toNatClampNeg 0 → w_X7_isIn Z x1 x5 S53 (fun (v55 : Int32) (S54 : zS) => ((v55 = 0 → ∀ y56 : Int32, y56 = x5 + 1 → rec y56 S54) ∧ (¬ v55 = 0 → ∃ b57, zQ Z x0 5 = some b57 ∧ zk Z b57 8 ∧ vp_in x5 (zN Z b57) ∧ ∀ S61 : zS, S61 = zsI S54 b57 x5.toNatClampNeg x4 → ∃ b62, zQ Z x0 6 = some b62 ∧ zk Z b62 8 ∧ vp_in x5 (zN Z b62) ∧ ∀ S66 : zS, S66 = zsI S61 b62 x5.toNatClampNeg x3 → ∃ b67, zQ Z x0 16 = some b67 ∧ zk Z b67 8 ∧ vp_in x5 (zN Z b67) ∧ ∀ S71 : zS, S71 = zsI S66 b67 x5.toNatClampNeg 0 → ∃ b72, zQ Z x0 17 = some b72 ∧ zk Z b72 8 ∧ vp_in x5 (zN Z b72) ∧ ∀ S76 : zS, S76 = zsI S71 b72 x5.toNatClampNeg 0 → ∃ b77, zQ Z x0 10 = some b77 ∧ ((x2 = 0 → zk Z b77 8 ∧ vp_in x5 (zN Z b77) ∧ wJ_X7_form_193 Z Qp K rec x0 x1 x2 x3 x4 x5 (zI S76 b77 x5.toNatClampNeg) x5 b77 S76) ∧ (¬ x2 = 0 → wJ_X7_form_193 Z Qp K rec x0 x1 x2 x3 x4 x5 x3 x5 b77 S76)))))))
def wL_X7_form_107 (Z : zZ) (x0 : Nat) (x1 : Int32) (x2 : Int32) (x3 : Int32) (x4 : Int32) (Qp : Int32 → zS → Prop) (K : zS → Prop) (x5 : Int32) (S : zS) : Prop := ∃ n, zit2 (wb_X7_form_107 Z x0 x1 x2 x3 x4 Qp K) n x5 S
set_option maxHeartbeats 4000000 in
set_option maxRecDepth 100000 in
theorem ab_X7_form_107 {p : Program} {l : Launch} {e : Env} {s : State} {m : MethodId} {args : Array Value} {below : List Frame} {meth : Method} {c : Code} {D : va_G} {cy : Nat → ClassId} {A : Nat → Prop} {Q : State → Prop} {Z : zZ} (C0 : zC p s m args meth c cX7_form 6 wsX7_form RX7 D cy A (some .int)) {x0 : Nat} {x1 : Int32} {x2 : Int32} {x3 : Int32} {x4 : Int32} {Qp : Int32 → zS → Prop} {K : zS → Prop} (hK : ∀  S, K  S → zG p l e rm_X7_form s m args below meth c D cy A 6 0 0 Q Z S 248 [(3, .int x3)] []) {rec : Int32 → zS → Prop} (hrec : ∀ x5 S, rec x5 S → zG p l e rm_X7_form s m args below meth c D cy A 6 0 0 Q Z S 107 [(0, .ref x0), (1, .int x1), (2, .int x2), (3, .int x3), (4, .int x4), (5, .int x5)] []) {x5 : Int32} {S : zS} (hw : wb_X7_form_107 Z x0 x1 x2 x3 x4 Qp K rec x5 S) : zG p l e rm_X7_form s m args below meth c D cy A 6 0 0 Q Z S 107 [(0, .ref x0), (1, .int x1), (2, .int x2), (3, .int x3), (4, .int x4), (5, .int x5)] [] := by
  unfold wb_X7_form_107 at hw
  refine zg_iload (q := 109) C0 5 dX7_form_107 rfl rfl ?_
  refine zg_aload_n (q := 110) C0 0 dX7_form_109 rfl rfl ?_
  obtain ⟨hz48, hw⟩ := hw
  refine zg_get (q := 113) (T := TX7) (k := 1) C0 dX7_form_110 hz48 (zF_7 cy hz48) rfl (by decide) hX_X7_form_7 (zwm (i := 1) rfl) rfl rfl rfl ?_
  refine zg_icmp_ge (q := 116) (tgt := 248) C0 dX7_form_113 rfl rfl (fun c101 => ?_) (fun c101 => ?_)
  · have hw := hw.1 c101
    refine zg_sub [3] rfl ?_
    exact hK  _ hw
  · have hw := hw.2 c101
    refine zg_aload_n (q := 117) C0 0 dX7_form_116 rfl rfl ?_
    refine zg_get (q := 120) (T := TX7) (k := 35) C0 dX7_form_117 hz48 (zF_7 cy hz48) rfl (by decide) hX_X7_form_7 (zwm (i := 8) rfl) rfl rfl rfl ?_
    obtain ⟨b49, hb50, hw⟩ := hw
    refine zg_nn hb50 ?_
    refine zg_bipush (q := 122) C0 dX7_form_120 zc_bipush_8 rfl ?_
    refine zg_iload (q := 124) C0 4 dX7_form_122 rfl rfl ?_
    refine zg_imul (q := 125) C0 dX7_form_124 rfl ?_
    refine zg_iload (q := 127) C0 5 dX7_form_125 rfl rfl ?_
    refine zg_iadd (q := 128) C0 dX7_form_127 rfl ?_
    refine zg_iconst (q := 129) C0 dX7_form_128 zc_iconst_0 rfl ?_
    obtain ⟨hz51, hw⟩ := hw
    obtain ⟨hi52, hw⟩ := hw
    refine zg_iast (q := 130) C0 dX7_form_129 hz51 hi52 rfl (fun S53 eS53 => ?_)
    have hw := hw S53 eS53
    refine zg_iload_n (q := 131) C0 1 dX7_form_130 rfl rfl ?_
    refine zg_iload (q := 133) C0 5 dX7_form_131 rfl rfl ?_
    refine zg_callSi (q := 136) C0 [.int x1, .int x5] [] dX7_form_133 (fun sz => a_X7_isIn l D cy Z S53 sz x1 x5 _ hw) rfl gX7_form_X7_isIn hdS_X7_isIn rfl ⟨Nat.le_of_ble_eq_true rfl, Nat.le_of_ble_eq_true rfl⟩ (Nat.le_of_ble_eq_true rfl) ⟨Nat.zero_le _, Nat.zero_le _⟩ ⟨rfl, rfl⟩ rfl (fun v55 S54 hw => ?_)
    refine zg_if_eq (q := 139) (tgt := 242) C0 dX7_form_136 rfl rfl (fun c100 => ?_) (fun c100 => ?_)
    · have hw := hw.1 c100
      refine zg_iinc (q := 245) C0 5 dX7_form_242 rfl (by decide) zc_iconst_1 rfl (fun y56 ey56 => ?_)
      have hw := hw y56 ey56
      refine zg_lv (lv' := [(5, .int y56), (0, .ref x0), (1, .int x1), (2, .int x2), (3, .int x3), (4, .int x4)]) rfl ?_
      refine zg_goto (tgt := 107) C0 dX7_form_245 rfl ?_
      refine zg_sub [1, 2, 3, 4, 5, 0] rfl ?_
      exact hrec _ _ hw
    · have hw := hw.2 c100
      refine zg_aload_n (q := 140) C0 0 dX7_form_139 rfl rfl ?_
      refine zg_get (q := 143) (T := TX7) (k := 5) C0 dX7_form_140 hz48 (zF_7 cy hz48) rfl (by decide) hX_X7_form_7 (zwm (i := 9) rfl) rfl rfl rfl ?_
      obtain ⟨b57, hb58, hw⟩ := hw
      refine zg_nn hb58 ?_
      refine zg_iload (q := 145) C0 5 dX7_form_143 rfl rfl ?_
      refine zg_iload (q := 147) C0 4 dX7_form_145 rfl rfl ?_
      obtain ⟨hz59, hw⟩ := hw
      obtain ⟨hi60, hw⟩ := hw
      refine zg_iast (q := 148) C0 dX7_form_147 hz59 hi60 rfl (fun S61 eS61 => ?_)
      have hw := hw S61 eS61
      refine zg_aload_n (q := 149) C0 0 dX7_form_148 rfl rfl ?_
      refine zg_get (q := 152) (T := TX7) (k := 6) C0 dX7_form_149 hz48 (zF_7 cy hz48) rfl (by decide) hX_X7_form_7 (zwm (i := 2) rfl) rfl rfl rfl ?_
      obtain ⟨b62, hb63, hw⟩ := hw
      refine zg_nn hb63 ?_
      refine zg_iload (q := 154) C0 5 dX7_form_152 rfl rfl ?_
      refine zg_iload_n (q := 155) C0 3 dX7_form_154 rfl rfl ?_
      obtain ⟨hz64, hw⟩ := hw
      obtain ⟨hi65, hw⟩ := hw
      refine zg_iast (q := 156) C0 dX7_form_155 hz64 hi65 rfl (fun S66 eS66 => ?_)
      have hw := hw S66 eS66
      refine zg_aload_n (q := 157) C0 0 dX7_form_156 rfl rfl ?_
      refine zg_get (q := 160) (T := TX7) (k := 16) C0 dX7_form_157 hz48 (zF_7 cy hz48) rfl (by decide) hX_X7_form_7 (zwm (i := 10) rfl) rfl rfl rfl ?_
      obtain ⟨b67, hb68, hw⟩ := hw
      refine zg_nn hb68 ?_
      refine zg_iload (q := 162) C0 5 dX7_form_160 rfl rfl ?_
      refine zg_iconst (q := 163) C0 dX7_form_162 zc_iconst_0 rfl ?_
      obtain ⟨hz69, hw⟩ := hw
      obtain ⟨hi70, hw⟩ := hw
      refine zg_iast (q := 164) C0 dX7_form_163 hz69 hi70 rfl (fun S71 eS71 => ?_)
      have hw := hw S71 eS71
      refine zg_aload_n (q := 165) C0 0 dX7_form_164 rfl rfl ?_
      refine zg_get (q := 168) (T := TX7) (k := 17) C0 dX7_form_165 hz48 (zF_7 cy hz48) rfl (by decide) hX_X7_form_7 (zwm (i := 11) rfl) rfl rfl rfl ?_
      obtain ⟨b72, hb73, hw⟩ := hw
      refine zg_nn hb73 ?_
      refine zg_iload (q := 170) C0 5 dX7_form_168 rfl rfl ?_
      refine zg_iconst (q := 171) C0 dX7_form_170 zc_iconst_0 rfl ?_
      obtain ⟨hz74, hw⟩ := hw
      obtain ⟨hi75, hw⟩ := hw
      refine zg_iast (q := 172) C0 dX7_form_171 hz74 hi75 rfl (fun S76 eS76 => ?_)
      have hw := hw S76 eS76
      refine zg_aload_n (q := 173) C0 0 dX7_form_172 rfl rfl ?_
      refine zg_get (q := 176) (T := TX7) (k := 10) C0 dX7_form_173 hz48 (zF_7 cy hz48) rfl (by decide) hX_X7_form_7 (zwm (i := 12) rfl) rfl rfl rfl ?_
      obtain ⟨b77, hb78, hw⟩ := hw
      refine zg_nn hb78 ?_
      refine zg_iload (q := 178) C0 5 dX7_form_176 rfl rfl ?_
      refine zg_iload_n (q := 179) C0 2 dX7_form_178 rfl rfl ?_
      refine zg_if_eq (q := 182) (tgt := 186) C0 dX7_form_179 rfl rfl (fun c99 => ?_) (fun c99 => ?_)
      · have hw := hw.1 c99
        refine zg_aload_n (q := 187) C0 0 dX7_form_186 rfl rfl ?_
        refine zg_get (q := 190) (T := TX7) (k := 10) C0 dX7_form_187 hz48 (zF_7 cy hz48) rfl (by decide) hX_X7_form_7 (zwm (i := 12) rfl) rfl rfl rfl ?_
        refine zg_nn hb78 ?_
        refine zg_iload (q := 192) C0 5 dX7_form_190 rfl rfl ?_
        obtain ⟨hz79, hw⟩ := hw
        obtain ⟨hi80, hw⟩ := hw
        refine zg_iald (q := 193) C0 dX7_form_192 hz79 hi80 rfl ?_
        refine zg_sub [0, 1, 2, 3, 4, 5] rfl ?_
        exact aJ_X7_form_193 C0 hK hrec hw
      · have hw := hw.2 c99
        refine zg_iload_n (q := 183) C0 3 dX7_form_182 rfl rfl ?_
        refine zg_goto (tgt := 193) C0 dX7_form_183 rfl ?_
        refine zg_sub [0, 1, 2, 3, 4, 5] rfl ?_
        exact aJ_X7_form_193 C0 hK hrec hw
theorem aL_X7_form_107 {p : Program} {l : Launch} {e : Env} {s : State} {m : MethodId} {args : Array Value} {below : List Frame} {meth : Method} {c : Code} {D : va_G} {cy : Nat → ClassId} {A : Nat → Prop} {Q : State → Prop} {Z : zZ} (C0 : zC p s m args meth c cX7_form 6 wsX7_form RX7 D cy A (some .int)) {x0 : Nat} {x1 : Int32} {x2 : Int32} {x3 : Int32} {x4 : Int32} {Qp : Int32 → zS → Prop} {K : zS → Prop} (hK : ∀  S, K  S → zG p l e rm_X7_form s m args below meth c D cy A 6 0 0 Q Z S 248 [(3, .int x3)] []) : ∀ x5 S, wL_X7_form_107 Z x0 x1 x2 x3 x4 Qp K x5 S → zG p l e rm_X7_form s m args below meth c D cy A 6 0 0 Q Z S 107 [(0, .ref x0), (1, .int x1), (2, .int x2), (3, .int x3), (4, .int x4), (5, .int x5)] [] := by
  intro x5 S hw
  obtain ⟨n, hw⟩ := hw
  induction n generalizing x5 S with
  | zero => exact hw.elim
  | succ n ih => exact ab_X7_form_107 C0 hK (fun x5 S hw => ih x5 S hw) hw
def w_X7_form (Z : zZ) (h0 : Nat) (p0 : Int32) (p1 : Int32) (S : zS) (Qp : Int32 → zS → Prop) : Prop :=
  wL_X7_form_5 Z h0 p0 p1 Qp (fun (v16 : Int32) (S15 : zS) => ∀ y17 : Int32, y17 = v16 + 1 → zk Z h0 7 ∧ w_X7_freeSlot Z h0 S15 (fun (v20 : Int32) (S19 : zS) => ∃ b21, zQ Z h0 24 = some b21 ∧ zk Z b21 8 ∧ vp_in v20 (zN Z b21) ∧ ∀ S25 : zS, S25 = zsI S19 b21 v20.toNatClampNeg y17 → ∃ b26, zQ Z h0 25 = some b26 ∧ zk Z b26 8 ∧ vp_in v20 (zN Z b26) ∧ ∀ S30 : zS, S30 = zsI S25 b26 v20.toNatClampNeg p0 → ∃ b31, zQ Z h0 26 = some b31 ∧ zk Z b31 10 ∧ vp_in v20 (zN Z b31) ∧ ∀ S35 : zS, S35 = zsI S30 b31 v20.toNatClampNeg 0 → ∃ b36, zQ Z h0 27 = some b36 ∧ w_X7_least Z p0 S35 (fun (v39 : Int32) (S38 : zS) => zk Z b36 8 ∧ vp_in v20 (zN Z b36) ∧ ∀ S42 : zS, S42 = zsI S38 b36 v20.toNatClampNeg v39 → ∃ b43, zQ Z h0 28 = some b43 ∧ zk Z b43 8 ∧ vp_in v20 (zN Z b43) ∧ ∀ S47 : zS, S47 = zsI S42 b43 v20.toNatClampNeg 0 → wL_X7_form_107 Z h0 p0 p1 y17 v20 Qp (fun  (S102 : zS) => Qp y17 S102) 0 S47))) 0 0 S
set_option maxHeartbeats 4000000 in
set_option maxRecDepth 100000 in
theorem a_X7_form (l : Launch) (D : va_G) (cy : Nat → ClassId) (Z : zZ) (S : zS) (sz : Nat) (h0 : Nat) (p0 : Int32) (p1 : Int32) (Qp : Int32 → zS → Prop) (hw : w_X7_form Z h0 p0 p1 S Qp) : zMi l yX7_form wsX7_form rm_X7_form D cy Z S sz [.ref h0, .int p0, .int p1] Qp := by
  unfold w_X7_form at hw
  refine zMi_of (cc := cX7_form) (maxL := 6) (rt := (some .int)) (by decide +kernel) rfl (Nat.le_of_ble_eq_true rfl) ?_
  intro p e s m args below meth c A C0 _
  refine zg_lv (lv' := [(0, .ref h0), (1, .int p0), (2, .int p1)]) rfl ?_
  refine zg_iconst (q := 1) C0 dX7_form_0 zc_iconst_0 rfl ?_
  refine zg_istore_n (q := 2) (lv' := [(3, .int 0), (0, .ref h0), (1, .int p0), (2, .int p1)]) C0 dX7_form_1 (by decide) rfl rfl ?_
  refine zg_iconst (q := 3) C0 dX7_form_2 zc_iconst_0 rfl ?_
  refine zg_istore (q := 5) (lv' := [(4, .int 0), (3, .int 0), (0, .ref h0), (1, .int p0), (2, .int p1)]) C0 dX7_form_3 (by decide) rfl rfl ?_
  refine zg_sub [2, 3, 4, 1, 0] rfl ?_
  refine aL_X7_form_5 C0 (fun v16 S15 hw => ?_) _ _ _ hw
  refine zg_iinc (q := 55) C0 3 dX7_form_52 rfl (by decide) zc_iconst_1 rfl (fun y17 ey17 => ?_)
  have hw := hw y17 ey17
  refine zg_lv (lv' := [(3, .int y17), (0, .ref h0), (1, .int p0), (2, .int p1)]) rfl ?_
  refine zg_aload_n (q := 56) C0 1 dX7_form_55 rfl rfl ?_
  obtain ⟨hz18, hw⟩ := hw
  refine zg_callVi (q := 59) C0 [] [] dX7_form_56 (fun sz => a_X7_freeSlot l D cy Z S15 sz h0 _ hw) rfl gX7_form_X7_freeSlot hdV_X7_freeSlot hz18 (zF_7 cy hz18) rfl rfl ⟨Nat.le_of_ble_eq_true rfl, Nat.le_of_ble_eq_true rfl⟩ (Nat.le_of_ble_eq_true rfl) ⟨Nat.zero_le _, Nat.zero_le _⟩ ⟨rfl, rfl⟩ rfl (fun v20 S19 hw => ?_)
  refine zg_istore (q := 61) (lv' := [(4, .int v20), (3, .int y17), (0, .ref h0), (1, .int p0), (2, .int p1)]) C0 dX7_form_59 (by decide) rfl rfl ?_
  refine zg_aload_n (q := 62) C0 2 dX7_form_61 rfl rfl ?_
  refine zg_get (q := 65) (T := TX7) (k := 24) C0 dX7_form_62 hz18 (zF_7 cy hz18) rfl (by decide) hX_X7_form_7 (zwm (i := 3) rfl) rfl rfl rfl ?_
  obtain ⟨b21, hb22, hw⟩ := hw
  refine zg_nn hb22 ?_
  refine zg_iload (q := 67) C0 0 dX7_form_65 rfl rfl ?_
  refine zg_iload_n (q := 68) C0 1 dX7_form_67 rfl rfl ?_
  obtain ⟨hz23, hw⟩ := hw
  obtain ⟨hi24, hw⟩ := hw
  refine zg_iast (q := 69) C0 dX7_form_68 hz23 hi24 rfl (fun S25 eS25 => ?_)
  have hw := hw S25 eS25
  refine zg_aload_n (q := 70) C0 2 dX7_form_69 rfl rfl ?_
  refine zg_get (q := 73) (T := TX7) (k := 25) C0 dX7_form_70 hz18 (zF_7 cy hz18) rfl (by decide) hX_X7_form_7 (zwm (i := 4) rfl) rfl rfl rfl ?_
  obtain ⟨b26, hb27, hw⟩ := hw
  refine zg_nn hb27 ?_
  refine zg_iload (q := 75) C0 0 dX7_form_73 rfl rfl ?_
  refine zg_iload_n (q := 76) C0 3 dX7_form_75 rfl rfl ?_
  obtain ⟨hz28, hw⟩ := hw
  obtain ⟨hi29, hw⟩ := hw
  refine zg_iast (q := 77) C0 dX7_form_76 hz28 hi29 rfl (fun S30 eS30 => ?_)
  have hw := hw S30 eS30
  refine zg_aload_n (q := 78) C0 2 dX7_form_77 rfl rfl ?_
  refine zg_get (q := 81) (T := TX7) (k := 26) C0 dX7_form_78 hz18 (zF_7 cy hz18) rfl (by decide) hX_X7_form_7 (zwm (i := 5) rfl) rfl rfl rfl ?_
  obtain ⟨b31, hb32, hw⟩ := hw
  refine zg_nn hb32 ?_
  refine zg_iload (q := 83) C0 0 dX7_form_81 rfl rfl ?_
  refine zg_iconst (q := 84) C0 dX7_form_83 zc_iconst_0 rfl ?_
  obtain ⟨hz33, hw⟩ := hw
  obtain ⟨hi34, hw⟩ := hw
  refine zg_zast (q := 85) C0 dX7_form_84 hz33 hi34 (by decide) rfl (fun S35 eS35 => ?_)
  have hw := hw S35 eS35
  refine zg_aload_n (q := 86) C0 2 dX7_form_85 rfl rfl ?_
  refine zg_get (q := 89) (T := TX7) (k := 27) C0 dX7_form_86 hz18 (zF_7 cy hz18) rfl (by decide) hX_X7_form_7 (zwm (i := 6) rfl) rfl rfl rfl ?_
  obtain ⟨b36, hb37, hw⟩ := hw
  refine zg_nn hb37 ?_
  refine zg_iload (q := 91) C0 0 dX7_form_89 rfl rfl ?_
  refine zg_iload_n (q := 92) C0 3 dX7_form_91 rfl rfl ?_
  refine zg_callSi (q := 95) C0 [.int p0] [.int v20, .ref b36] dX7_form_92 (fun sz => a_X7_least l D cy Z S35 sz p0 _ hw) rfl gX7_form_X7_least hdS_X7_least rfl ⟨Nat.le_of_ble_eq_true rfl, Nat.le_of_ble_eq_true rfl⟩ (Nat.le_of_ble_eq_true rfl) ⟨Nat.zero_le _, Nat.zero_le _⟩ ⟨rfl, rfl⟩ rfl (fun v39 S38 hw => ?_)
  obtain ⟨hz40, hw⟩ := hw
  obtain ⟨hi41, hw⟩ := hw
  refine zg_iast (q := 96) C0 dX7_form_95 hz40 hi41 rfl (fun S42 eS42 => ?_)
  have hw := hw S42 eS42
  refine zg_aload_n (q := 97) C0 2 dX7_form_96 rfl rfl ?_
  refine zg_get (q := 100) (T := TX7) (k := 28) C0 dX7_form_97 hz18 (zF_7 cy hz18) rfl (by decide) hX_X7_form_7 (zwm (i := 7) rfl) rfl rfl rfl ?_
  obtain ⟨b43, hb44, hw⟩ := hw
  refine zg_nn hb44 ?_
  refine zg_iload (q := 102) C0 0 dX7_form_100 rfl rfl ?_
  refine zg_iconst (q := 103) C0 dX7_form_102 zc_iconst_0 rfl ?_
  obtain ⟨hz45, hw⟩ := hw
  obtain ⟨hi46, hw⟩ := hw
  refine zg_iast (q := 104) C0 dX7_form_103 hz45 hi46 rfl (fun S47 eS47 => ?_)
  have hw := hw S47 eS47
  refine zg_iconst (q := 105) C0 dX7_form_104 zc_iconst_0 rfl ?_
  refine zg_istore (q := 107) (lv' := [(5, .int 0), (4, .int v20), (3, .int y17), (0, .ref h0), (1, .int p0), (2, .int p1)]) C0 dX7_form_105 (by decide) rfl rfl ?_
  refine zg_sub [3, 4, 5, 2, 1, 0] rfl ?_
  refine aL_X7_form_107 C0 (fun  S102 hw => ?_) _ _ hw
  refine zg_iload_n (q := 249) C0 0 dX7_form_248 rfl rfl ?_
  exact zg_iret C0 dX7_form_249 rfl rfl (Nat.le_refl 0) (Nat.le_refl 0) hw
-- X7_gather
abbrev rm_X7_gather : Room := { frames := 4, cells := 0, slots := 0, locals := 109 }
theorem hX_X7_gather_7 : ∀ w ∈ u_ws RX7 TX7 36, w ∈ wsX7_gather := by decide +kernel
theorem hdV_X7_gather : yX7_gather.cls = RX7 ∧ yX7_gather.cls ≠ "java/lang/invoke/MethodHandle" ∧ yX7_gather.cls ≠ "java/lang/invoke/VarHandle" ∧ (parseMethodDescriptor yX7_gather.desc).map (fun d => d.parameters.length) = some 1 := by decide +kernel
def wb_X7_gather_69 (Z : zZ) (x0 : Nat) (x2 : Int32) (x3 : Int32) (Qp : Int32 → zS → Prop) (K : zS → Prop) (rec : Int32 → zS → Prop) (x4 : Int32) (S : zS) : Prop :=
  ((x4 = (-1) → K S) ∧ (¬ x4 = (-1) → zk Z x0 7 ∧ w_X7_of Z x0 x2 x4 S (fun (v21 : Int32) (S20 : zS) => w_X7_end Z x0 x4 v21 S20 (fun (S22 : zS) => w_X7_nextRing Z x0 x2 x4 S22 (fun (v24 : Int32) (S23 : zS) => rec v24 S23)))))
def wL_X7_gather_69 (Z : zZ) (x0 : Nat) (x2 : Int32) (x3 : Int32) (Qp : Int32 → zS → Prop) (K : zS → Prop) (x4 : Int32) (S : zS) : Prop := ∃ n, zit2 (wb_X7_gather_69 Z x0 x2 x3 Qp K) n x4 S
set_option maxHeartbeats 4000000 in
set_option maxRecDepth 100000 in
theorem ab_X7_gather_69 {p : Program} {l : Launch} {e : Env} {s : State} {m : MethodId} {args : Array Value} {below : List Frame} {meth : Method} {c : Code} {D : va_G} {cy : Nat → ClassId} {A : Nat → Prop} {Q : State → Prop} {Z : zZ} (C0 : zC p s m args meth c cX7_gather 5 wsX7_gather RX7 D cy A (some .int)) {x0 : Nat} {x2 : Int32} {x3 : Int32} {Qp : Int32 → zS → Prop} {K : zS → Prop} (hK : ∀  S, K  S → zG p l e rm_X7_gather s m args below meth c D cy A 5 0 0 Q Z S 100 [(0, .ref x0), (2, .int x2), (3, .int x3)] []) {rec : Int32 → zS → Prop} (hrec : ∀ x4 S, rec x4 S → zG p l e rm_X7_gather s m args below meth c D cy A 5 0 0 Q Z S 69 [(0, .ref x0), (2, .int x2), (3, .int x3), (4, .int x4)] []) {x4 : Int32} {S : zS} (hw : wb_X7_gather_69 Z x0 x2 x3 Qp K rec x4 S) : zG p l e rm_X7_gather s m args below meth c D cy A 5 0 0 Q Z S 69 [(0, .ref x0), (2, .int x2), (3, .int x3), (4, .int x4)] [] := by
  unfold wb_X7_gather_69 at hw
  refine zg_iload (q := 71) C0 3 dX7_gather_69 rfl rfl ?_
  refine zg_iconst (q := 72) C0 dX7_gather_71 zc_iconst_m1 rfl ?_
  refine zg_icmp_eq (q := 75) (tgt := 100) C0 dX7_gather_72 rfl rfl (fun c25 => ?_) (fun c25 => ?_)
  · have hw := hw.1 c25
    refine zg_sub [0, 1, 2] rfl ?_
    exact hK  _ hw
  · have hw := hw.2 c25
    refine zg_aload_n (q := 76) C0 0 dX7_gather_75 rfl rfl ?_
    refine zg_iload (q := 78) C0 3 dX7_gather_76 rfl rfl ?_
    refine zg_aload_n (q := 79) C0 0 dX7_gather_78 rfl rfl ?_
    refine zg_iload_n (q := 80) C0 1 dX7_gather_79 rfl rfl ?_
    refine zg_iload (q := 82) C0 3 dX7_gather_80 rfl rfl ?_
    obtain ⟨hz19, hw⟩ := hw
    refine zg_callVi (q := 85) C0 [.int x2, .int x4] [.int x4, .ref x0] dX7_gather_82 (fun sz => a_X7_of l D cy Z S sz x0 x2 x4 _ hw) rfl gX7_gather_X7_of hdV_X7_of hz19 (zF_7 cy hz19) rfl rfl ⟨Nat.le_of_ble_eq_true rfl, Nat.le_of_ble_eq_true rfl⟩ (Nat.le_of_ble_eq_true rfl) ⟨Nat.zero_le _, Nat.zero_le _⟩ ⟨rfl, rfl⟩ rfl (fun v21 S20 hw => ?_)
    refine zg_callVv (q := 88) C0 [.int x4, .int v21] [] dX7_gather_85 (fun sz => a_X7_end l D cy Z S20 sz x0 x4 v21 _ hw) rfl gX7_gather_X7_end hdV_X7_end hz19 (zF_7 cy hz19) rfl rfl ⟨Nat.le_of_ble_eq_true rfl, Nat.le_of_ble_eq_true rfl⟩ (Nat.le_of_ble_eq_true rfl) ⟨Nat.zero_le _, Nat.zero_le _⟩ ⟨rfl, rfl⟩ rfl (fun S22 hw => ?_)
    refine zg_aload_n (q := 89) C0 0 dX7_gather_88 rfl rfl ?_
    refine zg_iload_n (q := 90) C0 1 dX7_gather_89 rfl rfl ?_
    refine zg_iload (q := 92) C0 3 dX7_gather_90 rfl rfl ?_
    refine zg_callVi (q := 95) C0 [.int x2, .int x4] [] dX7_gather_92 (fun sz => a_X7_nextRing l D cy Z S22 sz x0 x2 x4 _ hw) rfl gX7_gather_X7_nextRing hdV_X7_nextRing hz19 (zF_7 cy hz19) rfl rfl ⟨Nat.le_of_ble_eq_true rfl, Nat.le_of_ble_eq_true rfl⟩ (Nat.le_of_ble_eq_true rfl) ⟨Nat.zero_le _, Nat.zero_le _⟩ ⟨rfl, rfl⟩ rfl (fun v24 S23 hw => ?_)
    refine zg_istore (q := 97) (lv' := [(4, .int v24), (0, .ref x0), (2, .int x2), (3, .int x3)]) C0 dX7_gather_95 (by decide) rfl rfl ?_
    refine zg_goto (tgt := 69) C0 dX7_gather_97 rfl ?_
    refine zg_sub [1, 2, 3, 0] rfl ?_
    exact hrec _ _ hw
theorem aL_X7_gather_69 {p : Program} {l : Launch} {e : Env} {s : State} {m : MethodId} {args : Array Value} {below : List Frame} {meth : Method} {c : Code} {D : va_G} {cy : Nat → ClassId} {A : Nat → Prop} {Q : State → Prop} {Z : zZ} (C0 : zC p s m args meth c cX7_gather 5 wsX7_gather RX7 D cy A (some .int)) {x0 : Nat} {x2 : Int32} {x3 : Int32} {Qp : Int32 → zS → Prop} {K : zS → Prop} (hK : ∀  S, K  S → zG p l e rm_X7_gather s m args below meth c D cy A 5 0 0 Q Z S 100 [(0, .ref x0), (2, .int x2), (3, .int x3)] []) : ∀ x4 S, wL_X7_gather_69 Z x0 x2 x3 Qp K x4 S → zG p l e rm_X7_gather s m args below meth c D cy A 5 0 0 Q Z S 69 [(0, .ref x0), (2, .int x2), (3, .int x3), (4, .int x4)] [] := by
  intro x4 S hw
  obtain ⟨n, hw⟩ := hw
  induction n generalizing x4 S with
  | zero => exact hw.elim
  | succ n ih => exact ab_X7_gather_69 C0 hK (fun x4 S hw => ih x4 S hw) hw
def wJ_X7_gather_109 (Z : zZ) (Qp : Int32 → zS → Prop)  (x0 : Nat) (x2 : Int32) (x3 : Int32) (S : zS) : Prop :=
  zk Z x0 7 ∧ w_X7_form Z x0 x2 x3 S (fun (v29 : Int32) (S28 : zS) => Qp v29 S28)
set_option maxHeartbeats 4000000 in
set_option maxRecDepth 100000 in
theorem aJ_X7_gather_109 {p : Program} {l : Launch} {e : Env} {s : State} {m : MethodId} {args : Array Value} {below : List Frame} {meth : Method} {c : Code} {D : va_G} {cy : Nat → ClassId} {A : Nat → Prop} {Z : zZ} (C0 : zC p s m args meth c cX7_gather 5 wsX7_gather RX7 D cy A (some .int)) {Qp : Int32 → zS → Prop} {x0 : Nat} {x2 : Int32} {x3 : Int32}    {S : zS} (hw : wJ_X7_gather_109 Z Qp  x0 x2 x3 S) : zG p l e rm_X7_gather s m args below meth c D cy A 5 0 0 (zQi below D cy A Z Qp args s 0 0) Z S 109 [(0, .ref x0), (2, .int x2), (3, .int x3)] [] := by
  unfold wJ_X7_gather_109 at hw
  refine zg_aload_n (q := 110) C0 0 dX7_gather_109 rfl rfl ?_
  refine zg_iload_n (q := 111) C0 1 dX7_gather_110 rfl rfl ?_
  refine zg_iload_n (q := 112) C0 2 dX7_gather_111 rfl rfl ?_
  obtain ⟨hz27, hw⟩ := hw
  refine zg_callVi (q := 115) C0 [.int x2, .int x3] [] dX7_gather_112 (fun sz => a_X7_form l D cy Z S sz x0 x2 x3 _ hw) rfl gX7_gather_X7_form hdV_X7_form hz27 (zF_7 cy hz27) rfl rfl ⟨Nat.le_of_ble_eq_true rfl, Nat.le_of_ble_eq_true rfl⟩ (Nat.le_of_ble_eq_true rfl) ⟨Nat.zero_le _, Nat.zero_le _⟩ ⟨rfl, rfl⟩ rfl (fun v29 S28 hw => ?_)
  exact zg_iret C0 dX7_gather_115 rfl rfl (Nat.le_refl 0) (Nat.le_refl 0) hw
def wJ_X7_gather_27 (Z : zZ) (Qp : Int32 → zS → Prop)  (x0 : Nat) (x1 : Int32) (t0 : Int32) (t1 : Nat) (S : zS) : Prop :=
  zk Z t1 7 ∧ ∀ S9 : zS, S9 = zsI S t1 0 t0 → zk Z x0 7 ∧ (((zI S9 x0 0) ≤ 0 → w_X7_together Z x0 x1 S9 (fun (v12 : Int32) (S11 : zS) => w_X7_isWhole Z x0 v12 S11 (fun (v14 : Int32) (S13 : zS) => ((v14 = 0 → w_X7_isPrimary Z x0 v12 S13 (fun (v16 : Int32) (S15 : zS) => w_X7_nextRing Z x0 v12 (-1) S15 (fun (v18 : Int32) (S17 : zS) => wL_X7_gather_69 Z x0 v12 v16 Qp (fun  (S26 : zS) => ((v16 = 0 → wJ_X7_gather_109 Z Qp  x0 v12 v16 S26) ∧ (¬ v16 = 0 → w_X7_share Z x0 v12 S26 (fun (S30 : zS) => wJ_X7_gather_109 Z Qp  x0 v12 v16 S30)))) v18 S17))) ∧ (¬ v14 = 0 → Qp 0 S13))))) ∧ (¬ (zI S9 x0 0) ≤ 0 → Qp 0 S9))
set_option maxHeartbeats 4000000 in
set_option maxRecDepth 100000 in
theorem aJ_X7_gather_27 {p : Program} {l : Launch} {e : Env} {s : State} {m : MethodId} {args : Array Value} {below : List Frame} {meth : Method} {c : Code} {D : va_G} {cy : Nat → ClassId} {A : Nat → Prop} {Z : zZ} (C0 : zC p s m args meth c cX7_gather 5 wsX7_gather RX7 D cy A (some .int)) {Qp : Int32 → zS → Prop} {x0 : Nat} {x1 : Int32} {t0 : Int32} {t1 : Nat}    {S : zS} (hw : wJ_X7_gather_27 Z Qp  x0 x1 t0 t1 S) : zG p l e rm_X7_gather s m args below meth c D cy A 5 0 0 (zQi below D cy A Z Qp args s 0 0) Z S 27 [(0, .ref x0), (1, .int x1)] [.int t0, .ref t1] := by
  unfold wJ_X7_gather_27 at hw
  obtain ⟨hz8, hw⟩ := hw
  refine zg_putI (q := 30) (T := TX7) (k := 0) (ty0 := tyX7) C0 dX7_gather_27 hz8 (zF_7 cy hz8) rfl (by decide) hX_X7_gather_7 tyX7_ok nmX7 (zwm (i := 2) rfl) rfl rfl rfl rfl (Nat.le_of_ble_eq_true rfl) (zF_7 cy hz8) (zP_7_0 Z S _ _) rfl (fun S9 eS9 => ?_)
  have hw := hw S9 eS9
  refine zg_aload_n (q := 31) C0 0 dX7_gather_30 rfl rfl ?_
  obtain ⟨hz10, hw⟩ := hw
  refine zg_get (q := 34) (T := TX7) (k := 0) C0 dX7_gather_31 hz10 (zF_7 cy hz10) rfl (by decide) hX_X7_gather_7 (zwm (i := 2) rfl) rfl rfl rfl ?_
  refine zg_if_le (q := 37) (tgt := 39) C0 dX7_gather_34 rfl rfl (fun c33 => ?_) (fun c33 => ?_)
  · have hw := hw.1 c33
    refine zg_aload_n (q := 40) C0 0 dX7_gather_39 rfl rfl ?_
    refine zg_iload_n (q := 41) C0 1 dX7_gather_40 rfl rfl ?_
    refine zg_callVi (q := 44) C0 [.int x1] [] dX7_gather_41 (fun sz => a_X7_together l D cy Z S9 sz x0 x1 _ hw) rfl gX7_gather_X7_together hdV_X7_together hz10 (zF_7 cy hz10) rfl rfl ⟨Nat.le_of_ble_eq_true rfl, Nat.le_of_ble_eq_true rfl⟩ (Nat.le_of_ble_eq_true rfl) ⟨Nat.zero_le _, Nat.zero_le _⟩ ⟨rfl, rfl⟩ rfl (fun v12 S11 hw => ?_)
    refine zg_istore_n (q := 45) (lv' := [(2, .int v12), (0, .ref x0), (1, .int x1)]) C0 dX7_gather_44 (by decide) rfl rfl ?_
    refine zg_aload_n (q := 46) C0 1 dX7_gather_45 rfl rfl ?_
    refine zg_iload_n (q := 47) C0 0 dX7_gather_46 rfl rfl ?_
    refine zg_callVi (q := 50) C0 [.int v12] [] dX7_gather_47 (fun sz => a_X7_isWhole l D cy Z S11 sz x0 v12 _ hw) rfl gX7_gather_X7_isWhole hdV_X7_isWhole hz10 (zF_7 cy hz10) rfl rfl ⟨Nat.le_of_ble_eq_true rfl, Nat.le_of_ble_eq_true rfl⟩ (Nat.le_of_ble_eq_true rfl) ⟨Nat.zero_le _, Nat.zero_le _⟩ ⟨rfl, rfl⟩ rfl (fun v14 S13 hw => ?_)
    refine zg_if_eq (q := 53) (tgt := 55) C0 dX7_gather_50 rfl rfl (fun c32 => ?_) (fun c32 => ?_)
    · have hw := hw.1 c32
      refine zg_aload_n (q := 56) C0 1 dX7_gather_55 rfl rfl ?_
      refine zg_iload_n (q := 57) C0 0 dX7_gather_56 rfl rfl ?_
      refine zg_callVi (q := 60) C0 [.int v12] [] dX7_gather_57 (fun sz => a_X7_isPrimary l D cy Z S13 sz x0 v12 _ hw) rfl gX7_gather_X7_isPrimary hdV_X7_isPrimary hz10 (zF_7 cy hz10) rfl rfl ⟨Nat.le_of_ble_eq_true rfl, Nat.le_of_ble_eq_true rfl⟩ (Nat.le_of_ble_eq_true rfl) ⟨Nat.zero_le _, Nat.zero_le _⟩ ⟨rfl, rfl⟩ rfl (fun v16 S15 hw => ?_)
      refine zg_istore_n (q := 61) (lv' := [(3, .int v16), (2, .int v12), (0, .ref x0), (1, .int x1)]) C0 dX7_gather_60 (by decide) rfl rfl ?_
      refine zg_aload_n (q := 62) C0 2 dX7_gather_61 rfl rfl ?_
      refine zg_iload_n (q := 63) C0 1 dX7_gather_62 rfl rfl ?_
      refine zg_iconst (q := 64) C0 dX7_gather_63 zc_iconst_m1 rfl ?_
      refine zg_callVi (q := 67) C0 [.int v12, .int (-1)] [] dX7_gather_64 (fun sz => a_X7_nextRing l D cy Z S15 sz x0 v12 (-1) _ hw) rfl gX7_gather_X7_nextRing hdV_X7_nextRing hz10 (zF_7 cy hz10) rfl rfl ⟨Nat.le_of_ble_eq_true rfl, Nat.le_of_ble_eq_true rfl⟩ (Nat.le_of_ble_eq_true rfl) ⟨Nat.zero_le _, Nat.zero_le _⟩ ⟨rfl, rfl⟩ rfl (fun v18 S17 hw => ?_)
      refine zg_istore (q := 69) (lv' := [(4, .int v18), (3, .int v16), (2, .int v12), (0, .ref x0), (1, .int x1)]) C0 dX7_gather_67 (by decide) rfl rfl ?_
      refine zg_sub [3, 2, 1, 0] rfl ?_
      refine aL_X7_gather_69 C0 (fun  S26 hw => ?_) _ _ hw
      refine zg_iload_n (q := 101) C0 2 dX7_gather_100 rfl rfl ?_
      refine zg_if_eq (q := 104) (tgt := 109) C0 dX7_gather_101 rfl rfl (fun c31 => ?_) (fun c31 => ?_)
      · have hw := hw.1 c31
        refine zg_sub [0, 1, 2] rfl ?_
        exact aJ_X7_gather_109 C0  hw
      · have hw := hw.2 c31
        refine zg_aload_n (q := 105) C0 0 dX7_gather_104 rfl rfl ?_
        refine zg_iload_n (q := 106) C0 1 dX7_gather_105 rfl rfl ?_
        refine zg_callVv (q := 109) C0 [.int v12] [] dX7_gather_106 (fun sz => a_X7_share l D cy Z S26 sz x0 v12 _ hw) rfl gX7_gather_X7_share hdV_X7_share hz10 (zF_7 cy hz10) rfl rfl ⟨Nat.le_of_ble_eq_true rfl, Nat.le_of_ble_eq_true rfl⟩ (Nat.le_of_ble_eq_true rfl) ⟨Nat.zero_le _, Nat.zero_le _⟩ ⟨rfl, rfl⟩ rfl (fun S30 hw => ?_)
        refine zg_sub [0, 1, 2] rfl ?_
        exact aJ_X7_gather_109 C0  hw
    · have hw := hw.2 c32
      refine zg_iconst (q := 54) C0 dX7_gather_53 zc_iconst_0 rfl ?_
      exact zg_iret C0 dX7_gather_54 rfl rfl (Nat.le_refl 0) (Nat.le_refl 0) hw
  · have hw := hw.2 c33
    refine zg_iconst (q := 38) C0 dX7_gather_37 zc_iconst_0 rfl ?_
    exact zg_iret C0 dX7_gather_38 rfl rfl (Nat.le_refl 0) (Nat.le_refl 0) hw
def w_X7_gather (Z : zZ) (h0 : Nat) (p0 : Int32) (S : zS) (Qp : Int32 → zS → Prop) : Prop :=
  zk Z h0 7 ∧ w_X7_noNode Z h0 p0 S (fun (v3 : Int32) (S2 : zS) => ((v3 = 0 → ∃ b4, zQ Z h0 3 = some b4 ∧ zk Z b4 10 ∧ vp_in p0 (zN Z b4) ∧ (((zI S2 b4 p0.toNatClampNeg) = 0 → wJ_X7_gather_27 Z Qp  h0 p0 2 h0 S2) ∧ (¬ (zI S2 b4 p0.toNatClampNeg) = 0 → wJ_X7_gather_27 Z Qp  h0 p0 0 h0 S2))) ∧ (¬ v3 = 0 → wJ_X7_gather_27 Z Qp  h0 p0 1 h0 S2)))
set_option maxHeartbeats 4000000 in
set_option maxRecDepth 100000 in
theorem a_X7_gather (l : Launch) (D : va_G) (cy : Nat → ClassId) (Z : zZ) (S : zS) (sz : Nat) (h0 : Nat) (p0 : Int32) (Qp : Int32 → zS → Prop) (hw : w_X7_gather Z h0 p0 S Qp) : zMi l yX7_gather wsX7_gather rm_X7_gather D cy Z S sz [.ref h0, .int p0] Qp := by
  unfold w_X7_gather at hw
  refine zMi_of (cc := cX7_gather) (maxL := 5) (rt := (some .int)) (by decide +kernel) rfl (Nat.le_of_ble_eq_true rfl) ?_
  intro p e s m args below meth c A C0 _
  refine zg_lv (lv' := [(0, .ref h0), (1, .int p0)]) rfl ?_
  refine zg_aload_n (q := 1) C0 0 dX7_gather_0 rfl rfl ?_
  refine zg_aload_n (q := 2) C0 0 dX7_gather_1 rfl rfl ?_
  refine zg_iload_n (q := 3) C0 1 dX7_gather_2 rfl rfl ?_
  obtain ⟨hz1, hw⟩ := hw
  refine zg_callVi (q := 6) C0 [.int p0] [.ref h0] dX7_gather_3 (fun sz => a_X7_noNode l D cy Z S sz h0 p0 _ hw) rfl gX7_gather_X7_noNode hdV_X7_noNode hz1 (zF_7 cy hz1) rfl rfl ⟨Nat.le_of_ble_eq_true rfl, Nat.le_of_ble_eq_true rfl⟩ (Nat.le_of_ble_eq_true rfl) ⟨Nat.zero_le _, Nat.zero_le _⟩ ⟨rfl, rfl⟩ rfl (fun v3 S2 hw => ?_)
  refine zg_if_eq (q := 9) (tgt := 13) C0 dX7_gather_6 rfl rfl (fun c35 => ?_) (fun c35 => ?_)
  · have hw := hw.1 c35
    refine zg_aload_n (q := 14) C0 0 dX7_gather_13 rfl rfl ?_
    refine zg_get (q := 17) (T := TX7) (k := 3) C0 dX7_gather_14 hz1 (zF_7 cy hz1) rfl (by decide) hX_X7_gather_7 (zwm (i := 1) rfl) rfl rfl rfl ?_
    obtain ⟨b4, hb5, hw⟩ := hw
    refine zg_nn hb5 ?_
    refine zg_iload_n (q := 18) C0 1 dX7_gather_17 rfl rfl ?_
    obtain ⟨hz6, hw⟩ := hw
    obtain ⟨hi7, hw⟩ := hw
    refine zg_zald (q := 19) C0 dX7_gather_18 hz6 hi7 rfl ?_
    refine zg_if_eq (q := 22) (tgt := 26) C0 dX7_gather_19 rfl rfl (fun c34 => ?_) (fun c34 => ?_)
    · have hw := hw.1 c34
      refine zg_iconst (q := 27) C0 dX7_gather_26 zc_iconst_2 rfl ?_
      refine zg_sub [0, 1] rfl ?_
      exact aJ_X7_gather_27 C0  hw
    · have hw := hw.2 c34
      refine zg_iconst (q := 23) C0 dX7_gather_22 zc_iconst_0 rfl ?_
      refine zg_goto (tgt := 27) C0 dX7_gather_23 rfl ?_
      refine zg_sub [0, 1] rfl ?_
      exact aJ_X7_gather_27 C0  hw
  · have hw := hw.2 c35
    refine zg_iconst (q := 10) C0 dX7_gather_9 zc_iconst_1 rfl ?_
    refine zg_goto (tgt := 27) C0 dX7_gather_10 rfl ?_
    refine zg_sub [0, 1] rfl ?_
    exact aJ_X7_gather_27 C0  hw
-- X7_part
abbrev rm_X7_part : Room := { frames := 1, cells := 0, slots := 0, locals := 21 }
theorem hX_X7_part_7 : ∀ w ∈ u_ws RX7 TX7 36, w ∈ wsX7_part := by decide +kernel
theorem hdV_X7_part : yX7_part.cls = RX7 ∧ yX7_part.cls ≠ "java/lang/invoke/MethodHandle" ∧ yX7_part.cls ≠ "java/lang/invoke/VarHandle" ∧ (parseMethodDescriptor yX7_part.desc).map (fun d => d.parameters.length) = some 2 := by decide +kernel
def w_X7_part (Z : zZ) (h0 : Nat) (p0 : Int32) (p1 : Int32) (S : zS) (Qp : zS → Prop) : Prop :=
  zk Z h0 7 ∧ w_X7_noNode Z h0 p0 S (fun (v3 : Int32) (S2 : zS) => ((v3 = 0 → ((p1 < 0 → ∀ S4 : zS, S4 = zsI S2 h0 0 2 → ((¬ (zI S4 h0 0) = 0 → Qp S4) ∧ ((zI S4 h0 0) = 0 → ∃ b5, zQ Z h0 4 = some b5 ∧ zk Z b5 8 ∧ vp_in p0 (zN Z b5) ∧ ∀ S9 : zS, S9 = zsI S4 b5 p0.toNatClampNeg p1 → Qp S9))) ∧ (¬ p1 < 0 → ((p1 ≤ 7 → ∀ S11 : zS, S11 = zsI S2 h0 0 0 → ((¬ (zI S11 h0 0) = 0 → Qp S11) ∧ ((zI S11 h0 0) = 0 → ∃ b12, zQ Z h0 4 = some b12 ∧ zk Z b12 8 ∧ vp_in p0 (zN Z b12) ∧ ∀ S16 : zS, S16 = zsI S11 b12 p0.toNatClampNeg p1 → Qp S16))) ∧ (¬ p1 ≤ 7 → ∀ S18 : zS, S18 = zsI S2 h0 0 2 → ((¬ (zI S18 h0 0) = 0 → Qp S18) ∧ ((zI S18 h0 0) = 0 → ∃ b19, zQ Z h0 4 = some b19 ∧ zk Z b19 8 ∧ vp_in p0 (zN Z b19) ∧ ∀ S23 : zS, S23 = zsI S18 b19 p0.toNatClampNeg p1 → Qp S23))))))) ∧ (¬ v3 = 0 → ∀ S27 : zS, S27 = zsI S2 h0 0 1 → ((¬ (zI S27 h0 0) = 0 → Qp S27) ∧ ((zI S27 h0 0) = 0 → ∃ b28, zQ Z h0 4 = some b28 ∧ zk Z b28 8 ∧ vp_in p0 (zN Z b28) ∧ ∀ S32 : zS, S32 = zsI S27 b28 p0.toNatClampNeg p1 → Qp S32)))))
set_option maxHeartbeats 4000000 in
set_option maxRecDepth 100000 in
theorem a_X7_part (l : Launch) (D : va_G) (cy : Nat → ClassId) (Z : zZ) (S : zS) (sz : Nat) (h0 : Nat) (p0 : Int32) (p1 : Int32) (Qp : zS → Prop) (hw : w_X7_part Z h0 p0 p1 S Qp) : zMv l yX7_part wsX7_part rm_X7_part D cy Z S sz [.ref h0, .int p0, .int p1] Qp := by
  unfold w_X7_part at hw
  refine zMv_of (cc := cX7_part) (maxL := 3) (rt := none) (by decide +kernel) rfl (Nat.le_of_ble_eq_true rfl) ?_
  intro p e s m args below meth c A C0 _
  refine zg_lv (lv' := [(0, .ref h0), (1, .int p0), (2, .int p1)]) rfl ?_
  refine zg_aload_n (q := 1) C0 0 dX7_part_0 rfl rfl ?_
  refine zg_aload_n (q := 2) C0 0 dX7_part_1 rfl rfl ?_
  refine zg_iload_n (q := 3) C0 1 dX7_part_2 rfl rfl ?_
  obtain ⟨hz1, hw⟩ := hw
  refine zg_callVi (q := 6) C0 [.int p0] [.ref h0] dX7_part_3 (fun sz => a_X7_noNode l D cy Z S sz h0 p0 _ hw) rfl gX7_part_X7_noNode hdV_X7_noNode hz1 (zF_7 cy hz1) rfl rfl ⟨Nat.le_of_ble_eq_true rfl, Nat.le_of_ble_eq_true rfl⟩ (Nat.le_of_ble_eq_true rfl) ⟨Nat.zero_le _, Nat.zero_le _⟩ ⟨rfl, rfl⟩ rfl (fun v3 S2 hw => ?_)
  refine zg_if_eq (q := 9) (tgt := 13) C0 dX7_part_6 rfl rfl (fun c34 => ?_) (fun c34 => ?_)
  · have hw := hw.1 c34
    refine zg_iload_n (q := 14) C0 2 dX7_part_13 rfl rfl ?_
    refine zg_if_lt (q := 17) (tgt := 23) C0 dX7_part_14 rfl rfl (fun c26 => ?_) (fun c26 => ?_)
    · have hw := hw.1 c26
      refine zg_iconst (q := 24) C0 dX7_part_23 zc_iconst_2 rfl ?_
      refine zg_goto (tgt := 28) C0 dX7_part_24 rfl ?_
      refine zg_putI (q := 31) (T := TX7) (k := 0) (ty0 := tyX7) C0 dX7_part_28 hz1 (zF_7 cy hz1) rfl (by decide) hX_X7_part_7 tyX7_ok nmX7 (zwm (i := 1) rfl) rfl rfl rfl rfl (Nat.le_of_ble_eq_true rfl) (zF_7 cy hz1) (zP_7_0 Z S2 _ _) rfl (fun S4 eS4 => ?_)
      have hw := hw S4 eS4
      refine zg_aload_n (q := 32) C0 0 dX7_part_31 rfl rfl ?_
      refine zg_get (q := 35) (T := TX7) (k := 0) C0 dX7_part_32 hz1 (zF_7 cy hz1) rfl (by decide) hX_X7_part_7 (zwm (i := 1) rfl) rfl rfl rfl ?_
      refine zg_if_ne (q := 38) (tgt := 45) C0 dX7_part_35 rfl rfl (fun c10 => ?_) (fun c10 => ?_)
      · have hw := hw.1 c10
        exact zg_vret C0 dX7_part_45 rfl (Nat.le_refl 0) (Nat.le_refl 0) hw
      · have hw := hw.2 c10
        refine zg_aload_n (q := 39) C0 0 dX7_part_38 rfl rfl ?_
        refine zg_get (q := 42) (T := TX7) (k := 4) C0 dX7_part_39 hz1 (zF_7 cy hz1) rfl (by decide) hX_X7_part_7 (zwm (i := 2) rfl) rfl rfl rfl ?_
        obtain ⟨b5, hb6, hw⟩ := hw
        refine zg_nn hb6 ?_
        refine zg_iload_n (q := 43) C0 1 dX7_part_42 rfl rfl ?_
        refine zg_iload_n (q := 44) C0 2 dX7_part_43 rfl rfl ?_
        obtain ⟨hz7, hw⟩ := hw
        obtain ⟨hi8, hw⟩ := hw
        refine zg_iast (q := 45) C0 dX7_part_44 hz7 hi8 rfl (fun S9 eS9 => ?_)
        have hw := hw S9 eS9
        exact zg_vret C0 dX7_part_45 rfl (Nat.le_refl 0) (Nat.le_refl 0) hw
    · have hw := hw.2 c26
      refine zg_iload_n (q := 18) C0 2 dX7_part_17 rfl rfl ?_
      refine zg_bipush (q := 20) C0 dX7_part_18 zc_bipush_7 rfl ?_
      refine zg_icmp_le (q := 23) (tgt := 27) C0 dX7_part_20 rfl rfl (fun c25 => ?_) (fun c25 => ?_)
      · have hw := hw.1 c25
        refine zg_iconst (q := 28) C0 dX7_part_27 zc_iconst_0 rfl ?_
        refine zg_putI (q := 31) (T := TX7) (k := 0) (ty0 := tyX7) C0 dX7_part_28 hz1 (zF_7 cy hz1) rfl (by decide) hX_X7_part_7 tyX7_ok nmX7 (zwm (i := 1) rfl) rfl rfl rfl rfl (Nat.le_of_ble_eq_true rfl) (zF_7 cy hz1) (zP_7_0 Z S2 _ _) rfl (fun S11 eS11 => ?_)
        have hw := hw S11 eS11
        refine zg_aload_n (q := 32) C0 0 dX7_part_31 rfl rfl ?_
        refine zg_get (q := 35) (T := TX7) (k := 0) C0 dX7_part_32 hz1 (zF_7 cy hz1) rfl (by decide) hX_X7_part_7 (zwm (i := 1) rfl) rfl rfl rfl ?_
        refine zg_if_ne (q := 38) (tgt := 45) C0 dX7_part_35 rfl rfl (fun c17 => ?_) (fun c17 => ?_)
        · have hw := hw.1 c17
          exact zg_vret C0 dX7_part_45 rfl (Nat.le_refl 0) (Nat.le_refl 0) hw
        · have hw := hw.2 c17
          refine zg_aload_n (q := 39) C0 0 dX7_part_38 rfl rfl ?_
          refine zg_get (q := 42) (T := TX7) (k := 4) C0 dX7_part_39 hz1 (zF_7 cy hz1) rfl (by decide) hX_X7_part_7 (zwm (i := 2) rfl) rfl rfl rfl ?_
          obtain ⟨b12, hb13, hw⟩ := hw
          refine zg_nn hb13 ?_
          refine zg_iload_n (q := 43) C0 1 dX7_part_42 rfl rfl ?_
          refine zg_iload_n (q := 44) C0 2 dX7_part_43 rfl rfl ?_
          obtain ⟨hz14, hw⟩ := hw
          obtain ⟨hi15, hw⟩ := hw
          refine zg_iast (q := 45) C0 dX7_part_44 hz14 hi15 rfl (fun S16 eS16 => ?_)
          have hw := hw S16 eS16
          exact zg_vret C0 dX7_part_45 rfl (Nat.le_refl 0) (Nat.le_refl 0) hw
      · have hw := hw.2 c25
        refine zg_iconst (q := 24) C0 dX7_part_23 zc_iconst_2 rfl ?_
        refine zg_goto (tgt := 28) C0 dX7_part_24 rfl ?_
        refine zg_putI (q := 31) (T := TX7) (k := 0) (ty0 := tyX7) C0 dX7_part_28 hz1 (zF_7 cy hz1) rfl (by decide) hX_X7_part_7 tyX7_ok nmX7 (zwm (i := 1) rfl) rfl rfl rfl rfl (Nat.le_of_ble_eq_true rfl) (zF_7 cy hz1) (zP_7_0 Z S2 _ _) rfl (fun S18 eS18 => ?_)
        have hw := hw S18 eS18
        refine zg_aload_n (q := 32) C0 0 dX7_part_31 rfl rfl ?_
        refine zg_get (q := 35) (T := TX7) (k := 0) C0 dX7_part_32 hz1 (zF_7 cy hz1) rfl (by decide) hX_X7_part_7 (zwm (i := 1) rfl) rfl rfl rfl ?_
        refine zg_if_ne (q := 38) (tgt := 45) C0 dX7_part_35 rfl rfl (fun c24 => ?_) (fun c24 => ?_)
        · have hw := hw.1 c24
          exact zg_vret C0 dX7_part_45 rfl (Nat.le_refl 0) (Nat.le_refl 0) hw
        · have hw := hw.2 c24
          refine zg_aload_n (q := 39) C0 0 dX7_part_38 rfl rfl ?_
          refine zg_get (q := 42) (T := TX7) (k := 4) C0 dX7_part_39 hz1 (zF_7 cy hz1) rfl (by decide) hX_X7_part_7 (zwm (i := 2) rfl) rfl rfl rfl ?_
          obtain ⟨b19, hb20, hw⟩ := hw
          refine zg_nn hb20 ?_
          refine zg_iload_n (q := 43) C0 1 dX7_part_42 rfl rfl ?_
          refine zg_iload_n (q := 44) C0 2 dX7_part_43 rfl rfl ?_
          obtain ⟨hz21, hw⟩ := hw
          obtain ⟨hi22, hw⟩ := hw
          refine zg_iast (q := 45) C0 dX7_part_44 hz21 hi22 rfl (fun S23 eS23 => ?_)
          have hw := hw S23 eS23
          exact zg_vret C0 dX7_part_45 rfl (Nat.le_refl 0) (Nat.le_refl 0) hw
  · have hw := hw.2 c34
    refine zg_iconst (q := 10) C0 dX7_part_9 zc_iconst_1 rfl ?_
    refine zg_goto (tgt := 28) C0 dX7_part_10 rfl ?_
    refine zg_putI (q := 31) (T := TX7) (k := 0) (ty0 := tyX7) C0 dX7_part_28 hz1 (zF_7 cy hz1) rfl (by decide) hX_X7_part_7 tyX7_ok nmX7 (zwm (i := 1) rfl) rfl rfl rfl rfl (Nat.le_of_ble_eq_true rfl) (zF_7 cy hz1) (zP_7_0 Z S2 _ _) rfl (fun S27 eS27 => ?_)
    have hw := hw S27 eS27
    refine zg_aload_n (q := 32) C0 0 dX7_part_31 rfl rfl ?_
    refine zg_get (q := 35) (T := TX7) (k := 0) C0 dX7_part_32 hz1 (zF_7 cy hz1) rfl (by decide) hX_X7_part_7 (zwm (i := 1) rfl) rfl rfl rfl ?_
    refine zg_if_ne (q := 38) (tgt := 45) C0 dX7_part_35 rfl rfl (fun c33 => ?_) (fun c33 => ?_)
    · have hw := hw.1 c33
      exact zg_vret C0 dX7_part_45 rfl (Nat.le_refl 0) (Nat.le_refl 0) hw
    · have hw := hw.2 c33
      refine zg_aload_n (q := 39) C0 0 dX7_part_38 rfl rfl ?_
      refine zg_get (q := 42) (T := TX7) (k := 4) C0 dX7_part_39 hz1 (zF_7 cy hz1) rfl (by decide) hX_X7_part_7 (zwm (i := 2) rfl) rfl rfl rfl ?_
      obtain ⟨b28, hb29, hw⟩ := hw
      refine zg_nn hb29 ?_
      refine zg_iload_n (q := 43) C0 1 dX7_part_42 rfl rfl ?_
      refine zg_iload_n (q := 44) C0 2 dX7_part_43 rfl rfl ?_
      obtain ⟨hz30, hw⟩ := hw
      obtain ⟨hi31, hw⟩ := hw
      refine zg_iast (q := 45) C0 dX7_part_44 hz30 hi31 rfl (fun S32 eS32 => ?_)
      have hw := hw S32 eS32
      exact zg_vret C0 dX7_part_45 rfl (Nat.le_refl 0) (Nat.le_refl 0) hw
-- X7_crash
abbrev rm_X7_crash : Room := { frames := 1, cells := 0, slots := 0, locals := 21 }
theorem hX_X7_crash_7 : ∀ w ∈ u_ws RX7 TX7 36, w ∈ wsX7_crash := by decide +kernel
theorem hdV_X7_crash : yX7_crash.cls = RX7 ∧ yX7_crash.cls ≠ "java/lang/invoke/MethodHandle" ∧ yX7_crash.cls ≠ "java/lang/invoke/VarHandle" ∧ (parseMethodDescriptor yX7_crash.desc).map (fun d => d.parameters.length) = some 1 := by decide +kernel
def wJ_X7_crash_57 (Z : zZ) (Qp : zS → Prop)  (x0 : Nat) (x1 : Int32) (S : zS) : Prop :=
  zk Z x0 7 ∧ ∃ b14, zQ Z x0 3 = some b14 ∧ zk Z b14 10 ∧ vp_in x1 (zN Z b14) ∧ ∀ S18 : zS, S18 = zsI S b14 x1.toNatClampNeg 0 → ∃ b19, zQ Z x0 5 = some b19 ∧ zk Z b19 8 ∧ vp_in x1 (zN Z b19) ∧ ∀ S23 : zS, S23 = zsI S18 b19 x1.toNatClampNeg (-1) → ∃ b24, zQ Z x0 12 = some b24 ∧ zk Z b24 8 ∧ vp_in x1 (zN Z b24) ∧ ∀ S28 : zS, S28 = zsI S23 b24 x1.toNatClampNeg 0 → Qp S28
set_option maxHeartbeats 4000000 in
set_option maxRecDepth 100000 in
theorem aJ_X7_crash_57 {p : Program} {l : Launch} {e : Env} {s : State} {m : MethodId} {args : Array Value} {below : List Frame} {meth : Method} {c : Code} {D : va_G} {cy : Nat → ClassId} {A : Nat → Prop} {Z : zZ} (C0 : zC p s m args meth c cX7_crash 2 wsX7_crash RX7 D cy A none) {Qp : zS → Prop} {x0 : Nat} {x1 : Int32}    {S : zS} (hw : wJ_X7_crash_57 Z Qp  x0 x1 S) : zG p l e rm_X7_crash s m args below meth c D cy A 2 0 0 (zQv below D cy A Z Qp args s 0 0) Z S 57 [(0, .ref x0), (1, .int x1)] [] := by
  unfold wJ_X7_crash_57 at hw
  refine zg_aload_n (q := 58) C0 0 dX7_crash_57 rfl rfl ?_
  obtain ⟨hz13, hw⟩ := hw
  refine zg_get (q := 61) (T := TX7) (k := 3) C0 dX7_crash_58 hz13 (zF_7 cy hz13) rfl (by decide) hX_X7_crash_7 (zwm (i := 1) rfl) rfl rfl rfl ?_
  obtain ⟨b14, hb15, hw⟩ := hw
  refine zg_nn hb15 ?_
  refine zg_iload_n (q := 62) C0 1 dX7_crash_61 rfl rfl ?_
  refine zg_iconst (q := 63) C0 dX7_crash_62 zc_iconst_0 rfl ?_
  obtain ⟨hz16, hw⟩ := hw
  obtain ⟨hi17, hw⟩ := hw
  refine zg_zast (q := 64) C0 dX7_crash_63 hz16 hi17 (by decide) rfl (fun S18 eS18 => ?_)
  have hw := hw S18 eS18
  refine zg_aload_n (q := 65) C0 0 dX7_crash_64 rfl rfl ?_
  refine zg_get (q := 68) (T := TX7) (k := 5) C0 dX7_crash_65 hz13 (zF_7 cy hz13) rfl (by decide) hX_X7_crash_7 (zwm (i := 4) rfl) rfl rfl rfl ?_
  obtain ⟨b19, hb20, hw⟩ := hw
  refine zg_nn hb20 ?_
  refine zg_iload_n (q := 69) C0 1 dX7_crash_68 rfl rfl ?_
  refine zg_iconst (q := 70) C0 dX7_crash_69 zc_iconst_m1 rfl ?_
  obtain ⟨hz21, hw⟩ := hw
  obtain ⟨hi22, hw⟩ := hw
  refine zg_iast (q := 71) C0 dX7_crash_70 hz21 hi22 rfl (fun S23 eS23 => ?_)
  have hw := hw S23 eS23
  refine zg_aload_n (q := 72) C0 0 dX7_crash_71 rfl rfl ?_
  refine zg_get (q := 75) (T := TX7) (k := 12) C0 dX7_crash_72 hz13 (zF_7 cy hz13) rfl (by decide) hX_X7_crash_7 (zwm (i := 5) rfl) rfl rfl rfl ?_
  obtain ⟨b24, hb25, hw⟩ := hw
  refine zg_nn hb25 ?_
  refine zg_iload_n (q := 76) C0 1 dX7_crash_75 rfl rfl ?_
  refine zg_iconst (q := 77) C0 dX7_crash_76 zc_iconst_0 rfl ?_
  obtain ⟨hz26, hw⟩ := hw
  obtain ⟨hi27, hw⟩ := hw
  refine zg_iast (q := 78) C0 dX7_crash_77 hz26 hi27 rfl (fun S28 eS28 => ?_)
  have hw := hw S28 eS28
  exact zg_vret C0 dX7_crash_78 rfl (Nat.le_refl 0) (Nat.le_refl 0) hw
def wJ_X7_crash_27 (Z : zZ) (Qp : zS → Prop)  (x0 : Nat) (x1 : Int32) (t0 : Int32) (t1 : Nat) (S : zS) : Prop :=
  zk Z t1 7 ∧ ∀ S9 : zS, S9 = zsI S t1 0 t0 → zk Z x0 7 ∧ ((¬ (zI S9 x0 0) = 0 → Qp S9) ∧ ((zI S9 x0 0) = 0 → w_X7_holds Z x0 x1 S9 (fun (v12 : Int32) (S11 : zS) => ((v12 = 0 → wJ_X7_crash_57 Z Qp  x0 x1 S11) ∧ (¬ v12 = 0 → ∃ b29, zQ Z x0 26 = some b29 ∧ ∃ b31, zQ Z x0 5 = some b31 ∧ zk Z b31 8 ∧ vp_in x1 (zN Z b31) ∧ zk Z b29 10 ∧ vp_in (zI S11 b31 x1.toNatClampNeg) (zN Z b29) ∧ ∀ S37 : zS, S37 = zsI S11 b29 (zI S11 b31 x1.toNatClampNeg).toNatClampNeg 1 → wJ_X7_crash_57 Z Qp  x0 x1 S37)))))
set_option maxHeartbeats 4000000 in
set_option maxRecDepth 100000 in
theorem aJ_X7_crash_27 {p : Program} {l : Launch} {e : Env} {s : State} {m : MethodId} {args : Array Value} {below : List Frame} {meth : Method} {c : Code} {D : va_G} {cy : Nat → ClassId} {A : Nat → Prop} {Z : zZ} (C0 : zC p s m args meth c cX7_crash 2 wsX7_crash RX7 D cy A none) {Qp : zS → Prop} {x0 : Nat} {x1 : Int32} {t0 : Int32} {t1 : Nat}    {S : zS} (hw : wJ_X7_crash_27 Z Qp  x0 x1 t0 t1 S) : zG p l e rm_X7_crash s m args below meth c D cy A 2 0 0 (zQv below D cy A Z Qp args s 0 0) Z S 27 [(0, .ref x0), (1, .int x1)] [.int t0, .ref t1] := by
  unfold wJ_X7_crash_27 at hw
  obtain ⟨hz8, hw⟩ := hw
  refine zg_putI (q := 30) (T := TX7) (k := 0) (ty0 := tyX7) C0 dX7_crash_27 hz8 (zF_7 cy hz8) rfl (by decide) hX_X7_crash_7 tyX7_ok nmX7 (zwm (i := 2) rfl) rfl rfl rfl rfl (Nat.le_of_ble_eq_true rfl) (zF_7 cy hz8) (zP_7_0 Z S _ _) rfl (fun S9 eS9 => ?_)
  have hw := hw S9 eS9
  refine zg_aload_n (q := 31) C0 0 dX7_crash_30 rfl rfl ?_
  obtain ⟨hz10, hw⟩ := hw
  refine zg_get (q := 34) (T := TX7) (k := 0) C0 dX7_crash_31 hz10 (zF_7 cy hz10) rfl (by decide) hX_X7_crash_7 (zwm (i := 2) rfl) rfl rfl rfl ?_
  refine zg_if_ne (q := 37) (tgt := 78) C0 dX7_crash_34 rfl rfl (fun c39 => ?_) (fun c39 => ?_)
  · have hw := hw.1 c39
    exact zg_vret C0 dX7_crash_78 rfl (Nat.le_refl 0) (Nat.le_refl 0) hw
  · have hw := hw.2 c39
    refine zg_aload_n (q := 38) C0 0 dX7_crash_37 rfl rfl ?_
    refine zg_iload_n (q := 39) C0 1 dX7_crash_38 rfl rfl ?_
    refine zg_callVi (q := 42) C0 [.int x1] [] dX7_crash_39 (fun sz => a_X7_holds l D cy Z S9 sz x0 x1 _ hw) rfl gX7_crash_X7_holds hdV_X7_holds hz10 (zF_7 cy hz10) rfl rfl ⟨Nat.le_of_ble_eq_true rfl, Nat.le_of_ble_eq_true rfl⟩ (Nat.le_of_ble_eq_true rfl) ⟨Nat.zero_le _, Nat.zero_le _⟩ ⟨rfl, rfl⟩ rfl (fun v12 S11 hw => ?_)
    refine zg_if_eq (q := 45) (tgt := 57) C0 dX7_crash_42 rfl rfl (fun c38 => ?_) (fun c38 => ?_)
    · have hw := hw.1 c38
      refine zg_sub [0, 1] rfl ?_
      exact aJ_X7_crash_57 C0  hw
    · have hw := hw.2 c38
      refine zg_aload_n (q := 46) C0 0 dX7_crash_45 rfl rfl ?_
      refine zg_get (q := 49) (T := TX7) (k := 26) C0 dX7_crash_46 hz10 (zF_7 cy hz10) rfl (by decide) hX_X7_crash_7 (zwm (i := 3) rfl) rfl rfl rfl ?_
      obtain ⟨b29, hb30, hw⟩ := hw
      refine zg_nn hb30 ?_
      refine zg_aload_n (q := 50) C0 0 dX7_crash_49 rfl rfl ?_
      refine zg_get (q := 53) (T := TX7) (k := 5) C0 dX7_crash_50 hz10 (zF_7 cy hz10) rfl (by decide) hX_X7_crash_7 (zwm (i := 4) rfl) rfl rfl rfl ?_
      obtain ⟨b31, hb32, hw⟩ := hw
      refine zg_nn hb32 ?_
      refine zg_iload_n (q := 54) C0 1 dX7_crash_53 rfl rfl ?_
      obtain ⟨hz33, hw⟩ := hw
      obtain ⟨hi34, hw⟩ := hw
      refine zg_iald (q := 55) C0 dX7_crash_54 hz33 hi34 rfl ?_
      refine zg_iconst (q := 56) C0 dX7_crash_55 zc_iconst_1 rfl ?_
      obtain ⟨hz35, hw⟩ := hw
      obtain ⟨hi36, hw⟩ := hw
      refine zg_zast (q := 57) C0 dX7_crash_56 hz35 hi36 (by decide) rfl (fun S37 eS37 => ?_)
      have hw := hw S37 eS37
      refine zg_sub [0, 1] rfl ?_
      exact aJ_X7_crash_57 C0  hw
def w_X7_crash (Z : zZ) (h0 : Nat) (p0 : Int32) (S : zS) (Qp : zS → Prop) : Prop :=
  zk Z h0 7 ∧ w_X7_noNode Z h0 p0 S (fun (v3 : Int32) (S2 : zS) => ((v3 = 0 → ∃ b4, zQ Z h0 3 = some b4 ∧ zk Z b4 10 ∧ vp_in p0 (zN Z b4) ∧ (((zI S2 b4 p0.toNatClampNeg) = 0 → wJ_X7_crash_27 Z Qp  h0 p0 2 h0 S2) ∧ (¬ (zI S2 b4 p0.toNatClampNeg) = 0 → wJ_X7_crash_27 Z Qp  h0 p0 0 h0 S2))) ∧ (¬ v3 = 0 → wJ_X7_crash_27 Z Qp  h0 p0 1 h0 S2)))
set_option maxHeartbeats 4000000 in
set_option maxRecDepth 100000 in
theorem a_X7_crash (l : Launch) (D : va_G) (cy : Nat → ClassId) (Z : zZ) (S : zS) (sz : Nat) (h0 : Nat) (p0 : Int32) (Qp : zS → Prop) (hw : w_X7_crash Z h0 p0 S Qp) : zMv l yX7_crash wsX7_crash rm_X7_crash D cy Z S sz [.ref h0, .int p0] Qp := by
  unfold w_X7_crash at hw
  refine zMv_of (cc := cX7_crash) (maxL := 2) (rt := none) (by decide +kernel) rfl (Nat.le_of_ble_eq_true rfl) ?_
  intro p e s m args below meth c A C0 _
  refine zg_lv (lv' := [(0, .ref h0), (1, .int p0)]) rfl ?_
  refine zg_aload_n (q := 1) C0 0 dX7_crash_0 rfl rfl ?_
  refine zg_aload_n (q := 2) C0 0 dX7_crash_1 rfl rfl ?_
  refine zg_iload_n (q := 3) C0 1 dX7_crash_2 rfl rfl ?_
  obtain ⟨hz1, hw⟩ := hw
  refine zg_callVi (q := 6) C0 [.int p0] [.ref h0] dX7_crash_3 (fun sz => a_X7_noNode l D cy Z S sz h0 p0 _ hw) rfl gX7_crash_X7_noNode hdV_X7_noNode hz1 (zF_7 cy hz1) rfl rfl ⟨Nat.le_of_ble_eq_true rfl, Nat.le_of_ble_eq_true rfl⟩ (Nat.le_of_ble_eq_true rfl) ⟨Nat.zero_le _, Nat.zero_le _⟩ ⟨rfl, rfl⟩ rfl (fun v3 S2 hw => ?_)
  refine zg_if_eq (q := 9) (tgt := 13) C0 dX7_crash_6 rfl rfl (fun c41 => ?_) (fun c41 => ?_)
  · have hw := hw.1 c41
    refine zg_aload_n (q := 14) C0 0 dX7_crash_13 rfl rfl ?_
    refine zg_get (q := 17) (T := TX7) (k := 3) C0 dX7_crash_14 hz1 (zF_7 cy hz1) rfl (by decide) hX_X7_crash_7 (zwm (i := 1) rfl) rfl rfl rfl ?_
    obtain ⟨b4, hb5, hw⟩ := hw
    refine zg_nn hb5 ?_
    refine zg_iload_n (q := 18) C0 1 dX7_crash_17 rfl rfl ?_
    obtain ⟨hz6, hw⟩ := hw
    obtain ⟨hi7, hw⟩ := hw
    refine zg_zald (q := 19) C0 dX7_crash_18 hz6 hi7 rfl ?_
    refine zg_if_eq (q := 22) (tgt := 26) C0 dX7_crash_19 rfl rfl (fun c40 => ?_) (fun c40 => ?_)
    · have hw := hw.1 c40
      refine zg_iconst (q := 27) C0 dX7_crash_26 zc_iconst_2 rfl ?_
      refine zg_sub [0, 1] rfl ?_
      exact aJ_X7_crash_27 C0  hw
    · have hw := hw.2 c40
      refine zg_iconst (q := 23) C0 dX7_crash_22 zc_iconst_0 rfl ?_
      refine zg_goto (tgt := 27) C0 dX7_crash_23 rfl ?_
      refine zg_sub [0, 1] rfl ?_
      exact aJ_X7_crash_27 C0  hw
  · have hw := hw.2 c41
    refine zg_iconst (q := 10) C0 dX7_crash_9 zc_iconst_1 rfl ?_
    refine zg_goto (tgt := 27) C0 dX7_crash_10 rfl ?_
    refine zg_sub [0, 1] rfl ?_
    exact aJ_X7_crash_27 C0  hw
-- X7_restart
abbrev rm_X7_restart : Room := { frames := 1, cells := 0, slots := 0, locals := 21 }
theorem hX_X7_restart_7 : ∀ w ∈ u_ws RX7 TX7 36, w ∈ wsX7_restart := by decide +kernel
theorem hdV_X7_restart : yX7_restart.cls = RX7 ∧ yX7_restart.cls ≠ "java/lang/invoke/MethodHandle" ∧ yX7_restart.cls ≠ "java/lang/invoke/VarHandle" ∧ (parseMethodDescriptor yX7_restart.desc).map (fun d => d.parameters.length) = some 1 := by decide +kernel
def w_X7_restart (Z : zZ) (h0 : Nat) (p0 : Int32) (S : zS) (Qp : zS → Prop) : Prop :=
  zk Z h0 7 ∧ w_X7_noNode Z h0 p0 S (fun (v3 : Int32) (S2 : zS) => ((v3 = 0 → ∃ b4, zQ Z h0 3 = some b4 ∧ zk Z b4 10 ∧ vp_in p0 (zN Z b4) ∧ (((zI S2 b4 p0.toNatClampNeg) = 0 → ∀ S8 : zS, S8 = zsI S2 h0 0 0 → ((¬ (zI S8 h0 0) = 0 → Qp S8) ∧ ((zI S8 h0 0) = 0 → ∀ S9 : zS, S9 = zsI S8 b4 p0.toNatClampNeg 1 → Qp S9))) ∧ (¬ (zI S2 b4 p0.toNatClampNeg) = 0 → ∀ S11 : zS, S11 = zsI S2 h0 0 2 → ((¬ (zI S11 h0 0) = 0 → Qp S11) ∧ ((zI S11 h0 0) = 0 → ∀ S12 : zS, S12 = zsI S11 b4 p0.toNatClampNeg 1 → Qp S12))))) ∧ (¬ v3 = 0 → ∀ S15 : zS, S15 = zsI S2 h0 0 1 → ((¬ (zI S15 h0 0) = 0 → Qp S15) ∧ ((zI S15 h0 0) = 0 → ∃ b16, zQ Z h0 3 = some b16 ∧ zk Z b16 10 ∧ vp_in p0 (zN Z b16) ∧ ∀ S20 : zS, S20 = zsI S15 b16 p0.toNatClampNeg 1 → Qp S20)))))
set_option maxHeartbeats 4000000 in
set_option maxRecDepth 100000 in
theorem a_X7_restart (l : Launch) (D : va_G) (cy : Nat → ClassId) (Z : zZ) (S : zS) (sz : Nat) (h0 : Nat) (p0 : Int32) (Qp : zS → Prop) (hw : w_X7_restart Z h0 p0 S Qp) : zMv l yX7_restart wsX7_restart rm_X7_restart D cy Z S sz [.ref h0, .int p0] Qp := by
  unfold w_X7_restart at hw
  refine zMv_of (cc := cX7_restart) (maxL := 2) (rt := none) (by decide +kernel) rfl (Nat.le_of_ble_eq_true rfl) ?_
  intro p e s m args below meth c A C0 _
  refine zg_lv (lv' := [(0, .ref h0), (1, .int p0)]) rfl ?_
  refine zg_aload_n (q := 1) C0 0 dX7_restart_0 rfl rfl ?_
  refine zg_aload_n (q := 2) C0 0 dX7_restart_1 rfl rfl ?_
  refine zg_iload_n (q := 3) C0 1 dX7_restart_2 rfl rfl ?_
  obtain ⟨hz1, hw⟩ := hw
  refine zg_callVi (q := 6) C0 [.int p0] [.ref h0] dX7_restart_3 (fun sz => a_X7_noNode l D cy Z S sz h0 p0 _ hw) rfl gX7_restart_X7_noNode hdV_X7_noNode hz1 (zF_7 cy hz1) rfl rfl ⟨Nat.le_of_ble_eq_true rfl, Nat.le_of_ble_eq_true rfl⟩ (Nat.le_of_ble_eq_true rfl) ⟨Nat.zero_le _, Nat.zero_le _⟩ ⟨rfl, rfl⟩ rfl (fun v3 S2 hw => ?_)
  refine zg_if_eq (q := 9) (tgt := 13) C0 dX7_restart_6 rfl rfl (fun c22 => ?_) (fun c22 => ?_)
  · have hw := hw.1 c22
    refine zg_aload_n (q := 14) C0 0 dX7_restart_13 rfl rfl ?_
    refine zg_get (q := 17) (T := TX7) (k := 3) C0 dX7_restart_14 hz1 (zF_7 cy hz1) rfl (by decide) hX_X7_restart_7 (zwm (i := 1) rfl) rfl rfl rfl ?_
    obtain ⟨b4, hb5, hw⟩ := hw
    refine zg_nn hb5 ?_
    refine zg_iload_n (q := 18) C0 1 dX7_restart_17 rfl rfl ?_
    obtain ⟨hz6, hw⟩ := hw
    obtain ⟨hi7, hw⟩ := hw
    refine zg_zald (q := 19) C0 dX7_restart_18 hz6 hi7 rfl ?_
    refine zg_if_eq (q := 22) (tgt := 26) C0 dX7_restart_19 rfl rfl (fun c14 => ?_) (fun c14 => ?_)
    · have hw := hw.1 c14
      refine zg_iconst (q := 27) C0 dX7_restart_26 zc_iconst_0 rfl ?_
      refine zg_putI (q := 30) (T := TX7) (k := 0) (ty0 := tyX7) C0 dX7_restart_27 hz1 (zF_7 cy hz1) rfl (by decide) hX_X7_restart_7 tyX7_ok nmX7 (zwm (i := 2) rfl) rfl rfl rfl rfl (Nat.le_of_ble_eq_true rfl) (zF_7 cy hz1) (zP_7_0 Z S2 _ _) rfl (fun S8 eS8 => ?_)
      have hw := hw S8 eS8
      refine zg_aload_n (q := 31) C0 0 dX7_restart_30 rfl rfl ?_
      refine zg_get (q := 34) (T := TX7) (k := 0) C0 dX7_restart_31 hz1 (zF_7 cy hz1) rfl (by decide) hX_X7_restart_7 (zwm (i := 2) rfl) rfl rfl rfl ?_
      refine zg_if_ne (q := 37) (tgt := 44) C0 dX7_restart_34 rfl rfl (fun c10 => ?_) (fun c10 => ?_)
      · have hw := hw.1 c10
        exact zg_vret C0 dX7_restart_44 rfl (Nat.le_refl 0) (Nat.le_refl 0) hw
      · have hw := hw.2 c10
        refine zg_aload_n (q := 38) C0 0 dX7_restart_37 rfl rfl ?_
        refine zg_get (q := 41) (T := TX7) (k := 3) C0 dX7_restart_38 hz1 (zF_7 cy hz1) rfl (by decide) hX_X7_restart_7 (zwm (i := 1) rfl) rfl rfl rfl ?_
        refine zg_nn hb5 ?_
        refine zg_iload_n (q := 42) C0 1 dX7_restart_41 rfl rfl ?_
        refine zg_iconst (q := 43) C0 dX7_restart_42 zc_iconst_1 rfl ?_
        refine zg_zast (q := 44) C0 dX7_restart_43 hz6 hi7 (by decide) rfl (fun S9 eS9 => ?_)
        have hw := hw S9 eS9
        exact zg_vret C0 dX7_restart_44 rfl (Nat.le_refl 0) (Nat.le_refl 0) hw
    · have hw := hw.2 c14
      refine zg_iconst (q := 23) C0 dX7_restart_22 zc_iconst_2 rfl ?_
      refine zg_goto (tgt := 27) C0 dX7_restart_23 rfl ?_
      refine zg_putI (q := 30) (T := TX7) (k := 0) (ty0 := tyX7) C0 dX7_restart_27 hz1 (zF_7 cy hz1) rfl (by decide) hX_X7_restart_7 tyX7_ok nmX7 (zwm (i := 2) rfl) rfl rfl rfl rfl (Nat.le_of_ble_eq_true rfl) (zF_7 cy hz1) (zP_7_0 Z S2 _ _) rfl (fun S11 eS11 => ?_)
      have hw := hw S11 eS11
      refine zg_aload_n (q := 31) C0 0 dX7_restart_30 rfl rfl ?_
      refine zg_get (q := 34) (T := TX7) (k := 0) C0 dX7_restart_31 hz1 (zF_7 cy hz1) rfl (by decide) hX_X7_restart_7 (zwm (i := 2) rfl) rfl rfl rfl ?_
      refine zg_if_ne (q := 37) (tgt := 44) C0 dX7_restart_34 rfl rfl (fun c13 => ?_) (fun c13 => ?_)
      · have hw := hw.1 c13
        exact zg_vret C0 dX7_restart_44 rfl (Nat.le_refl 0) (Nat.le_refl 0) hw
      · have hw := hw.2 c13
        refine zg_aload_n (q := 38) C0 0 dX7_restart_37 rfl rfl ?_
        refine zg_get (q := 41) (T := TX7) (k := 3) C0 dX7_restart_38 hz1 (zF_7 cy hz1) rfl (by decide) hX_X7_restart_7 (zwm (i := 1) rfl) rfl rfl rfl ?_
        refine zg_nn hb5 ?_
        refine zg_iload_n (q := 42) C0 1 dX7_restart_41 rfl rfl ?_
        refine zg_iconst (q := 43) C0 dX7_restart_42 zc_iconst_1 rfl ?_
        refine zg_zast (q := 44) C0 dX7_restart_43 hz6 hi7 (by decide) rfl (fun S12 eS12 => ?_)
        have hw := hw S12 eS12
        exact zg_vret C0 dX7_restart_44 rfl (Nat.le_refl 0) (Nat.le_refl 0) hw
  · have hw := hw.2 c22
    refine zg_iconst (q := 10) C0 dX7_restart_9 zc_iconst_1 rfl ?_
    refine zg_goto (tgt := 27) C0 dX7_restart_10 rfl ?_
    refine zg_putI (q := 30) (T := TX7) (k := 0) (ty0 := tyX7) C0 dX7_restart_27 hz1 (zF_7 cy hz1) rfl (by decide) hX_X7_restart_7 tyX7_ok nmX7 (zwm (i := 2) rfl) rfl rfl rfl rfl (Nat.le_of_ble_eq_true rfl) (zF_7 cy hz1) (zP_7_0 Z S2 _ _) rfl (fun S15 eS15 => ?_)
    have hw := hw S15 eS15
    refine zg_aload_n (q := 31) C0 0 dX7_restart_30 rfl rfl ?_
    refine zg_get (q := 34) (T := TX7) (k := 0) C0 dX7_restart_31 hz1 (zF_7 cy hz1) rfl (by decide) hX_X7_restart_7 (zwm (i := 2) rfl) rfl rfl rfl ?_
    refine zg_if_ne (q := 37) (tgt := 44) C0 dX7_restart_34 rfl rfl (fun c21 => ?_) (fun c21 => ?_)
    · have hw := hw.1 c21
      exact zg_vret C0 dX7_restart_44 rfl (Nat.le_refl 0) (Nat.le_refl 0) hw
    · have hw := hw.2 c21
      refine zg_aload_n (q := 38) C0 0 dX7_restart_37 rfl rfl ?_
      refine zg_get (q := 41) (T := TX7) (k := 3) C0 dX7_restart_38 hz1 (zF_7 cy hz1) rfl (by decide) hX_X7_restart_7 (zwm (i := 1) rfl) rfl rfl rfl ?_
      obtain ⟨b16, hb17, hw⟩ := hw
      refine zg_nn hb17 ?_
      refine zg_iload_n (q := 42) C0 1 dX7_restart_41 rfl rfl ?_
      refine zg_iconst (q := 43) C0 dX7_restart_42 zc_iconst_1 rfl ?_
      obtain ⟨hz18, hw⟩ := hw
      obtain ⟨hi19, hw⟩ := hw
      refine zg_zast (q := 44) C0 dX7_restart_43 hz18 hi19 (by decide) rfl (fun S20 eS20 => ?_)
      have hw := hw S20 eS20
      exact zg_vret C0 dX7_restart_44 rfl (Nat.le_refl 0) (Nat.le_refl 0) hw
-- X7_about
abbrev rm_X7_about : Room := { frames := 3, cells := 0, slots := 0, locals := 65 }
theorem hX_X7_about_7 : ∀ w ∈ u_ws RX7 TX7 36, w ∈ wsX7_about := by decide +kernel
theorem hdV_X7_about : yX7_about.cls = RX7 ∧ yX7_about.cls ≠ "java/lang/invoke/MethodHandle" ∧ yX7_about.cls ≠ "java/lang/invoke/VarHandle" ∧ (parseMethodDescriptor yX7_about.desc).map (fun d => d.parameters.length) = some 2 := by decide +kernel
def wJ_X7_about_57 (Z : zZ) (Qp : Int32 → zS → Prop)  (x0 : Nat) (x1 : Int32) (x2 : Int32) (x3 : Int32) (t0 : Int32) (S : zS) : Prop :=
  ((4 ≤ x2 → ((8 ≤ x2 → ((12 ≤ x2 → ((¬ x2 = 12 → zk Z x0 7 ∧ ∃ b13, zQ Z x0 18 = some b13 ∧ zk Z b13 8 ∧ vp_in x1 (zN Z b13) ∧ Qp (zI S b13 x1.toNatClampNeg) S) ∧ (x2 = 12 → zk Z x0 7 ∧ w_X7_holds Z x0 x1 S (fun (v19 : Int32) (S18 : zS) => ((v19 = 0 → Qp 0 S18) ∧ (¬ v19 = 0 → Qp 1 S18)))))) ∧ (¬ 12 ≤ x2 → ((¬ x2 = 8 → ((¬ x2 = 9 → ((¬ x2 = 10 → zk Z x0 7 ∧ ∃ b23, zQ Z x0 6 = some b23 ∧ zk Z b23 8 ∧ vp_in x1 (zN Z b23) ∧ Qp (zI S b23 x1.toNatClampNeg) S) ∧ (x2 = 10 → zk Z x0 7 ∧ ∃ b28, zQ Z x0 11 = some b28 ∧ zk Z b28 8 ∧ vp_in x1 (zN Z b28) ∧ Qp (zI S b28 x1.toNatClampNeg) S))) ∧ (x2 = 9 → zk Z x0 7 ∧ ∃ b34, zQ Z x0 10 = some b34 ∧ zk Z b34 8 ∧ vp_in x1 (zN Z b34) ∧ Qp (zI S b34 x1.toNatClampNeg) S))) ∧ (x2 = 8 → zk Z x0 7 ∧ ∃ b40, zQ Z x0 8 = some b40 ∧ zk Z b40 8 ∧ vp_in x1 (zN Z b40) ∧ Qp (zI S b40 x1.toNatClampNeg) S))))) ∧ (¬ 8 ≤ x2 → ((¬ x2 = 4 → ((¬ t0 = 0 → ((¬ x2 = 5 → ((¬ x2 = 6 → zk Z x0 7 ∧ ∃ b47, zQ Z x0 17 = some b47 ∧ zk Z b47 8 ∧ vp_in x1 (zN Z b47) ∧ Qp (zI S b47 x1.toNatClampNeg) S) ∧ (x2 = 6 → zk Z x0 7 ∧ ∃ b52, zQ Z x0 16 = some b52 ∧ zk Z b52 8 ∧ vp_in x1 (zN Z b52) ∧ Qp (zI S b52 x1.toNatClampNeg) S))) ∧ (x2 = 5 → zk Z x0 7 ∧ w_X7_full Z x0 x1 S (fun (v59 : Int32) (S58 : zS) => Qp v59 S58)))) ∧ (t0 = 0 → Qp 0 S))) ∧ (x2 = 4 → zk Z x0 7 ∧ ∃ b63, zQ Z x0 12 = some b63 ∧ zk Z b63 8 ∧ vp_in x1 (zN Z b63) ∧ Qp (zI S b63 x1.toNatClampNeg) S))))) ∧ (¬ 4 ≤ x2 → ((¬ x2 = 0 → ((¬ x2 = 1 → ((¬ t0 = 0 → ((¬ x2 = 2 → zk Z x0 7 ∧ ∃ b70, zQ Z x0 25 = some b70 ∧ zk Z b70 8 ∧ vp_in x3 (zN Z b70) ∧ Qp (zI S b70 x3.toNatClampNeg) S) ∧ (x2 = 2 → zk Z x0 7 ∧ ∃ b75, zQ Z x0 24 = some b75 ∧ zk Z b75 8 ∧ vp_in x3 (zN Z b75) ∧ Qp (zI S b75 x3.toNatClampNeg) S))) ∧ (t0 = 0 → Qp 0 S))) ∧ (x2 = 1 → zk Z x0 7 ∧ ∃ b82, zQ Z x0 4 = some b82 ∧ zk Z b82 8 ∧ vp_in x1 (zN Z b82) ∧ Qp (zI S b82 x1.toNatClampNeg) S))) ∧ (x2 = 0 → zk Z x0 7 ∧ ∃ b88, zQ Z x0 3 = some b88 ∧ zk Z b88 10 ∧ vp_in x1 (zN Z b88) ∧ (((zI S b88 x1.toNatClampNeg) = 0 → Qp 0 S) ∧ (¬ (zI S b88 x1.toNatClampNeg) = 0 → Qp 1 S))))))
set_option maxHeartbeats 4000000 in
set_option maxRecDepth 100000 in
theorem aJ_X7_about_57 {p : Program} {l : Launch} {e : Env} {s : State} {m : MethodId} {args : Array Value} {below : List Frame} {meth : Method} {c : Code} {D : va_G} {cy : Nat → ClassId} {A : Nat → Prop} {Z : zZ} (C0 : zC p s m args meth c cX7_about 5 wsX7_about RX7 D cy A (some .int)) {Qp : Int32 → zS → Prop} {x0 : Nat} {x1 : Int32} {x2 : Int32} {x3 : Int32} {t0 : Int32}    {S : zS} (hw : wJ_X7_about_57 Z Qp  x0 x1 x2 x3 t0 S) : zG p l e rm_X7_about s m args below meth c D cy A 5 0 0 (zQi below D cy A Z Qp args s 0 0) Z S 57 [(0, .ref x0), (1, .int x1), (2, .int x2), (3, .int x3)] [.int t0] := by
  unfold wJ_X7_about_57 at hw
  refine zg_istore (q := 59) (lv' := [(4, .int t0), (0, .ref x0), (1, .int x1), (2, .int x2), (3, .int x3)]) C0 dX7_about_57 (by decide) rfl rfl ?_
  refine zg_iload_n (q := 60) C0 3 dX7_about_59 rfl rfl ?_
  refine zg_iconst (q := 61) C0 dX7_about_60 zc_iconst_4 rfl ?_
  refine zg_icmp_ge (q := 64) (tgt := 129) C0 dX7_about_61 rfl rfl (fun c94 => ?_) (fun c94 => ?_)
  · have hw := hw.1 c94
    refine zg_iload_n (q := 130) C0 3 dX7_about_129 rfl rfl ?_
    refine zg_bipush (q := 132) C0 dX7_about_130 zc_bipush_8 rfl ?_
    refine zg_icmp_ge (q := 135) (tgt := 193) C0 dX7_about_132 rfl rfl (fun c68 => ?_) (fun c68 => ?_)
    · have hw := hw.1 c68
      refine zg_iload_n (q := 194) C0 3 dX7_about_193 rfl rfl ?_
      refine zg_bipush (q := 196) C0 dX7_about_194 zc_bipush_12 rfl ?_
      refine zg_icmp_ge (q := 199) (tgt := 251) C0 dX7_about_196 rfl rfl (fun c45 => ?_) (fun c45 => ?_)
      · have hw := hw.1 c45
        refine zg_iload_n (q := 252) C0 3 dX7_about_251 rfl rfl ?_
        refine zg_bipush (q := 254) C0 dX7_about_252 zc_bipush_12 rfl ?_
        refine zg_icmp_ne (q := 257) (tgt := 273) C0 dX7_about_254 rfl rfl (fun c21 => ?_) (fun c21 => ?_)
        · have hw := hw.1 c21
          refine zg_aload_n (q := 274) C0 1 dX7_about_273 rfl rfl ?_
          obtain ⟨hz12, hw⟩ := hw
          refine zg_get (q := 277) (T := TX7) (k := 18) C0 dX7_about_274 hz12 (zF_7 cy hz12) rfl (by decide) hX_X7_about_7 (zwm (i := 14) rfl) rfl rfl rfl ?_
          obtain ⟨b13, hb14, hw⟩ := hw
          refine zg_nn hb14 ?_
          refine zg_iload_n (q := 278) C0 2 dX7_about_277 rfl rfl ?_
          obtain ⟨hz15, hw⟩ := hw
          obtain ⟨hi16, hw⟩ := hw
          refine zg_iald (q := 279) C0 dX7_about_278 hz15 hi16 rfl ?_
          exact zg_iret C0 dX7_about_279 rfl rfl (Nat.le_refl 0) (Nat.le_refl 0) hw
        · have hw := hw.2 c21
          refine zg_aload_n (q := 258) C0 1 dX7_about_257 rfl rfl ?_
          refine zg_iload_n (q := 259) C0 2 dX7_about_258 rfl rfl ?_
          obtain ⟨hz17, hw⟩ := hw
          refine zg_callVi (q := 262) C0 [.int x1] [] dX7_about_259 (fun sz => a_X7_holds l D cy Z S sz x0 x1 _ hw) rfl gX7_about_X7_holds hdV_X7_holds hz17 (zF_7 cy hz17) rfl rfl ⟨Nat.le_of_ble_eq_true rfl, Nat.le_of_ble_eq_true rfl⟩ (Nat.le_of_ble_eq_true rfl) ⟨Nat.zero_le _, Nat.zero_le _⟩ ⟨rfl, rfl⟩ rfl (fun v19 S18 hw => ?_)
          refine zg_if_eq (q := 265) (tgt := 269) C0 dX7_about_262 rfl rfl (fun c20 => ?_) (fun c20 => ?_)
          · have hw := hw.1 c20
            refine zg_iconst (q := 270) C0 dX7_about_269 zc_iconst_0 rfl ?_
            refine zg_goto (tgt := 279) C0 dX7_about_270 rfl ?_
            exact zg_iret C0 dX7_about_279 rfl rfl (Nat.le_refl 0) (Nat.le_refl 0) hw
          · have hw := hw.2 c20
            refine zg_iconst (q := 266) C0 dX7_about_265 zc_iconst_1 rfl ?_
            refine zg_goto (tgt := 279) C0 dX7_about_266 rfl ?_
            exact zg_iret C0 dX7_about_279 rfl rfl (Nat.le_refl 0) (Nat.le_refl 0) hw
      · have hw := hw.2 c45
        refine zg_iload_n (q := 200) C0 3 dX7_about_199 rfl rfl ?_
        refine zg_bipush (q := 202) C0 dX7_about_200 zc_bipush_8 rfl ?_
        refine zg_icmp_ne (q := 205) (tgt := 214) C0 dX7_about_202 rfl rfl (fun c44 => ?_) (fun c44 => ?_)
        · have hw := hw.1 c44
          refine zg_iload_n (q := 215) C0 3 dX7_about_214 rfl rfl ?_
          refine zg_bipush (q := 217) C0 dX7_about_215 zc_bipush_9 rfl ?_
          refine zg_icmp_ne (q := 220) (tgt := 229) C0 dX7_about_217 rfl rfl (fun c38 => ?_) (fun c38 => ?_)
          · have hw := hw.1 c38
            refine zg_iload_n (q := 230) C0 3 dX7_about_229 rfl rfl ?_
            refine zg_bipush (q := 232) C0 dX7_about_230 zc_bipush_10 rfl ?_
            refine zg_icmp_ne (q := 235) (tgt := 244) C0 dX7_about_232 rfl rfl (fun c32 => ?_) (fun c32 => ?_)
            · have hw := hw.1 c32
              refine zg_aload_n (q := 245) C0 1 dX7_about_244 rfl rfl ?_
              obtain ⟨hz22, hw⟩ := hw
              refine zg_get (q := 248) (T := TX7) (k := 6) C0 dX7_about_245 hz22 (zF_7 cy hz22) rfl (by decide) hX_X7_about_7 (zwm (i := 13) rfl) rfl rfl rfl ?_
              obtain ⟨b23, hb24, hw⟩ := hw
              refine zg_nn hb24 ?_
              refine zg_iload_n (q := 249) C0 2 dX7_about_248 rfl rfl ?_
              obtain ⟨hz25, hw⟩ := hw
              obtain ⟨hi26, hw⟩ := hw
              refine zg_iald (q := 250) C0 dX7_about_249 hz25 hi26 rfl ?_
              exact zg_iret C0 dX7_about_250 rfl rfl (Nat.le_refl 0) (Nat.le_refl 0) hw
            · have hw := hw.2 c32
              refine zg_aload_n (q := 236) C0 1 dX7_about_235 rfl rfl ?_
              obtain ⟨hz27, hw⟩ := hw
              refine zg_get (q := 239) (T := TX7) (k := 11) C0 dX7_about_236 hz27 (zF_7 cy hz27) rfl (by decide) hX_X7_about_7 (zwm (i := 12) rfl) rfl rfl rfl ?_
              obtain ⟨b28, hb29, hw⟩ := hw
              refine zg_nn hb29 ?_
              refine zg_iload_n (q := 240) C0 2 dX7_about_239 rfl rfl ?_
              obtain ⟨hz30, hw⟩ := hw
              obtain ⟨hi31, hw⟩ := hw
              refine zg_iald (q := 241) C0 dX7_about_240 hz30 hi31 rfl ?_
              refine zg_goto (tgt := 250) C0 dX7_about_241 rfl ?_
              exact zg_iret C0 dX7_about_250 rfl rfl (Nat.le_refl 0) (Nat.le_refl 0) hw
          · have hw := hw.2 c38
            refine zg_aload_n (q := 221) C0 1 dX7_about_220 rfl rfl ?_
            obtain ⟨hz33, hw⟩ := hw
            refine zg_get (q := 224) (T := TX7) (k := 10) C0 dX7_about_221 hz33 (zF_7 cy hz33) rfl (by decide) hX_X7_about_7 (zwm (i := 11) rfl) rfl rfl rfl ?_
            obtain ⟨b34, hb35, hw⟩ := hw
            refine zg_nn hb35 ?_
            refine zg_iload_n (q := 225) C0 2 dX7_about_224 rfl rfl ?_
            obtain ⟨hz36, hw⟩ := hw
            obtain ⟨hi37, hw⟩ := hw
            refine zg_iald (q := 226) C0 dX7_about_225 hz36 hi37 rfl ?_
            refine zg_goto (tgt := 250) C0 dX7_about_226 rfl ?_
            exact zg_iret C0 dX7_about_250 rfl rfl (Nat.le_refl 0) (Nat.le_refl 0) hw
        · have hw := hw.2 c44
          refine zg_aload_n (q := 206) C0 1 dX7_about_205 rfl rfl ?_
          obtain ⟨hz39, hw⟩ := hw
          refine zg_get (q := 209) (T := TX7) (k := 8) C0 dX7_about_206 hz39 (zF_7 cy hz39) rfl (by decide) hX_X7_about_7 (zwm (i := 10) rfl) rfl rfl rfl ?_
          obtain ⟨b40, hb41, hw⟩ := hw
          refine zg_nn hb41 ?_
          refine zg_iload_n (q := 210) C0 2 dX7_about_209 rfl rfl ?_
          obtain ⟨hz42, hw⟩ := hw
          obtain ⟨hi43, hw⟩ := hw
          refine zg_iald (q := 211) C0 dX7_about_210 hz42 hi43 rfl ?_
          refine zg_goto (tgt := 250) C0 dX7_about_211 rfl ?_
          exact zg_iret C0 dX7_about_250 rfl rfl (Nat.le_refl 0) (Nat.le_refl 0) hw
    · have hw := hw.2 c68
      refine zg_iload_n (q := 136) C0 3 dX7_about_135 rfl rfl ?_
      refine zg_iconst (q := 137) C0 dX7_about_136 zc_iconst_4 rfl ?_
      refine zg_icmp_ne (q := 140) (tgt := 149) C0 dX7_about_137 rfl rfl (fun c67 => ?_) (fun c67 => ?_)
      · have hw := hw.1 c67
        refine zg_iload (q := 151) C0 0 dX7_about_149 rfl rfl ?_
        refine zg_if_ne (q := 154) (tgt := 158) C0 dX7_about_151 rfl rfl (fun c61 => ?_) (fun c61 => ?_)
        · have hw := hw.1 c61
          refine zg_iload_n (q := 159) C0 3 dX7_about_158 rfl rfl ?_
          refine zg_iconst (q := 160) C0 dX7_about_159 zc_iconst_5 rfl ?_
          refine zg_icmp_ne (q := 163) (tgt := 171) C0 dX7_about_160 rfl rfl (fun c60 => ?_) (fun c60 => ?_)
          · have hw := hw.1 c60
            refine zg_iload_n (q := 172) C0 3 dX7_about_171 rfl rfl ?_
            refine zg_bipush (q := 174) C0 dX7_about_172 zc_bipush_6 rfl ?_
            refine zg_icmp_ne (q := 177) (tgt := 186) C0 dX7_about_174 rfl rfl (fun c56 => ?_) (fun c56 => ?_)
            · have hw := hw.1 c56
              refine zg_aload_n (q := 187) C0 1 dX7_about_186 rfl rfl ?_
              obtain ⟨hz46, hw⟩ := hw
              refine zg_get (q := 190) (T := TX7) (k := 17) C0 dX7_about_187 hz46 (zF_7 cy hz46) rfl (by decide) hX_X7_about_7 (zwm (i := 9) rfl) rfl rfl rfl ?_
              obtain ⟨b47, hb48, hw⟩ := hw
              refine zg_nn hb48 ?_
              refine zg_iload_n (q := 191) C0 2 dX7_about_190 rfl rfl ?_
              obtain ⟨hz49, hw⟩ := hw
              obtain ⟨hi50, hw⟩ := hw
              refine zg_iald (q := 192) C0 dX7_about_191 hz49 hi50 rfl ?_
              exact zg_iret C0 dX7_about_192 rfl rfl (Nat.le_refl 0) (Nat.le_refl 0) hw
            · have hw := hw.2 c56
              refine zg_aload_n (q := 178) C0 1 dX7_about_177 rfl rfl ?_
              obtain ⟨hz51, hw⟩ := hw
              refine zg_get (q := 181) (T := TX7) (k := 16) C0 dX7_about_178 hz51 (zF_7 cy hz51) rfl (by decide) hX_X7_about_7 (zwm (i := 8) rfl) rfl rfl rfl ?_
              obtain ⟨b52, hb53, hw⟩ := hw
              refine zg_nn hb53 ?_
              refine zg_iload_n (q := 182) C0 2 dX7_about_181 rfl rfl ?_
              obtain ⟨hz54, hw⟩ := hw
              obtain ⟨hi55, hw⟩ := hw
              refine zg_iald (q := 183) C0 dX7_about_182 hz54 hi55 rfl ?_
              refine zg_goto (tgt := 192) C0 dX7_about_183 rfl ?_
              exact zg_iret C0 dX7_about_192 rfl rfl (Nat.le_refl 0) (Nat.le_refl 0) hw
          · have hw := hw.2 c60
            refine zg_aload_n (q := 164) C0 1 dX7_about_163 rfl rfl ?_
            refine zg_iload_n (q := 165) C0 2 dX7_about_164 rfl rfl ?_
            obtain ⟨hz57, hw⟩ := hw
            refine zg_callVi (q := 168) C0 [.int x1] [] dX7_about_165 (fun sz => a_X7_full l D cy Z S sz x0 x1 _ hw) rfl gX7_about_X7_full hdV_X7_full hz57 (zF_7 cy hz57) rfl rfl ⟨Nat.le_of_ble_eq_true rfl, Nat.le_of_ble_eq_true rfl⟩ (Nat.le_of_ble_eq_true rfl) ⟨Nat.zero_le _, Nat.zero_le _⟩ ⟨rfl, rfl⟩ rfl (fun v59 S58 hw => ?_)
            refine zg_goto (tgt := 192) C0 dX7_about_168 rfl ?_
            exact zg_iret C0 dX7_about_192 rfl rfl (Nat.le_refl 0) (Nat.le_refl 0) hw
        · have hw := hw.2 c61
          refine zg_iconst (q := 155) C0 dX7_about_154 zc_iconst_0 rfl ?_
          refine zg_goto (tgt := 192) C0 dX7_about_155 rfl ?_
          exact zg_iret C0 dX7_about_192 rfl rfl (Nat.le_refl 0) (Nat.le_refl 0) hw
      · have hw := hw.2 c67
        refine zg_aload_n (q := 141) C0 1 dX7_about_140 rfl rfl ?_
        obtain ⟨hz62, hw⟩ := hw
        refine zg_get (q := 144) (T := TX7) (k := 12) C0 dX7_about_141 hz62 (zF_7 cy hz62) rfl (by decide) hX_X7_about_7 (zwm (i := 7) rfl) rfl rfl rfl ?_
        obtain ⟨b63, hb64, hw⟩ := hw
        refine zg_nn hb64 ?_
        refine zg_iload_n (q := 145) C0 2 dX7_about_144 rfl rfl ?_
        obtain ⟨hz65, hw⟩ := hw
        obtain ⟨hi66, hw⟩ := hw
        refine zg_iald (q := 146) C0 dX7_about_145 hz65 hi66 rfl ?_
        refine zg_goto (tgt := 192) C0 dX7_about_146 rfl ?_
        exact zg_iret C0 dX7_about_192 rfl rfl (Nat.le_refl 0) (Nat.le_refl 0) hw
  · have hw := hw.2 c94
    refine zg_iload_n (q := 65) C0 3 dX7_about_64 rfl rfl ?_
    refine zg_if_ne (q := 68) (tgt := 85) C0 dX7_about_65 rfl rfl (fun c93 => ?_) (fun c93 => ?_)
    · have hw := hw.1 c93
      refine zg_iload_n (q := 86) C0 3 dX7_about_85 rfl rfl ?_
      refine zg_iconst (q := 87) C0 dX7_about_86 zc_iconst_1 rfl ?_
      refine zg_icmp_ne (q := 90) (tgt := 99) C0 dX7_about_87 rfl rfl (fun c86 => ?_) (fun c86 => ?_)
      · have hw := hw.1 c86
        refine zg_iload (q := 101) C0 0 dX7_about_99 rfl rfl ?_
        refine zg_if_ne (q := 104) (tgt := 108) C0 dX7_about_101 rfl rfl (fun c80 => ?_) (fun c80 => ?_)
        · have hw := hw.1 c80
          refine zg_iload_n (q := 109) C0 3 dX7_about_108 rfl rfl ?_
          refine zg_iconst (q := 110) C0 dX7_about_109 zc_iconst_2 rfl ?_
          refine zg_icmp_ne (q := 113) (tgt := 122) C0 dX7_about_110 rfl rfl (fun c79 => ?_) (fun c79 => ?_)
          · have hw := hw.1 c79
            refine zg_aload_n (q := 123) C0 1 dX7_about_122 rfl rfl ?_
            obtain ⟨hz69, hw⟩ := hw
            refine zg_get (q := 126) (T := TX7) (k := 25) C0 dX7_about_123 hz69 (zF_7 cy hz69) rfl (by decide) hX_X7_about_7 (zwm (i := 6) rfl) rfl rfl rfl ?_
            obtain ⟨b70, hb71, hw⟩ := hw
            refine zg_nn hb71 ?_
            refine zg_iload_n (q := 127) C0 4 dX7_about_126 rfl rfl ?_
            obtain ⟨hz72, hw⟩ := hw
            obtain ⟨hi73, hw⟩ := hw
            refine zg_iald (q := 128) C0 dX7_about_127 hz72 hi73 rfl ?_
            exact zg_iret C0 dX7_about_128 rfl rfl (Nat.le_refl 0) (Nat.le_refl 0) hw
          · have hw := hw.2 c79
            refine zg_aload_n (q := 114) C0 1 dX7_about_113 rfl rfl ?_
            obtain ⟨hz74, hw⟩ := hw
            refine zg_get (q := 117) (T := TX7) (k := 24) C0 dX7_about_114 hz74 (zF_7 cy hz74) rfl (by decide) hX_X7_about_7 (zwm (i := 5) rfl) rfl rfl rfl ?_
            obtain ⟨b75, hb76, hw⟩ := hw
            refine zg_nn hb76 ?_
            refine zg_iload_n (q := 118) C0 4 dX7_about_117 rfl rfl ?_
            obtain ⟨hz77, hw⟩ := hw
            obtain ⟨hi78, hw⟩ := hw
            refine zg_iald (q := 119) C0 dX7_about_118 hz77 hi78 rfl ?_
            refine zg_goto (tgt := 128) C0 dX7_about_119 rfl ?_
            exact zg_iret C0 dX7_about_128 rfl rfl (Nat.le_refl 0) (Nat.le_refl 0) hw
        · have hw := hw.2 c80
          refine zg_iconst (q := 105) C0 dX7_about_104 zc_iconst_0 rfl ?_
          refine zg_goto (tgt := 128) C0 dX7_about_105 rfl ?_
          exact zg_iret C0 dX7_about_128 rfl rfl (Nat.le_refl 0) (Nat.le_refl 0) hw
      · have hw := hw.2 c86
        refine zg_aload_n (q := 91) C0 1 dX7_about_90 rfl rfl ?_
        obtain ⟨hz81, hw⟩ := hw
        refine zg_get (q := 94) (T := TX7) (k := 4) C0 dX7_about_91 hz81 (zF_7 cy hz81) rfl (by decide) hX_X7_about_7 (zwm (i := 4) rfl) rfl rfl rfl ?_
        obtain ⟨b82, hb83, hw⟩ := hw
        refine zg_nn hb83 ?_
        refine zg_iload_n (q := 95) C0 2 dX7_about_94 rfl rfl ?_
        obtain ⟨hz84, hw⟩ := hw
        obtain ⟨hi85, hw⟩ := hw
        refine zg_iald (q := 96) C0 dX7_about_95 hz84 hi85 rfl ?_
        refine zg_goto (tgt := 128) C0 dX7_about_96 rfl ?_
        exact zg_iret C0 dX7_about_128 rfl rfl (Nat.le_refl 0) (Nat.le_refl 0) hw
    · have hw := hw.2 c93
      refine zg_aload_n (q := 69) C0 1 dX7_about_68 rfl rfl ?_
      obtain ⟨hz87, hw⟩ := hw
      refine zg_get (q := 72) (T := TX7) (k := 3) C0 dX7_about_69 hz87 (zF_7 cy hz87) rfl (by decide) hX_X7_about_7 (zwm (i := 3) rfl) rfl rfl rfl ?_
      obtain ⟨b88, hb89, hw⟩ := hw
      refine zg_nn hb89 ?_
      refine zg_iload_n (q := 73) C0 2 dX7_about_72 rfl rfl ?_
      obtain ⟨hz90, hw⟩ := hw
      obtain ⟨hi91, hw⟩ := hw
      refine zg_zald (q := 74) C0 dX7_about_73 hz90 hi91 rfl ?_
      refine zg_if_eq (q := 77) (tgt := 81) C0 dX7_about_74 rfl rfl (fun c92 => ?_) (fun c92 => ?_)
      · have hw := hw.1 c92
        refine zg_iconst (q := 82) C0 dX7_about_81 zc_iconst_0 rfl ?_
        refine zg_goto (tgt := 128) C0 dX7_about_82 rfl ?_
        exact zg_iret C0 dX7_about_128 rfl rfl (Nat.le_refl 0) (Nat.le_refl 0) hw
      · have hw := hw.2 c92
        refine zg_iconst (q := 78) C0 dX7_about_77 zc_iconst_1 rfl ?_
        refine zg_goto (tgt := 128) C0 dX7_about_78 rfl ?_
        exact zg_iret C0 dX7_about_128 rfl rfl (Nat.le_refl 0) (Nat.le_refl 0) hw
def wJ_X7_about_28 (Z : zZ) (Qp : Int32 → zS → Prop)  (x0 : Nat) (x1 : Int32) (x2 : Int32) (t0 : Int32) (t1 : Nat) (S : zS) : Prop :=
  zk Z t1 7 ∧ ∀ S5 : zS, S5 = zsI S t1 0 t0 → zk Z x0 7 ∧ (((zI S5 x0 0) ≤ 0 → ∃ b7, zQ Z x0 5 = some b7 ∧ zk Z b7 8 ∧ vp_in x1 (zN Z b7) ∧ ∀ y11 : Int32, y11 = zI S5 b7 x1.toNatClampNeg → ((y11 = (-1) → wJ_X7_about_57 Z Qp  x0 x1 x2 y11 0 S5) ∧ (¬ y11 = (-1) → wJ_X7_about_57 Z Qp  x0 x1 x2 y11 1 S5))) ∧ (¬ (zI S5 x0 0) ≤ 0 → Qp 0 S5))
set_option maxHeartbeats 4000000 in
set_option maxRecDepth 100000 in
theorem aJ_X7_about_28 {p : Program} {l : Launch} {e : Env} {s : State} {m : MethodId} {args : Array Value} {below : List Frame} {meth : Method} {c : Code} {D : va_G} {cy : Nat → ClassId} {A : Nat → Prop} {Z : zZ} (C0 : zC p s m args meth c cX7_about 5 wsX7_about RX7 D cy A (some .int)) {Qp : Int32 → zS → Prop} {x0 : Nat} {x1 : Int32} {x2 : Int32} {t0 : Int32} {t1 : Nat}    {S : zS} (hw : wJ_X7_about_28 Z Qp  x0 x1 x2 t0 t1 S) : zG p l e rm_X7_about s m args below meth c D cy A 5 0 0 (zQi below D cy A Z Qp args s 0 0) Z S 28 [(0, .ref x0), (1, .int x1), (2, .int x2)] [.int t0, .ref t1] := by
  unfold wJ_X7_about_28 at hw
  obtain ⟨hz4, hw⟩ := hw
  refine zg_putI (q := 31) (T := TX7) (k := 0) (ty0 := tyX7) C0 dX7_about_28 hz4 (zF_7 cy hz4) rfl (by decide) hX_X7_about_7 tyX7_ok nmX7 (zwm (i := 1) rfl) rfl rfl rfl rfl (Nat.le_of_ble_eq_true rfl) (zF_7 cy hz4) (zP_7_0 Z S _ _) rfl (fun S5 eS5 => ?_)
  have hw := hw S5 eS5
  refine zg_aload_n (q := 32) C0 0 dX7_about_31 rfl rfl ?_
  obtain ⟨hz6, hw⟩ := hw
  refine zg_get (q := 35) (T := TX7) (k := 0) C0 dX7_about_32 hz6 (zF_7 cy hz6) rfl (by decide) hX_X7_about_7 (zwm (i := 1) rfl) rfl rfl rfl ?_
  refine zg_if_le (q := 38) (tgt := 40) C0 dX7_about_35 rfl rfl (fun c96 => ?_) (fun c96 => ?_)
  · have hw := hw.1 c96
    refine zg_aload_n (q := 41) C0 0 dX7_about_40 rfl rfl ?_
    refine zg_get (q := 44) (T := TX7) (k := 5) C0 dX7_about_41 hz6 (zF_7 cy hz6) rfl (by decide) hX_X7_about_7 (zwm (i := 2) rfl) rfl rfl rfl ?_
    obtain ⟨b7, hb8, hw⟩ := hw
    refine zg_nn hb8 ?_
    refine zg_iload_n (q := 45) C0 1 dX7_about_44 rfl rfl ?_
    obtain ⟨hz9, hw⟩ := hw
    obtain ⟨hi10, hw⟩ := hw
    refine zg_iald (q := 46) C0 dX7_about_45 hz9 hi10 rfl ?_
    refine zg_ni (fun y11 ey11 => ?_)
    have hw := hw y11 ey11
    refine zg_istore_n (q := 47) (lv' := [(3, .int y11), (0, .ref x0), (1, .int x1), (2, .int x2)]) C0 dX7_about_46 (by decide) rfl rfl ?_
    refine zg_iload_n (q := 48) C0 0 dX7_about_47 rfl rfl ?_
    refine zg_iconst (q := 49) C0 dX7_about_48 zc_iconst_m1 rfl ?_
    refine zg_icmp_eq (q := 52) (tgt := 56) C0 dX7_about_49 rfl rfl (fun c95 => ?_) (fun c95 => ?_)
    · have hw := hw.1 c95
      refine zg_iconst (q := 57) C0 dX7_about_56 zc_iconst_0 rfl ?_
      refine zg_sub [1, 2, 3, 0] rfl ?_
      exact aJ_X7_about_57 C0  hw
    · have hw := hw.2 c95
      refine zg_iconst (q := 53) C0 dX7_about_52 zc_iconst_1 rfl ?_
      refine zg_goto (tgt := 57) C0 dX7_about_53 rfl ?_
      refine zg_sub [1, 2, 3, 0] rfl ?_
      exact aJ_X7_about_57 C0  hw
  · have hw := hw.2 c96
    refine zg_iconst (q := 39) C0 dX7_about_38 zc_iconst_0 rfl ?_
    exact zg_iret C0 dX7_about_39 rfl rfl (Nat.le_refl 0) (Nat.le_refl 0) hw
def wJ_X7_about_23 (Z : zZ) (Qp : Int32 → zS → Prop)  (x0 : Nat) (x1 : Int32) (x2 : Int32) (t0 : Nat) (S : zS) : Prop :=
  wJ_X7_about_28 Z Qp  x0 x1 x2 2 t0 S
set_option maxHeartbeats 4000000 in
set_option maxRecDepth 100000 in
theorem aJ_X7_about_23 {p : Program} {l : Launch} {e : Env} {s : State} {m : MethodId} {args : Array Value} {below : List Frame} {meth : Method} {c : Code} {D : va_G} {cy : Nat → ClassId} {A : Nat → Prop} {Z : zZ} (C0 : zC p s m args meth c cX7_about 5 wsX7_about RX7 D cy A (some .int)) {Qp : Int32 → zS → Prop} {x0 : Nat} {x1 : Int32} {x2 : Int32} {t0 : Nat}    {S : zS} (hw : wJ_X7_about_23 Z Qp  x0 x1 x2 t0 S) : zG p l e rm_X7_about s m args below meth c D cy A 5 0 0 (zQi below D cy A Z Qp args s 0 0) Z S 23 [(0, .ref x0), (1, .int x1), (2, .int x2)] [.ref t0] := by
  unfold wJ_X7_about_23 at hw
  refine zg_iconst (q := 24) C0 dX7_about_23 zc_iconst_2 rfl ?_
  refine zg_goto (tgt := 28) C0 dX7_about_24 rfl ?_
  refine zg_sub [0, 1, 2] rfl ?_
  exact aJ_X7_about_28 C0  hw
def w_X7_about (Z : zZ) (h0 : Nat) (p0 : Int32) (p1 : Int32) (S : zS) (Qp : Int32 → zS → Prop) : Prop :=
  zk Z h0 7 ∧ w_X7_noNode Z h0 p0 S (fun (v3 : Int32) (S2 : zS) => ((v3 = 0 → ((p1 < 0 → wJ_X7_about_23 Z Qp  h0 p0 p1 h0 S2) ∧ (¬ p1 < 0 → ((p1 ≤ 13 → wJ_X7_about_28 Z Qp  h0 p0 p1 0 h0 S2) ∧ (¬ p1 ≤ 13 → wJ_X7_about_23 Z Qp  h0 p0 p1 h0 S2))))) ∧ (¬ v3 = 0 → wJ_X7_about_28 Z Qp  h0 p0 p1 1 h0 S2)))
set_option maxHeartbeats 4000000 in
set_option maxRecDepth 100000 in
theorem a_X7_about (l : Launch) (D : va_G) (cy : Nat → ClassId) (Z : zZ) (S : zS) (sz : Nat) (h0 : Nat) (p0 : Int32) (p1 : Int32) (Qp : Int32 → zS → Prop) (hw : w_X7_about Z h0 p0 p1 S Qp) : zMi l yX7_about wsX7_about rm_X7_about D cy Z S sz [.ref h0, .int p0, .int p1] Qp := by
  unfold w_X7_about at hw
  refine zMi_of (cc := cX7_about) (maxL := 5) (rt := (some .int)) (by decide +kernel) rfl (Nat.le_of_ble_eq_true rfl) ?_
  intro p e s m args below meth c A C0 _
  refine zg_lv (lv' := [(0, .ref h0), (1, .int p0), (2, .int p1)]) rfl ?_
  refine zg_aload_n (q := 1) C0 0 dX7_about_0 rfl rfl ?_
  refine zg_aload_n (q := 2) C0 0 dX7_about_1 rfl rfl ?_
  refine zg_iload_n (q := 3) C0 1 dX7_about_2 rfl rfl ?_
  obtain ⟨hz1, hw⟩ := hw
  refine zg_callVi (q := 6) C0 [.int p0] [.ref h0] dX7_about_3 (fun sz => a_X7_noNode l D cy Z S sz h0 p0 _ hw) rfl gX7_about_X7_noNode hdV_X7_noNode hz1 (zF_7 cy hz1) rfl rfl ⟨Nat.le_of_ble_eq_true rfl, Nat.le_of_ble_eq_true rfl⟩ (Nat.le_of_ble_eq_true rfl) ⟨Nat.zero_le _, Nat.zero_le _⟩ ⟨rfl, rfl⟩ rfl (fun v3 S2 hw => ?_)
  refine zg_if_eq (q := 9) (tgt := 13) C0 dX7_about_6 rfl rfl (fun c99 => ?_) (fun c99 => ?_)
  · have hw := hw.1 c99
    refine zg_iload_n (q := 14) C0 2 dX7_about_13 rfl rfl ?_
    refine zg_if_lt (q := 17) (tgt := 23) C0 dX7_about_14 rfl rfl (fun c98 => ?_) (fun c98 => ?_)
    · have hw := hw.1 c98
      refine zg_sub [0, 1, 2] rfl ?_
      exact aJ_X7_about_23 C0  hw
    · have hw := hw.2 c98
      refine zg_iload_n (q := 18) C0 2 dX7_about_17 rfl rfl ?_
      refine zg_bipush (q := 20) C0 dX7_about_18 zc_bipush_13 rfl ?_
      refine zg_icmp_le (q := 23) (tgt := 27) C0 dX7_about_20 rfl rfl (fun c97 => ?_) (fun c97 => ?_)
      · have hw := hw.1 c97
        refine zg_iconst (q := 28) C0 dX7_about_27 zc_iconst_0 rfl ?_
        refine zg_sub [0, 1, 2] rfl ?_
        exact aJ_X7_about_28 C0  hw
      · have hw := hw.2 c97
        refine zg_sub [0, 1, 2] rfl ?_
        exact aJ_X7_about_23 C0  hw
  · have hw := hw.2 c99
    refine zg_iconst (q := 10) C0 dX7_about_9 zc_iconst_1 rfl ?_
    refine zg_goto (tgt := 28) C0 dX7_about_10 rfl ?_
    refine zg_sub [0, 1, 2] rfl ?_
    exact aJ_X7_about_28 C0  hw
-- X7_table
abbrev rm_X7_table : Room := { frames := 1, cells := 0, slots := 0, locals := 21 }
theorem hX_X7_table_7 : ∀ w ∈ u_ws RX7 TX7 36, w ∈ wsX7_table := by decide +kernel
theorem hdV_X7_table : yX7_table.cls = RX7 ∧ yX7_table.cls ≠ "java/lang/invoke/MethodHandle" ∧ yX7_table.cls ≠ "java/lang/invoke/VarHandle" ∧ (parseMethodDescriptor yX7_table.desc).map (fun d => d.parameters.length) = some 2 := by decide +kernel
def wJ_X7_table_24 (Z : zZ) (Qp : Int64 → zS → Prop)  (x0 : Nat) (x1 : Int32) (x2 : Int32) (t0 : Int32) (t1 : Nat) (S : zS) : Prop :=
  zk Z t1 7 ∧ ∀ S5 : zS, S5 = zsI S t1 0 t0 → zk Z x0 7 ∧ (((zI S5 x0 0) ≤ 0 → ∃ b7, zQ Z x0 7 = some b7 ∧ zk Z b7 9 ∧ vp_in ((16 * x1) + x2) (zN Z b7) ∧ Qp (zJ S5 b7 ((16 * x1) + x2).toNatClampNeg) S5) ∧ (¬ (zI S5 x0 0) ≤ 0 → Qp 0 S5))
set_option maxHeartbeats 4000000 in
set_option maxRecDepth 100000 in
theorem aJ_X7_table_24 {p : Program} {l : Launch} {e : Env} {s : State} {m : MethodId} {args : Array Value} {below : List Frame} {meth : Method} {c : Code} {D : va_G} {cy : Nat → ClassId} {A : Nat → Prop} {Z : zZ} (C0 : zC p s m args meth c cX7_table 3 wsX7_table RX7 D cy A (some .long)) {Qp : Int64 → zS → Prop} {x0 : Nat} {x1 : Int32} {x2 : Int32} {t0 : Int32} {t1 : Nat}    {S : zS} (hw : wJ_X7_table_24 Z Qp  x0 x1 x2 t0 t1 S) : zG p l e rm_X7_table s m args below meth c D cy A 3 0 0 (zQl below D cy A Z Qp args s 0 0) Z S 24 [(0, .ref x0), (1, .int x1), (2, .int x2)] [.int t0, .ref t1] := by
  unfold wJ_X7_table_24 at hw
  obtain ⟨hz4, hw⟩ := hw
  refine zg_putI (q := 27) (T := TX7) (k := 0) (ty0 := tyX7) C0 dX7_table_24 hz4 (zF_7 cy hz4) rfl (by decide) hX_X7_table_7 tyX7_ok nmX7 (zwm (i := 1) rfl) rfl rfl rfl rfl (Nat.le_of_ble_eq_true rfl) (zF_7 cy hz4) (zP_7_0 Z S _ _) rfl (fun S5 eS5 => ?_)
  have hw := hw S5 eS5
  refine zg_aload_n (q := 28) C0 0 dX7_table_27 rfl rfl ?_
  obtain ⟨hz6, hw⟩ := hw
  refine zg_get (q := 31) (T := TX7) (k := 0) C0 dX7_table_28 hz6 (zF_7 cy hz6) rfl (by decide) hX_X7_table_7 (zwm (i := 1) rfl) rfl rfl rfl ?_
  refine zg_if_le (q := 34) (tgt := 38) C0 dX7_table_31 rfl rfl (fun c11 => ?_) (fun c11 => ?_)
  · have hw := hw.1 c11
    refine zg_aload_n (q := 39) C0 0 dX7_table_38 rfl rfl ?_
    refine zg_get (q := 42) (T := TX7) (k := 7) C0 dX7_table_39 hz6 (zF_7 cy hz6) rfl (by decide) hX_X7_table_7 (zwm (i := 2) rfl) rfl rfl rfl ?_
    obtain ⟨b7, hb8, hw⟩ := hw
    refine zg_nn hb8 ?_
    refine zg_bipush (q := 44) C0 dX7_table_42 zc_bipush_16 rfl ?_
    refine zg_iload_n (q := 45) C0 1 dX7_table_44 rfl rfl ?_
    refine zg_imul (q := 46) C0 dX7_table_45 rfl ?_
    refine zg_iload_n (q := 47) C0 2 dX7_table_46 rfl rfl ?_
    refine zg_iadd (q := 48) C0 dX7_table_47 rfl ?_
    obtain ⟨hz9, hw⟩ := hw
    obtain ⟨hi10, hw⟩ := hw
    refine zg_lald (q := 49) C0 dX7_table_48 hz9 hi10 rfl ?_
    exact zg_lret C0 dX7_table_49 rfl (Nat.le_refl 0) (Nat.le_refl 0) hw
  · have hw := hw.2 c11
    refine zg_lconst (q := 35) (v := 0) C0 dX7_table_34 (by decide) rfl ?_
    refine zg_goto (tgt := 49) C0 dX7_table_35 rfl ?_
    exact zg_lret C0 dX7_table_49 rfl (Nat.le_refl 0) (Nat.le_refl 0) hw
def wJ_X7_table_19 (Z : zZ) (Qp : Int64 → zS → Prop)  (x0 : Nat) (x1 : Int32) (x2 : Int32) (t0 : Nat) (S : zS) : Prop :=
  wJ_X7_table_24 Z Qp  x0 x1 x2 1 t0 S
set_option maxHeartbeats 4000000 in
set_option maxRecDepth 100000 in
theorem aJ_X7_table_19 {p : Program} {l : Launch} {e : Env} {s : State} {m : MethodId} {args : Array Value} {below : List Frame} {meth : Method} {c : Code} {D : va_G} {cy : Nat → ClassId} {A : Nat → Prop} {Z : zZ} (C0 : zC p s m args meth c cX7_table 3 wsX7_table RX7 D cy A (some .long)) {Qp : Int64 → zS → Prop} {x0 : Nat} {x1 : Int32} {x2 : Int32} {t0 : Nat}    {S : zS} (hw : wJ_X7_table_19 Z Qp  x0 x1 x2 t0 S) : zG p l e rm_X7_table s m args below meth c D cy A 3 0 0 (zQl below D cy A Z Qp args s 0 0) Z S 19 [(0, .ref x0), (1, .int x1), (2, .int x2)] [.ref t0] := by
  unfold wJ_X7_table_19 at hw
  refine zg_iconst (q := 20) C0 dX7_table_19 zc_iconst_1 rfl ?_
  refine zg_goto (tgt := 24) C0 dX7_table_20 rfl ?_
  refine zg_sub [0, 1, 2] rfl ?_
  exact aJ_X7_table_24 C0  hw
def w_X7_table (Z : zZ) (h0 : Nat) (p0 : Int32) (p1 : Int32) (S : zS) (Qp : Int64 → zS → Prop) : Prop :=
  zk Z h0 7 ∧ w_X7_noNode Z h0 p0 S (fun (v3 : Int32) (S2 : zS) => ((¬ v3 = 0 → wJ_X7_table_19 Z Qp  h0 p0 p1 h0 S2) ∧ (v3 = 0 → ((p1 < 0 → wJ_X7_table_19 Z Qp  h0 p0 p1 h0 S2) ∧ (¬ p1 < 0 → ((p1 < 16 → wJ_X7_table_24 Z Qp  h0 p0 p1 0 h0 S2) ∧ (¬ p1 < 16 → wJ_X7_table_19 Z Qp  h0 p0 p1 h0 S2)))))))
set_option maxHeartbeats 4000000 in
set_option maxRecDepth 100000 in
theorem a_X7_table (l : Launch) (D : va_G) (cy : Nat → ClassId) (Z : zZ) (S : zS) (sz : Nat) (h0 : Nat) (p0 : Int32) (p1 : Int32) (Qp : Int64 → zS → Prop) (hw : w_X7_table Z h0 p0 p1 S Qp) : zMl l yX7_table wsX7_table rm_X7_table D cy Z S sz [.ref h0, .int p0, .int p1] Qp := by
  unfold w_X7_table at hw
  refine zMl_of (cc := cX7_table) (maxL := 3) (rt := (some .long)) (by decide +kernel) rfl (Nat.le_of_ble_eq_true rfl) ?_
  intro p e s m args below meth c A C0 _
  refine zg_lv (lv' := [(0, .ref h0), (1, .int p0), (2, .int p1)]) rfl ?_
  refine zg_aload_n (q := 1) C0 0 dX7_table_0 rfl rfl ?_
  refine zg_aload_n (q := 2) C0 0 dX7_table_1 rfl rfl ?_
  refine zg_iload_n (q := 3) C0 1 dX7_table_2 rfl rfl ?_
  obtain ⟨hz1, hw⟩ := hw
  refine zg_callVi (q := 6) C0 [.int p0] [.ref h0] dX7_table_3 (fun sz => a_X7_noNode l D cy Z S sz h0 p0 _ hw) rfl gX7_table_X7_noNode hdV_X7_noNode hz1 (zF_7 cy hz1) rfl rfl ⟨Nat.le_of_ble_eq_true rfl, Nat.le_of_ble_eq_true rfl⟩ (Nat.le_of_ble_eq_true rfl) ⟨Nat.zero_le _, Nat.zero_le _⟩ ⟨rfl, rfl⟩ rfl (fun v3 S2 hw => ?_)
  refine zg_if_ne (q := 9) (tgt := 19) C0 dX7_table_6 rfl rfl (fun c14 => ?_) (fun c14 => ?_)
  · have hw := hw.1 c14
    refine zg_sub [0, 1, 2] rfl ?_
    exact aJ_X7_table_19 C0  hw
  · have hw := hw.2 c14
    refine zg_iload_n (q := 10) C0 2 dX7_table_9 rfl rfl ?_
    refine zg_if_lt (q := 13) (tgt := 19) C0 dX7_table_10 rfl rfl (fun c13 => ?_) (fun c13 => ?_)
    · have hw := hw.1 c13
      refine zg_sub [0, 1, 2] rfl ?_
      exact aJ_X7_table_19 C0  hw
    · have hw := hw.2 c13
      refine zg_iload_n (q := 14) C0 2 dX7_table_13 rfl rfl ?_
      refine zg_bipush (q := 16) C0 dX7_table_14 zc_bipush_16 rfl ?_
      refine zg_icmp_lt (q := 19) (tgt := 23) C0 dX7_table_16 rfl rfl (fun c12 => ?_) (fun c12 => ?_)
      · have hw := hw.1 c12
        refine zg_iconst (q := 24) C0 dX7_table_23 zc_iconst_0 rfl ?_
        refine zg_sub [0, 1, 2] rfl ?_
        exact aJ_X7_table_24 C0  hw
      · have hw := hw.2 c12
        refine zg_sub [0, 1, 2] rfl ?_
        exact aJ_X7_table_19 C0  hw
-- X7_mark
abbrev rm_X7_mark : Room := { frames := 1, cells := 0, slots := 0, locals := 21 }
theorem hX_X7_mark_7 : ∀ w ∈ u_ws RX7 TX7 36, w ∈ wsX7_mark := by decide +kernel
theorem hdV_X7_mark : yX7_mark.cls = RX7 ∧ yX7_mark.cls ≠ "java/lang/invoke/MethodHandle" ∧ yX7_mark.cls ≠ "java/lang/invoke/VarHandle" ∧ (parseMethodDescriptor yX7_mark.desc).map (fun d => d.parameters.length) = some 1 := by decide +kernel
def w_X7_mark (Z : zZ) (h0 : Nat) (p0 : Int32) (S : zS) (Qp : Int64 → zS → Prop) : Prop :=
  zk Z h0 7 ∧ w_X7_noNode Z h0 p0 S (fun (v3 : Int32) (S2 : zS) => ((v3 = 0 → ∀ S4 : zS, S4 = zsI S2 h0 0 0 → (((zI S4 h0 0) ≤ 0 → ∃ b5, zQ Z h0 9 = some b5 ∧ zk Z b5 9 ∧ vp_in p0 (zN Z b5) ∧ Qp (zJ S4 b5 p0.toNatClampNeg) S4) ∧ (¬ (zI S4 h0 0) ≤ 0 → Qp 0 S4))) ∧ (¬ v3 = 0 → ∀ S10 : zS, S10 = zsI S2 h0 0 1 → (((zI S10 h0 0) ≤ 0 → ∃ b11, zQ Z h0 9 = some b11 ∧ zk Z b11 9 ∧ vp_in p0 (zN Z b11) ∧ Qp (zJ S10 b11 p0.toNatClampNeg) S10) ∧ (¬ (zI S10 h0 0) ≤ 0 → Qp 0 S10)))))
set_option maxHeartbeats 4000000 in
set_option maxRecDepth 100000 in
theorem a_X7_mark (l : Launch) (D : va_G) (cy : Nat → ClassId) (Z : zZ) (S : zS) (sz : Nat) (h0 : Nat) (p0 : Int32) (Qp : Int64 → zS → Prop) (hw : w_X7_mark Z h0 p0 S Qp) : zMl l yX7_mark wsX7_mark rm_X7_mark D cy Z S sz [.ref h0, .int p0] Qp := by
  unfold w_X7_mark at hw
  refine zMl_of (cc := cX7_mark) (maxL := 2) (rt := (some .long)) (by decide +kernel) rfl (Nat.le_of_ble_eq_true rfl) ?_
  intro p e s m args below meth c A C0 _
  refine zg_lv (lv' := [(0, .ref h0), (1, .int p0)]) rfl ?_
  refine zg_aload_n (q := 1) C0 0 dX7_mark_0 rfl rfl ?_
  refine zg_aload_n (q := 2) C0 0 dX7_mark_1 rfl rfl ?_
  refine zg_iload_n (q := 3) C0 1 dX7_mark_2 rfl rfl ?_
  obtain ⟨hz1, hw⟩ := hw
  refine zg_callVi (q := 6) C0 [.int p0] [.ref h0] dX7_mark_3 (fun sz => a_X7_noNode l D cy Z S sz h0 p0 _ hw) rfl gX7_mark_X7_noNode hdV_X7_noNode hz1 (zF_7 cy hz1) rfl rfl ⟨Nat.le_of_ble_eq_true rfl, Nat.le_of_ble_eq_true rfl⟩ (Nat.le_of_ble_eq_true rfl) ⟨Nat.zero_le _, Nat.zero_le _⟩ ⟨rfl, rfl⟩ rfl (fun v3 S2 hw => ?_)
  refine zg_if_eq (q := 9) (tgt := 13) C0 dX7_mark_6 rfl rfl (fun c16 => ?_) (fun c16 => ?_)
  · have hw := hw.1 c16
    refine zg_iconst (q := 14) C0 dX7_mark_13 zc_iconst_0 rfl ?_
    refine zg_putI (q := 17) (T := TX7) (k := 0) (ty0 := tyX7) C0 dX7_mark_14 hz1 (zF_7 cy hz1) rfl (by decide) hX_X7_mark_7 tyX7_ok nmX7 (zwm (i := 1) rfl) rfl rfl rfl rfl (Nat.le_of_ble_eq_true rfl) (zF_7 cy hz1) (zP_7_0 Z S2 _ _) rfl (fun S4 eS4 => ?_)
    have hw := hw S4 eS4
    refine zg_aload_n (q := 18) C0 0 dX7_mark_17 rfl rfl ?_
    refine zg_get (q := 21) (T := TX7) (k := 0) C0 dX7_mark_18 hz1 (zF_7 cy hz1) rfl (by decide) hX_X7_mark_7 (zwm (i := 1) rfl) rfl rfl rfl ?_
    refine zg_if_le (q := 24) (tgt := 28) C0 dX7_mark_21 rfl rfl (fun c9 => ?_) (fun c9 => ?_)
    · have hw := hw.1 c9
      refine zg_aload_n (q := 29) C0 0 dX7_mark_28 rfl rfl ?_
      refine zg_get (q := 32) (T := TX7) (k := 9) C0 dX7_mark_29 hz1 (zF_7 cy hz1) rfl (by decide) hX_X7_mark_7 (zwm (i := 2) rfl) rfl rfl rfl ?_
      obtain ⟨b5, hb6, hw⟩ := hw
      refine zg_nn hb6 ?_
      refine zg_iload_n (q := 33) C0 1 dX7_mark_32 rfl rfl ?_
      obtain ⟨hz7, hw⟩ := hw
      obtain ⟨hi8, hw⟩ := hw
      refine zg_lald (q := 34) C0 dX7_mark_33 hz7 hi8 rfl ?_
      exact zg_lret C0 dX7_mark_34 rfl (Nat.le_refl 0) (Nat.le_refl 0) hw
    · have hw := hw.2 c9
      refine zg_lconst (q := 25) (v := 0) C0 dX7_mark_24 (by decide) rfl ?_
      refine zg_goto (tgt := 34) C0 dX7_mark_25 rfl ?_
      exact zg_lret C0 dX7_mark_34 rfl (Nat.le_refl 0) (Nat.le_refl 0) hw
  · have hw := hw.2 c16
    refine zg_iconst (q := 10) C0 dX7_mark_9 zc_iconst_1 rfl ?_
    refine zg_goto (tgt := 14) C0 dX7_mark_10 rfl ?_
    refine zg_putI (q := 17) (T := TX7) (k := 0) (ty0 := tyX7) C0 dX7_mark_14 hz1 (zF_7 cy hz1) rfl (by decide) hX_X7_mark_7 tyX7_ok nmX7 (zwm (i := 1) rfl) rfl rfl rfl rfl (Nat.le_of_ble_eq_true rfl) (zF_7 cy hz1) (zP_7_0 Z S2 _ _) rfl (fun S10 eS10 => ?_)
    have hw := hw S10 eS10
    refine zg_aload_n (q := 18) C0 0 dX7_mark_17 rfl rfl ?_
    refine zg_get (q := 21) (T := TX7) (k := 0) C0 dX7_mark_18 hz1 (zF_7 cy hz1) rfl (by decide) hX_X7_mark_7 (zwm (i := 1) rfl) rfl rfl rfl ?_
    refine zg_if_le (q := 24) (tgt := 28) C0 dX7_mark_21 rfl rfl (fun c15 => ?_) (fun c15 => ?_)
    · have hw := hw.1 c15
      refine zg_aload_n (q := 29) C0 0 dX7_mark_28 rfl rfl ?_
      refine zg_get (q := 32) (T := TX7) (k := 9) C0 dX7_mark_29 hz1 (zF_7 cy hz1) rfl (by decide) hX_X7_mark_7 (zwm (i := 2) rfl) rfl rfl rfl ?_
      obtain ⟨b11, hb12, hw⟩ := hw
      refine zg_nn hb12 ?_
      refine zg_iload_n (q := 33) C0 1 dX7_mark_32 rfl rfl ?_
      obtain ⟨hz13, hw⟩ := hw
      obtain ⟨hi14, hw⟩ := hw
      refine zg_lald (q := 34) C0 dX7_mark_33 hz13 hi14 rfl ?_
      exact zg_lret C0 dX7_mark_34 rfl (Nat.le_refl 0) (Nat.le_refl 0) hw
    · have hw := hw.2 c15
      refine zg_lconst (q := 25) (v := 0) C0 dX7_mark_24 (by decide) rfl ?_
      refine zg_goto (tgt := 34) C0 dX7_mark_25 rfl ?_
      exact zg_lret C0 dX7_mark_34 rfl (Nat.le_refl 0) (Nat.le_refl 0) hw
-- X7_entry
abbrev rm_X7_entry : Room := { frames := 1, cells := 0, slots := 0, locals := 21 }
theorem hX_X7_entry_7 : ∀ w ∈ u_ws RX7 TX7 36, w ∈ wsX7_entry := by decide +kernel
theorem hdV_X7_entry : yX7_entry.cls = RX7 ∧ yX7_entry.cls ≠ "java/lang/invoke/MethodHandle" ∧ yX7_entry.cls ≠ "java/lang/invoke/VarHandle" ∧ (parseMethodDescriptor yX7_entry.desc).map (fun d => d.parameters.length) = some 3 := by decide +kernel
def wJ_X7_entry_78 (Z : zZ) (Qp : Int64 → zS → Prop)  (x0 : Nat) (x1 : Int32) (x2 : Int32) (x3 : Int32) (x4 : Int32) (t0 : Int32) (t1 : Nat) (S : zS) : Prop :=
  zk Z t1 7 ∧ ∀ S8 : zS, S8 = zsI S t1 0 t0 → zk Z x0 7 ∧ (((zI S8 x0 0) ≤ 0 → ∃ b10, zQ Z x0 23 = some b10 ∧ zk Z b10 9 ∧ vp_in ((6 * ((100 * x1) + ((x4 + x2) - (x4 + x2) / 100 * 100))) + x3) (zN Z b10) ∧ Qp (zJ S8 b10 ((6 * ((100 * x1) + ((x4 + x2) - (x4 + x2) / 100 * 100))) + x3).toNatClampNeg) S8) ∧ (¬ (zI S8 x0 0) ≤ 0 → Qp 0 S8))
set_option maxHeartbeats 4000000 in
set_option maxRecDepth 100000 in
theorem aJ_X7_entry_78 {p : Program} {l : Launch} {e : Env} {s : State} {m : MethodId} {args : Array Value} {below : List Frame} {meth : Method} {c : Code} {D : va_G} {cy : Nat → ClassId} {A : Nat → Prop} {Z : zZ} (C0 : zC p s m args meth c cX7_entry 5 wsX7_entry RX7 D cy A (some .long)) {Qp : Int64 → zS → Prop} {x0 : Nat} {x1 : Int32} {x2 : Int32} {x3 : Int32} {x4 : Int32} {t0 : Int32} {t1 : Nat}    {S : zS} (hw : wJ_X7_entry_78 Z Qp  x0 x1 x2 x3 x4 t0 t1 S) : zG p l e rm_X7_entry s m args below meth c D cy A 5 0 0 (zQl below D cy A Z Qp args s 0 0) Z S 78 [(0, .ref x0), (1, .int x1), (2, .int x2), (3, .int x3), (4, .int x4)] [.int t0, .ref t1] := by
  unfold wJ_X7_entry_78 at hw
  obtain ⟨hz7, hw⟩ := hw
  refine zg_putI (q := 81) (T := TX7) (k := 0) (ty0 := tyX7) C0 dX7_entry_78 hz7 (zF_7 cy hz7) rfl (by decide) hX_X7_entry_7 tyX7_ok nmX7 (zwm (i := 2) rfl) rfl rfl rfl rfl (Nat.le_of_ble_eq_true rfl) (zF_7 cy hz7) (zP_7_0 Z S _ _) rfl (fun S8 eS8 => ?_)
  have hw := hw S8 eS8
  refine zg_aload_n (q := 82) C0 0 dX7_entry_81 rfl rfl ?_
  obtain ⟨hz9, hw⟩ := hw
  refine zg_get (q := 85) (T := TX7) (k := 0) C0 dX7_entry_82 hz9 (zF_7 cy hz9) rfl (by decide) hX_X7_entry_7 (zwm (i := 2) rfl) rfl rfl rfl ?_
  refine zg_if_le (q := 88) (tgt := 92) C0 dX7_entry_85 rfl rfl (fun c14 => ?_) (fun c14 => ?_)
  · have hw := hw.1 c14
    refine zg_aload_n (q := 93) C0 0 dX7_entry_92 rfl rfl ?_
    refine zg_get (q := 96) (T := TX7) (k := 23) C0 dX7_entry_93 hz9 (zF_7 cy hz9) rfl (by decide) hX_X7_entry_7 (zwm (i := 3) rfl) rfl rfl rfl ?_
    obtain ⟨b10, hb11, hw⟩ := hw
    refine zg_nn hb11 ?_
    refine zg_bipush (q := 98) C0 dX7_entry_96 zc_bipush_6 rfl ?_
    refine zg_bipush (q := 100) C0 dX7_entry_98 zc_bipush_100 rfl ?_
    refine zg_iload_n (q := 101) C0 1 dX7_entry_100 rfl rfl ?_
    refine zg_imul (q := 102) C0 dX7_entry_101 rfl ?_
    refine zg_iload (q := 104) C0 4 dX7_entry_102 rfl rfl ?_
    refine zg_iload_n (q := 105) C0 2 dX7_entry_104 rfl rfl ?_
    refine zg_iadd (q := 106) C0 dX7_entry_105 rfl ?_
    refine zg_bipush (q := 108) C0 dX7_entry_106 zc_bipush_100 rfl ?_
    refine zg_irem (q := 109) C0 dX7_entry_108 (by decide) rfl ?_
    refine zg_iadd (q := 110) C0 dX7_entry_109 rfl ?_
    refine zg_imul (q := 111) C0 dX7_entry_110 rfl ?_
    refine zg_iload_n (q := 112) C0 3 dX7_entry_111 rfl rfl ?_
    refine zg_iadd (q := 113) C0 dX7_entry_112 rfl ?_
    obtain ⟨hz12, hw⟩ := hw
    obtain ⟨hi13, hw⟩ := hw
    refine zg_lald (q := 114) C0 dX7_entry_113 hz12 hi13 rfl ?_
    exact zg_lret C0 dX7_entry_114 rfl (Nat.le_refl 0) (Nat.le_refl 0) hw
  · have hw := hw.2 c14
    refine zg_lconst (q := 89) (v := 0) C0 dX7_entry_88 (by decide) rfl ?_
    refine zg_goto (tgt := 114) C0 dX7_entry_89 rfl ?_
    exact zg_lret C0 dX7_entry_114 rfl (Nat.le_refl 0) (Nat.le_refl 0) hw
def wJ_X7_entry_60 (Z : zZ) (Qp : Int64 → zS → Prop)  (x0 : Nat) (x1 : Int32) (x2 : Int32) (x3 : Int32) (x4 : Int32) (t0 : Nat) (S : zS) : Prop :=
  wJ_X7_entry_78 Z Qp  x0 x1 x2 x3 x4 1 t0 S
set_option maxHeartbeats 4000000 in
set_option maxRecDepth 100000 in
theorem aJ_X7_entry_60 {p : Program} {l : Launch} {e : Env} {s : State} {m : MethodId} {args : Array Value} {below : List Frame} {meth : Method} {c : Code} {D : va_G} {cy : Nat → ClassId} {A : Nat → Prop} {Z : zZ} (C0 : zC p s m args meth c cX7_entry 5 wsX7_entry RX7 D cy A (some .long)) {Qp : Int64 → zS → Prop} {x0 : Nat} {x1 : Int32} {x2 : Int32} {x3 : Int32} {x4 : Int32} {t0 : Nat}    {S : zS} (hw : wJ_X7_entry_60 Z Qp  x0 x1 x2 x3 x4 t0 S) : zG p l e rm_X7_entry s m args below meth c D cy A 5 0 0 (zQl below D cy A Z Qp args s 0 0) Z S 60 [(0, .ref x0), (1, .int x1), (2, .int x2), (3, .int x3), (4, .int x4)] [.ref t0] := by
  unfold wJ_X7_entry_60 at hw
  refine zg_iconst (q := 61) C0 dX7_entry_60 zc_iconst_1 rfl ?_
  refine zg_goto (tgt := 78) C0 dX7_entry_61 rfl ?_
  refine zg_sub [0, 1, 2, 3, 4] rfl ?_
  exact aJ_X7_entry_78 C0  hw
def wJ_X7_entry_73 (Z : zZ) (Qp : Int64 → zS → Prop)  (x0 : Nat) (x1 : Int32) (x2 : Int32) (x3 : Int32) (x4 : Int32) (t0 : Nat) (S : zS) : Prop :=
  wJ_X7_entry_78 Z Qp  x0 x1 x2 x3 x4 2 t0 S
set_option maxHeartbeats 4000000 in
set_option maxRecDepth 100000 in
theorem aJ_X7_entry_73 {p : Program} {l : Launch} {e : Env} {s : State} {m : MethodId} {args : Array Value} {below : List Frame} {meth : Method} {c : Code} {D : va_G} {cy : Nat → ClassId} {A : Nat → Prop} {Z : zZ} (C0 : zC p s m args meth c cX7_entry 5 wsX7_entry RX7 D cy A (some .long)) {Qp : Int64 → zS → Prop} {x0 : Nat} {x1 : Int32} {x2 : Int32} {x3 : Int32} {x4 : Int32} {t0 : Nat}    {S : zS} (hw : wJ_X7_entry_73 Z Qp  x0 x1 x2 x3 x4 t0 S) : zG p l e rm_X7_entry s m args below meth c D cy A 5 0 0 (zQl below D cy A Z Qp args s 0 0) Z S 73 [(0, .ref x0), (1, .int x1), (2, .int x2), (3, .int x3), (4, .int x4)] [.ref t0] := by
  unfold wJ_X7_entry_73 at hw
  refine zg_iconst (q := 74) C0 dX7_entry_73 zc_iconst_2 rfl ?_
  refine zg_goto (tgt := 78) C0 dX7_entry_74 rfl ?_
  refine zg_sub [0, 1, 2, 3, 4] rfl ?_
  exact aJ_X7_entry_78 C0  hw
def wJ_X7_entry_32 (Z : zZ) (Qp : Int64 → zS → Prop)  (x0 : Nat) (x1 : Int32) (x2 : Int32) (x3 : Int32) (t0 : Int32) (S : zS) : Prop :=
  zk Z x0 7 ∧ w_X7_noNode Z x0 x1 S (fun (v6 : Int32) (S5 : zS) => ((¬ v6 = 0 → wJ_X7_entry_60 Z Qp  x0 x1 x2 x3 t0 x0 S5) ∧ (v6 = 0 → ((x2 < 0 → wJ_X7_entry_60 Z Qp  x0 x1 x2 x3 t0 x0 S5) ∧ (¬ x2 < 0 → ∃ b15, zQ Z x0 18 = some b15 ∧ zk Z b15 8 ∧ vp_in x1 (zN Z b15) ∧ ((x2 < ((zI S5 b15 x1.toNatClampNeg) - t0) → ((x3 < 0 → wJ_X7_entry_73 Z Qp  x0 x1 x2 x3 t0 x0 S5) ∧ (¬ x3 < 0 → ((x3 ≤ 5 → wJ_X7_entry_78 Z Qp  x0 x1 x2 x3 t0 0 x0 S5) ∧ (¬ x3 ≤ 5 → wJ_X7_entry_73 Z Qp  x0 x1 x2 x3 t0 x0 S5))))) ∧ (¬ x2 < ((zI S5 b15 x1.toNatClampNeg) - t0) → wJ_X7_entry_60 Z Qp  x0 x1 x2 x3 t0 x0 S5)))))))
set_option maxHeartbeats 4000000 in
set_option maxRecDepth 100000 in
theorem aJ_X7_entry_32 {p : Program} {l : Launch} {e : Env} {s : State} {m : MethodId} {args : Array Value} {below : List Frame} {meth : Method} {c : Code} {D : va_G} {cy : Nat → ClassId} {A : Nat → Prop} {Z : zZ} (C0 : zC p s m args meth c cX7_entry 5 wsX7_entry RX7 D cy A (some .long)) {Qp : Int64 → zS → Prop} {x0 : Nat} {x1 : Int32} {x2 : Int32} {x3 : Int32} {t0 : Int32}    {S : zS} (hw : wJ_X7_entry_32 Z Qp  x0 x1 x2 x3 t0 S) : zG p l e rm_X7_entry s m args below meth c D cy A 5 0 0 (zQl below D cy A Z Qp args s 0 0) Z S 32 [(0, .ref x0), (1, .int x1), (2, .int x2), (3, .int x3)] [.int t0] := by
  unfold wJ_X7_entry_32 at hw
  refine zg_istore (q := 34) (lv' := [(4, .int t0), (0, .ref x0), (1, .int x1), (2, .int x2), (3, .int x3)]) C0 dX7_entry_32 (by decide) rfl rfl ?_
  refine zg_aload_n (q := 35) C0 1 dX7_entry_34 rfl rfl ?_
  refine zg_aload_n (q := 36) C0 1 dX7_entry_35 rfl rfl ?_
  refine zg_iload_n (q := 37) C0 2 dX7_entry_36 rfl rfl ?_
  obtain ⟨hz4, hw⟩ := hw
  refine zg_callVi (q := 40) C0 [.int x1] [.ref x0] dX7_entry_37 (fun sz => a_X7_noNode l D cy Z S sz x0 x1 _ hw) rfl gX7_entry_X7_noNode hdV_X7_noNode hz4 (zF_7 cy hz4) rfl rfl ⟨Nat.le_of_ble_eq_true rfl, Nat.le_of_ble_eq_true rfl⟩ (Nat.le_of_ble_eq_true rfl) ⟨Nat.zero_le _, Nat.zero_le _⟩ ⟨rfl, rfl⟩ rfl (fun v6 S5 hw => ?_)
  refine zg_if_ne (q := 43) (tgt := 60) C0 dX7_entry_40 rfl rfl (fun c23 => ?_) (fun c23 => ?_)
  · have hw := hw.1 c23
    refine zg_sub [1, 2, 3, 4, 0] rfl ?_
    exact aJ_X7_entry_60 C0  hw
  · have hw := hw.2 c23
    refine zg_iload_n (q := 44) C0 3 dX7_entry_43 rfl rfl ?_
    refine zg_if_lt (q := 47) (tgt := 60) C0 dX7_entry_44 rfl rfl (fun c22 => ?_) (fun c22 => ?_)
    · have hw := hw.1 c22
      refine zg_sub [1, 2, 3, 4, 0] rfl ?_
      exact aJ_X7_entry_60 C0  hw
    · have hw := hw.2 c22
      refine zg_iload_n (q := 48) C0 3 dX7_entry_47 rfl rfl ?_
      refine zg_aload_n (q := 49) C0 1 dX7_entry_48 rfl rfl ?_
      refine zg_get (q := 52) (T := TX7) (k := 18) C0 dX7_entry_49 hz4 (zF_7 cy hz4) rfl (by decide) hX_X7_entry_7 (zwm (i := 1) rfl) rfl rfl rfl ?_
      obtain ⟨b15, hb16, hw⟩ := hw
      refine zg_nn hb16 ?_
      refine zg_iload_n (q := 53) C0 2 dX7_entry_52 rfl rfl ?_
      obtain ⟨hz17, hw⟩ := hw
      obtain ⟨hi18, hw⟩ := hw
      refine zg_iald (q := 54) C0 dX7_entry_53 hz17 hi18 rfl ?_
      refine zg_iload (q := 56) C0 0 dX7_entry_54 rfl rfl ?_
      refine zg_isub (q := 57) C0 dX7_entry_56 rfl ?_
      refine zg_icmp_lt (q := 60) (tgt := 64) C0 dX7_entry_57 rfl rfl (fun c21 => ?_) (fun c21 => ?_)
      · have hw := hw.1 c21
        refine zg_iload_n (q := 65) C0 4 dX7_entry_64 rfl rfl ?_
        refine zg_if_lt (q := 68) (tgt := 73) C0 dX7_entry_65 rfl rfl (fun c20 => ?_) (fun c20 => ?_)
        · have hw := hw.1 c20
          refine zg_sub [1, 2, 3, 4, 0] rfl ?_
          exact aJ_X7_entry_73 C0  hw
        · have hw := hw.2 c20
          refine zg_iload_n (q := 69) C0 4 dX7_entry_68 rfl rfl ?_
          refine zg_iconst (q := 70) C0 dX7_entry_69 zc_iconst_5 rfl ?_
          refine zg_icmp_le (q := 73) (tgt := 77) C0 dX7_entry_70 rfl rfl (fun c19 => ?_) (fun c19 => ?_)
          · have hw := hw.1 c19
            refine zg_iconst (q := 78) C0 dX7_entry_77 zc_iconst_0 rfl ?_
            refine zg_sub [1, 2, 3, 4, 0] rfl ?_
            exact aJ_X7_entry_78 C0  hw
          · have hw := hw.2 c19
            refine zg_sub [1, 2, 3, 4, 0] rfl ?_
            exact aJ_X7_entry_73 C0  hw
      · have hw := hw.2 c21
        refine zg_sub [1, 2, 3, 4, 0] rfl ?_
        exact aJ_X7_entry_60 C0  hw
def wJ_X7_entry_19 (Z : zZ) (Qp : Int64 → zS → Prop)  (x0 : Nat) (x1 : Int32) (x2 : Int32) (x3 : Int32) (S : zS) : Prop :=
  wJ_X7_entry_32 Z Qp  x0 x1 x2 x3 0 S
set_option maxHeartbeats 4000000 in
set_option maxRecDepth 100000 in
theorem aJ_X7_entry_19 {p : Program} {l : Launch} {e : Env} {s : State} {m : MethodId} {args : Array Value} {below : List Frame} {meth : Method} {c : Code} {D : va_G} {cy : Nat → ClassId} {A : Nat → Prop} {Z : zZ} (C0 : zC p s m args meth c cX7_entry 5 wsX7_entry RX7 D cy A (some .long)) {Qp : Int64 → zS → Prop} {x0 : Nat} {x1 : Int32} {x2 : Int32} {x3 : Int32}    {S : zS} (hw : wJ_X7_entry_19 Z Qp  x0 x1 x2 x3 S) : zG p l e rm_X7_entry s m args below meth c D cy A 5 0 0 (zQl below D cy A Z Qp args s 0 0) Z S 19 [(0, .ref x0), (1, .int x1), (2, .int x2), (3, .int x3)] [] := by
  unfold wJ_X7_entry_19 at hw
  refine zg_iconst (q := 20) C0 dX7_entry_19 zc_iconst_0 rfl ?_
  refine zg_goto (tgt := 32) C0 dX7_entry_20 rfl ?_
  refine zg_sub [0, 1, 2, 3] rfl ?_
  exact aJ_X7_entry_32 C0  hw
def w_X7_entry (Z : zZ) (h0 : Nat) (p0 : Int32) (p1 : Int32) (p2 : Int32) (S : zS) (Qp : Int64 → zS → Prop) : Prop :=
  zk Z h0 7 ∧ w_X7_noNode Z h0 p0 S (fun (v3 : Int32) (S2 : zS) => ((¬ v3 = 0 → wJ_X7_entry_19 Z Qp  h0 p0 p1 p2 S2) ∧ (v3 = 0 → ∃ b24, zQ Z h0 18 = some b24 ∧ zk Z b24 8 ∧ vp_in p0 (zN Z b24) ∧ ((100 ≤ (zI S2 b24 p0.toNatClampNeg) → wJ_X7_entry_32 Z Qp  h0 p0 p1 p2 ((zI S2 b24 p0.toNatClampNeg) - 100) S2) ∧ (¬ 100 ≤ (zI S2 b24 p0.toNatClampNeg) → wJ_X7_entry_19 Z Qp  h0 p0 p1 p2 S2)))))
set_option maxHeartbeats 4000000 in
set_option maxRecDepth 100000 in
theorem a_X7_entry (l : Launch) (D : va_G) (cy : Nat → ClassId) (Z : zZ) (S : zS) (sz : Nat) (h0 : Nat) (p0 : Int32) (p1 : Int32) (p2 : Int32) (Qp : Int64 → zS → Prop) (hw : w_X7_entry Z h0 p0 p1 p2 S Qp) : zMl l yX7_entry wsX7_entry rm_X7_entry D cy Z S sz [.ref h0, .int p0, .int p1, .int p2] Qp := by
  unfold w_X7_entry at hw
  refine zMl_of (cc := cX7_entry) (maxL := 5) (rt := (some .long)) (by decide +kernel) rfl (Nat.le_of_ble_eq_true rfl) ?_
  intro p e s m args below meth c A C0 _
  refine zg_lv (lv' := [(0, .ref h0), (1, .int p0), (2, .int p1), (3, .int p2)]) rfl ?_
  refine zg_aload_n (q := 1) C0 0 dX7_entry_0 rfl rfl ?_
  refine zg_iload_n (q := 2) C0 1 dX7_entry_1 rfl rfl ?_
  obtain ⟨hz1, hw⟩ := hw
  refine zg_callVi (q := 5) C0 [.int p0] [] dX7_entry_2 (fun sz => a_X7_noNode l D cy Z S sz h0 p0 _ hw) rfl gX7_entry_X7_noNode hdV_X7_noNode hz1 (zF_7 cy hz1) rfl rfl ⟨Nat.le_of_ble_eq_true rfl, Nat.le_of_ble_eq_true rfl⟩ (Nat.le_of_ble_eq_true rfl) ⟨Nat.zero_le _, Nat.zero_le _⟩ ⟨rfl, rfl⟩ rfl (fun v3 S2 hw => ?_)
  refine zg_if_ne (q := 8) (tgt := 19) C0 dX7_entry_5 rfl rfl (fun c29 => ?_) (fun c29 => ?_)
  · have hw := hw.1 c29
    refine zg_sub [0, 1, 2, 3] rfl ?_
    exact aJ_X7_entry_19 C0  hw
  · have hw := hw.2 c29
    refine zg_aload_n (q := 9) C0 0 dX7_entry_8 rfl rfl ?_
    refine zg_get (q := 12) (T := TX7) (k := 18) C0 dX7_entry_9 hz1 (zF_7 cy hz1) rfl (by decide) hX_X7_entry_7 (zwm (i := 1) rfl) rfl rfl rfl ?_
    obtain ⟨b24, hb25, hw⟩ := hw
    refine zg_nn hb25 ?_
    refine zg_iload_n (q := 13) C0 1 dX7_entry_12 rfl rfl ?_
    obtain ⟨hz26, hw⟩ := hw
    obtain ⟨hi27, hw⟩ := hw
    refine zg_iald (q := 14) C0 dX7_entry_13 hz26 hi27 rfl ?_
    refine zg_bipush (q := 16) C0 dX7_entry_14 zc_bipush_100 rfl ?_
    refine zg_icmp_ge (q := 19) (tgt := 23) C0 dX7_entry_16 rfl rfl (fun c28 => ?_) (fun c28 => ?_)
    · have hw := hw.1 c28
      refine zg_aload_n (q := 24) C0 0 dX7_entry_23 rfl rfl ?_
      refine zg_get (q := 27) (T := TX7) (k := 18) C0 dX7_entry_24 hz1 (zF_7 cy hz1) rfl (by decide) hX_X7_entry_7 (zwm (i := 1) rfl) rfl rfl rfl ?_
      refine zg_nn hb25 ?_
      refine zg_iload_n (q := 28) C0 1 dX7_entry_27 rfl rfl ?_
      refine zg_iald (q := 29) C0 dX7_entry_28 hz26 hi27 rfl ?_
      refine zg_bipush (q := 31) C0 dX7_entry_29 zc_bipush_100 rfl ?_
      refine zg_isub (q := 32) C0 dX7_entry_31 rfl ?_
      refine zg_sub [0, 1, 2, 3] rfl ?_
      exact aJ_X7_entry_32 C0  hw
    · have hw := hw.2 c28
      refine zg_sub [0, 1, 2, 3] rfl ?_
      exact aJ_X7_entry_19 C0  hw
-- X7_primary
abbrev rm_X7_primary : Room := { frames := 1, cells := 0, slots := 0, locals := 21 }
theorem hX_X7_primary_7 : ∀ w ∈ u_ws RX7 TX7 36, w ∈ wsX7_primary := by decide +kernel
theorem hdV_X7_primary : yX7_primary.cls = RX7 ∧ yX7_primary.cls ≠ "java/lang/invoke/MethodHandle" ∧ yX7_primary.cls ≠ "java/lang/invoke/VarHandle" ∧ (parseMethodDescriptor yX7_primary.desc).map (fun d => d.parameters.length) = some 1 := by decide +kernel
def wJ_X7_primary_14 (Z : zZ) (Qp : Int32 → zS → Prop)  (x0 : Nat) (x1 : Int32) (t0 : Int32) (t1 : Nat) (S : zS) : Prop :=
  zk Z t1 7 ∧ ∀ S5 : zS, S5 = zsI S t1 0 t0 → zk Z x0 7 ∧ ((¬ (zI S5 x0 0) = 0 → Qp 0 S5) ∧ ((zI S5 x0 0) = 0 → ∃ b7, zQ Z x0 5 = some b7 ∧ zk Z b7 8 ∧ vp_in x1 (zN Z b7) ∧ (((zI S5 b7 x1.toNatClampNeg) = (-1) → Qp 0 S5) ∧ (¬ (zI S5 b7 x1.toNatClampNeg) = (-1) → ∃ b11, zQ Z x0 10 = some b11 ∧ zk Z b11 8 ∧ vp_in x1 (zN Z b11) ∧ ∃ b15, zQ Z x0 24 = some b15 ∧ zk Z b15 8 ∧ vp_in (zI S5 b7 x1.toNatClampNeg) (zN Z b15) ∧ ((¬ (zI S5 b11 x1.toNatClampNeg) = (zI S5 b15 (zI S5 b7 x1.toNatClampNeg).toNatClampNeg) → Qp 0 S5) ∧ ((zI S5 b11 x1.toNatClampNeg) = (zI S5 b15 (zI S5 b7 x1.toNatClampNeg).toNatClampNeg) → Qp 1 S5))))))
set_option maxHeartbeats 4000000 in
set_option maxRecDepth 100000 in
theorem aJ_X7_primary_14 {p : Program} {l : Launch} {e : Env} {s : State} {m : MethodId} {args : Array Value} {below : List Frame} {meth : Method} {c : Code} {D : va_G} {cy : Nat → ClassId} {A : Nat → Prop} {Z : zZ} (C0 : zC p s m args meth c cX7_primary 2 wsX7_primary RX7 D cy A (some .boolean)) {Qp : Int32 → zS → Prop} {x0 : Nat} {x1 : Int32} {t0 : Int32} {t1 : Nat}    {S : zS} (hw : wJ_X7_primary_14 Z Qp  x0 x1 t0 t1 S) : zG p l e rm_X7_primary s m args below meth c D cy A 2 0 0 (zQi below D cy A Z Qp args s 0 0) Z S 14 [(0, .ref x0), (1, .int x1)] [.int t0, .ref t1] := by
  unfold wJ_X7_primary_14 at hw
  obtain ⟨hz4, hw⟩ := hw
  refine zg_putI (q := 17) (T := TX7) (k := 0) (ty0 := tyX7) C0 dX7_primary_14 hz4 (zF_7 cy hz4) rfl (by decide) hX_X7_primary_7 tyX7_ok nmX7 (zwm (i := 1) rfl) rfl rfl rfl rfl (Nat.le_of_ble_eq_true rfl) (zF_7 cy hz4) (zP_7_0 Z S _ _) rfl (fun S5 eS5 => ?_)
  have hw := hw S5 eS5
  refine zg_aload_n (q := 18) C0 0 dX7_primary_17 rfl rfl ?_
  obtain ⟨hz6, hw⟩ := hw
  refine zg_get (q := 21) (T := TX7) (k := 0) C0 dX7_primary_18 hz6 (zF_7 cy hz6) rfl (by decide) hX_X7_primary_7 (zwm (i := 1) rfl) rfl rfl rfl ?_
  refine zg_if_ne (q := 24) (tgt := 58) C0 dX7_primary_21 rfl rfl (fun c21 => ?_) (fun c21 => ?_)
  · have hw := hw.1 c21
    refine zg_iconst (q := 59) C0 dX7_primary_58 zc_iconst_0 rfl ?_
    exact zg_iret C0 dX7_primary_59 rfl (by decide) (Nat.le_refl 0) (Nat.le_refl 0) hw
  · have hw := hw.2 c21
    refine zg_aload_n (q := 25) C0 0 dX7_primary_24 rfl rfl ?_
    refine zg_get (q := 28) (T := TX7) (k := 5) C0 dX7_primary_25 hz6 (zF_7 cy hz6) rfl (by decide) hX_X7_primary_7 (zwm (i := 2) rfl) rfl rfl rfl ?_
    obtain ⟨b7, hb8, hw⟩ := hw
    refine zg_nn hb8 ?_
    refine zg_iload_n (q := 29) C0 1 dX7_primary_28 rfl rfl ?_
    obtain ⟨hz9, hw⟩ := hw
    obtain ⟨hi10, hw⟩ := hw
    refine zg_iald (q := 30) C0 dX7_primary_29 hz9 hi10 rfl ?_
    refine zg_iconst (q := 31) C0 dX7_primary_30 zc_iconst_m1 rfl ?_
    refine zg_icmp_eq (q := 34) (tgt := 58) C0 dX7_primary_31 rfl rfl (fun c20 => ?_) (fun c20 => ?_)
    · have hw := hw.1 c20
      refine zg_iconst (q := 59) C0 dX7_primary_58 zc_iconst_0 rfl ?_
      exact zg_iret C0 dX7_primary_59 rfl (by decide) (Nat.le_refl 0) (Nat.le_refl 0) hw
    · have hw := hw.2 c20
      refine zg_aload_n (q := 35) C0 0 dX7_primary_34 rfl rfl ?_
      refine zg_get (q := 38) (T := TX7) (k := 10) C0 dX7_primary_35 hz6 (zF_7 cy hz6) rfl (by decide) hX_X7_primary_7 (zwm (i := 3) rfl) rfl rfl rfl ?_
      obtain ⟨b11, hb12, hw⟩ := hw
      refine zg_nn hb12 ?_
      refine zg_iload_n (q := 39) C0 1 dX7_primary_38 rfl rfl ?_
      obtain ⟨hz13, hw⟩ := hw
      obtain ⟨hi14, hw⟩ := hw
      refine zg_iald (q := 40) C0 dX7_primary_39 hz13 hi14 rfl ?_
      refine zg_aload_n (q := 41) C0 0 dX7_primary_40 rfl rfl ?_
      refine zg_get (q := 44) (T := TX7) (k := 24) C0 dX7_primary_41 hz6 (zF_7 cy hz6) rfl (by decide) hX_X7_primary_7 (zwm (i := 4) rfl) rfl rfl rfl ?_
      obtain ⟨b15, hb16, hw⟩ := hw
      refine zg_nn hb16 ?_
      refine zg_aload_n (q := 45) C0 0 dX7_primary_44 rfl rfl ?_
      refine zg_get (q := 48) (T := TX7) (k := 5) C0 dX7_primary_45 hz6 (zF_7 cy hz6) rfl (by decide) hX_X7_primary_7 (zwm (i := 2) rfl) rfl rfl rfl ?_
      refine zg_nn hb8 ?_
      refine zg_iload_n (q := 49) C0 1 dX7_primary_48 rfl rfl ?_
      refine zg_iald (q := 50) C0 dX7_primary_49 hz9 hi10 rfl ?_
      obtain ⟨hz17, hw⟩ := hw
      obtain ⟨hi18, hw⟩ := hw
      refine zg_iald (q := 51) C0 dX7_primary_50 hz17 hi18 rfl ?_
      refine zg_icmp_ne (q := 54) (tgt := 58) C0 dX7_primary_51 rfl rfl (fun c19 => ?_) (fun c19 => ?_)
      · have hw := hw.1 c19
        refine zg_iconst (q := 59) C0 dX7_primary_58 zc_iconst_0 rfl ?_
        exact zg_iret C0 dX7_primary_59 rfl (by decide) (Nat.le_refl 0) (Nat.le_refl 0) hw
      · have hw := hw.2 c19
        refine zg_iconst (q := 55) C0 dX7_primary_54 zc_iconst_1 rfl ?_
        refine zg_goto (tgt := 59) C0 dX7_primary_55 rfl ?_
        exact zg_iret C0 dX7_primary_59 rfl (by decide) (Nat.le_refl 0) (Nat.le_refl 0) hw
def w_X7_primary (Z : zZ) (h0 : Nat) (p0 : Int32) (S : zS) (Qp : Int32 → zS → Prop) : Prop :=
  zk Z h0 7 ∧ w_X7_noNode Z h0 p0 S (fun (v3 : Int32) (S2 : zS) => ((v3 = 0 → wJ_X7_primary_14 Z Qp  h0 p0 0 h0 S2) ∧ (¬ v3 = 0 → wJ_X7_primary_14 Z Qp  h0 p0 1 h0 S2)))
set_option maxHeartbeats 4000000 in
set_option maxRecDepth 100000 in
theorem a_X7_primary (l : Launch) (D : va_G) (cy : Nat → ClassId) (Z : zZ) (S : zS) (sz : Nat) (h0 : Nat) (p0 : Int32) (Qp : Int32 → zS → Prop) (hw : w_X7_primary Z h0 p0 S Qp) : zMi l yX7_primary wsX7_primary rm_X7_primary D cy Z S sz [.ref h0, .int p0] Qp := by
  unfold w_X7_primary at hw
  refine zMi_of (cc := cX7_primary) (maxL := 2) (rt := (some .boolean)) (by decide +kernel) rfl (Nat.le_of_ble_eq_true rfl) ?_
  intro p e s m args below meth c A C0 _
  refine zg_lv (lv' := [(0, .ref h0), (1, .int p0)]) rfl ?_
  refine zg_aload_n (q := 1) C0 0 dX7_primary_0 rfl rfl ?_
  refine zg_aload_n (q := 2) C0 0 dX7_primary_1 rfl rfl ?_
  refine zg_iload_n (q := 3) C0 1 dX7_primary_2 rfl rfl ?_
  obtain ⟨hz1, hw⟩ := hw
  refine zg_callVi (q := 6) C0 [.int p0] [.ref h0] dX7_primary_3 (fun sz => a_X7_noNode l D cy Z S sz h0 p0 _ hw) rfl gX7_primary_X7_noNode hdV_X7_noNode hz1 (zF_7 cy hz1) rfl rfl ⟨Nat.le_of_ble_eq_true rfl, Nat.le_of_ble_eq_true rfl⟩ (Nat.le_of_ble_eq_true rfl) ⟨Nat.zero_le _, Nat.zero_le _⟩ ⟨rfl, rfl⟩ rfl (fun v3 S2 hw => ?_)
  refine zg_if_eq (q := 9) (tgt := 13) C0 dX7_primary_6 rfl rfl (fun c22 => ?_) (fun c22 => ?_)
  · have hw := hw.1 c22
    refine zg_iconst (q := 14) C0 dX7_primary_13 zc_iconst_0 rfl ?_
    refine zg_sub [0, 1] rfl ?_
    exact aJ_X7_primary_14 C0  hw
  · have hw := hw.2 c22
    refine zg_iconst (q := 10) C0 dX7_primary_9 zc_iconst_1 rfl ?_
    refine zg_goto (tgt := 14) C0 dX7_primary_10 rfl ?_
    refine zg_sub [0, 1] rfl ?_
    exact aJ_X7_primary_14 C0  hw
